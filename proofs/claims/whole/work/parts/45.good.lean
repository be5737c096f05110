/-! what holds of counters stays -/
theorem srt_iff (C : List aK) : C.Pairwise (fun a b => a.2.1 ≤ b.2.1) ↔ ∀ p q, p < q → q < C.length → (gC C p).2.1 ≤ (gC C q).2.1 := by
  rw [List.pairwise_iff_getElem]
  constructor
  · intro h p q h1 h2
    rw [gC_lt (show p < C.length by omega), gC_lt h2]
    exact h p q _ _ h1
  · intro h p q h1 h2 h3
    have := h p q h3 h2
    rw [gC_lt (show p < C.length by omega), gC_lt h2] at this
    exact this
theorem inA_perm (C : List aK) (k : Nat) (x : aK) : (inA C k x).Perm (x :: C) := by
  unfold inA
  refine List.perm_middle.trans ?_
  rw [List.take_append_drop]
theorem erA_perm {C : List aK} {a : Nat} (h : a < C.length) : (gC C a :: erA C a).Perm C := by
  unfold erA
  have : C = C.take a ++ gC C a :: C.drop (a + 1) := by
    rw [gC_lt h, List.getElem_cons_drop, List.take_append_drop]
  refine List.perm_middle.symm.trans ?_
  rw [← this]
theorem erA_sub (C : List aK) (a : Nat) : (erA C a).Sublist C := by
  unfold erA
  have h := List.take_append_drop a C
  conv => rhs; rw [← h]
  refine List.Sublist.append (List.Sublist.refl _) ?_
  rw [← List.drop_drop]
  exact List.drop_sublist _ _
theorem lwS_cons (c : aK) (C : List aK) : lwS (c :: C) = c.2.2 + lwS C := by simp [lwS]
theorem lwS_perm {C D : List aK} (h : C.Perm D) : lwS C = lwS D := by
  unfold lwS
  exact (h.map _).sum_nat
theorem Gc_mono {T T' : Nat} {C : List aK} (h : Gc T C) (hT : T ≤ T') : Gc T' C := ⟨fun c hc => by have := h.1 c hc; omega, h.2.1, h.2.2.1, by have := h.2.2.2; omega⟩
theorem Gc_er {T a : Nat} {C : List aK} (h : Gc T C) (ha : a < C.length) : Gc T (erA C a) ∧ lwS (erA C a) + (gC C a).2.2 = lwS C ∧ ∀ c, c ∈ erA C a → c.1 ≠ (gC C a).1 := by
  have hp := erA_perm ha
  have e := lwS_perm hp
  rw [lwS_cons] at e
  refine ⟨⟨fun c hc => h.1 c (er_mem hc), ?_, ?_, by have := h.2.2.2; omega⟩, by omega, ?_⟩
  · exact List.Nodup.sublist ((erA_sub C a).map _) h.2.1
  · exact List.Pairwise.sublist (erA_sub C a) h.2.2.1
  · have := (hp.map (fun c : aK => c.1)).nodup_iff.mpr h.2.1
    rw [List.map_cons, List.nodup_cons] at this
    intro c hc e2
    exact this.1 (e2 ▸ List.mem_map_of_mem hc)
theorem bhA_gt (C : List aK) (c : Nat) : ∀ a p, bhA C c a ≤ p → p < a → c < (gC C p).2.1
  | 0, p, _, h => by omega
  | a + 1, p, h1, h2 => by
    unfold bhA at h1
    by_cases e : (gC C a).2.1 ≤ c
    · rw [if_pos e] at h1
      omega
    · rw [if_neg e] at h1
      by_cases e2 : p = a
      · subst e2; omega
      · exact bhA_gt C c a p h1 (by omega)
theorem bhA_le2 (C : List aK) (c : Nat) : ∀ a, 0 < bhA C c a → (gC C (bhA C c a - 1)).2.1 ≤ c
  | 0, h => absurd h (by simp [bhA])
  | a + 1, h => by
    unfold bhA at h ⊢
    by_cases e : (gC C a).2.1 ≤ c
    · rw [if_pos e]
      exact e
    · rw [if_neg e] at h ⊢
      exact bhA_le2 C c a h
theorem Gc_pu {T t c l : Nat} {C : List aK} (h : Gc T C) (ht : t < 1000) (hn : ∀ x, x ∈ C → x.1 ≠ t) (h1 : 1 ≤ c) (h2 : c ≤ T) (h3 : l ≤ c) (h4 : lwS C + l ≤ T) : Gc T (puA C (t, c, l)) := by
  have hp := inA_perm C (bhA C c C.length) (t, c, l)
  have hk := bhA_le C c C.length
  unfold puA
  dsimp only
  refine ⟨?_, ?_, ?_, ?_⟩
  · intro x hx
    rcases List.mem_cons.mp (hp.mem_iff.mp hx) with rfl | w
    · exact ⟨ht, h1, h2, h3⟩
    · exact h.1 x w
  · refine (hp.map (fun c : aK => c.1)).nodup_iff.mpr ?_
    rw [List.map_cons, List.nodup_cons]
    refine ⟨?_, h.2.1⟩
    intro w
    obtain ⟨x, hx, e⟩ := List.mem_map.mp w
    exact hn x hx e
  · rw [srt_iff]
    intro p q hpq hq
    rw [inA_len hk] at hq
    rw [gC_in hk, gC_in hk]
    have hs := fun {p q : Nat} => Gc_srt h (p := p) (q := q)
    have hl : ∀ p, p < bhA C c C.length → (gC C p).2.1 ≤ c := by
      intro p hp
      exact Nat.le_trans (hs (show p ≤ bhA C c C.length - 1 by omega) (by omega)) (bhA_le2 C c C.length (by omega))
    have hg := fun p => bhA_gt C c C.length p
    by_cases p1 : p < bhA C c C.length
    · rw [if_pos p1]
      by_cases q1 : q < bhA C c C.length
      · rw [if_pos q1]; exact hs (by omega) (by omega)
      · rw [if_neg q1]
        by_cases q2 : q = bhA C c C.length
        · rw [if_pos q2]; exact hl p p1
        · rw [if_neg q2]; exact hs (by omega) (by omega)
    · rw [if_neg p1, if_neg (show ¬ q < bhA C c C.length by omega), if_neg (show ¬ q = bhA C c C.length by omega)]
      by_cases p2 : p = bhA C c C.length
      · rw [if_pos p2]; exact Nat.le_of_lt (hg (q - 1) (by omega) (by omega))
      · rw [if_neg p2]; exact hs (by omega) (by omega)
  · rw [lwS_perm hp, lwS_cons]
    dsimp only
    omega
theorem sm_uN {f : Nat → Nat} {t v : Nat} : ∀ {n : Nat}, t < n → sm (uN f t v) n + f t = sm f n + v
  | n + 1, h => by
    unfold sm
    by_cases e : t = n
    · subst e
      have : ∀ m, m ≤ t → sm (uN f t v) m = sm f m := by
        intro m
        induction m with
        | zero => intro _; rfl
        | succ m ih =>
          intro hm
          unfold sm
          rw [ih (by omega), uN_at, if_neg (by omega)]
      rw [this t (Nat.le_refl _), uN_at, if_pos rfl]
      omega
    · have := sm_uN (f := f) (v := v) (show t < n by omega)
      rw [uN_at, if_neg (by omega)]
      omega
theorem sm_half (f : Nat → Nat) : ∀ n, 2 * sm (fun t => f t / 2) n ≤ sm f n
  | 0 => Nat.le_refl 0
  | n + 1 => by
    have := sm_half f n
    unfold sm
    omega
theorem lwS_half : ∀ C : List aK, 2 * lwS (hfA C) ≤ lwS C
  | [] => by simp [lwS, hfA]
  | c :: C => by
    have := lwS_half C
    by_cases e : 2 ≤ c.2.1
    · rw [hfA_pos e, lwS_cons, lwS_cons]
      dsimp only
      omega
    · rw [hfA_neg e, lwS_cons]
      omega
theorem Gc_ha {T : Nat} {C : List aK} (h : Gc T C) : Gc (T / 2) (hfA C) := by
  refine ⟨?_, ?_, ?_, ?_⟩
  · intro x hx
    unfold hfA at hx
    obtain ⟨c, hc, rfl⟩ := List.mem_map.mp hx
    have h1 := h.1 c (List.mem_filter.mp hc).1
    have h2 : 2 ≤ c.2.1 := by simpa using (List.mem_filter.mp hc).2
    dsimp only
    omega
  · unfold hfA
    rw [List.map_map]
    exact List.Nodup.sublist ((List.filter_sublist).map _) h.2.1
  · unfold hfA
    rw [List.pairwise_map]
    refine List.Pairwise.imp ?_ (List.Pairwise.sublist List.filter_sublist h.2.2.1)
    intro a b hab
    dsimp only
    omega
  · have := lwS_half C
    have := h.2.2.2
    omega
theorem Gd_ha {X Y : Nat} {A : aS} (h : Gd X Y A) : Gd X Y (haA A) := by
  obtain ⟨⟨a1, a2, a3⟩, ⟨b1, b2, b3⟩, ⟨c1, c2⟩, d, e⟩ := h
  refine ⟨⟨a1, a2, ?_⟩, ⟨?_, ?_, b3⟩, ⟨c1, c2⟩, Gc_ha d, ?_⟩
  · show (hfA A.2.1).length ≤ A.1 1
    unfold hfA
    rw [List.length_map]
    exact Nat.le_trans (List.length_filter_le _ _) a3
  · show A.1 2 / 2 ≤ X
    omega
  · show A.1 3 / 2 ≤ A.1 2 / 2
    omega
  · have := sm_half A.2.2.1 1000
    show sm (fun t => A.2.2.1 t / 2) 1000 ≤ A.1 2 / 2
    omega
theorem fiA_no {C : List aK} {t : Nat} (h : ¬ fiA C t < C.length) : ∀ c, c ∈ C → c.1 ≠ t := by
  intro c hc e
  obtain ⟨p, hp, rfl⟩ := gC_ex hc
  exact fiA_ne (show p < fiA C t by omega) e
theorem Gd_rk {X Y t x : Nat} {A : aS} (h : Gd X Y A) (ht : t < 1000) (hx : 1 ≤ x) : Gd (X + x) (Y + 1) (rkA (a0A A t x) t x).2 := by
  obtain ⟨⟨a1, a2, a3⟩, ⟨b1, b2, b3⟩, ⟨c1, c2⟩, d, e⟩ := h
  have dm : Gc (A.1 2 + x) A.2.1 := Gc_mono d (by omega)
  have eu : sm (uN A.2.2.1 t (A.2.2.1 t + x)) 1000 ≤ A.1 2 + x := by
    have := sm_uN (f := A.2.2.1) (v := A.2.2.1 t + x) ht
    omega
  have u2 : ∀ (v : Nat) j, uN A.1 2 v j = if j = 2 then v else A.1 j := fun _ _ => rfl
  unfold rkA
  by_cases hf : fiA (a0A A t x).2.1 t < (a0A A t x).2.1.length
  · rw [if_pos hf]
    have hf2 : fiA A.2.1 t < A.2.1.length := hf
    obtain ⟨g1, g2, g3⟩ := Gc_er d hf2
    have ga := Gc_at d hf2
    have ht2 := fiA_at hf2
    refine ⟨⟨a1, a2, ?_⟩, ⟨?_, ?_, b3⟩, ⟨Nat.le_succ_of_le c1, c2⟩, ?_, eu⟩
    · show (puA (erA A.2.1 (fiA A.2.1 t)) _).length ≤ A.1 1
      rw [puA_len, erA_len hf2]
      omega
    · show A.1 2 + x ≤ X + x
      omega
    · show A.1 3 ≤ A.1 2 + x
      omega
    · refine Gc_pu (Gc_mono g1 (by show A.1 2 ≤ A.1 2 + x; omega)) ht (fun y hy => ?_) (by dsimp only [a0A]; omega) (by show _ + x ≤ A.1 2 + x; dsimp only [a0A]; omega) (by dsimp only [a0A]; omega) ?_
      · rw [← ht2]; exact g3 y hy
      · show lwS (erA A.2.1 (fiA A.2.1 t)) + ((gC A.2.1 (fiA A.2.1 t)).2.2 + x) ≤ A.1 2 + x
        have := d.2.2.2
        omega
  · rw [if_neg hf]
    have hno := fiA_no (show ¬ fiA A.2.1 t < A.2.1.length from hf)
    by_cases hr : (a0A A t x).2.1.length < (a0A A t x).1 1
    · rw [if_pos hr]
      have hr2 : A.2.1.length < A.1 1 := hr
      refine ⟨⟨a1, a2, ?_⟩, ⟨?_, ?_, b3⟩, ⟨Nat.le_succ_of_le c1, c2⟩, ?_, eu⟩
      · show (puA A.2.1 _).length ≤ A.1 1
        rw [puA_len]
        omega
      · show A.1 2 + x ≤ X + x
        omega
      · show A.1 3 ≤ A.1 2 + x
        omega
      · refine Gc_pu dm ht hno (by omega) (by show A.1 3 + x ≤ A.1 2 + x; omega) (by omega) ?_
        have := d.2.2.2
        show lwS A.2.1 + x ≤ A.1 2 + x
        omega
    · rw [if_neg hr]
      have hr2 : ¬ A.2.1.length < A.1 1 := hr
      have h0 : 0 < A.2.1.length := by omega
      obtain ⟨g1, g2, g3⟩ := Gc_er d h0
      have ga := Gc_at d h0
      refine ⟨⟨a1, a2, ?_⟩, ⟨?_, ?_, b3⟩, ⟨?_, ?_⟩, ?_, eu⟩
      · show (puA (erA A.2.1 0) _).length ≤ A.1 1
        rw [puA_len, erA_len h0]
        omega
      · show A.1 2 + x ≤ X + x
        omega
      · show max (A.1 3) (gC A.2.1 0).2.1 ≤ A.1 2 + x
        omega
      · show A.1 7 + 1 ≤ Y + 1
        omega
      · show ((_ :: A.2.2.2).take 20).length = min (A.1 7 + 1) 20
        rw [List.length_take, List.length_cons, c2]
        omega
      · refine Gc_pu (Gc_mono g1 (by show A.1 2 ≤ A.1 2 + x; omega)) ht (fun y hy => hno y (er_mem hy)) (by omega) ?_ (by omega) ?_
        · show max (A.1 3) (gC A.2.1 0).2.1 + x ≤ A.1 2 + x
          omega
        · have := d.2.2.2
          show lwS (erA A.2.1 0) + x ≤ A.1 2 + x
          omega
theorem Gd_hh {X Y : Nat} {R : Nat × aS} (h : Gd X Y R.2) : Gd X Y (hhA R).2 := by
  unfold hhA
  split
  · exact h
  · split
    · exact h
    · exact Gd_ha h
theorem Gd_co {X Y t x : Nat} {A : aS} (h : Gd X Y A) (ht : t < 1000) (hx : 1 ≤ x) : Gd (X + x) (Y + 1) (coA A t x).2 := Gd_hh (Gd_rk h ht hx)
theorem Gd_mono {X Y X' Y' : Nat} {A : aS} (h : Gd X Y A) (hX : X ≤ X') (hY : Y ≤ Y') : Gd X' Y' A := ⟨h.1, ⟨Nat.le_trans h.2.1.1 hX, h.2.1.2⟩, ⟨Nat.le_trans h.2.2.1.1 hY, h.2.2.1.2⟩, h.2.2.2⟩
/-- the total itself bounds -/
theorem Gd_tot {X Y X' : Nat} {A : aS} (h : Gd X Y A) (hX : A.1 2 ≤ X') : Gd X' Y A := ⟨h.1, ⟨hX, h.2.1.2⟩, h.2.2⟩
theorem Gd_a0 {X Y t x : Nat} {A : aS} (h : Gd X Y A) (ht : t < 1000) : Gd (X + x) Y (a0A A t x) := by
  obtain ⟨⟨a1, a2, a3⟩, ⟨b1, b2, b3⟩, ⟨c1, c2⟩, d, e⟩ := h
  refine ⟨⟨a1, a2, a3⟩, ⟨?_, ?_, b3⟩, ⟨c1, c2⟩, Gc_mono d (by show A.1 2 ≤ A.1 2 + x; omega), ?_⟩
  · show A.1 2 + x ≤ X + x
    omega
  · show A.1 3 ≤ A.1 2 + x
    omega
  · have := sm_uN (f := A.2.2.1) (v := A.2.2.1 t + x) ht
    show sm (uN A.2.2.1 t (A.2.2.1 t + x)) 1000 ≤ A.1 2 + x
    omega
theorem nI_z {a : Nat} (h : a < 2 ^ 31) : nI a = 0 ↔ a = 0 := nI_eq (b := 0) h (by omega)
theorem RS_co {A : aS} {S : hT2} {t x X Y : Nat} (h : RS A S) (hG : Gd X Y A) (hX : X + x + x < 2 ^ 30) (ht : t < 1000) (hx : 1 ≤ x) : RS (coA A t x).2 (arF S A.2.1.length (A.1 7) t (nI x)).2.1 ∧ (arF S A.2.1.length (A.1 7) t (nI x)).1 = nI (coA A t x).1 := by
  obtain ⟨k1, k2, k3⟩ : RS (rkA (a0A A t x) t x).2 (rkF (ar0 S t (nI x)) A.2.1.length (A.1 7) (nI t) (nI x)).2.1 ∧ (rkF (ar0 S t (nI x)) A.2.1.length (A.1 7) (nI t) (nI x)).1 = nI (rkA (a0A A t x) t x).1 ∧ (rkF (ar0 S t (nI x)) A.2.1.length (A.1 7) (nI t) (nI x)).2.2 = (rkA (a0A A t x) t x).2.2.1.length := RS_rk (RS_ar0 (x := x) h ht) (Gd_a0 hG ht) (by omega) ht
  have g := Gd_rk hG ht hx
  have e4 := k1.2.1.1 4 (by omega) (by omega) (by omega)
  have e2 := k1.2.1.1 2 (by omega) (by omega) (by omega)
  have g2 := g.2.1
  unfold arF coA hhA
  dsimp only
  generalize rkF (ar0 S t (nI x)) A.2.1.length (A.1 7) (nI t) (nI x) = R at *
  generalize rkA (a0A A t x) t x = Q at *
  by_cases c1 : Q.2.1 4 = 0
  · have d1 : R.2.1 0 4 = 0 := by rw [e4]; exact (nI_z (by omega)).mpr c1
    rw [if_pos d1, if_pos c1]
    exact ⟨k1, k2⟩
  · have d1 : ¬ R.2.1 0 4 = 0 := by rw [e4]; exact fun w => c1 ((nI_z (by omega)).mp w)
    rw [if_neg d1, if_neg c1]
    by_cases c2 : Q.2.1 2 < Q.2.1 4
    · have d2 : R.2.1 0 2 < R.2.1 0 4 := by rw [e4, e2]; exact (nI_ltI (by omega) (by omega)).mpr c2
      rw [if_pos d2, if_pos c2]
      exact ⟨k1, k2⟩
    · have d2 : ¬ R.2.1 0 2 < R.2.1 0 4 := by rw [e4, e2]; exact fun w => c2 ((nI_ltI (by omega) (by omega)).mp w)
      rw [if_neg d2, if_neg c2, k3]
      exact ⟨(RS_ha k1 g (by omega)).1, k2⟩
