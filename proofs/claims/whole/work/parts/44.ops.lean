/-! the moves on lists; a summary of the class keeps to them -/
def goA (A : aS) (t : Nat) : aS := (uN (uN A.1 7 (A.1 7 + 1)) 3 (max (A.1 3) (gC A.2.1 0).2.1), erA A.2.1 0, A.2.2.1, (((gC A.2.1 0).1, (gC A.2.1 0).2.1, t) :: A.2.2.2).take 20)
def rkA (A : aS) (t x : Nat) : Nat × aS :=
  if fiA A.2.1 t < A.2.1.length then (0, A.1, puA (erA A.2.1 (fiA A.2.1 t)) (t, (gC A.2.1 (fiA A.2.1 t)).2.1 + x, (gC A.2.1 (fiA A.2.1 t)).2.2 + x), A.2.2)
  else if A.2.1.length < A.1 1 then (1, A.1, puA A.2.1 (t, A.1 3 + x, x), A.2.2)
  else (2, (goA A t).1, puA (goA A t).2.1 (t, (goA A t).1 3 + x, x), (goA A t).2.2)
def hfA (C : List aK) : List aK := (C.filter (fun c : aK => decide (2 ≤ c.2.1))).map (fun c : aK => (c.1, c.2.1 / 2, c.2.2 / 2))
theorem hfA_nil : hfA [] = [] := rfl
theorem hfA_pos {c : aK} {C : List aK} (h : 2 ≤ c.2.1) : hfA (c :: C) = (c.1, c.2.1 / 2, c.2.2 / 2) :: hfA C := by
  unfold hfA
  rw [List.filter_cons_of_pos (by simpa using h), List.map_cons]
theorem hfA_neg {c : aK} {C : List aK} (h : ¬ 2 ≤ c.2.1) : hfA (c :: C) = hfA C := by
  unfold hfA
  rw [List.filter_cons_of_neg (by simpa using h)]
def haA (A : aS) : aS := (fun j => if j = 2 then A.1 2 / 2 else if j = 3 then A.1 3 / 2 else if j = 6 then A.1 6 + 1 else A.1 j, hfA A.2.1, fun t => A.2.2.1 t / 2, A.2.2.2)
def a0A (A : aS) (t x : Nat) : aS := (uN A.1 2 (A.1 2 + x), A.2.1, uN A.2.2.1 t (A.2.2.1 t + x), A.2.2.2)
def hhA (R : Nat × aS) : Nat × aS := if R.2.1 4 = 0 then R else if R.2.1 2 < R.2.1 4 then R else (R.1, haA R.2)
def coA (A : aS) (t x : Nat) : Nat × aS := hhA (rkA (a0A A t x) t x)
/-- a summary of the class, of the reference -/
def RS (A : aS) (S : hT2) : Prop := S 0 0 = 1 ∧ Rp A S ∧ RgS A S
def RM (A : aS) (w : Nat → Int32) (B : Nat) : Prop := w B = 1 ∧ Rp A (mV w B) ∧ RgM A w B
theorem s2_at (S : hT2) (i j : Nat) (v : Int32) (r q : Nat) : s2 S i j v r q = if r = i ∧ q = j then v else S r q := by
  unfold s2
  grind
theorem s1_row (S : hT2) (j : Nat) (f : Nat → Int32) (r : Nat) : s1 S j f r = if r = j then f else S r := rfl
theorem takeF_at {S : hT2} {n a : Nat} (h : a < n) (r q : Nat) : takeF S n a r q = if r = 0 ∧ q = 5 then nI (n - 1) else if (1 ≤ r ∧ r ≤ 3) ∧ a ≤ q ∧ q + 1 < n then S r (q + 1) else S r q := by
  unfold takeF
  rw [s2_at, toF_at _ _ _ (by omega), nI_s1 (by omega)]
  grind
theorem putF_at {S : hT2} {n : Nat} (h : n < 24) (t c l : Int32) (r q : Nat) : putF S n t c l r q = if r = 0 ∧ q = 5 then nI (n + 1) else if 1 ≤ r ∧ r ≤ 3 then (if q = bhF S c n then (if r = 1 then t else if r = 2 then c else l) else if bhF S c n < q ∧ q ≤ n then S r (q - 1) else S r q) else S r q := by
  unfold putF
  have := bhF_le S c n
  rw [if_pos h, s2_at, setF_at, shF_at, nI_1]
  grind
theorem Rc_take {C : List aK} {S : hT2} {n a : Nat} (hR : Rc C S) (hn : n = C.length) (ha : a < n) : Rc (erA C a) (takeF S n a) := by
  subst hn
  intro p hp
  rw [erA_len ha] at hp
  rw [takeF_at ha, takeF_at ha, takeF_at ha, gC_er ha]
  by_cases h : p < a
  · rw [if_pos h]
    have := hR p (by omega)
    simp only [if_neg (show ¬ (1 = 0 ∧ p = 5) by omega), if_neg (show ¬ (2 = 0 ∧ p = 5) by omega), if_neg (show ¬ (3 = 0 ∧ p = 5) by omega)]
    rw [if_neg (by omega), if_neg (by omega), if_neg (by omega)]
    exact this
  · rw [if_neg h]
    have := hR (p + 1) (by omega)
    simp only [if_neg (show ¬ (1 = 0 ∧ p = 5) by omega), if_neg (show ¬ (2 = 0 ∧ p = 5) by omega), if_neg (show ¬ (3 = 0 ∧ p = 5) by omega)]
    rw [if_pos (by omega), if_pos (by omega), if_pos (by omega)]
    exact this
theorem Rc_put {C : List aK} {S : hT2} {n : Nat} {t c l : Nat} (hR : Rc C S) (hn : n = C.length) (h24 : n < 24) (hC : ∀ x, x ∈ C → x.2.1 < 2 ^ 31) (hc : c < 2 ^ 31) : Rc (puA C (t, c, l)) (putF S n (nI t) (nI c) (nI l)) := by
  subst hn
  intro p hp
  rw [puA_len] at hp
  have hb := bh_A hR hC hc C.length (Nat.le_refl _)
  have hle := bhA_le C c C.length
  rw [putF_at h24, putF_at h24, putF_at h24, hb]
  unfold puA
  rw [gC_in hle]
  simp only [if_neg (show ¬ (1 = 0 ∧ p = 5) by omega), if_neg (show ¬ (2 = 0 ∧ p = 5) by omega), if_neg (show ¬ (3 = 0 ∧ p = 5) by omega), if_pos (show 1 ≤ 1 ∧ 1 ≤ 3 by omega), if_pos (show 1 ≤ 2 ∧ 2 ≤ 3 by omega), if_pos (show 1 ≤ 3 ∧ 3 ≤ 3 by omega)]
  by_cases h : p < bhA C c C.length
  · have := hR p (by omega)
    rw [if_pos h, if_neg (by omega), if_neg (by omega), if_neg (by omega), if_neg (by omega), if_neg (by omega), if_neg (by omega)]
    exact this
  · rw [if_neg h]
    by_cases h2 : p = bhA C c C.length
    · rw [if_pos h2, if_pos h2, if_pos h2, if_pos h2]
      exact ⟨rfl, rfl, rfl⟩
    · have := hR (p - 1) (by omega)
      rw [if_neg h2, if_neg h2, if_neg h2, if_neg h2, if_pos (by omega), if_pos (by omega), if_pos (by omega)]
      exact this
theorem Rc_cong {C : List aK} {S T : hT2} (hR : Rc C S) (h : ∀ r p, 1 ≤ r → r ≤ 3 → p < C.length → T r p = S r p) : Rc C T := fun p hp => by
  rw [h 1 p (by omega) (by omega) hp, h 2 p (by omega) (by omega) hp, h 3 p (by omega) (by omega) hp]
  exact hR p hp
theorem mx_A {a b : Nat} (ha : a < 2 ^ 31) (hb : b < 2 ^ 31) : mxI (nI a) (nI b) = nI (max a b) := by
  unfold mxI
  by_cases h : a < b
  · rw [if_pos ((nI_ltI ha hb).mpr h), Nat.max_eq_right (by omega)]
  · rw [if_neg (fun w => h ((nI_ltI ha hb).mp w)), Nat.max_eq_left (by omega)]
theorem gr_A {a b : Nat} (ha : a < 2 ^ 31) (hb : b < 2 ^ 31) : grI (nI a) (nI b) = nI (max a b) := by
  unfold grI
  by_cases h : a ≤ b
  · rw [if_pos ((nI_leI ha hb).mpr h), Nat.max_eq_right h]
  · rw [if_neg (fun w => h ((nI_leI ha hb).mp w)), Nat.max_eq_left (by omega)]
theorem uN_at (f : Nat → Nat) (k v j : Nat) : uN f k v j = if j = k then v else f j := rfl
theorem sm_le {f : Nat → Nat} {t : Nat} : ∀ {n : Nat}, t < n → f t ≤ sm f n
  | n + 1, h => by
    unfold sm
    by_cases e : t = n
    · subst e; omega
    · have := sm_le (f := f) (show t < n by omega)
      omega
/-- a weight is taken in -/
theorem RS_ar0 {A : aS} {S : hT2} {t x : Nat} (h : RS A S) (ht : t < 1000) : RS (a0A A t x) (ar0 S t (nI x)) := by
  obtain ⟨h0, ⟨h1, h2, h3, h4⟩, h5⟩ := h
  unfold a0A ar0
  refine ⟨?_, ⟨?_, ?_, ?_, ?_⟩, ?_⟩
  · rw [s1_row, if_neg (by omega), s2_at, if_neg (by omega)]; exact h0
  · intro j j1 j2 j3
    rw [s1_row, if_neg (by omega), s2_at]
    dsimp only
    rw [uN_at]
    by_cases e : j = 2
    · subst e
      rw [if_pos ⟨rfl, rfl⟩, if_pos rfl, h1 2 (by omega) (by omega) (by omega), nI_add]
    · rw [if_neg (by omega), if_neg e]
      exact h1 j j1 j2 j3
  · rw [s1_row, if_neg (by omega), s2_at, if_neg (by omega)]; exact h2
  · refine Rc_cong h3 ?_
    intro r p r1 r2 _
    rw [s1_row, if_neg (by omega), s2_at, if_neg (by omega)]
  · intro u hu
    rw [s1_row, if_pos rfl]
    dsimp only
    rw [uN_at]
    unfold upd
    by_cases e : u = t
    · rw [if_pos e, if_pos e, h4 t ht, nI_add]
    · rw [if_neg e, if_neg e]
      exact h4 u hu
  · intro k hk
    dsimp only at hk ⊢
    simp only [s1_row, s2_at]
    exact h5 k hk
/-- those gone: the ring -/
theorem RgS_push {A : aS} {S T : hT2} {c : aK} (h : RgS A S) (hl : A.2.2.2.length = min (A.1 7) 20) (h5 : ∀ q, q < 20 → T 5 q = if q = A.1 7 % 20 then nI c.1 else S 5 q) (h6 : ∀ q, q < 20 → T 6 q = if q = A.1 7 % 20 then nI c.2.1 else S 6 q) (h7 : ∀ q, q < 20 → T 7 q = if q = A.1 7 % 20 then nI c.2.2 else S 7 q) {N : Nat → Nat} {C : List aK} {U : Nat → Nat} (hN : N 7 = A.1 7 + 1) : RgS (N, C, U, (c :: A.2.2.2).take 20) T := by
  intro k hk
  dsimp only at hk ⊢
  have hk2 : k < 20 ∧ k < A.2.2.2.length + 1 := by
    rw [List.length_take] at hk
    simp only [List.length_cons] at hk
    omega
  rw [hN, h5 _ (Nat.mod_lt _ (by omega)), h6 _ (Nat.mod_lt _ (by omega)), h7 _ (Nat.mod_lt _ (by omega))]
  have e : gC ((c :: A.2.2.2).take 20) k = if k = 0 then c else gC A.2.2.2 (k - 1) := by
    unfold gC
    simp only [List.getD_eq_getElem?_getD, List.getElem?_take, if_pos hk2.1]
    cases k with
    | zero => rfl
    | succ k => simp
  rw [e]
  cases k with
  | zero =>
    rw [if_pos (show (A.1 7 + 1 - 1 - 0) % 20 = A.1 7 % 20 by omega), if_pos (show (A.1 7 + 1 - 1 - 0) % 20 = A.1 7 % 20 by omega), if_pos (show (A.1 7 + 1 - 1 - 0) % 20 = A.1 7 % 20 by omega), if_pos rfl]
    exact ⟨rfl, rfl, rfl⟩
  | succ k =>
    have := h k (by omega)
    rw [if_neg (by omega), if_neg (by omega), if_neg (by omega), if_neg (by omega), show A.1 7 + 1 - 1 - (k + 1) = A.1 7 - 1 - k by omega]
    exact this
theorem Gd_b {X Y : Nat} {A : aS} (h : Gd X Y A) (hX : X < 2 ^ 30) : ∀ c, c ∈ A.2.1 → c.1 < 1000 ∧ c.2.1 < 2 ^ 30 ∧ c.2.2 < 2 ^ 30 := fun c hc => by
  have := h.2.2.2.1.1 c hc
  have := h.2.1.1
  omega
/-- the first goes -/
theorem RS_go {A : aS} {S : hT2} {t X Y : Nat} (h : RS A S) (hG : Gd X Y A) (hX : X < 2 ^ 30) (hn : 1 ≤ A.2.1.length) : RS (goA A t) (takeF (goF S (A.1 7) (nI t)) A.2.1.length 0) := by
  obtain ⟨h0, ⟨h1, h2, h3, h4⟩, h5⟩ := h
  have c0 := h3 0 (by omega)
  have b0 := Gd_b hG hX _ (gC_mem (show 0 < A.2.1.length by omega))
  have e3 : mxI (S 0 3) (S 2 0) = nI (max (A.1 3) (gC A.2.1 0).2.1) := by
    rw [h1 3 (by omega) (by omega) (by omega), c0.2.1, mx_A (by have := hG.2.1; omega) (by omega)]
  have hg : ∀ r q, goF S (A.1 7) (nI t) r q = if r = 0 ∧ q = 3 then nI (max (A.1 3) (gC A.2.1 0).2.1) else if r = 0 ∧ q = 7 then nI (A.1 7 + 1) else if r = 5 then upd (S 5) (A.1 7 % 20) (S 1 0) q else if r = 6 then upd (S 6) (A.1 7 % 20) (S 2 0) q else if r = 7 then upd (S 7) (A.1 7 % 20) (nI t) q else S r q := by
    intro r q
    unfold goF go0
    rw [s2_at, s2_at, e3, h1 7 (by omega) (by omega) (by omega), nI_1]
    simp only [s1_row]
    grind
  unfold goA
  refine ⟨?_, ⟨?_, ?_, ?_, ?_⟩, ?_⟩
  · rw [takeF_at hn, if_neg (by omega), if_neg (by omega), hg, if_neg (by omega), if_neg (by omega), if_neg (by omega), if_neg (by omega), if_neg (by omega)]
    exact h0
  · intro j j1 j2 j3
    dsimp only
    rw [takeF_at hn, if_neg (by omega), if_neg (by omega), hg, uN_at, uN_at]
    by_cases e : j = 3
    · rw [if_pos (by omega), if_pos e]
    · rw [if_neg (by omega), if_neg e]
      by_cases e2 : j = 7
      · rw [if_pos (by omega), if_pos e2]
      · rw [if_neg (by omega), if_neg e2, if_neg (by omega), if_neg (by omega), if_neg (by omega)]
        exact h1 j j1 j2 j3
  · dsimp only
    rw [takeF_at hn, if_pos (by omega), erA_len (by omega)]
  · dsimp only
    refine Rc_take ?_ rfl (by omega)
    refine Rc_cong h3 ?_
    intro r p r1 r2 _
    rw [hg, if_neg (by omega), if_neg (by omega), if_neg (by omega), if_neg (by omega), if_neg (by omega)]
  · intro u hu
    dsimp only
    rw [takeF_at hn, if_neg (by omega), if_neg (by omega), hg, if_neg (by omega), if_neg (by omega), if_neg (by omega), if_neg (by omega), if_neg (by omega)]
    exact h4 u hu
  · refine RgS_push (A := A) (S := S) h5 hG.2.2.1.2 ?_ ?_ ?_ ?_
    · intro q hq
      rw [takeF_at hn, if_neg (by omega), if_neg (by omega), hg, if_neg (by omega), if_neg (by omega), if_pos rfl]
      unfold upd
      rw [c0.1]
    · intro q hq
      rw [takeF_at hn, if_neg (by omega), if_neg (by omega), hg, if_neg (by omega), if_neg (by omega), if_neg (by omega), if_pos rfl]
      unfold upd
      rw [c0.2.1]
    · intro q hq
      rw [takeF_at hn, if_neg (by omega), if_neg (by omega), hg, if_neg (by omega), if_neg (by omega), if_neg (by omega), if_neg (by omega), if_pos rfl]
      rfl
    · simp [uN_at]
/-- a counter is put in, taken out -/
theorem RS_put {A : aS} {S : hT2} {t c l : Nat} (h : RS A S) (h24 : A.2.1.length < 24) (hC : ∀ x, x ∈ A.2.1 → x.2.1 < 2 ^ 31) (hc : c < 2 ^ 31) : RS (A.1, puA A.2.1 (t, c, l), A.2.2) (putF S A.2.1.length (nI t) (nI c) (nI l)) := by
  obtain ⟨h0, ⟨h1, h2, h3, h4⟩, h5⟩ := h
  refine ⟨?_, ⟨?_, ?_, Rc_put h3 rfl h24 hC hc, ?_⟩, ?_⟩
  · rw [putF_at h24, if_neg (by omega), if_neg (by omega)]; exact h0
  · intro j j1 j2 j3
    rw [putF_at h24, if_neg (by omega), if_neg (by omega)]; exact h1 j j1 j2 j3
  · rw [putF_at h24, if_pos (by omega)]
    dsimp only
    rw [puA_len]
  · intro u hu
    rw [putF_at h24, if_neg (by omega), if_neg (by omega)]; exact h4 u hu
  · intro k hk
    rw [putF_at h24, if_neg (by omega), if_neg (by omega), putF_at h24, if_neg (by omega), if_neg (by omega), putF_at h24, if_neg (by omega), if_neg (by omega)]
    exact h5 k hk
theorem RS_take {A : aS} {S : hT2} {a : Nat} (h : RS A S) (ha : a < A.2.1.length) : RS (A.1, erA A.2.1 a, A.2.2) (takeF S A.2.1.length a) := by
  obtain ⟨h0, ⟨h1, h2, h3, h4⟩, h5⟩ := h
  refine ⟨?_, ⟨?_, ?_, Rc_take h3 rfl ha, ?_⟩, ?_⟩
  · rw [takeF_at ha, if_neg (by omega), if_neg (by omega)]; exact h0
  · intro j j1 j2 j3
    rw [takeF_at ha, if_neg (by omega), if_neg (by omega)]; exact h1 j j1 j2 j3
  · rw [takeF_at ha, if_pos (by omega)]
    dsimp only
    rw [erA_len ha]
  · intro u hu
    rw [takeF_at ha, if_neg (by omega), if_neg (by omega)]; exact h4 u hu
  · intro k hk
    rw [takeF_at ha, if_neg (by omega), if_neg (by omega), takeF_at ha, if_neg (by omega), if_neg (by omega), takeF_at ha, if_neg (by omega), if_neg (by omega)]
    exact h5 k hk
theorem er_mem {C : List aK} {a : Nat} {c : aK} (h : c ∈ erA C a) : c ∈ C := by
  unfold erA at h
  rcases List.mem_append.mp h with w | w
  · exact List.mem_of_mem_take w
  · exact List.mem_of_mem_drop w
theorem RS_rk {A : aS} {S : hT2} {t x X Y : Nat} (h : RS A S) (hG : Gd X Y A) (hX : X + x < 2 ^ 30) (ht : t < 1000) : RS (rkA A t x).2 (rkF S A.2.1.length (A.1 7) (nI t) (nI x)).2.1 ∧ (rkF S A.2.1.length (A.1 7) (nI t) (nI x)).1 = nI (rkA A t x).1 ∧ (rkF S A.2.1.length (A.1 7) (nI t) (nI x)).2.2 = (rkA A t x).2.2.1.length := by
  have hb := Gd_b hG (by omega)
  have h12 := hG.1
  have h22 := hG.2.1
  unfold rkF rkA
  rcases fn_A (t := t) h.2.1.2.2.1 (fun c hc => (hb c hc).1) (by omega) (by omega) with ⟨a1, a2⟩ | ⟨a1, a2⟩
  · have b1 := hb _ (gC_mem a1)
    have r1 := h.2.1.2.2.1 _ a1
    rw [a2, if_neg (nI_m1 (by omega)), if_pos a1, nI_clamp (by omega), r1.2.1, r1.2.2, nI_add, nI_add]
    have k := RS_take h a1
    have k2 := RS_put (t := t) (c := (gC A.2.1 (fiA A.2.1 t)).2.1 + x) (l := (gC A.2.1 (fiA A.2.1 t)).2.2 + x) k (by dsimp only; rw [erA_len a1]; omega) (fun y hy => by have := hb _ (er_mem hy); omega) (by omega)
    dsimp only at k2 ⊢
    rw [erA_len a1] at k2
    refine ⟨k2, rfl, ?_⟩
    rw [puA_len, erA_len a1]
    omega
  · rw [a2, if_pos rfl, if_neg (by omega)]
    have e5 := h.2.1.2.1
    have e1 := h.2.1.1 1 (by omega) (by omega) (by omega)
    have e3 := h.2.1.1 3 (by omega) (by omega) (by omega)
    by_cases hf : A.2.1.length < A.1 1
    · have hS : S 0 5 < S 0 1 := by rw [e5, e1]; exact (nI_ltI (by omega) (by omega)).mpr hf
      rw [if_pos hS, if_pos hf, e3, nI_add]
      refine ⟨?_, rfl, ?_⟩
      · exact RS_put h (by omega) (fun y hy => by have := hb _ hy; omega) (by omega)
      · dsimp only
        rw [puA_len]
    · have hS : ¬ S 0 5 < S 0 1 := by rw [e5, e1]; exact fun w => hf ((nI_ltI (by omega) (by omega)).mp w)
      rw [if_neg hS, if_neg hf]
      have hn : 1 ≤ A.2.1.length := by omega
      have b0 := hb _ (gC_mem (show 0 < A.2.1.length by omega))
      have k := RS_go (t := t) h hG (by omega) hn
      have r0 := h.2.1.2.2.1 0 (by omega)
      have eg : (goA A t).1 3 = max (A.1 3) (gC A.2.1 0).2.1 := rfl
      have el : (goA A t).2.1.length = A.2.1.length - 1 := erA_len (by omega)
      have k2 := RS_put (t := t) (c := (goA A t).1 3 + x) (l := x) k (by omega) (fun y hy => by have := hb _ (er_mem (C := A.2.1) (a := 0) hy); omega) (by omega)
      rw [el] at k2
      dsimp only
      rw [e3, r0.2.1, mx_A (by omega) (by omega), nI_add]
      refine ⟨k2, rfl, ?_⟩
      rw [puA_len, el]
      omega
/-- halving -/
theorem hcF_at : ∀ (D : List aK) (d p q : Nat) (S : hT2) (C : List aK), d = D.length → q ≤ p → q = C.length → (∀ i, i < D.length → S 1 (p + i) = nI (gC D i).1 ∧ S 2 (p + i) = nI (gC D i).2.1 ∧ S 3 (p + i) = nI (gC D i).2.2) → Rc C S → (∀ c, c ∈ D → c.2.1 < 2 ^ 30 ∧ c.2.2 < 2 ^ 30) →
    (hcF d p q S).1 = (C ++ hfA D).length ∧ Rc (C ++ hfA D) (hcF d p q S).2 ∧ ∀ r, ¬ (1 ≤ r ∧ r ≤ 3) → (hcF d p q S).2 r = S r
  | [], d, p, q, S, C, hd, hq, hC, hD, hR, hb => by
    subst hd
    rw [List.length_nil, hcF]
    rw [hfA_nil, List.append_nil]
    exact ⟨hC, hR, fun _ _ => rfl⟩
  | c :: D, d, p, q, S, C, hd, hq, hC, hD, hR, hb => by
    subst hd
    rw [List.length_cons, hcF]
    have c0 := hD 0 (by simp)
    rw [Nat.add_zero, show gC (c :: D) 0 = c from rfl] at c0
    have b0 := hb c (List.mem_cons_self)
    by_cases h2 : 2 ≤ c.2.1
    · rw [if_neg (by rw [c0.2.1]; exact fun w => by have := (nI_ltI (b := 2) (by omega) (by omega)).mp w; omega)]
      rw [hfA_pos h2]
      have e1 : S 2 p / 2 = nI (c.2.1 / 2) := by rw [c0.2.1]; exact pk_div (d := 2) (by omega) (by omega) (by omega)
      have e2 : S 3 p / 2 = nI (c.2.2 / 2) := by rw [c0.2.2]; exact pk_div (d := 2) (by omega) (by omega) (by omega)
      rw [e1, e2, c0.1]
      have key := hcF_at D D.length (p + 1) (q + 1) (setF S q (nI c.1) (nI (c.2.1 / 2)) (nI (c.2.2 / 2))) (C ++ [(c.1, c.2.1 / 2, c.2.2 / 2)]) rfl (by omega) (by simp [hC]) ?_ ?_ (fun x hx => hb x (List.mem_cons_of_mem _ hx))
      · rw [List.append_assoc, List.singleton_append] at key
        refine ⟨key.1, key.2.1, fun r hr => ?_⟩
        rw [key.2.2 r hr]
        funext y
        rw [setF_at, if_neg (by omega), if_neg (by omega), if_neg (by omega)]
      · intro i hi
        have := hD (i + 1) (by simpa using hi)
        rw [show gC (c :: D) (i + 1) = gC D i by simp [gC]] at this
        rw [setF_at, setF_at, setF_at, show p + 1 + i = p + (i + 1) by omega]
        rw [if_neg (by omega), if_neg (by omega), if_neg (by omega), if_neg (by omega), if_neg (by omega), if_neg (by omega), if_neg (by omega), if_neg (by omega), if_neg (by omega)]
        exact this
      · intro i hi
        rw [setF_at, setF_at, setF_at]
        simp only [List.length_append, List.length_singleton] at hi
        by_cases e : i = q
        · rw [if_pos (by omega), if_neg (by omega), if_pos (by omega), if_neg (by omega), if_neg (by omega), if_pos (by omega)]
          have : gC (C ++ [(c.1, c.2.1 / 2, c.2.2 / 2)]) i = (c.1, c.2.1 / 2, c.2.2 / 2) := by
            unfold gC
            rw [e, hC]
            simp [List.getD_eq_getElem?_getD]
          rw [this]
          exact ⟨rfl, rfl, rfl⟩
        · have : gC (C ++ [(c.1, c.2.1 / 2, c.2.2 / 2)]) i = gC C i := by
            unfold gC
            simp only [List.getD_eq_getElem?_getD]
            rw [List.getElem?_append_left (by omega)]
          rw [this, if_neg (by omega), if_neg (by omega), if_neg (by omega), if_neg (by omega), if_neg (by omega), if_neg (by omega), if_neg (by omega), if_neg (by omega), if_neg (by omega)]
          exact hR i (by omega)
    · rw [if_pos (by rw [c0.2.1]; exact (nI_ltI (b := 2) (by omega) (by omega)).mpr (by omega))]
      rw [hfA_neg h2]
      refine hcF_at D D.length (p + 1) q S C rfl (by omega) hC ?_ hR (fun x hx => hb x (List.mem_cons_of_mem _ hx))
      intro i hi
      have := hD (i + 1) (by simpa using hi)
      rw [show gC (c :: D) (i + 1) = gC D i by simp [gC]] at this
      rw [show p + 1 + i = p + (i + 1) by omega]
      exact this
theorem hvF_at : ∀ d p (f : Nat → Int32) q, hvF d p f q = if p ≤ q ∧ q < p + d then f q / 2 else f q
  | 0, p, f, q => by rw [hvF, if_neg (by omega)]
  | d + 1, p, f, q => by
    rw [hvF, hvF_at d (p + 1)]
    unfold upd
    grind
theorem RS_ha {A : aS} {S : hT2} {X Y : Nat} (h : RS A S) (hG : Gd X Y A) (hX : X < 2 ^ 30) : RS (haA A) (halF S A.2.1.length) ∧ (hcF A.2.1.length 0 0 (hal0 S)).1 = (haA A).2.1.length := by
  obtain ⟨h0, ⟨h1, h2, h3, h4⟩, h5⟩ := h
  have hb := Gd_b hG hX
  have hh : ∀ r, 1 ≤ r → r ≠ 4 → hal0 S r = S r := by
    intro r r1 r2
    unfold hal0
    rw [s1_row, if_neg r2, s2_row (by omega), s2_row (by omega)]
  have key := hcF_at A.2.1 A.2.1.length 0 0 (hal0 S) [] rfl (by omega) rfl (by
    intro i hi
    rw [Nat.zero_add, hh 1 (by omega) (by omega), hh 2 (by omega) (by omega), hh 3 (by omega) (by omega)]
    exact h3 i hi) (by intro i hi; exact absurd hi (by simp)) (fun c hc => (hb c hc).2)
  rw [List.nil_append] at key
  obtain ⟨k1, k2, k3⟩ := key
  have ht := hG.2.1
  have e2 : S 0 2 / 2 = nI (A.1 2 / 2) := by rw [h1 2 (by omega) (by omega) (by omega)]; exact pk_div (d := 2) (by omega) (by omega) (by omega)
  have e3 : S 0 3 / 2 = nI (A.1 3 / 2) := by rw [h1 3 (by omega) (by omega) (by omega)]; exact pk_div (d := 2) (by omega) (by omega) (by omega)
  refine ⟨⟨?_, ⟨?_, ?_, ?_, ?_⟩, ?_⟩, k1⟩
  · unfold halF
    rw [s2_at, if_neg (by omega), s2_at, if_neg (by omega), k3 0 (by omega)]
    unfold hal0
    rw [s1_row, if_neg (by omega), s2_at, if_neg (by omega), s2_at, if_neg (by omega)]
    exact h0
  · intro j j1 j2 j3
    unfold halF haA
    rw [s2_at, if_neg (by omega), s2_at, k3 0 (by omega)]
    dsimp only
    unfold hal0
    rw [s1_row, if_neg (show ¬ (0 = 4) by omega), s2_at, s2_at, e2, e3]
    by_cases a6 : j = 6
    · rw [if_pos (by omega), if_neg (by omega), if_neg (by omega), if_pos a6, h1 6 (by omega) (by omega) (by omega), nI_1]
    · rw [if_neg (by omega)]
      by_cases a3 : j = 3
      · rw [if_pos (by omega), if_neg (by omega), if_pos a3]
      · rw [if_neg (by omega)]
        by_cases a2 : j = 2
        · rw [if_pos (by omega), if_pos a2]
        · rw [if_neg (by omega), if_neg a2, if_neg a3, if_neg a6]
          exact h1 j j1 j2 j3
  · unfold halF haA
    rw [s2_at, if_pos (by omega), k1]
  · unfold halF haA
    dsimp only
    refine Rc_cong k2 ?_
    intro r p r1 r2 _
    rw [s2_at, if_neg (by omega), s2_at, if_neg (by omega)]
  · intro t ht
    unfold halF haA
    rw [s2_at, if_neg (by omega), s2_at, if_neg (by omega), k3 4 (by omega)]
    unfold hal0
    rw [s1_row, if_pos rfl, hvF_at, if_pos (by omega), h4 t ht]
    have := sm_le (f := A.2.2.1) ht
    have := hG.2.2.2.2
    exact pk_div (d := 2) (by omega) (by omega) (by omega)
  · intro k hk
    have e : ∀ r q, 5 ≤ r → halF S A.2.1.length r q = S r q := by
      intro r q hr
      unfold halF
      rw [s2_at, if_neg (by omega), s2_at, if_neg (by omega), k3 r (by omega), hh r (by omega) (by omega)]
    rw [e _ _ (by omega), e _ _ (by omega), e _ _ (by omega)]
    exact h5 k hk
