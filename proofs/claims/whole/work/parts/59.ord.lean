/-! FALL: lists in order; counting and telling -/
/-- ahead by FALL -/
def fab (x y : aK) : Bool := decide (y.2.1 < x.2.1) || (decide (x.2.1 = y.2.1) && decide (x.1 < y.1))
theorem fab_iff (x y : aK) : fab x y = true ↔ y.2.1 < x.2.1 ∨ (x.2.1 = y.2.1 ∧ x.1 < y.1) := by simp [fab]
theorem fab_asym {x y : aK} (h : fab x y = true) (k : fab y x = true) : False := by
  rw [fab_iff] at h k
  omega
theorem fab_trans {x y z : aK} (h : fab x y = true) (k : fab y z = true) : fab x z = true := by
  rw [fab_iff] at h k ⊢
  omega
theorem fab_tot {x y : aK} (h : ¬ fab x y = true) (hn : x.1 ≠ y.1) : fab y x = true := by
  rw [fab_iff] at h ⊢
  omega
theorem fab_irr (x : aK) : fab x x = false := by
  cases h : fab x x
  · rfl
  · exact absurd h (fun z => fab_asym z z)
def ioA (D : List aK) (x : aK) : Nat → Nat
  | 0 => 0
  | a + 1 => if fab x (gC D a) = true then ioA D x a else a + 1
theorem ioA_le (D : List aK) (x : aK) : ∀ a, ioA D x a ≤ a
  | 0 => Nat.le_refl 0
  | a + 1 => by
    have := ioA_le D x a
    unfold ioA
    split <;> omega
theorem ioA_gt (D : List aK) (x : aK) : ∀ a p, ioA D x a ≤ p → p < a → fab x (gC D p) = true
  | 0, p, _, h => by omega
  | a + 1, p, h1, h2 => by
    unfold ioA at h1
    by_cases e : fab x (gC D a) = true
    · rw [if_pos e] at h1
      by_cases e2 : p = a
      · rw [e2]; exact e
      · exact ioA_gt D x a p h1 (by omega)
    · rw [if_neg e] at h1
      omega
theorem ioA_le2 (D : List aK) (x : aK) : ∀ a, 0 < ioA D x a → ¬ fab x (gC D (ioA D x a - 1)) = true
  | 0, h => absurd h (by simp [ioA])
  | a + 1, h => by
    unfold ioA at h ⊢
    by_cases e : fab x (gC D a) = true
    · rw [if_pos e] at h ⊢
      exact ioA_le2 D x a h
    · rw [if_neg e]
      exact e
def raA (D : List aK) (x : aK) : List aK := inA D (ioA D x D.length) x
def Fs (D : List aK) : Prop := D.Pairwise (fun a b => fab a b = true)
theorem Fs_iff (D : List aK) : Fs D ↔ ∀ p q, p < q → q < D.length → fab (gC D p) (gC D q) = true := by
  unfold Fs
  rw [List.pairwise_iff_getElem]
  constructor
  · intro h p q h1 h2
    rw [gC_lt (show p < D.length by omega), gC_lt h2]
    exact h p q _ _ h1
  · intro h p q h1 h2 h3
    have := h p q h3 h2
    rw [gC_lt (show p < D.length by omega), gC_lt h2] at this
    exact this
theorem raA_perm (D : List aK) (x : aK) : (raA D x).Perm (x :: D) := inA_perm _ _ _
theorem raA_len (D : List aK) (x : aK) : (raA D x).length = D.length + 1 := inA_len (ioA_le _ _ _)
theorem raA_srt {D : List aK} {x : aK} (h : Fs D) (hn : ∀ y, y ∈ D → y.1 ≠ x.1) : Fs (raA D x) := by
  have hk := ioA_le D x D.length
  have hs := (Fs_iff D).mp h
  have hg := ioA_gt D x D.length
  have hl : ∀ p, p < ioA D x D.length → fab (gC D p) x = true := by
    intro p hp
    have h1 : fab (gC D (ioA D x D.length - 1)) x = true := fab_tot (ioA_le2 D x D.length (by omega)) (fun e => hn _ (gC_mem (show ioA D x D.length - 1 < D.length by omega)) e.symm)
    by_cases e : p = ioA D x D.length - 1
    · rw [e]; exact h1
    · exact fab_trans (hs p (ioA D x D.length - 1) (by omega) (by omega)) h1
  rw [Fs_iff]
  intro p q hpq hq
  unfold raA at hq ⊢
  rw [inA_len hk] at hq
  rw [gC_in hk, gC_in hk]
  by_cases p1 : p < ioA D x D.length
  · rw [if_pos p1]
    by_cases q1 : q < ioA D x D.length
    · rw [if_pos q1]; exact hs p q hpq (by omega)
    · rw [if_neg q1]
      by_cases q2 : q = ioA D x D.length
      · rw [if_pos q2]; exact hl p p1
      · rw [if_neg q2]; exact hs p (q - 1) (by omega) (by omega)
  · rw [if_neg p1, if_neg (show ¬ q < ioA D x D.length by omega), if_neg (show ¬ q = ioA D x D.length by omega)]
    by_cases p2 : p = ioA D x D.length
    · rw [if_pos p2]; exact hg (q - 1) (by omega) (by omega)
    · rw [if_neg p2]; exact hs (p - 1) (q - 1) (by omega) (by omega)
/-- all by FALL -/
def flA : List aK → List aK
  | [] => []
  | c :: C => raA (flA C) c
theorem flA_perm : ∀ C : List aK, (flA C).Perm C
  | [] => List.Perm.refl _
  | c :: C => (raA_perm _ _).trans ((flA_perm C).cons c)
theorem flA_len (C : List aK) : (flA C).length = C.length := (flA_perm C).length_eq
def Nd (C : List aK) : Prop := (C.map fun c => c.1).Nodup
theorem flA_srt : ∀ C : List aK, Nd C → Fs (flA C)
  | [], _ => List.Pairwise.nil
  | c :: C, h => by
    have h2 : (c.1 :: C.map fun c => c.1).Nodup := h
    rw [List.nodup_cons] at h2
    refine raA_srt (flA_srt C h2.2) (fun y hy e => h2.1 ?_)
    exact List.mem_map.mpr ⟨y, (flA_perm C).mem_iff.mp hy, e⟩
theorem Fs_uniq {C D : List aK} (h : Fs C) (k : Fs D) (p : C.Perm D) : C = D := List.Perm.eq_of_pairwise (le := fun a b => fab a b = true) (fun _ _ _ _ a b => absurd b (fun z => fab_asym a z)) h k p
theorem Nd_sub {C D : List aK} (h : Nd C) (s : D.Sublist C) : Nd D := List.Nodup.sublist (s.map _) h
theorem flA_filter {C : List aK} (h : Nd C) (P : aK → Bool) : (flA C).filter P = flA (C.filter P) := by
  refine Fs_uniq ?_ (flA_srt _ (Nd_sub h List.filter_sublist)) (((flA_perm C).filter P).trans (flA_perm _).symm)
  exact List.Pairwise.sublist List.filter_sublist (flA_srt C h)
theorem Nd_inj {C : List aK} (h : Nd C) {p q : Nat} (hp : p < C.length) (hq : q < C.length) (e : (gC C p).1 = (gC C q).1) : p = q := by
  rw [gC_lt hp, gC_lt hq] at e
  have h3 := List.pairwise_iff_getElem.mp h
  by_cases h4 : p < q
  · exact absurd ((List.getElem_map _).trans (e.trans (List.getElem_map _).symm)) (h3 p q (by simpa using hp) (by simpa using hq) h4)
  · by_cases h5 : q < p
    · exact absurd ((List.getElem_map _).trans (e.symm.trans (List.getElem_map _).symm)) (h3 q p (by simpa using hq) (by simpa using hp) h5)
    · omega
/-- as many are ahead of the k-th -/
theorem Fs_cnt {F : List aK} (h : Fs F) {k : Nat} (hk : k < F.length) : F.countP (fun y => fab y (gC F k)) = k := by
  have hs := (Fs_iff F).mp h
  have e : F = F.take k ++ (gC F k :: F.drop (k + 1)) := by rw [← drop_cons hk, List.take_append_drop]
  generalize hx : gC F k = x at e
  have a1 : (F.take k).countP (fun y => fab y x) = k := by
    have : (F.take k).countP (fun y => fab y x) = (F.take k).length := by
      rw [List.countP_eq_length]
      intro y hy
      obtain ⟨p, hp, rfl⟩ := gC_ex hy
      rw [List.length_take] at hp
      have : gC (F.take k) p = gC F p := by
        unfold gC
        simp only [List.getD_eq_getElem?_getD, List.getElem?_take]
        rw [if_pos (by omega)]
      rw [this, ← hx]
      exact hs p k (by omega) hk
    rw [this, List.length_take]
    omega
  have a2 : (F.drop (k + 1)).countP (fun y => fab y x) = 0 := by
    rw [List.countP_eq_zero]
    intro y hy
    obtain ⟨p, hp, rfl⟩ := gC_ex hy
    rw [List.length_drop] at hp
    rw [gC_drop, ← hx]
    intro z
    exact fab_asym z (hs k (k + 1 + p) (by omega) (by omega))
  rw [e, List.countP_append, List.countP_cons, a1, a2, fab_irr]
  simp
/-- where the k-th by FALL stands -/
def pfA (C : List aK) (k : Nat) : Nat := fiA C (gC (flA C) k).1
theorem fiA_of {C : List aK} (h : Nd C) {j : Nat} (hj : j < C.length) : fiA C (gC C j).1 = j := by
  have h1 : fiA C (gC C j).1 < C.length := by
    have := fiA_le C (gC C j).1
    by_cases e : fiA C (gC C j).1 < C.length
    · exact e
    · exact absurd rfl (fiA_ne (show j < fiA C (gC C j).1 by omega))
  exact Nd_inj h h1 hj (fiA_at h1)
theorem pfA_at {C : List aK} (h : Nd C) {k : Nat} (hk : k < C.length) : pfA C k < C.length ∧ gC C (pfA C k) = gC (flA C) k := by
  have h1 : gC (flA C) k ∈ C := (flA_perm C).mem_iff.mp (gC_mem (by rw [flA_len]; exact hk))
  obtain ⟨j, hj, e⟩ := gC_ex h1
  unfold pfA
  rw [← e, fiA_of h hj]
  exact ⟨hj, rfl⟩
theorem cnt_ahead {C : List aK} (h : Nd C) {p k : Nat} (hp : p < C.length) (hk : k < C.length) : C.countP (fun y => fab y (gC C p)) = k ↔ p = pfA C k := by
  have hF := flA_srt C h
  have h1 : gC C p ∈ flA C := (flA_perm C).mem_iff.mpr (gC_mem hp)
  obtain ⟨i, hi, e⟩ := gC_ex h1
  have e2 : C.countP (fun y => fab y (gC C p)) = i := by
    rw [← (flA_perm C).countP_eq, ← e]
    exact Fs_cnt hF hi
  rw [e2]
  rw [flA_len] at hi
  obtain ⟨a1, a2⟩ := pfA_at h hk
  constructor
  · intro z
    subst z
    rw [← a2] at e
    exact Nd_inj h hp a1 (by rw [e])
  · intro z
    rw [z, a2] at e
    by_cases c1 : i < k
    · have := (Fs_iff _).mp hF i k c1 (by rw [flA_len]; exact hk)
      rw [e] at this
      exact absurd this (fun z => fab_asym z z)
    · by_cases c2 : k < i
      · have := (Fs_iff _).mp hF k i c2 (by rw [flA_len]; exact hi)
        rw [e] at this
        exact absurd this (fun z => fab_asym z z)
      · omega
/-- counting and adding over a list -/
theorem fo_cp {C : List aK} {P : aK → Bool} {f : Nat → Int32 → Int32} (hf : ∀ q, q < C.length → ∀ x : Nat, f q (nI x) = nI (if P (gC C q) = true then x + 1 else x)) : ∀ d p x, p + d = C.length → fo f d p (nI x) = nI (x + (C.drop p).countP P)
  | 0, p, x, h => by rw [fo, List.drop_eq_nil_of_le (by omega), List.countP_nil, Nat.add_zero]
  | d + 1, p, x, h => by
    rw [fo, hf p (by omega), fo_cp hf d (p + 1) _ (by omega), drop_cons (show p < C.length by omega), List.countP_cons]
    congr 1
    split <;> omega
theorem fo_ad {C : List aK} {g : aK → Nat} {f : Nat → Int32 → Int32} (hf : ∀ q, q < C.length → ∀ x : Nat, f q (nI x) = nI (x + g (gC C q))) : ∀ d p x, p + d = C.length → fo f d p (nI x) = nI (x + ((C.drop p).map g).sum)
  | 0, p, x, h => by rw [fo, List.drop_eq_nil_of_le (by omega), List.map_nil, List.sum_nil, Nat.add_zero]
  | d + 1, p, x, h => by
    rw [fo, hf p (by omega), fo_ad hf d (p + 1) _ (by omega), drop_cons (show p < C.length by omega), List.map_cons, List.sum_cons]
    congr 1
    omega
theorem fo_aL {C : List aK} {g : aK → Nat} {f : Nat → Int64 → Int64} (hf : ∀ q, q < C.length → ∀ x : Nat, f q (lN x) = lN (x + g (gC C q))) : ∀ d p x, p + d = C.length → fo f d p (lN x) = lN (x + ((C.drop p).map g).sum)
  | 0, p, x, h => by rw [fo, List.drop_eq_nil_of_le (by omega), List.map_nil, List.sum_nil, Nat.add_zero]
  | d + 1, p, x, h => by
    rw [fo, hf p (by omega), fo_aL hf d (p + 1) _ (by omega), drop_cons (show p < C.length by omega), List.map_cons, List.sum_cons]
    congr 1
    omega
theorem fa_cnt {C : List aK} {V : hT2} {c t l : Nat} (hR : Rc C V) (hb : ∀ x, x ∈ C → x.1 < 1000 ∧ x.2.1 < 2 ^ 31) (hc : c < 2 ^ 31) (ht : t < 2 ^ 31) : faF V C.length (nI c) (nI t) = nI (C.countP (fun y => fab y (t, c, l))) := by
  unfold faF
  have := fo_cp (C := C) (P := fun y => fab y (t, c, l)) (f := fun p a => if nI c < V 2 p then a + 1 else if V 2 p = nI c then (if nI t ≤ V 1 p then a else a + 1) else a) ?_ C.length 0 0 (by omega)
  · rw [List.drop_zero, Nat.zero_add] at this
    exact this
  · intro q hq x
    have b := hb _ (gC_mem hq)
    have r := hR q hq
    rw [r.1, r.2.1]
    by_cases c1 : c < (gC C q).2.1
    · rw [if_pos ((nI_ltI hc b.2).mpr c1), if_pos ((fab_iff _ _).mpr (Or.inl c1)), nI_1]
    · rw [if_neg (fun z => c1 ((nI_ltI hc b.2).mp z))]
      by_cases c2 : (gC C q).2.1 = c
      · rw [if_pos ((nI_eq b.2 hc).mpr c2)]
        by_cases c3 : t ≤ (gC C q).1
        · rw [if_pos ((nI_leI ht (by omega)).mpr c3), if_neg]
          rw [fab_iff]
          dsimp only
          omega
        · rw [if_neg (fun z => c3 ((nI_leI ht (by omega)).mp z)), if_pos, nI_1]
          rw [fab_iff]
          dsimp only
          omega
      · rw [if_neg (fun z => c2 ((nI_eq b.2 hc).mp z)), if_neg]
        rw [fab_iff]
        dsimp only
        omega
theorem af_A {C : List aK} {V : hT2} {k : Nat} (hR : Rc C V) (hN : Nd C) (hb : ∀ x, x ∈ C → x.1 < 1000 ∧ x.2.1 < 2 ^ 31) (hn : C.length ≤ 24) (hk : k < C.length) : afF V C.length (nI k) C.length 0 = nI (pfA C k) := by
  obtain ⟨a1, a2⟩ := pfA_at hN hk
  have hc : ∀ p, p < C.length → faF V C.length (V 2 p) (V 1 p) = nI (C.countP (fun y => fab y (gC C p))) := by
    intro p hp
    have r := hR p hp
    have b := hb _ (gC_mem hp)
    rw [r.1, r.2.1, fa_cnt (l := (gC C p).2.2) hR hb b.2 (by omega)]
  have hle : ∀ p, C.countP (fun y => fab y (gC C p)) ≤ 24 := fun p => Nat.le_trans List.countP_le_length hn
  have key : ∀ d p, p + d = C.length → p ≤ pfA C k → afF V C.length (nI k) d p = nI (pfA C k) := by
    intro d
    induction d with
    | zero =>
      intro p h1 h2
      omega
    | succ d ih =>
      intro p h1 h2
      have := hle p
      rw [afF, hc p (by omega)]
      by_cases e : p = pfA C k
      · rw [if_pos ((nI_eq (by omega) (by omega)).mpr ((cnt_ahead hN (by omega) hk).mpr e)), e]
      · rw [if_neg (fun z => e ((cnt_ahead hN (by omega) hk).mp ((nI_eq (by omega) (by omega)).mp z)))]
        exact ih (p + 1) (by omega) (by omega)
  exact key C.length 0 (by omega) (by omega)
/-- a list told -/
def tlA (D : List Nat) (i : Int32) : Int32 := if i = -1 then nI D.length else if i < 0 then -1 else if i < nI D.length then nI (D.getD i.toNatClampNeg 0) else -1
def scA (i : Int32) : List Nat → Nat → Int32
  | [], n => if i = -1 then nI n else -1
  | t :: D, n => if nI n = i then nI t else scA i D (n + 1)
theorem i32_m1 : (-1 : Int32) < 0 := by decide
theorem scA_m1 : ∀ (D : List Nat) (n : Nat), n + D.length < 2 ^ 31 → scA (-1) D n = nI (n + D.length)
  | [], n, _ => if_pos rfl
  | t :: D, n, h => by
    rw [List.length_cons] at h ⊢
    rw [scA, if_neg (nI_m1 (by omega)), scA_m1 D (n + 1) (by omega), Nat.add_right_comm, Nat.add_assoc]
theorem scA_neg {i : Int32} (hi : i ≠ -1) : ∀ (D : List Nat) (n : Nat), (∀ k, k < D.length → nI (n + k) ≠ i) → scA i D n = -1
  | [], n, _ => if_neg hi
  | t :: D, n, h => by
    have h0 := h 0 (by simp)
    rw [Nat.add_zero] at h0
    rw [scA, if_neg h0]
    refine scA_neg hi D (n + 1) (fun k hk => ?_)
    have := h (k + 1) (by simpa using hk)
    rwa [show n + (k + 1) = n + 1 + k by omega] at this
theorem scA_pos : ∀ (D : List Nat) (n k : Nat), k < D.length → n + D.length < 2 ^ 31 → scA (nI (n + k)) D n = nI (D.getD k 0)
  | [], n, k, h, _ => absurd h (by simp)
  | t :: D, n, 0, h, _ => by
    rw [Nat.add_zero, scA, if_pos rfl]
    rfl
  | t :: D, n, k + 1, h, h2 => by
    rw [List.length_cons] at h h2
    rw [scA, if_neg (fun z => by have := (nI_eq (by omega) (by omega)).mp z; omega), show n + (k + 1) = n + 1 + k by omega, scA_pos D (n + 1) k (by omega) (by omega)]
    rfl
theorem sc_tl {D : List Nat} (i : Int32) (h : D.length < 2 ^ 30) : scA i D 0 = tlA D i := by
  unfold tlA
  by_cases c : i = -1
  · rw [if_pos c, c, scA_m1 D 0 (by omega), Nat.zero_add]
  · rw [if_neg c]
    by_cases c2 : i < 0
    · rw [if_pos c2]
      refine scA_neg c D 0 (fun k hk e => ?_)
      rw [← e] at c2
      exact nI_pos (by omega) c2
    · rw [if_neg c2]
      obtain ⟨j, hj, rfl⟩ := nI_of c2
      by_cases c3 : j < D.length
      · rw [if_pos (nI_lt c3 (by omega)), nI_clamp hj]
        have := scA_pos D 0 j c3 (by omega)
        rwa [Nat.zero_add] at this
      · rw [if_neg (nI_nlt (by omega) hj)]
        refine scA_neg c D 0 (fun k hk e => ?_)
        have := (nI_eq (by omega) hj).mp e
        omega
def thL (D : List aK) : List Nat := D.map (fun c => c.1)
theorem thL_len (D : List aK) : (thL D).length = D.length := List.length_map _
theorem thL_get (D : List aK) (k : Nat) : (thL D).getD k 0 = (gC D k).1 := by
  unfold thL gC
  simp only [List.getD_eq_getElem?_getD, List.getElem?_map]
  cases D[k]? <;> rfl
theorem tl_S {D : List aK} {S : hT2} (hR : ∀ p, p < D.length → S 1 p = nI (gC D p).1) (hn : D.length < 2 ^ 30) (i : Int32) : (if i = -1 then nI D.length else if i < 0 then -1 else if i < nI D.length then S 1 i.toNatClampNeg else -1) = tlA (thL D) i := by
  unfold tlA
  rw [thL_len]
  by_cases c : i = -1
  · rw [if_pos c, if_pos c]
  · rw [if_neg c, if_neg c]
    by_cases c2 : i < 0
    · rw [if_pos c2, if_pos c2]
    · rw [if_neg c2, if_neg c2]
      obtain ⟨j, hj, rfl⟩ := nI_of c2
      by_cases c3 : j < D.length
      · rw [if_pos (nI_lt c3 (by omega)), if_pos (nI_lt c3 (by omega)), nI_clamp hj, hR j c3, thL_get]
      · rw [if_neg (nI_nlt (by omega) hj), if_neg (nI_nlt (by omega) hj)]
