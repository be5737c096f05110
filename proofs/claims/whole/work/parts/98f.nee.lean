/-! need: the rival -/
/-- the class's walk: the l-th of a falling row, or what the absent ones can have -/
def clW (ab : Nat) : List Nat → Nat → Nat
  | [], _ => ab
  | c :: R, l => if l = 1 then max c ab else clW ab R (l - 1)
def reW (ab k : Nat) : List Nat → Nat → Nat
  | [], _ => ab
  | c :: R, n => if ab ≤ c then (if n + 1 = k then c else reW ab k R (n + 1)) else reW ab k R n
theorem clW_lt {ab : Nat} : ∀ (R : List Nat) (l : Nat), (∀ c, c ∈ R → c < ab) → clW ab R l = ab
  | [], _, _ => rfl
  | c :: R, l, h => by
    rw [clW, clW_lt R (l - 1) (fun d hd => h d (List.mem_cons_of_mem _ hd))]
    have := h c List.mem_cons_self
    split <;> omega
theorem clW_b {ab x : Nat} (ha : ab < x) : ∀ (R : List Nat) (l : Nat), (∀ c, c ∈ R → c < x) → clW ab R l < x
  | [], _, _ => ha
  | c :: R, l, h => by
    have h1 := h c List.mem_cons_self
    have h2 := clW_b ha R (l - 1) (fun d hd => h d (List.mem_cons_of_mem _ hd))
    rw [clW]
    split <;> omega
theorem reW_lt {ab k : Nat} : ∀ (R : List Nat) (n : Nat), (∀ c, c ∈ R → c < ab) → reW ab k R n = ab
  | [], _, _ => rfl
  | c :: R, n, h => by
    have := h c List.mem_cons_self
    rw [reW, if_neg (by omega)]
    exact reW_lt R n (fun d hd => h d (List.mem_cons_of_mem _ hd))
theorem cl_re {ab k : Nat} : ∀ (R : List Nat) (n : Nat), R.Pairwise (fun a b => b ≤ a) → n < k → clW ab R (k - n) = reW ab k R n
  | [], _, _, _ => rfl
  | c :: R, n, h, hn => by
    obtain ⟨h1, h2⟩ := List.pairwise_cons.mp h
    by_cases q : ab ≤ c
    · rw [clW, reW, if_pos q]
      by_cases e : n + 1 = k
      · rw [if_pos e, if_pos (by omega)]
        omega
      · rw [if_neg e, if_neg (by omega), show k - n - 1 = k - (n + 1) by omega]
        exact cl_re R (n + 1) h2 (by omega)
    · have hl : ∀ d, d ∈ c :: R → d < ab := fun d hd => by
        rcases List.mem_cons.mp hd with rfl | w
        · omega
        · have := h1 d w
          omega
      rw [clW_lt _ _ hl, reW_lt _ _ hl]
/-- is the walk's end below so much -/
theorem clW_ct {ab x : Nat} : ∀ (R : List Nat) (l : Nat), R.Pairwise (fun a b => b ≤ a) → 1 ≤ l → (clW ab R l < x ↔ ab < x ∧ R.countP (fun c => decide (x ≤ c)) < l)
  | [], l, _, hl => by
    rw [clW, List.countP_nil]
    omega
  | c :: R, l, h, hl => by
    obtain ⟨h1, h2⟩ := List.pairwise_cons.mp h
    rw [clW, List.countP_cons]
    by_cases e : l = 1
    · rw [if_pos e]
      by_cases q : x ≤ c
      · rw [if_pos (by simpa using q)]
        omega
      · have z : R.countP (fun c => decide (x ≤ c)) = 0 := by
          rw [List.countP_eq_zero]
          intro d hd
          have := h1 d hd
          simp
          omega
        rw [if_neg (by simpa using q), z]
        omega
    · rw [if_neg e, clW_ct R (l - 1) h2 (by omega)]
      by_cases q : x ≤ c
      · rw [if_pos (by simpa using q)]
        omega
      · have z : R.countP (fun c => decide (x ≤ c)) = 0 := by
          rw [List.countP_eq_zero]
          intro d hd
          have := h1 d hd
          simp
          omega
        rw [if_neg (by simpa using q), z]
        omega
def neT (t : Nat) (c : aK) : Bool := decide (c.1 ≠ t)
def ctsR (C : List aK) (t : Nat) : List Nat := ((C.filter (neT t)).map (fun c => c.2.1)).reverse
theorem rv_cl {C : List aK} {S : hT2} {t ab : Nat} (hR : Rc C S) (h3 : S 0 3 = nI ab) (hb : ∀ c, c ∈ C → c.1 < 1000 ∧ c.2.1 < 2 ^ 31) (ht : t < 1000) (hab : ab < 2 ^ 31) : ∀ p l, p ≤ C.length → l < 2 ^ 31 → 1 ≤ l → rvF S (nI t) p (nI l) = nI (clW ab (ctsR (C.take p) t) l)
  | 0, l, _, _, _ => by
    rw [rvF, h3]
    rfl
  | p + 1, l, hp, hl, hl1 => by
    have hpl : p < C.length := by omega
    obtain ⟨r1, r2, -⟩ := hR p hpl
    obtain ⟨b1, b2⟩ := hb _ (gC_mem hpl)
    have et : C.take (p + 1) = C.take p ++ [gC C p] := by
      rw [List.take_succ, List.getElem?_eq_getElem hpl, gC_lt hpl]
      rfl
    rw [rvF, r1, r2, h3, et]
    unfold ctsR
    rw [List.filter_append]
    by_cases e : (gC C p).1 = t
    · rw [if_pos (by rw [e]), List.filter_cons_of_neg (by simp [neT, e]), List.filter_nil, List.append_nil]
      exact rv_cl hR h3 hb ht hab p l (by omega) hl hl1
    · rw [if_neg (fun z => e ((nI_eq (by omega) (by omega)).mp z)), List.filter_cons_of_pos (by simp [neT, e]), List.filter_nil, List.map_append, List.reverse_append, List.map_cons, List.map_nil, List.reverse_cons, List.reverse_nil, List.nil_append, List.singleton_append, clW]
      have em : nI l + -1 = nI (l - 1) := by
        rw [show l = (l - 1) + 1 by omega]
        exact pk_m1 _
      rw [em]
      by_cases q : l = 1
      · rw [if_pos q, if_pos (by rw [q]; rfl)]
        by_cases z : (gC C p).2.1 < ab
        · rw [if_pos (nI_lt z hab), show max (gC C p).2.1 ab = ab by omega]
        · rw [if_neg (nI_nlt (by omega) b2), show max (gC C p).2.1 ab = (gC C p).2.1 by omega]
      · rw [if_neg q, if_neg (fun z => by have := (nI_eq (b := 0) (by omega) (by omega)).mp z; omega)]
        exact rv_cl hR h3 hb ht hab p (l - 1) (by omega) (by omega) (by omega)
theorem rl_re {C : List aK} {V : hT2} {k ab : Nat} {P : aK → Bool} {at_ gone : Int32} (hR : Rc C V) (hN : Nd C) (hb : ∀ c, c ∈ C → c.1 < 1000 ∧ c.2.1 < 2 ^ 31) (hk : k < 2 ^ 30) (hab : ab < 2 ^ 31) (hP : ∀ j, j < C.length → (P (gC C j) = true ↔ ¬ nI j = at_ ∧ ¬ nI j = gone)) : ∀ d p n, p + d = C.length → n + d < 2 ^ 30 → rlF V (pfA C) at_ gone (nI k) (nI ab) d p (nI n) = nI (reW ab k ((((flA C).drop p).filter P).map (fun c => c.2.1)) n)
  | 0, p, n, hp, _ => by
    rw [rlF, List.drop_eq_nil_of_le (by rw [flA_len]; omega)]
    rfl
  | d + 1, p, n, hp, hn => by
    have hpl : p < C.length := by omega
    obtain ⟨a1, a2⟩ := pfA_at hN hpl
    obtain ⟨r1, r2, -⟩ := hR _ a1
    obtain ⟨b1, b2⟩ := hb _ (gC_mem a1)
    have hq := hP _ a1
    rw [rlF, r2, drop_cons (show p < (flA C).length by rw [flA_len]; omega), ← a2]
    by_cases q : P (gC C (pfA C p)) = true
    · obtain ⟨q1, q2⟩ := hq.mp q
      rw [if_neg q1, if_neg q2, List.filter_cons_of_pos q, List.map_cons, reW]
      by_cases z : ab ≤ (gC C (pfA C p)).2.1
      · rw [if_pos z, if_pos (nI_le z b2), nI_1]
        by_cases y : n + 1 = k
        · rw [if_pos y, if_pos (by rw [y])]
        · rw [if_neg y, if_neg (fun x => y ((nI_eq (by omega) (by omega)).mp x))]
          exact rl_re hR hN hb hk hab hP d (p + 1) (n + 1) (by omega) (by omega)
      · rw [if_neg z, if_neg (nle (by omega) hab)]
        exact rl_re hR hN hb hk hab hP d (p + 1) n (by omega) (by omega)
    · have h1 : nI (pfA C p) = at_ ∨ nI (pfA C p) = gone := by
        by_cases y : nI (pfA C p) = at_
        · exact Or.inl y
        · by_cases y2 : nI (pfA C p) = gone
          · exact Or.inr y2
          · exact absurd (hq.mpr ⟨y, y2⟩) q
      rw [List.filter_cons_of_neg q]
      have ih := rl_re hR hN hb hk hab hP d (p + 1) n (by omega) (by omega)
      by_cases y : nI (pfA C p) = at_
      · rw [if_pos y]
        exact ih
      · rw [if_neg y, if_pos (h1.resolve_left y)]
        exact ih
/-- the counts of the others, falling, are one row -/
theorem cts_eq {C C' : List aK} {t : Nat} {P : aK → Bool} (hN : Nd C) (hs : C'.Pairwise (fun a b => a.2.1 ≤ b.2.1)) (hp : (C'.filter (neT t)).Perm (C.filter P)) : ctsR C' t = ((flA C).filter P).map (fun c => c.2.1) ∧ (ctsR C' t).Pairwise (fun a b => b ≤ a) := by
  have h1 : (ctsR C' t).Pairwise (fun a b => b ≤ a) := by
    unfold ctsR
    rw [List.pairwise_reverse, List.pairwise_map]
    exact List.Pairwise.sublist List.filter_sublist hs
  have h2 : (((flA C).filter P).map (fun c => c.2.1)).Pairwise (fun a b => b ≤ a) := by
    rw [List.pairwise_map]
    refine List.Pairwise.imp ?_ (List.Pairwise.sublist List.filter_sublist (flA_srt C hN))
    intro a b hab
    have := (fab_iff a b).mp hab
    omega
  refine ⟨List.Perm.eq_of_pairwise (le := fun a b => b ≤ a) (fun a b _ _ x y => Nat.le_antisymm y x) h1 h2 ?_, h1⟩
  unfold ctsR
  refine (List.reverse_perm _).trans (List.Perm.map _ ?_)
  exact hp.trans ((flA_perm C).filter P).symm

theorem cts_ct {C : List aK} {R : List Nat} {t x : Nat} {A : aS} (hA : A.2.1 = C) (hp : R.Perm ((C.filter (neT t)).map (fun c => c.2.1))) : R.countP (fun c => decide (x ≤ c)) = oCt A t x := by
  rw [hp.countP_eq, List.countP_map, List.countP_filter]
  unfold oCt
  rw [hA]
  refine List.countP_congr (fun c _ => ?_)
  simp [neT, Function.comp, and_comm]
theorem nee_co {A : aS} {t : Nat} : coA (uN A.1 4 0, A.2) t 1 = rkA (a0A (uN A.1 4 0, A.2) t 1) t 1 := by
  unfold coA hhA
  rw [if_pos]
  unfold rkA
  split
  · rfl
  · split
    · rfl
    · rfl
theorem pu_filter {D : List aK} {x : aK} : ((puA D x).filter (neT x.1)).Perm (D.filter (neT x.1)) := by
  have := ((inA_perm D (bhA D x.2.1 D.length) x).filter (neT x.1))
  rw [List.filter_cons_of_neg (by simp [neT])] at this
  exact this
theorem pu_mem {D : List aK} {x : aK} : x ∈ puA D x := (inA_perm D _ x).mem_iff.mpr List.mem_cons_self
theorem lo_me {A : aS} {X Y : Nat} {c : aK} (hG : Gd X Y A) (h : c ∈ A.2.1) : loA A c.1 = c.2.2 := by
  obtain ⟨p, hp, rfl⟩ := gC_ex h
  exact (hiA_of hG hp).2
theorem nee_1 {A : aS} {t : Nat} (c : fiA A.2.1 t < A.2.1.length) : (coA (uN A.1 4 0, A.2) t 1).2.1 3 = A.1 3 ∧ (t, (gC A.2.1 (fiA A.2.1 t)).2.1 + 1, (gC A.2.1 (fiA A.2.1 t)).2.2 + 1) ∈ (coA (uN A.1 4 0, A.2) t 1).2.2.1 ∧ ((coA (uN A.1 4 0, A.2) t 1).2.2.1.filter (neT t)).Perm (A.2.1.filter (neT t)) := by
  have e : rkA (a0A (uN A.1 4 0, A.2) t 1) t 1 = (0, (a0A (uN A.1 4 0, A.2) t 1).1, puA (erA A.2.1 (fiA A.2.1 t)) (t, (gC A.2.1 (fiA A.2.1 t)).2.1 + 1, (gC A.2.1 (fiA A.2.1 t)).2.2 + 1), (a0A (uN A.1 4 0, A.2) t 1).2.2) := if_pos c
  rw [nee_co, e]
  refine ⟨rfl, pu_mem, ?_⟩
  refine (pu_filter (x := (t, (gC A.2.1 (fiA A.2.1 t)).2.1 + 1, (gC A.2.1 (fiA A.2.1 t)).2.2 + 1))).trans ?_
  have := (erA_perm c).filter (neT t)
  rw [List.filter_cons_of_neg (by simp [neT, fiA_at c])] at this
  exact this
theorem nee_2 {A : aS} {t : Nat} (c : ¬ fiA A.2.1 t < A.2.1.length) (d : A.2.1.length < A.1 1) : (coA (uN A.1 4 0, A.2) t 1).2.1 3 = A.1 3 ∧ (t, A.1 3 + 1, 1) ∈ (coA (uN A.1 4 0, A.2) t 1).2.2.1 ∧ ((coA (uN A.1 4 0, A.2) t 1).2.2.1.filter (neT t)).Perm (A.2.1.filter (neT t)) := by
  have e : rkA (a0A (uN A.1 4 0, A.2) t 1) t 1 = (1, (a0A (uN A.1 4 0, A.2) t 1).1, puA A.2.1 (t, A.1 3 + 1, 1), (a0A (uN A.1 4 0, A.2) t 1).2.2) := (if_neg c).trans (if_pos d)
  rw [nee_co, e]
  exact ⟨rfl, pu_mem, pu_filter (x := (t, A.1 3 + 1, 1))⟩
theorem nee_3 {A : aS} {t X Y : Nat} (hG : Gd X Y A) (c : ¬ fiA A.2.1 t < A.2.1.length) (d : ¬ A.2.1.length < A.1 1) : (coA (uN A.1 4 0, A.2) t 1).2.1 3 = max (A.1 3) (gC A.2.1 0).2.1 ∧ (t, max (A.1 3) (gC A.2.1 0).2.1 + 1, 1) ∈ (coA (uN A.1 4 0, A.2) t 1).2.2.1 ∧ ((coA (uN A.1 4 0, A.2) t 1).2.2.1.filter (neT t)).Perm (A.2.1.filter (fun x => neT t x && neT (gC A.2.1 0).1 x)) := by
  have e : rkA (a0A (uN A.1 4 0, A.2) t 1) t 1 = (2, (goA (a0A (uN A.1 4 0, A.2) t 1) t).1, puA (erA A.2.1 0) (t, max (A.1 3) (gC A.2.1 0).2.1 + 1, 1), (goA (a0A (uN A.1 4 0, A.2) t 1) t).2.2) := (if_neg c).trans (if_neg d)
  have h0 : 0 < A.2.1.length := by have := hG.1; omega
  rw [nee_co, e]
  refine ⟨rfl, pu_mem, ?_⟩
  refine (pu_filter (x := (t, max (A.1 3) (gC A.2.1 0).2.1 + 1, 1))).trans ?_
  have := (erA_perm h0).filter (fun x => neT t x && neT (gC A.2.1 0).1 x)
  rw [List.filter_cons_of_neg (by simp [neT])] at this
  refine List.Perm.trans ?_ this
  rw [List.filter_congr (q := fun x => neT t x && neT (gC A.2.1 0).1 x)]
  intro x hx
  have := (Gc_er hG.2.2.2.1 h0).2.2 x hx
  simp [neT, this]
