/-! what is asked of a summary, in numbers; the list of the class in order -/
def hiA (A : aS) (t : Nat) : Nat := if fiA A.2.1 t < A.2.1.length then (gC A.2.1 (fiA A.2.1 t)).2.1 else A.1 3
def loA (A : aS) (t : Nat) : Nat := if fiA A.2.1 t < A.2.1.length then (gC A.2.1 (fiA A.2.1 t)).2.2 else 0
theorem hi_A {A : aS} {S : hT2} {t X Y : Nat} (h : Rp A S) (hG : Gd X Y A) (hX : X < 2 ^ 30) (ht : t < 1000) : highF S A.2.1.length (nI t) = nI (hiA A t) := by
  have hb := Gd_b hG hX
  have h24 := Nat.le_trans hG.1.2.2 hG.1.2.1
  unfold highF hiA
  rcases fn_A (t := t) h.2.2.1 (fun c hc => (hb c hc).1) (by omega) h24 with ⟨a1, a2⟩ | ⟨a1, a2⟩
  · rw [a2, if_neg (nI_m1 (by omega)), if_pos a1, nI_clamp (by omega)]
    exact (h.2.2.1 _ a1).2.1
  · rw [a2, if_pos rfl, if_neg (by omega)]
    exact h.1 3 (by omega) (by omega) (by omega)
theorem lo_A {A : aS} {S : hT2} {t X Y : Nat} (h : Rp A S) (hG : Gd X Y A) (hX : X < 2 ^ 30) (ht : t < 1000) : lowF S A.2.1.length (nI t) = nI (loA A t) := by
  have hb := Gd_b hG hX
  have h24 := Nat.le_trans hG.1.2.2 hG.1.2.1
  unfold lowF loA
  rcases fn_A (t := t) h.2.2.1 (fun c hc => (hb c hc).1) (by omega) h24 with ⟨a1, a2⟩ | ⟨a1, a2⟩
  · rw [a2, if_neg (nI_m1 (by omega)), if_pos a1, nI_clamp (by omega)]
    exact (h.2.2.1 _ a1).2.2
  · rw [a2, if_pos rfl, if_neg (by omega)]
    rfl
theorem hiA_le {A : aS} {X Y : Nat} (t : Nat) (hG : Gd X Y A) : hiA A t ≤ A.1 2 ∧ loA A t ≤ hiA A t := by
  unfold hiA loA
  by_cases c : fiA A.2.1 t < A.2.1.length
  · rw [if_pos c, if_pos c]
    have := Gc_at hG.2.2.2.1 c
    omega
  · rw [if_neg c, if_neg c]
    have := hG.2.1
    omega
theorem hiA_of {A : aS} {X Y p : Nat} (hG : Gd X Y A) (hp : p < A.2.1.length) : hiA A (gC A.2.1 p).1 = (gC A.2.1 p).2.1 ∧ loA A (gC A.2.1 p).1 = (gC A.2.1 p).2.2 := by
  unfold hiA loA
  have e := fiA_of (C := A.2.1) hG.2.2.2.1.2.1 hp
  rw [e, if_pos hp, if_pos hp]
  exact ⟨rfl, rfl⟩
/-- how many have surely come oftener than so -/
def sAb (A : aS) (x : Nat) : Nat := A.2.1.countP (fun y => decide (x < y.2.2))
theorem sa_A {A : aS} {S : hT2} {x X Y : Nat} (h : Rp A S) (hG : Gd X Y A) (hX : X < 2 ^ 30) (hx : x < 2 ^ 31) : lowsAboveF S A.2.1.length (nI x) = nI (sAb A x) := by
  have hb := Gd_b hG hX
  have := fo_cp (C := A.2.1) (P := fun y => decide (x < y.2.2)) (f := fun p a => if S 3 p ≤ nI x then a else a + 1) ?_ A.2.1.length 0 0 (by omega)
  · rw [List.drop_zero, Nat.zero_add] at this
    exact this
  · intro q hq y
    have b := hb _ (gC_mem hq)
    rw [(h.2.2.1 q hq).2.2]
    by_cases c : x < (gC A.2.1 q).2.2
    · rw [if_neg (fun z => by have := (nI_leI (by omega) hx).mp z; omega), if_pos (decide_eq_true c), nI_1]
    · rw [if_pos ((nI_leI (by omega) hx).mpr (by omega)), if_neg (by simpa using c)]
theorem sq_A {A : aS} {V : hT2} {x q X Y : Nat} (h : Rp A V) (hG : Gd X Y A) (hX : X < 2 ^ 30) (hx : x < 2 ^ 31) (hq : q < A.2.1.length) (hl : (gC A.2.1 q).2.2 ≤ x) : saF V A.2.1.length (nI x) (nI q) = nI (sAb A x) := by
  have hb := Gd_b hG hX
  have h24 := Nat.le_trans hG.1.2.2 hG.1.2.1
  have := fo_cp (C := A.2.1) (P := fun y => decide (x < y.2.2)) (f := fun p a => if nI p = nI q then a else if V 3 p ≤ nI x then a else a + 1) ?_ A.2.1.length 0 0 (by omega)
  · rw [List.drop_zero, Nat.zero_add] at this
    exact this
  · intro p hp y
    have b := hb _ (gC_mem hp)
    rw [(h.2.2.1 p hp).2.2]
    by_cases e : p = q
    · subst e
      rw [if_pos rfl, if_neg (by simpa using hl)]
    · rw [if_neg (fun z => e ((nI_eq (by omega) (by omega)).mp z))]
      by_cases c : x < (gC A.2.1 p).2.2
      · rw [if_neg (fun z => by have := (nI_leI (by omega) hx).mp z; omega), if_pos (decide_eq_true c), nI_1]
      · rw [if_pos ((nI_leI (by omega) hx).mpr (by omega)), if_neg (by simpa using c)]
/-- how many others can have come so often -/
def oCt (A : aS) (t x : Nat) : Nat := A.2.1.countP (fun y => decide (y.1 ≠ t) && decide (x ≤ y.2.1))
def oFr (A : aS) (t x : Nat) : Nat := if A.1 3 < x then oCt A t x else oCt A t x + (1000 - A.2.1.length - (if fiA A.2.1 t < A.2.1.length then 0 else 1))
theorem oCt_le (A : aS) (t x : Nat) : oCt A t x ≤ A.2.1.length := List.countP_le_length
theorem ot_A {A : aS} {S : hT2} {t x X Y : Nat} (h : Rp A S) (hG : Gd X Y A) (hX : X < 2 ^ 30) (ht : t < 1000) (hx : x < 2 ^ 31) : otF S A.2.1.length (nI t) (nI x) = nI (oCt A t x) := by
  have hb := Gd_b hG hX
  have := fo_cp (C := A.2.1) (P := fun y => decide (y.1 ≠ t) && decide (x ≤ y.2.1)) (f := fun p a => if S 1 p = nI t then a else if S 2 p < nI x then a else a + 1) ?_ A.2.1.length 0 0 (by omega)
  · rw [List.drop_zero, Nat.zero_add] at this
    exact this
  · intro q hq y
    have b := hb _ (gC_mem hq)
    have r := h.2.2.1 q hq
    rw [r.1, r.2.1]
    by_cases c : (gC A.2.1 q).1 = t
    · rw [if_pos ((nI_eq (by omega) (by omega)).mpr c), if_neg (by simp [c])]
    · rw [if_neg (fun z => c ((nI_eq (by omega) (by omega)).mp z))]
      by_cases d : x ≤ (gC A.2.1 q).2.1
      · rw [if_neg (fun z => by have := (nI_ltI (by omega) hx).mp z; omega), if_pos (by simp [c, d]), nI_1]
      · rw [if_pos ((nI_ltI (by omega) hx).mpr (by omega)), if_neg (by simp [d])]
theorem of_A {A : aS} {S : hT2} {t x X Y : Nat} (h : Rp A S) (hG : Gd X Y A) (hX : X < 2 ^ 30) (ht : t < 1000) (hx : x < 2 ^ 31) : ofF S A.2.1.length (nI t) (nI x) = nI (oFr A t x) := by
  have hb := Gd_b hG hX
  have h24 := Nat.le_trans hG.1.2.2 hG.1.2.1
  have hg := hG.2.1
  have hc := oCt_le A t x
  unfold ofF oFr
  rw [ot_A h hG hX ht hx, h.1 3 (by omega) (by omega) (by omega)]
  by_cases c : A.1 3 < x
  · rw [if_pos c, if_pos (nI_lt c hx)]
  · rw [if_neg c, if_neg (nI_nlt (by omega) (by omega))]
    have e : (1000 : Int32) - nI A.2.1.length = nI (1000 - A.2.1.length) := pk_sub (a := 1000) (by omega)
    rcases fn_A (t := t) h.2.2.1 (fun c hc => (hb c hc).1) (by omega) h24 with ⟨a1, a2⟩ | ⟨a1, a2⟩
    · rw [a2, if_neg (nI_m1 (by omega)), if_pos a1, e, show nI (1000 - A.2.1.length) - 0 = nI (1000 - A.2.1.length - 0) from pk_sub (b := 0) (by omega), nI_add]
    · rw [a2, if_pos rfl, if_neg (by omega), e, show nI (1000 - A.2.1.length) - 1 = nI (1000 - A.2.1.length - 1) from pk_sub (b := 1) (by omega), nI_add]
/-- the reference, one left out by its place -/
theorem rv_A {A : aS} {V : hT2} {x q y X Y : Nat} (h : Rp A V) (hG : Gd X Y A) (hX : X < 2 ^ 30) (hx : x < 2 ^ 31) (hq : q < A.2.1.length) : rvM V A.2.1.length (nI x) (nI q) (nI y) = nI (y + oCt A (gC A.2.1 q).1 x) := by
  have hb := Gd_b hG hX
  have h24 := Nat.le_trans hG.1.2.2 hG.1.2.1
  have := fo_cp (C := A.2.1) (P := fun z => decide (z.1 ≠ (gC A.2.1 q).1) && decide (x ≤ z.2.1)) (f := fun p a => if nI p = nI q then a else if V 2 p < nI x then a else a + 1) ?_ A.2.1.length 0 y (by omega)
  · rw [List.drop_zero] at this
    exact this
  · intro p hp u
    have b := hb _ (gC_mem hp)
    have r := h.2.2.1 p hp
    rw [r.2.1]
    by_cases c : p = q
    · subst c
      rw [if_pos rfl, if_neg (by simp)]
    · have c2 : (gC A.2.1 p).1 ≠ (gC A.2.1 q).1 := fun z => c (Gc_inj hG.2.2.2.1 hp hq z)
      rw [if_neg (fun z => c ((nI_eq (by omega) (by omega)).mp z))]
      by_cases d : x ≤ (gC A.2.1 p).2.1
      · rw [if_neg (fun z => by have := (nI_ltI (by omega) hx).mp z; omega), if_pos (by simp [c2, d]), nI_1]
      · rw [if_pos ((nI_ltI (by omega) hx).mpr (by omega)), if_neg (by simp [d])]
/-- certain, possible -/
def suP (A : aS) (k : Nat) (ps : Bool) (c : aK) : Bool := if ps = true then decide (sAb A c.2.1 < k) else decide (oFr A c.1 c.2.2 < k)
theorem isu_A {A : aS} {V : hT2} {k q X Y : Nat} {ps : Int32} {pb : Bool} (h : Rp A V) (hG : Gd X Y A) (hX : X < 2 ^ 30) (hk : k ≤ 24) (hq : q < A.2.1.length) (hp : (ps = 0 ∧ pb = false) ∨ (¬ ps = 0 ∧ pb = true)) : isuF V A.2.1.length q (nI k) ps = if suP A k pb (gC A.2.1 q) = true then 1 else 0 := by
  have hb := Gd_b hG hX _ (gC_mem hq)
  have h24 := Nat.le_trans hG.1.2.2 hG.1.2.1
  have r := h.2.2.1 q hq
  have hg := hG.2.1
  have hl := Gc_at hG.2.2.2.1 hq
  have hof := fiA_of (C := A.2.1) hG.2.2.2.1.2.1 hq
  unfold isuF suP
  rcases hp with ⟨p1, p2⟩ | ⟨p1, p2⟩
  · rw [if_pos p1, p2, if_neg (show ¬ (false = true) by decide), r.2.2, h.1 3 (by omega) (by omega) (by omega)]
    have e : (if nI (A.1 3) < nI (gC A.2.1 q).2.2 then 0 else 1000 - nI A.2.1.length) = nI (if A.1 3 < (gC A.2.1 q).2.2 then 0 else 1000 - A.2.1.length) := by
      by_cases c : A.1 3 < (gC A.2.1 q).2.2
      · rw [if_pos c, if_pos (nI_lt c (by omega))]; rfl
      · rw [if_neg c, if_neg (nI_nlt (by omega) (by omega))]
        exact pk_sub (a := 1000) (by omega)
    have hc := oCt_le A (gC A.2.1 q).1 (gC A.2.1 q).2.2
    rw [e, rv_A h hG hX (by omega) hq]
    have e2 : oFr A (gC A.2.1 q).1 (gC A.2.1 q).2.2 = (if A.1 3 < (gC A.2.1 q).2.2 then 0 else 1000 - A.2.1.length) + oCt A (gC A.2.1 q).1 (gC A.2.1 q).2.2 := by
      unfold oFr
      rw [hof, if_pos hq]
      split <;> omega
    rw [e2]
    generalize hz : (if A.1 3 < (gC A.2.1 q).2.2 then 0 else 1000 - A.2.1.length) + oCt A (gC A.2.1 q).1 (gC A.2.1 q).2.2 = z
    have hz2 : z ≤ 1024 := by
      rw [← hz]
      split <;> omega
    by_cases c : z < k
    · rw [if_neg (nI_ge c (by omega)), if_pos (decide_eq_true c)]
    · rw [if_pos (nI_le (by omega) (by omega)), if_neg (by simpa using c)]
  · rw [if_neg p1, p2, if_pos rfl, r.2.1, sq_A h hG hX (by omega) hq hl.2.2.2]
    have hs : sAb A (gC A.2.1 q).2.1 ≤ A.2.1.length := List.countP_le_length
    by_cases c : sAb A (gC A.2.1 q).2.1 < k
    · rw [if_neg (nI_ge c (by omega)), if_pos (decide_eq_true c)]
    · rw [if_pos (nI_le (by omega) (by omega)), if_neg (by simpa using c)]
/-- the list of the class -/
def RL (D : List aK) (S : hT2) : Prop := S 0 0 = nI D.length ∧ Rc D S
theorem shL_at (S : hT2) (a r q : Nat) : shL S a r q = if (1 ≤ r ∧ r ≤ 3) ∧ q = a + 1 then S r a else S r q := by
  unfold shL
  simp only [s1_row]
  by_cases h1 : r = 1
  · subst h1; simp [upd]
  · by_cases h2 : r = 2
    · subst h2; simp [upd]
    · by_cases h3 : r = 3
      · subst h3; simp [upd]
      · rw [if_neg h3, if_neg h2, if_neg h1, if_neg (by omega)]
theorem inL_at (S : hT2) (a : Nat) (t c l : Int32) (r q : Nat) : inL S a t c l r q = if r = 1 ∧ q = a then t else if r = 2 ∧ q = a then c else if r = 3 ∧ q = a then l else S r q := by
  unfold inL
  simp only [s1_row]
  by_cases h1 : r = 1
  · subst h1; simp [upd]
  · by_cases h2 : r = 2
    · subst h2; simp [upd]
    · by_cases h3 : r = 3
      · subst h3; simp [upd]
      · simp [h1, h2, h3]
theorem rkL_at {D : List aK} {t c l : Nat} (hb : ∀ y, y ∈ D → y.1 < 2 ^ 31 ∧ y.2.1 < 2 ^ 31) (ht : t < 2 ^ 31) (hc : c < 2 ^ 31) : ∀ a (S : hT2), a ≤ D.length → (∀ p, p < a → S 1 p = nI (gC D p).1 ∧ S 2 p = nI (gC D p).2.1) → (rkL (nI t) (nI c) a S).1 = ioA D (t, c, l) a ∧ ∀ r q, (rkL (nI t) (nI c) a S).2 r q = if (1 ≤ r ∧ r ≤ 3) ∧ ioA D (t, c, l) a < q ∧ q ≤ a then S r (q - 1) else S r q
  | 0, S, _, _ => by
    refine ⟨rfl, fun r q => ?_⟩
    rw [if_neg (by omega)]
    rfl
  | a + 1, S, ha, hS => by
    have b := hb _ (gC_mem (show a < D.length by omega))
    have r := hS a (by omega)
    have hrec : fab (t, c, l) (gC D a) = true → (rkL (nI t) (nI c) a (shL S a)).1 = ioA D (t, c, l) (a + 1) ∧ ∀ r q, (rkL (nI t) (nI c) a (shL S a)).2 r q = if (1 ≤ r ∧ r ≤ 3) ∧ ioA D (t, c, l) (a + 1) < q ∧ q ≤ a + 1 then S r (q - 1) else S r q := by
      intro e
      have hle := ioA_le D (t, c, l) a
      obtain ⟨k1, k2⟩ := rkL_at (l := l) hb ht hc a (shL S a) (by omega) (fun p hp => by rw [shL_at, if_neg (by omega), shL_at, if_neg (by omega)]; exact hS p (by omega))
      rw [ioA, if_pos e]
      refine ⟨k1, fun r q => ?_⟩
      rw [k2, shL_at, shL_at]
      by_cases c1 : (1 ≤ r ∧ r ≤ 3)
      · by_cases c2 : q = a + 1
        · rw [if_neg (by omega), if_pos (by omega), if_pos (by omega), c2]
          rfl
        · by_cases c3 : ioA D (t, c, l) a < q ∧ q ≤ a
          · rw [if_pos ⟨c1, c3⟩, if_neg (by omega), if_pos (by omega)]
          · rw [if_neg (by omega), if_neg (by omega), if_neg (by omega)]
      · rw [if_neg (by omega), if_neg (by omega), if_neg (by omega)]
    have stop : ¬ fab (t, c, l) (gC D a) = true → (a + 1 = ioA D (t, c, l) (a + 1)) ∧ ∀ r q, S r q = if (1 ≤ r ∧ r ≤ 3) ∧ ioA D (t, c, l) (a + 1) < q ∧ q ≤ a + 1 then S r (q - 1) else S r q := by
      intro e
      rw [ioA, if_neg e]
      refine ⟨rfl, fun r q => ?_⟩
      rw [if_neg (by omega)]
    unfold rkL
    rw [r.1, r.2]
    by_cases c1 : (gC D a).2.1 < c
    · rw [if_pos (nI_lt c1 hc)]
      exact hrec ((fab_iff _ _).mpr (Or.inl c1))
    · rw [if_neg (nI_nlt (by omega) b.2)]
      by_cases c2 : (gC D a).2.1 = c
      · rw [if_pos ((nI_eq b.2 hc).mpr c2)]
        by_cases c3 : (gC D a).1 ≤ t
        · rw [if_pos (nI_le c3 ht)]
          refine stop (fun z => ?_)
          rw [fab_iff] at z
          dsimp only at z
          omega
        · rw [if_neg (nI_ge (by omega) b.1)]
          refine hrec ((fab_iff _ _).mpr (Or.inr ⟨c2.symm, ?_⟩))
          dsimp only
          omega
      · rw [if_neg (fun z => c2 ((nI_eq b.2 hc).mp z))]
        refine stop (fun z => ?_)
        rw [fab_iff] at z
        dsimp only at z
        omega
theorem RL_rank {D : List aK} {S : hT2} {t c l : Nat} (h : RL D S) (hb : ∀ y, y ∈ D → y.1 < 2 ^ 31 ∧ y.2.1 < 2 ^ 31) (ht : t < 2 ^ 31) (hc : c < 2 ^ 31) (hn : D.length < 48) : RL (raA D (t, c, l)) (rankF S D.length (nI t) (nI c) (nI l)) := by
  obtain ⟨h0, h1⟩ := h
  obtain ⟨k1, k2⟩ := rkL_at (l := l) hb ht hc D.length S (Nat.le_refl _) (fun p hp => ⟨(h1 p hp).1, (h1 p hp).2.1⟩)
  have hle := ioA_le D (t, c, l) D.length
  unfold rankF
  rw [if_pos hn, k1]
  refine ⟨?_, fun p hp => ?_⟩
  · rw [s2_at, if_pos ⟨rfl, rfl⟩, raA_len, nI_1]
  · rw [raA_len] at hp
    have e : ∀ r, 1 ≤ r → r ≤ 3 → s2 (inL (rkL (nI t) (nI c) D.length S).2 (ioA D (t, c, l) D.length) (nI t) (nI c) (nI l)) 0 0 (nI D.length + 1) r p = if p = ioA D (t, c, l) D.length then (if r = 1 then nI t else if r = 2 then nI c else nI l) else if ioA D (t, c, l) D.length < p then S r (p - 1) else S r p := by
      intro r r1 r2
      rw [s2_at, if_neg (by omega), inL_at, k2]
      by_cases c1 : p = ioA D (t, c, l) D.length
      · rw [if_pos c1]
        have : r = 1 ∨ r = 2 ∨ r = 3 := by omega
        rcases this with rfl | rfl | rfl <;> simp [c1]
      · rw [if_neg c1, if_neg (by omega), if_neg (by omega), if_neg (by omega)]
        by_cases c2 : ioA D (t, c, l) D.length < p
        · rw [if_pos c2, if_pos (by omega)]
        · rw [if_neg c2, if_neg (by omega)]
    rw [e 1 (by omega) (by omega), e 2 (by omega) (by omega), e 3 (by omega) (by omega)]
    unfold raA
    rw [gC_in hle]
    by_cases c1 : p < ioA D (t, c, l) D.length
    · rw [if_pos c1, if_neg (by omega), if_neg (by omega), if_neg (by omega), if_neg (by omega), if_neg (by omega), if_neg (by omega)]
      exact h1 p (by omega)
    · rw [if_neg c1]
      by_cases c2 : p = ioA D (t, c, l) D.length
      · rw [if_pos c2, if_pos c2, if_pos c2, if_pos c2]
        exact ⟨rfl, rfl, rfl⟩
      · rw [if_neg c2, if_neg c2, if_neg c2, if_neg c2, if_pos (by omega), if_pos (by omega), if_pos (by omega)]
        exact h1 (p - 1) (by omega)
theorem RL_0 (S : hT2) : RL [] (s2 S 0 0 0) := ⟨rfl, fun p hp => absurd hp (by simp)⟩
theorem wS_wS {w : hWo} {q : Nat} {T U : hT2} : wS (wS w q T) q U = wS w q U := by
  refine Prod.ext ?_ rfl
  funext c
  unfold wS
  dsimp only
  split <;> rfl
theorem flA_mem {C : List aK} {c : aK} (h : c ∈ flA C) : c ∈ C := (flA_perm C).mem_iff.mp h
