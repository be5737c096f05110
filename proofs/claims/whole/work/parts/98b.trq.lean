/-! by truth: the row as things are put in -/
def insR (F : Nat → Nat) (p t : Nat) : Nat → Nat := fun j => if j < p then F j else if j = p then t else F (j - 1)
def Tv (u : Nat → Nat) (n : Nat) (F : Nat → Nat) : Prop := ∀ j, j < ctA u 0 n → ∃ t, t < n ∧ 0 < u t ∧ F j = t ∧ j = ctA u (u t) n + ceA u (u t) t
theorem ctA_s0 {u : Nat → Nat} {x n : Nat} (h : u n ≤ x) : ctA u x (n + 1) = ctA u x n := by rw [ctA, if_pos h, Nat.add_zero]
theorem ctA_s1 {u : Nat → Nat} {x n : Nat} (h : ¬ u n ≤ x) : ctA u x (n + 1) = ctA u x n + 1 := by rw [ctA, if_neg h]
theorem ce_lt {u : Nat → Nat} {x t n : Nat} (ht : t < n) (h : u t = x) : ceA u x t < ceA u x n := by
  have b := ceA_mono (u := u) (x := x) (a := t + 1) (n - (t + 1))
  rw [show t + 1 + (n - (t + 1)) = n by omega, ceA, if_pos h] at b
  omega
theorem Tv_0 {u : Nat → Nat} {F : Nat → Nat} : Tv u 0 F := fun j hj => absurd hj (by rw [ctA]; omega)
theorem Tv_skip {u : Nat → Nat} {n : Nat} {F : Nat → Nat} (h0 : u n = 0) (h : Tv u n F) : Tv u (n + 1) F := by
  intro j hj
  rw [ctA_s0 (by omega)] at hj
  obtain ⟨t, t1, t2, t3, t4⟩ := h j hj
  refine ⟨t, by omega, t2, t3, ?_⟩
  rw [ctA_s0 (by omega)]
  exact t4
theorem Tv_ins {u : Nat → Nat} {n p : Nat} {F : Nat → Nat} (h0 : 0 < u n) (hp : p = ctA u (u n) n + ceA u (u n) n) (h : Tv u n F) : Tv u (n + 1) (insR F p n) := by
  intro j hj
  rw [ctA_s1 (by omega)] at hj
  have hp0 := ct_ce (u := u) h0 n
  unfold insR
  by_cases a : j < p
  · rw [if_pos a]
    obtain ⟨t, t1, t2, t3, t4⟩ := h j (by omega)
    have hge : u n ≤ u t := by
      by_cases c : u t < u n
      · have := ct_ce (u := u) c n
        omega
      · omega
    refine ⟨t, by omega, t2, t3, ?_⟩
    rw [ctA_s0 hge]
    exact t4
  · rw [if_neg a]
    by_cases b : j = p
    · rw [if_pos b]
      refine ⟨n, by omega, h0, rfl, ?_⟩
      rw [ctA_s0 (Nat.le_refl _)]
      omega
    · rw [if_neg b]
      obtain ⟨t, t1, t2, t3, t4⟩ := h (j - 1) (by omega)
      have hlt : ¬ u n ≤ u t := by
        intro c
        by_cases e : u n = u t
        · have := ce_lt (u := u) (x := u n) t1 e.symm
          rw [← e] at t4
          omega
        · have := ct_lt (u := u) (x := u n) t1 (by omega)
          omega
      refine ⟨t, by omega, t2, t3, ?_⟩
      rw [ctA_s1 hlt]
      omega
/-- before the place truths are not less, from it on they are -/
theorem Tv_cmp {u : Nat → Nat} {n p j : Nat} {F : Nat → Nat} (hp : p = ctA u (u n) n + ceA u (u n) n) (h : Tv u n F) (hj : j < ctA u 0 n) : u n ≤ u (F j) ↔ j < p := by
  obtain ⟨t, t1, t2, t3, t4⟩ := h j hj
  rw [t3]
  constructor
  · intro c
    by_cases e : u n = u t
    · have := ce_lt (u := u) (x := u n) t1 e.symm
      rw [← e] at t4
      omega
    · have := ct_lt (u := u) (x := u n) t1 (by omega)
      omega
  · intro c
    by_cases e : u t < u n
    · have := ct_ce (u := u) e n
      omega
    · omega
