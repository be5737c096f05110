/-! by truth: the so-manieth thing of a truth -/
def ceA (u : Nat → Nat) (x : Nat) : Nat → Nat
  | 0 => 0
  | n + 1 => ceA u x n + if u n = x then 1 else 0
theorem ceA_mono {u : Nat → Nat} {x : Nat} {a : Nat} : ∀ d, ceA u x a ≤ ceA u x (a + d)
  | 0 => Nat.le_refl _
  | d + 1 => by
    have := ceA_mono (u := u) (x := x) (a := a) d
    rw [← Nat.add_assoc, ceA]
    omega
theorem th_A {S : hT2} {u : Nat → Nat} {x k t0 : Nat} (hx : x < 2 ^ 31) (hu : ∀ t, t < 1000 → S 4 t = nI (u t) ∧ u t < 2 ^ 31) (h0 : t0 < 1000) (h1 : u t0 = x) (h2 : ceA u x t0 = k) : ∀ d t, t + d = 1000 → t ≤ t0 → thF S (nI x) d t (nI (k - ceA u x t)) = nI t0 := by
  have hcl : ∀ n, ceA u x n ≤ n := by
    intro n
    induction n with
    | zero => exact Nat.le_refl _
    | succ n ih =>
      rw [ceA]
      split <;> omega
  have hk : k ≤ 1000 := by have := hcl t0; omega
  intro d
  induction d with
  | zero =>
    intro t a b
    omega
  | succ d ih =>
    intro t a b
    obtain ⟨u1, u2⟩ := hu t (by omega)
    rw [thF, u1]
    have m0 := ceA_mono (u := u) (x := x) (a := t) (t0 - t)
    rw [show t + (t0 - t) = t0 by omega, h2] at m0
    by_cases c : u t = x
    · rw [if_pos (by rw [c])]
      by_cases e : t = t0
      · subst e
        rw [if_pos (by rw [h2, Nat.sub_self]; rfl)]
      · have m1 := ceA_mono (u := u) (x := x) (a := t + 1) (t0 - (t + 1))
        rw [show t + 1 + (t0 - (t + 1)) = t0 by omega, h2, ceA, if_pos c] at m1
        rw [if_neg (fun z => by have := (nI_eq (b := 0) (by omega) (by omega)).mp z; omega)]
        have e2 : nI (k - ceA u x t) + -1 = nI (k - ceA u x (t + 1)) := by
          rw [ceA, if_pos c, show k - ceA u x t = (k - (ceA u x t + 1)) + 1 by omega]
          exact pk_m1 _
        rw [e2]
        exact ih (t + 1) (by omega) (by omega)
    · rw [if_neg (fun z => c ((nI_eq u2 hx).mp z))]
      have e : t ≠ t0 := fun z => c (by rw [z]; exact h1)
      have e2 : ceA u x (t + 1) = ceA u x t := by rw [ceA, if_neg c, Nat.add_zero]
      rw [← e2]
      exact ih (t + 1) (by omega) (by omega)
