/-! by truth: places -/
theorem ct_ce {u : Nat → Nat} {x y : Nat} (h : x < y) : ∀ n, ctA u y n + ceA u y n ≤ ctA u x n
  | 0 => Nat.le_refl _
  | n + 1 => by
    have := ct_ce (u := u) h n
    rw [ctA, ctA, ceA]
    by_cases a : u n ≤ x
    · rw [if_pos a, if_pos (by omega), if_neg (by omega)]
      omega
    · rw [if_neg a]
      by_cases b : u n = y
      · rw [if_pos b, if_pos (by omega)]
        omega
      · rw [if_neg b]
        split <;> omega
theorem ct_lt {u : Nat → Nat} {x t n : Nat} (ht : t < n) (h : x < u t) : ctA u (u t) n + ceA u (u t) t < ctA u x n := by
  have a := ct_ce (u := u) h n
  have b := ceA_mono (u := u) (x := u t) (a := t + 1) (n - (t + 1))
  rw [show t + 1 + (n - (t + 1)) = n by omega, ceA, if_pos rfl] at b
  omega
/-- the least number that so many truths at most exceed is the truth of the thing at that place -/
theorem ct_at {u : Nat → Nat} {t r k : Nat} (ht : t < 1000) (hk : k = ctA u (u t) 1000 + ceA u (u t) t) (h1 : ctA u r 1000 ≤ k) (h2 : ∀ x, x < r → k < ctA u x 1000) : r = u t := by
  by_cases a : r < u t
  · have := ct_lt (u := u) ht a
    omega
  · by_cases b : u t < r
    · have := h2 (u t) b
      omega
    · omega
