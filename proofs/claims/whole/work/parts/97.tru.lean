/-! by truth: the class's search -/
/-- how many things of so many have a truth above -/
def ctA (u : Nat → Nat) (x : Nat) : Nat → Nat
  | 0 => 0
  | n + 1 => ctA u x n + if u n ≤ x then 0 else 1
theorem ctA_le (u : Nat → Nat) (x : Nat) : ∀ n, ctA u x n ≤ n
  | 0 => Nat.le_refl _
  | n + 1 => by
    have := ctA_le u x n
    rw [ctA]
    split <;> omega
theorem ctA_0 {u : Nat → Nat} {x : Nat} : ∀ n, (∀ t, t < n → u t ≤ x) → ctA u x n = 0
  | 0, _ => rfl
  | n + 1, h => by
    rw [ctA, ctA_0 n (fun t ht => h t (by omega)), if_pos (h n (by omega))]
theorem ctA_mono {u : Nat → Nat} {x y : Nat} (h : x ≤ y) : ∀ n, ctA u y n ≤ ctA u x n
  | 0 => Nat.le_refl _
  | n + 1 => by
    have := ctA_mono (u := u) h n
    rw [ctA, ctA]
    by_cases a : u n ≤ x
    · rw [if_pos a, if_pos (by omega)]
      omega
    · rw [if_neg a]
      split <;> omega
theorem tr_ct {S : hT2} {u : Nat → Nat} {x : Nat} (hx : x < 2 ^ 31) (hu : ∀ t, t < 1000 → S 4 t = nI (u t) ∧ u t < 2 ^ 31) : trAF S (nI x) = nI (ctA u x 1000) := by
  have key : ∀ n, n ≤ 1000 → fo (fun t a => if S 4 t ≤ nI x then a else a + 1) n 0 (0 : Int32) = nI (ctA u x n) := by
    intro n
    induction n with
    | zero => intro _; rfl
    | succ n ih =>
      intro hn
      rw [fo_last, ih (by omega), Nat.zero_add, ctA]
      obtain ⟨h1, h2⟩ := hu n (by omega)
      rw [h1]
      by_cases c : u n ≤ x
      · rw [if_pos (nI_le c hx), if_pos c]
        rfl
      · rw [if_neg (nle (by omega) h2), if_neg c, nI_1]
  exact key 1000 (Nat.le_refl _)
/-- the search finds the least number that so many truths at most exceed -/
theorem ta_A {S : hT2} {u : Nat → Nat} {k : Nat} (hk : k < 2 ^ 31) (hu : ∀ t, t < 1000 → S 4 t = nI (u t) ∧ u t < 2 ^ 31) : ∀ d l m, l ≤ m → m < 2 ^ 30 → m - l < 2 ^ d → ctA u m 1000 ≤ k → (∀ x, x < l → k < ctA u x 1000) → ∃ r, taF S (nI k) d (nI l) (nI m) = nI r ∧ r ≤ m ∧ ctA u r 1000 ≤ k ∧ ∀ x, x < r → k < ctA u x 1000 := by
  intro d
  induction d with
  | zero =>
    intro l m h1 h2 h3 h4 h5
    have e : l = m := by
      have : m - l < 1 := h3
      omega
    subst e
    exact ⟨l, rfl, Nat.le_refl _, h4, h5⟩
  | succ d ih =>
    intro l m h1 h2 h3 h4 h5
    rw [taF]
    by_cases c : m ≤ l
    · have e : l = m := by omega
      subst e
      rw [if_pos (Int32.le_refl _)]
      exact ⟨l, rfl, Nat.le_refl _, h4, h5⟩
    · have e1 : nI m - nI l = nI (m - l) := pk_sub h1
      have e2 : nI (m - l) / 2 = nI ((m - l) / 2) := pk_div (d := 2) (by omega) (by omega) (by omega)
      have e3 : nI l + nI ((m - l) / 2) = nI (l + (m - l) / 2) := nI_add _ _
      have hc := ctA_le u (l + (m - l) / 2) 1000
      have hp : 2 ^ (d + 1) = 2 * 2 ^ d := by rw [Nat.pow_succ]; omega
      rw [if_neg (nle (by omega) (by omega)), e1, e2, e3, tr_ct (by omega) hu]
      by_cases q : k < ctA u (l + (m - l) / 2) 1000
      · rw [if_pos (nI_lt q (by omega)), nI_1]
        refine ih (l + (m - l) / 2 + 1) m (by omega) h2 (by omega) h4 (fun x hx => ?_)
        by_cases qx : x < l
        · exact h5 x qx
        · refine Nat.lt_of_lt_of_le q ?_
          exact ctA_mono (by omega) 1000
      · rw [if_neg (nI_nlt (by omega) hk)]
        obtain ⟨r, r1, r2, r3, r4⟩ := ih l (l + (m - l) / 2) (by omega) (by omega) (by omega) (by omega) h5
        exact ⟨r, r1, by omega, r3, r4⟩
