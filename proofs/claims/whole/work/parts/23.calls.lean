/-! more rules: calls, branches that the answer shows -/
section RUM
variable {mi k : Nat} {L st : List Value} {h h' : hH} {r : Option Value}
/-- a call of a method of a summary that stands in the heap -/
theorem rS_call {i len pc x y b : Nat} {z : Int32} {zl : Int64} {ts : List Nat} {q : hR} {r1 : Option Value} {h1 : hH} {S : hT2} {as : List Value} (he : hI mi k = some (.invokevirtual i, len, pc, x, y, z, zl, ts)) (hq : hmR x = some q) (h5 : q.2.2.2.2.2.1 = 5) (ha : (st.take y).reverse = .ref b :: as) (hs : decide (hCats (st.drop y) ≤ 8 ∧ (st.take y).length = y ∧ (hFl (st.take y).reverse).length ≤ q.2.2.1) = true) (C : hRun x 0 (hEnt (.ref b :: as) q.2.2.1) [] (hpS h b S) r1 h1) (K : hRun mi (k + 1) L (r1.toList ++ st.drop y) h1 r h') : hRun mi k L st (hpS h b S) r h' := by
  refine r_call he rfl rfl rfl hq ?_ hs ?_ K
  · rw [ha, h5]
    simp [hRcv, hpS_0]
  · dsimp only
    rw [ha]
    exact C
/-- a call of a static method -/
theorem r_callS {i len pc x y : Nat} {z : Int32} {zl : Int64} {ts : List Nat} {q : hR} {r1 : Option Value} {h1 : hH} (he : hI mi k = some (.invokestatic i, len, pc, x, y, z, zl, ts)) (hk : hKd (.invokestatic i, len, pc, x, y, z, zl, ts) = 2) (hq : hmR x = some q) (hs : decide (hCats (st.drop y) ≤ 8 ∧ (st.take y).length = y ∧ (hFl (st.take y).reverse).length ≤ q.2.2.1) = true) (C : hRun x 0 (hEnt (st.take y).reverse q.2.2.1) [] h r1 h1) (K : hRun mi (k + 1) L (r1.toList ++ st.drop y) h1 r h') : hRun mi k L st h r h' := r_call he hk rfl rfl hq rfl hs C K
theorem r_brI {P : Prop} [Decidable P] {t u : Nat} {r0 : List Value} {e : hE} {A B : Int32} (he : hI mi k = some e) (hb : hBr e k st = some (P, t, u, r0)) (kt : P → hRun mi t L r0 h (some (.int A)) h') (kf : ¬ P → hRun mi u L r0 h (some (.int B)) h') : hRun mi k L st h (some (.int (if P then A else B))) h' := by
  refine r_br he hb (fun hp => ?_) (fun hp => ?_)
  · rw [if_pos hp]; exact kt hp
  · rw [if_neg hp]; exact kf hp
end RUM
/-- a loop that gathers -/
def fo {α : Type} (f : Nat → α → α) : Nat → Nat → α → α
  | 0, _, a => a
  | d + 1, p, a => fo f d (p + 1) (f p a)
theorem fo_cong {α : Type} {f g : Nat → α → α} : ∀ (d p : Nat) (a : α), (∀ q, p ≤ q → q < p + d → ∀ x, f q x = g q x) → fo f d p a = fo g d p a
  | 0, _, _, _ => rfl
  | d + 1, p, a, h => by
    rw [fo, fo, h p (Nat.le_refl _) (by omega)]
    exact fo_cong d (p + 1) _ (fun q h1 h2 => h q (by omega) (by omega))
theorem fnF_cong {f g : Nat → Int32} {t : Int32} : ∀ (d p : Nat), (∀ q, p ≤ q → q < p + d → f q = g q) → fnF f t d p = fnF g t d p
  | 0, _, _ => rfl
  | d + 1, p, h => by
    rw [fnF, fnF, h p (Nat.le_refl _) (by omega), fnF_cong d (p + 1) (fun q h1 h2 => h q (by omega) (by omega))]
/-- what find says: none, or a place -/
theorem fnF_or (f : Nat → Int32) (t : Int32) : ∀ d p, (fnF f t d p = -1 ∧ ∀ q, p ≤ q → q < p + d → f q ≠ t) ∨ ∃ q, p ≤ q ∧ q < p + d ∧ fnF f t d p = nI q ∧ f q = t ∧ ∀ j, p ≤ j → j < q → f j ≠ t
  | 0, p => Or.inl ⟨rfl, fun q h1 h2 => by omega⟩
  | d + 1, p => by
    unfold fnF
    by_cases hc : f p = t
    · exact Or.inr ⟨p, Nat.le_refl _, by omega, by rw [if_pos hc], hc, fun j h1 h2 => by omega⟩
    · rw [if_neg hc]
      rcases fnF_or f t d (p + 1) with ⟨h1, h2⟩ | ⟨q, h1, h2, h3, h4, h5⟩
      · refine Or.inl ⟨h1, fun q a b => ?_⟩
        by_cases e : q = p
        · rw [e]; exact hc
        · exact h2 q (by omega) (by omega)
      · refine Or.inr ⟨q, by omega, by omega, h3, h4, fun j a b => ?_⟩
        by_cases e : j = p
        · rw [e]; exact hc
        · exact h5 j (by omega) b
theorem nI_m1 {p : Nat} (h : p < 2 ^ 31) : nI p ≠ -1 := by
  intro e
  have := congrArg Int32.toInt e
  rw [nI_toInt h] at this
  have h2 : (-1 : Int32).toInt = -1 := by decide
  rw [h2] at this
  omega
