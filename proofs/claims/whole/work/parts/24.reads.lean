/-! what is asked of a summary -/
section SRD
variable {h : hH} {b : Nat} {S : hT2} {n : Nat}
def highF (S : hT2) (n : Nat) (t : Int32) : Int32 := if fnF (S 1) t n 0 = -1 then S 0 3 else S 2 (fnF (S 1) t n 0).toNatClampNeg
def lowF (S : hT2) (n : Nat) (t : Int32) : Int32 := if fnF (S 1) t n 0 = -1 then 0 else S 3 (fnF (S 1) t n 0).toNatClampNeg
theorem c_highOf (t : Int32) (hn : S 0 5 = nI n) (hn24 : n ≤ 24) : hRun 47 0 [.ref b, .int t, hU] [] (hpS h b S) (some (.int (highF S n t))) (hpS h b S) := by
  (repeat (first | refine r_fw rfl rfl rfl rfl ?_ | refine rS_get rfl rfl ?_ | refine rS_ild rfl rfl (by first | assumption | omega | (simp only [lS]; omega)) ?_)); try dsimp only
  refine rS_call rfl rfl rfl rfl rfl (c_find t hn hn24) ?_
  (repeat (first | refine r_fw rfl rfl rfl rfl ?_ | refine rS_get rfl rfl ?_ | refine rS_ild rfl rfl (by first | assumption | omega | (simp only [lS]; omega)) ?_)); try dsimp only
  unfold highF
  refine r_brI rfl rfl (fun hc => ?_) (fun hc => ?_)
  · (repeat (first | refine r_fw rfl rfl rfl rfl ?_ | refine rS_get rfl rfl ?_ | refine rS_ild rfl rfl (by first | assumption | omega | (simp only [lS]; omega)) ?_)); try dsimp only
    exact r_ret rfl rfl rfl rfl
  · rcases fnF_or (S 1) t n 0 with ⟨h1, -⟩ | ⟨q, -, hq, h3, -⟩
    · exact absurd h1 hc
    · rw [h3, nI_clamp (by omega)]
      (repeat (first | refine r_fw rfl rfl rfl rfl ?_ | refine rS_get rfl rfl ?_ | refine rS_ild rfl rfl (by first | assumption | omega | (simp only [lS]; omega)) ?_)); try dsimp only
      exact r_ret rfl rfl rfl rfl
theorem c_lowOf (t : Int32) (hn : S 0 5 = nI n) (hn24 : n ≤ 24) : hRun 48 0 [.ref b, .int t, hU] [] (hpS h b S) (some (.int (lowF S n t))) (hpS h b S) := by
  (repeat (first | refine r_fw rfl rfl rfl rfl ?_ | refine rS_get rfl rfl ?_ | refine rS_ild rfl rfl (by first | assumption | omega | (simp only [lS]; omega)) ?_)); try dsimp only
  refine rS_call rfl rfl rfl rfl rfl (c_find t hn hn24) ?_
  (repeat (first | refine r_fw rfl rfl rfl rfl ?_ | refine rS_get rfl rfl ?_ | refine rS_ild rfl rfl (by first | assumption | omega | (simp only [lS]; omega)) ?_)); try dsimp only
  unfold lowF
  refine r_brI rfl rfl (fun hc => ?_) (fun hc => ?_)
  · (repeat (first | refine r_fw rfl rfl rfl rfl ?_ | refine rS_get rfl rfl ?_ | refine rS_ild rfl rfl (by first | assumption | omega | (simp only [lS]; omega)) ?_)); try dsimp only
    exact r_ret rfl rfl rfl rfl
  · rcases fnF_or (S 1) t n 0 with ⟨h1, -⟩ | ⟨q, -, hq, h3, -⟩
    · exact absurd h1 hc
    · rw [h3, nI_clamp (by omega)]
      (repeat (first | refine r_fw rfl rfl rfl rfl ?_ | refine rS_get rfl rfl ?_ | refine rS_ild rfl rfl (by first | assumption | omega | (simp only [lS]; omega)) ?_)); try dsimp only
      exact r_ret rfl rfl rfl rfl
theorem c_isFull : hRun 41 0 [.ref b] [] (hpS h b S) (some (.int (if S 0 5 < S 0 1 then 0 else 1))) (hpS h b S) := by
  (repeat (first | refine r_fw rfl rfl rfl rfl ?_ | refine rS_get rfl rfl ?_ | refine rS_ild rfl rfl (by first | assumption | omega | (simp only [lS]; omega)) ?_)); try dsimp only
  refine r_brI rfl rfl (fun hc => ?_) (fun hc => ?_)
  · (repeat (first | refine r_fw rfl rfl rfl rfl ?_ | refine rS_get rfl rfl ?_ | refine rS_ild rfl rfl (by first | assumption | omega | (simp only [lS]; omega)) ?_)); try dsimp only
    exact r_ret rfl rfl rfl rfl
  · (repeat (first | refine r_fw rfl rfl rfl rfl ?_ | refine rS_get rfl rfl ?_ | refine rS_ild rfl rfl (by first | assumption | omega | (simp only [lS]; omega)) ?_)); try dsimp only
    exact r_ret rfl rfl rfl rfl
def lowsAboveF (S : hT2) (n : Nat) (x : Int32) : Int32 := fo (fun p a => if S 3 p ≤ x then a else a + 1) n 0 0
theorem lowsAbove_loop (x : Int32) (hn : S 0 5 = nI n) (hn24 : n ≤ 24) : ∀ d p a, p + d = n → hRun 54 4 [.ref b, .int x, .int a, .int (nI p)] [] (hpS h b S) (some (.int (fo (fun p a => if S 3 p ≤ x then a else a + 1) d p a))) (hpS h b S) := by
  intro d
  induction d with
  | zero =>
    intro p a hp
    (repeat (first | refine r_fw rfl rfl rfl rfl ?_ | refine rS_get rfl rfl ?_ | refine rS_ild rfl rfl (by first | assumption | omega | (simp only [lS]; omega)) ?_)); try dsimp only
    rw [hn]
    refine r_brT rfl rfl ?_ ?_
    · exact nI_le (by omega) (by omega)
    (repeat (first | refine r_fw rfl rfl rfl rfl ?_ | refine rS_get rfl rfl ?_ | refine rS_ild rfl rfl (by first | assumption | omega | (simp only [lS]; omega)) ?_)); try dsimp only
    exact r_ret rfl rfl rfl rfl
  | succ d ih =>
    intro p a hp
    (repeat (first | refine r_fw rfl rfl rfl rfl ?_ | refine rS_get rfl rfl ?_ | refine rS_ild rfl rfl (by first | assumption | omega | (simp only [lS]; omega)) ?_)); try dsimp only
    rw [hn]
    refine r_brF rfl rfl ?_ ?_
    · exact nle (by omega) (by omega)
    (repeat (first | refine r_fw rfl rfl rfl rfl ?_ | refine rS_get rfl rfl ?_ | refine rS_ild rfl rfl (by first | assumption | omega | (simp only [lS]; omega)) ?_)); try dsimp only
    unfold fo
    refine r_br rfl rfl (fun hc => ?_) (fun hc => ?_)
    · rw [if_pos hc]
      (repeat (first | refine r_fw rfl rfl rfl rfl ?_ | refine rS_get rfl rfl ?_ | refine rS_ild rfl rfl (by first | assumption | omega | (simp only [lS]; omega)) ?_)); try dsimp only
      refine r_step rfl rfl rfl ?_
      rw [nI_1]
      exact ih (p + 1) _ (by omega)
    · rw [if_neg hc]
      (repeat (first | refine r_fw rfl rfl rfl rfl ?_ | refine rS_get rfl rfl ?_ | refine rS_ild rfl rfl (by first | assumption | omega | (simp only [lS]; omega)) ?_)); try dsimp only
      refine r_step rfl rfl rfl ?_
      rw [nI_1]
      exact ih (p + 1) _ (by omega)
theorem c_lowsAbove (x : Int32) (hn : S 0 5 = nI n) (hn24 : n ≤ 24) : hRun 54 0 [.ref b, .int x, hU, hU] [] (hpS h b S) (some (.int (lowsAboveF S n x))) (hpS h b S) := by
  refine r_step rfl rfl rfl ?_
  refine r_step rfl rfl rfl ?_
  refine r_step rfl rfl rfl ?_
  refine r_step rfl rfl rfl ?_
  exact lowsAbove_loop x hn hn24 n 0 0 (by omega)
theorem c_surelyOftener (t : Int32) (hn : S 0 5 = nI n) (hn24 : n ≤ 24) : hRun 53 0 [.ref b, .int t] [] (hpS h b S) (some (.int (lowsAboveF S n (highF S n t)))) (hpS h b S) := by
  (repeat (first | refine r_fw rfl rfl rfl rfl ?_ | refine rS_get rfl rfl ?_ | refine rS_ild rfl rfl (by first | assumption | omega | (simp only [lS]; omega)) ?_)); try dsimp only
  refine rS_call rfl rfl rfl rfl rfl (c_highOf t hn hn24) ?_
  refine rS_call rfl rfl rfl rfl rfl (c_lowsAbove _ hn hn24) ?_
  exact r_ret rfl rfl rfl rfl
end SRD
