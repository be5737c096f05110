/-! LOOPS ON PAPER as functions -/
def fnF (f : Nat → Int32) (t : Int32) : Nat → Nat → Int32
  | 0, _ => -1
  | d + 1, p => if f p = t then nI p else fnF f t d (p + 1)
theorem nle {a b : Nat} (h : a < b) (hb : b < 2 ^ 31) : ¬ nI b ≤ nI a := nI_ge h hb
theorem find_loop {h : hH} {b : Nat} {S : hT2} {t : Int32} {n : Nat} (hn : S 0 5 = nI n) (hn24 : n ≤ 24) : ∀ d p, p + d = n → hRun 36 2 [.ref b, .int t, .int (nI p)] [] (hpS h b S) (some (.int (fnF (S 1) t d p))) (hpS h b S) := by
  intro d
  induction d with
  | zero =>
    intro p hp
    (repeat (first | refine r_fw rfl rfl rfl rfl ?_ | refine rS_get rfl rfl ?_ | refine rS_ild rfl rfl (by first | assumption | omega | (simp only [lS]; omega)) ?_)); try dsimp only
    rw [hn]
    refine r_brT rfl rfl ?_ ?_
    · exact nI_le (by omega) (by omega)
    (repeat (first | refine r_fw rfl rfl rfl rfl ?_ | refine rS_get rfl rfl ?_ | refine rS_ild rfl rfl (by first | assumption | omega | (simp only [lS]; omega)) ?_)); try dsimp only
    exact r_ret rfl rfl rfl rfl
  | succ d ih =>
    intro p hp
    (repeat (first | refine r_fw rfl rfl rfl rfl ?_ | refine rS_get rfl rfl ?_ | refine rS_ild rfl rfl (by first | assumption | omega | (simp only [lS]; omega)) ?_)); try dsimp only
    rw [hn]
    refine r_brF rfl rfl ?_ ?_
    · exact nle (by omega) (by omega)
    (repeat (first | refine r_fw rfl rfl rfl rfl ?_ | refine rS_get rfl rfl ?_ | refine rS_ild rfl rfl (by first | assumption | omega | (simp only [lS]; omega)) ?_)); try dsimp only
    unfold fnF
    refine r_br rfl rfl (fun hc => ?_) (fun hc => ?_)
    · rw [if_pos hc]
      (repeat (first | refine r_fw rfl rfl rfl rfl ?_ | refine rS_get rfl rfl ?_ | refine rS_ild rfl rfl (by first | assumption | omega | (simp only [lS]; omega)) ?_)); try dsimp only
      exact r_ret rfl rfl rfl rfl
    · rw [if_neg hc]
      (repeat (first | refine r_fw rfl rfl rfl rfl ?_ | refine rS_get rfl rfl ?_ | refine rS_ild rfl rfl (by first | assumption | omega | (simp only [lS]; omega)) ?_)); try dsimp only
      refine r_step rfl rfl rfl ?_
      rw [nI_1]
      exact ih (p + 1) (by omega)
theorem c_find {h : hH} {b : Nat} {S : hT2} {n : Nat} (t : Int32) (hn : S 0 5 = nI n) (hn24 : n ≤ 24) : hRun 36 0 [.ref b, .int t, hU] [] (hpS h b S) (some (.int (fnF (S 1) t n 0))) (hpS h b S) := by
  refine r_step rfl rfl rfl ?_
  refine r_step rfl rfl rfl ?_
  exact find_loop hn hn24 n 0 (by omega)
