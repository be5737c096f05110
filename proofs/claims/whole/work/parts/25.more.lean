/-! more of what is asked of a summary -/
theorem nI_pm {p : Nat} : nI p + (-1) = nI p - 1 := by rw [Int32.sub_eq_add_neg]
theorem nI_ltp {m p : Nat} (hm : m < 2 ^ 30) (hp : p < 2 ^ 30) : nI m - 1 < nI p ↔ m ≤ p := by
  rw [Int32.lt_iff_toInt_lt, nI_toInt (by omega), show (1 : Int32) = nI 1 from rfl, pk_sub_toInt hm (by omega)]
  omega
section SRE
variable {h : hH} {b : Nat} {S : hT2} {n : Nat}
def bb (S : hT2) (p : Nat) : Int32 := if nI p = 0 then 1 else if S 2 p = S 2 (p - 1) then 0 else 1
theorem c_beginsBucket {p : Nat} (hp : p < 24) : hRun 30 0 [.ref b, .int (nI p)] [] (hpS h b S) (some (.int (bb S p))) (hpS h b S) := by
  (repeat (first | refine r_fw rfl rfl rfl rfl ?_ | refine rS_get rfl rfl ?_ | refine rS_ild rfl rfl (by first | assumption | omega | (simp only [lS]; omega)) ?_)); try dsimp only
  unfold bb
  refine r_brI rfl rfl (fun hc => ?_) (fun hc => ?_)
  · (repeat (first | refine r_fw rfl rfl rfl rfl ?_ | refine rS_get rfl rfl ?_ | refine rS_ild rfl rfl (by first | assumption | omega | (simp only [lS]; omega)) ?_)); try dsimp only
    exact r_ret rfl rfl rfl rfl
  · (repeat (first | refine r_fw rfl rfl rfl rfl ?_ | refine rS_get rfl rfl ?_ | refine rS_ild rfl rfl (by first | assumption | omega | (simp only [lS]; omega)) ?_)); try dsimp only
    have hp0 : 0 < p := by
      rcases Nat.eq_zero_or_pos p with e | e
      · rw [e] at hc; exact absurd nI_0 hc
      · exact e
    rw [show (1 : Int32) = nI 1 from rfl, pk_sub (by omega : 1 ≤ p)]
    (repeat (first | refine r_fw rfl rfl rfl rfl ?_ | refine rS_get rfl rfl ?_ | refine rS_ild rfl rfl (by first | assumption | omega | (simp only [lS]; omega)) ?_)); try dsimp only
    refine r_brI rfl rfl (fun hc => ?_) (fun hc => ?_)
    · (repeat (first | refine r_fw rfl rfl rfl rfl ?_ | refine rS_get rfl rfl ?_ | refine rS_ild rfl rfl (by first | assumption | omega | (simp only [lS]; omega)) ?_)); try dsimp only
      exact r_ret rfl rfl rfl rfl
    · (repeat (first | refine r_fw rfl rfl rfl rfl ?_ | refine rS_get rfl rfl ?_ | refine rS_ild rfl rfl (by first | assumption | omega | (simp only [lS]; omega)) ?_)); try dsimp only
      exact r_ret rfl rfl rfl rfl
def bkF (S : hT2) (m : Nat) : Int32 := fo (fun p a => if bb S p = 0 then a else a + 1) m 0 0
theorem bucketOf_loop {m : Nat} (hm : m ≤ 24) : ∀ d p a, p + d = m → hRun 29 4 [.ref b, .int (nI m - 1), .int a, .int (nI p)] [] (hpS h b S) (some (.int (fo (fun p a => if bb S p = 0 then a else a + 1) d p a - 1))) (hpS h b S) := by
  intro d
  induction d with
  | zero =>
    intro p a hp
    (repeat (first | refine r_fw rfl rfl rfl rfl ?_ | refine rS_get rfl rfl ?_ | refine rS_ild rfl rfl (by first | assumption | omega | (simp only [lS]; omega)) ?_)); try dsimp only
    refine r_brT rfl rfl ?_ ?_
    · exact (nI_ltp (by omega) (by omega)).mpr (by omega)
    (repeat (first | refine r_fw rfl rfl rfl rfl ?_ | refine rS_get rfl rfl ?_ | refine rS_ild rfl rfl (by first | assumption | omega | (simp only [lS]; omega)) ?_)); try dsimp only
    exact r_ret rfl rfl rfl rfl
  | succ d ih =>
    intro p a hp
    (repeat (first | refine r_fw rfl rfl rfl rfl ?_ | refine rS_get rfl rfl ?_ | refine rS_ild rfl rfl (by first | assumption | omega | (simp only [lS]; omega)) ?_)); try dsimp only
    refine r_brF rfl rfl ?_ ?_
    · exact fun w => absurd ((nI_ltp (by omega) (by omega)).mp w) (by omega)
    (repeat (first | refine r_fw rfl rfl rfl rfl ?_ | refine rS_get rfl rfl ?_ | refine rS_ild rfl rfl (by first | assumption | omega | (simp only [lS]; omega)) ?_)); try dsimp only
    refine rS_call rfl rfl rfl rfl rfl (c_beginsBucket (by omega)) ?_
    unfold fo
    refine r_br rfl rfl (fun hc => ?_) (fun hc => ?_)
    · rw [if_pos hc]
      (repeat (first | refine r_fw rfl rfl rfl rfl ?_ | refine rS_get rfl rfl ?_ | refine rS_ild rfl rfl (by first | assumption | omega | (simp only [lS]; omega)) ?_)); try dsimp only
      refine r_step rfl rfl rfl ?_
      rw [nI_1]
      exact ih (p + 1) _ (by omega)
    · rw [if_neg hc]
      (repeat (first | refine r_fw rfl rfl rfl rfl ?_ | refine rS_get rfl rfl ?_ | refine rS_ild rfl rfl (by first | assumption | omega | (simp only [lS]; omega)) ?_)); try dsimp only
      refine r_step rfl rfl rfl ?_
      rw [nI_1]
      exact ih (p + 1) _ (by omega)
theorem c_bucketOf {m : Nat} (hm : m ≤ 24) : hRun 29 0 [.ref b, .int (nI m - 1), hU, hU] [] (hpS h b S) (some (.int (bkF S m - 1))) (hpS h b S) := by
  refine r_step rfl rfl rfl ?_
  refine r_step rfl rfl rfl ?_
  refine r_step rfl rfl rfl ?_
  refine r_step rfl rfl rfl ?_
  exact bucketOf_loop hm m 0 0 (by omega)
theorem c_buckets (hn : S 0 5 = nI n) (hn24 : n ≤ 24) : hRun 28 0 [.ref b] [] (hpS h b S) (some (.int (bkF S n - 1 + 1))) (hpS h b S) := by
  (repeat (first | refine r_fw rfl rfl rfl rfl ?_ | refine rS_get rfl rfl ?_ | refine rS_ild rfl rfl (by first | assumption | omega | (simp only [lS]; omega)) ?_)); try dsimp only
  rw [hn]
  refine rS_call rfl rfl rfl rfl rfl (c_bucketOf hn24) ?_
  (repeat (first | refine r_fw rfl rfl rfl rfl ?_ | refine rS_get rfl rfl ?_ | refine rS_ild rfl rfl (by first | assumption | omega | (simp only [lS]; omega)) ?_)); try dsimp only
  exact r_ret rfl rfl rfl rfl
def trAF (S : hT2) (x : Int32) : Int32 := fo (fun p a => if S 4 p ≤ x then a else a + 1) 1000 0 0
theorem truthsAbove_loop (x : Int32) : ∀ d p a, p + d = 1000 → hRun 31 4 [.ref b, .int x, .int a, .int (nI p)] [] (hpS h b S) (some (.int (fo (fun p a => if S 4 p ≤ x then a else a + 1) d p a))) (hpS h b S) := by
  intro d
  induction d with
  | zero =>
    intro p a hp
    (repeat (first | refine r_fw rfl rfl rfl rfl ?_ | refine rS_get rfl rfl ?_ | refine rS_ild rfl rfl (by first | assumption | omega | (simp only [lS]; omega)) ?_)); try dsimp only
    refine r_brT rfl rfl ?_ ?_
    · exact nI_le (a := 1000) (by omega) (by omega)
    (repeat (first | refine r_fw rfl rfl rfl rfl ?_ | refine rS_get rfl rfl ?_ | refine rS_ild rfl rfl (by first | assumption | omega | (simp only [lS]; omega)) ?_)); try dsimp only
    exact r_ret rfl rfl rfl rfl
  | succ d ih =>
    intro p a hp
    (repeat (first | refine r_fw rfl rfl rfl rfl ?_ | refine rS_get rfl rfl ?_ | refine rS_ild rfl rfl (by first | assumption | omega | (simp only [lS]; omega)) ?_)); try dsimp only
    refine r_brF rfl rfl ?_ ?_
    · exact nle (b := 1000) (by omega) (by omega)
    (repeat (first | refine r_fw rfl rfl rfl rfl ?_ | refine rS_get rfl rfl ?_ | refine rS_ild rfl rfl (by first | assumption | omega | (simp only [lS]; omega)) ?_)); try dsimp only
    unfold fo
    refine r_br rfl rfl (fun hc => ?_) (fun hc => ?_)
    · rw [if_pos hc]
      (repeat (first | refine r_fw rfl rfl rfl rfl ?_ | refine rS_get rfl rfl ?_ | refine rS_ild rfl rfl (by first | assumption | omega | (simp only [lS]; omega)) ?_)); try dsimp only
      refine r_step rfl rfl rfl ?_
      rw [nI_1]
      exact ih (p + 1) _ (by omega)
    · rw [if_neg hc]
      (repeat (first | refine r_fw rfl rfl rfl rfl ?_ | refine rS_get rfl rfl ?_ | refine rS_ild rfl rfl (by first | assumption | omega | (simp only [lS]; omega)) ?_)); try dsimp only
      refine r_step rfl rfl rfl ?_
      rw [nI_1]
      exact ih (p + 1) _ (by omega)
theorem c_truthsAbove (x : Int32) : hRun 31 0 [.ref b, .int x, hU, hU] [] (hpS h b S) (some (.int (trAF S x))) (hpS h b S) := by
  refine r_step rfl rfl rfl ?_
  refine r_step rfl rfl rfl ?_
  refine r_step rfl rfl rfl ?_
  refine r_step rfl rfl rfl ?_
  exact truthsAbove_loop x 1000 0 0 (by omega)
def lwTF (S : hT2) (n : Nat) (m r : Int32) : Int32 := fo (fun p a => if S 1 p - S 1 p / m * m = r then a + S 3 p else a) n 0 0
theorem lowsTogether_loop (m r : Int32) (hm : ¬ m = 0) (hn : S 0 5 = nI n) (hn24 : n ≤ 24) : ∀ d p a, p + d = n → hRun 32 4 [.ref b, .int m, .int r, .int a, .int (nI p)] [] (hpS h b S) (some (.int (fo (fun p a => if S 1 p - S 1 p / m * m = r then a + S 3 p else a) d p a))) (hpS h b S) := by
  intro d
  induction d with
  | zero =>
    intro p a hp
    (repeat (first | refine r_fw rfl rfl rfl rfl ?_ | refine rS_get rfl rfl ?_ | refine rS_ild rfl rfl (by first | assumption | omega | (simp only [lS]; omega)) ?_)); try dsimp only
    rw [hn]
    refine r_brT rfl rfl ?_ ?_
    · exact nI_le (by omega) (by omega)
    (repeat (first | refine r_fw rfl rfl rfl rfl ?_ | refine rS_get rfl rfl ?_ | refine rS_ild rfl rfl (by first | assumption | omega | (simp only [lS]; omega)) ?_)); try dsimp only
    exact r_ret rfl rfl rfl rfl
  | succ d ih =>
    intro p a hp
    (repeat (first | refine r_fw rfl rfl rfl rfl ?_ | refine rS_get rfl rfl ?_ | refine rS_ild rfl rfl (by first | assumption | omega | (simp only [lS]; omega)) ?_)); try dsimp only
    rw [hn]
    refine r_brF rfl rfl ?_ ?_
    · exact nle (by omega) (by omega)
    (repeat (first | refine r_fw rfl rfl rfl rfl ?_ | refine rS_get rfl rfl ?_ | refine rS_ild rfl rfl (by first | assumption | omega | (simp only [lS]; omega)) ?_)); try dsimp only
    refine r_fw rfl rfl rfl (if_neg hm) ?_
    (repeat (first | refine r_fw rfl rfl rfl rfl ?_ | refine rS_get rfl rfl ?_ | refine rS_ild rfl rfl (by first | assumption | omega | (simp only [lS]; omega)) ?_)); try dsimp only
    unfold fo
    refine r_br rfl rfl (fun hc => ?_) (fun hc => ?_)
    · rw [if_pos hc]
      (repeat (first | refine r_fw rfl rfl rfl rfl ?_ | refine rS_get rfl rfl ?_ | refine rS_ild rfl rfl (by first | assumption | omega | (simp only [lS]; omega)) ?_)); try dsimp only
      refine r_step rfl rfl rfl ?_
      rw [nI_1]
      exact ih (p + 1) _ (by omega)
    · rw [if_neg hc]
      (repeat (first | refine r_fw rfl rfl rfl rfl ?_ | refine rS_get rfl rfl ?_ | refine rS_ild rfl rfl (by first | assumption | omega | (simp only [lS]; omega)) ?_)); try dsimp only
      refine r_step rfl rfl rfl ?_
      rw [nI_1]
      exact ih (p + 1) _ (by omega)
theorem c_lowsTogether (m r : Int32) (hm : ¬ m = 0) (hn : S 0 5 = nI n) (hn24 : n ≤ 24) : hRun 32 0 [.ref b, .int m, .int r, hU, hU] [] (hpS h b S) (some (.int (lwTF S n m r))) (hpS h b S) := by
  refine r_step rfl rfl rfl ?_
  refine r_step rfl rfl rfl ?_
  refine r_step rfl rfl rfl ?_
  refine r_step rfl rfl rfl ?_
  exact lowsTogether_loop m r hm hn hn24 n 0 0 (by omega)
def bhF (S : hT2) (x : Int32) : Nat → Nat
  | 0 => 0
  | a + 1 => if S 2 a ≤ x then a + 1 else bhF S x a
theorem bhF_le (S : hT2) (x : Int32) : ∀ a, bhF S x a ≤ a
  | 0 => Nat.le_refl 0
  | a + 1 => by
    have := bhF_le S x a
    unfold bhF
    split <;> omega
theorem behindCount_loop (x : Int32) : ∀ a, a ≤ 24 → hRun 40 3 [.ref b, .int x, .int (nI a)] [] (hpS h b S) (some (.int (nI (bhF S x a)))) (hpS h b S) := by
  intro a
  induction a with
  | zero =>
    intro ha
    (repeat (first | refine r_fw rfl rfl rfl rfl ?_ | refine rS_get rfl rfl ?_ | refine rS_ild rfl rfl (by first | assumption | omega | (simp only [lS]; omega)) ?_)); try dsimp only
    refine r_brT rfl rfl ?_ ?_
    · decide
    (repeat (first | refine r_fw rfl rfl rfl rfl ?_ | refine rS_get rfl rfl ?_ | refine rS_ild rfl rfl (by first | assumption | omega | (simp only [lS]; omega)) ?_)); try dsimp only
    exact r_ret rfl rfl rfl rfl
  | succ a ih =>
    intro ha
    (repeat (first | refine r_fw rfl rfl rfl rfl ?_ | refine rS_get rfl rfl ?_ | refine rS_ild rfl rfl (by first | assumption | omega | (simp only [lS]; omega)) ?_)); try dsimp only
    refine r_brF rfl rfl ?_ ?_
    · exact nI_nle (by omega) (by omega)
    (repeat (first | refine r_fw rfl rfl rfl rfl ?_ | refine rS_get rfl rfl ?_ | refine rS_ild rfl rfl (by first | assumption | omega | (simp only [lS]; omega)) ?_)); try dsimp only
    rw [nI_pred]
    (repeat (first | refine r_fw rfl rfl rfl rfl ?_ | refine rS_get rfl rfl ?_ | refine rS_ild rfl rfl (by first | assumption | omega | (simp only [lS]; omega)) ?_)); try dsimp only
    unfold bhF
    refine r_br rfl rfl (fun hc => ?_) (fun hc => ?_)
    · rw [if_pos hc]
      (repeat (first | refine r_fw rfl rfl rfl rfl ?_ | refine rS_get rfl rfl ?_ | refine rS_ild rfl rfl (by first | assumption | omega | (simp only [lS]; omega)) ?_)); try dsimp only
      exact r_ret rfl rfl rfl rfl
    · rw [if_neg hc]
      (repeat (first | refine r_fw rfl rfl rfl rfl ?_ | refine rS_get rfl rfl ?_ | refine rS_ild rfl rfl (by first | assumption | omega | (simp only [lS]; omega)) ?_)); try dsimp only
      refine r_step rfl rfl rfl ?_
      rw [pk_m1]
      exact ih (by omega)
theorem c_behindCount (x : Int32) (hn : S 0 5 = nI n) (hn24 : n ≤ 24) : hRun 40 0 [.ref b, .int x, hU] [] (hpS h b S) (some (.int (nI (bhF S x n)))) (hpS h b S) := by
  refine r_fw rfl rfl rfl rfl ?_
  refine rS_get rfl rfl ?_
  rw [hn]
  refine r_step rfl rfl rfl ?_
  exact behindCount_loop x n hn24
end SRE
