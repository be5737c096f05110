/-! the rest of what is asked of a summary -/
section SRF
variable {h : hH} {b : Nat} {S : hT2} {n : Nat}
def fbF (S : hT2) (k : Int32) : Nat → Nat → Int32 → Int32
  | 0, _, _ => -1
  | d + 1, p, a => if bb S p = 0 then fbF S k d (p + 1) a else if a = k then nI p else fbF S k d (p + 1) (a + 1)
theorem firstOfBucket_loop (x : Int32) (hn : S 0 5 = nI n) (hn24 : n ≤ 24) : ∀ d p a, p + d = n → hRun 51 4 [.ref b, .int x, .int a, .int (nI p)] [] (hpS h b S) (some (.int (fbF S x d p a))) (hpS h b S) := by
  intro d
  induction d with
  | zero =>
    intro p a hp
    (repeat (first | refine r_fw rfl rfl rfl rfl ?_ | refine rS_get rfl rfl ?_ | refine rS_ild rfl rfl (by first | assumption | omega | (simp only [lS]; omega)) ?_)); try dsimp only
    rw [hn]
    refine r_brT rfl rfl ?_ ?_
    · exact nI_le (by omega) (by omega)
    (repeat (first | refine r_fw rfl rfl rfl rfl ?_ | refine rS_get rfl rfl ?_ | refine rS_ild rfl rfl (by first | assumption | omega | (simp only [lS]; omega)) ?_)); try dsimp only
    exact r_ret rfl rfl rfl rfl
  | succ d ih =>
    intro p a hp
    (repeat (first | refine r_fw rfl rfl rfl rfl ?_ | refine rS_get rfl rfl ?_ | refine rS_ild rfl rfl (by first | assumption | omega | (simp only [lS]; omega)) ?_)); try dsimp only
    rw [hn]
    refine r_brF rfl rfl ?_ ?_
    · exact nle (by omega) (by omega)
    (repeat (first | refine r_fw rfl rfl rfl rfl ?_ | refine rS_get rfl rfl ?_ | refine rS_ild rfl rfl (by first | assumption | omega | (simp only [lS]; omega)) ?_)); try dsimp only
    refine rS_call rfl rfl rfl rfl rfl (c_beginsBucket (by omega)) ?_
    unfold fbF
    refine r_brI rfl rfl (fun hc => ?_) (fun hc => ?_)
    · (repeat (first | refine r_fw rfl rfl rfl rfl ?_ | refine rS_get rfl rfl ?_ | refine rS_ild rfl rfl (by first | assumption | omega | (simp only [lS]; omega)) ?_)); try dsimp only
      refine r_step rfl rfl rfl ?_
      rw [nI_1]
      exact ih (p + 1) _ (by omega)
    · (repeat (first | refine r_fw rfl rfl rfl rfl ?_ | refine rS_get rfl rfl ?_ | refine rS_ild rfl rfl (by first | assumption | omega | (simp only [lS]; omega)) ?_)); try dsimp only
      refine r_brI rfl rfl (fun hc => ?_) (fun hc => ?_)
      · (repeat (first | refine r_fw rfl rfl rfl rfl ?_ | refine rS_get rfl rfl ?_ | refine rS_ild rfl rfl (by first | assumption | omega | (simp only [lS]; omega)) ?_)); try dsimp only
        exact r_ret rfl rfl rfl rfl
      · (repeat (first | refine r_fw rfl rfl rfl rfl ?_ | refine rS_get rfl rfl ?_ | refine rS_ild rfl rfl (by first | assumption | omega | (simp only [lS]; omega)) ?_)); try dsimp only
        refine r_step rfl rfl rfl ?_
        rw [nI_1]
        exact ih (p + 1) _ (by omega)
theorem c_firstOfBucket (x : Int32) (hn : S 0 5 = nI n) (hn24 : n ≤ 24) : hRun 51 0 [.ref b, .int x, hU, hU] [] (hpS h b S) (some (.int (fbF S x n 0 0))) (hpS h b S) := by
  refine r_step rfl rfl rfl ?_
  refine r_step rfl rfl rfl ?_
  refine r_step rfl rfl rfl ?_
  refine r_step rfl rfl rfl ?_
  exact firstOfBucket_loop x hn hn24 n 0 0 (by omega)
/-- how many stand ahead by FALL -/
def faF (S : hT2) (n : Nat) (c t : Int32) : Int32 := fo (fun p a => if c < S 2 p then a + 1 else if S 2 p = c then (if t ≤ S 1 p then a else a + 1) else a) n 0 0
theorem fallPlace_loop (t : Int32) {q : Nat} (hq : q < 24) (hn : S 0 5 = nI n) (hn24 : n ≤ 24) : ∀ d p a, p + d = n → hRun 52 13 [.ref b, .int t, .int (nI q), .int a, .int (nI p)] [] (hpS h b S) (some (.int (fo (fun p a => if S 2 q < S 2 p then a + 1 else if S 2 p = S 2 q then (if t ≤ S 1 p then a else a + 1) else a) d p a))) (hpS h b S) := by
  intro d
  induction d with
  | zero =>
    intro p a hp
    (repeat (first | refine r_fw rfl rfl rfl rfl ?_ | refine rS_get rfl rfl ?_ | refine rS_ild rfl rfl (by first | assumption | omega | (simp only [lS]; omega)) ?_)); try dsimp only
    rw [hn]
    refine r_brT rfl rfl ?_ ?_
    · exact nI_le (by omega) (by omega)
    (repeat (first | refine r_fw rfl rfl rfl rfl ?_ | refine rS_get rfl rfl ?_ | refine rS_ild rfl rfl (by first | assumption | omega | (simp only [lS]; omega)) ?_)); try dsimp only
    exact r_ret rfl rfl rfl rfl
  | succ d ih =>
    intro p a hp
    (repeat (first | refine r_fw rfl rfl rfl rfl ?_ | refine rS_get rfl rfl ?_ | refine rS_ild rfl rfl (by first | assumption | omega | (simp only [lS]; omega)) ?_)); try dsimp only
    rw [hn]
    refine r_brF rfl rfl ?_ ?_
    · exact nle (by omega) (by omega)
    (repeat (first | refine r_fw rfl rfl rfl rfl ?_ | refine rS_get rfl rfl ?_ | refine rS_ild rfl rfl (by first | assumption | omega | (simp only [lS]; omega)) ?_)); try dsimp only
    unfold fo
    refine r_br rfl rfl (fun hc => ?_) (fun hc => ?_)
    · rw [if_pos hc]
      (repeat (first | refine r_fw rfl rfl rfl rfl ?_ | refine rS_get rfl rfl ?_ | refine rS_ild rfl rfl (by first | assumption | omega | (simp only [lS]; omega)) ?_)); try dsimp only
      refine r_step rfl rfl rfl ?_
      rw [nI_1]
      exact ih (p + 1) _ (by omega)
    · rw [if_neg hc]
      (repeat (first | refine r_fw rfl rfl rfl rfl ?_ | refine rS_get rfl rfl ?_ | refine rS_ild rfl rfl (by first | assumption | omega | (simp only [lS]; omega)) ?_)); try dsimp only
      refine r_br rfl rfl (fun hc => ?_) (fun hc => ?_)
      · rw [if_pos hc]
        (repeat (first | refine r_fw rfl rfl rfl rfl ?_ | refine rS_get rfl rfl ?_ | refine rS_ild rfl rfl (by first | assumption | omega | (simp only [lS]; omega)) ?_)); try dsimp only
        refine r_br rfl rfl (fun hc => ?_) (fun hc => ?_)
        · rw [if_pos hc]
          (repeat (first | refine r_fw rfl rfl rfl rfl ?_ | refine rS_get rfl rfl ?_ | refine rS_ild rfl rfl (by first | assumption | omega | (simp only [lS]; omega)) ?_)); try dsimp only
          refine r_step rfl rfl rfl ?_
          rw [nI_1]
          exact ih (p + 1) _ (by omega)
        · rw [if_neg hc]
          (repeat (first | refine r_fw rfl rfl rfl rfl ?_ | refine rS_get rfl rfl ?_ | refine rS_ild rfl rfl (by first | assumption | omega | (simp only [lS]; omega)) ?_)); try dsimp only
          refine r_step rfl rfl rfl ?_
          rw [nI_1]
          exact ih (p + 1) _ (by omega)
      · rw [if_neg hc]
        (repeat (first | refine r_fw rfl rfl rfl rfl ?_ | refine rS_get rfl rfl ?_ | refine rS_ild rfl rfl (by first | assumption | omega | (simp only [lS]; omega)) ?_)); try dsimp only
        refine r_step rfl rfl rfl ?_
        rw [nI_1]
        exact ih (p + 1) _ (by omega)
def fpF (S : hT2) (n : Nat) (t : Int32) : Int32 := if fnF (S 1) t n 0 = -1 then -1 else faF S n (S 2 (fnF (S 1) t n 0).toNatClampNeg) t
theorem c_fallPlace (t : Int32) (hn : S 0 5 = nI n) (hn24 : n ≤ 24) : hRun 52 0 [.ref b, .int t, hU, hU, hU] [] (hpS h b S) (some (.int (fpF S n t))) (hpS h b S) := by
  (repeat (first | refine r_fw rfl rfl rfl rfl ?_ | refine rS_get rfl rfl ?_ | refine rS_ild rfl rfl (by first | assumption | omega | (simp only [lS]; omega)) ?_)); try dsimp only
  refine rS_call rfl rfl rfl rfl rfl (c_find t hn hn24) ?_
  (repeat (first | refine r_fw rfl rfl rfl rfl ?_ | refine rS_get rfl rfl ?_ | refine rS_ild rfl rfl (by first | assumption | omega | (simp only [lS]; omega)) ?_)); try dsimp only
  unfold fpF
  refine r_brI rfl rfl (fun hc => ?_) (fun hc => ?_)
  · (repeat (first | refine r_fw rfl rfl rfl rfl ?_ | refine rS_get rfl rfl ?_ | refine rS_ild rfl rfl (by first | assumption | omega | (simp only [lS]; omega)) ?_)); try dsimp only
    exact r_ret rfl rfl rfl rfl
  · rcases fnF_or (S 1) t n 0 with ⟨h1, -⟩ | ⟨q, -, hq, h3, -⟩
    · exact absurd h1 hc
    · rw [h3, nI_clamp (by omega)]
      refine r_step rfl rfl rfl ?_
      refine r_step rfl rfl rfl ?_
      refine r_step rfl rfl rfl ?_
      refine r_step rfl rfl rfl ?_
      exact fallPlace_loop t (by omega) hn hn24 n 0 0 (by omega)
theorem c_isInTop (t k : Int32) (hn : S 0 5 = nI n) (hn24 : n ≤ 24) : hRun 60 0 [.ref b, .int t, .int k, hU] [] (hpS h b S) (some (.int (if fpF S n t = -1 then 0 else if k ≤ fpF S n t then 0 else 1))) (hpS h b S) := by
  (repeat (first | refine r_fw rfl rfl rfl rfl ?_ | refine rS_get rfl rfl ?_ | refine rS_ild rfl rfl (by first | assumption | omega | (simp only [lS]; omega)) ?_)); try dsimp only
  refine rS_call rfl rfl rfl rfl rfl (c_fallPlace t hn hn24) ?_
  (repeat (first | refine r_fw rfl rfl rfl rfl ?_ | refine rS_get rfl rfl ?_ | refine rS_ild rfl rfl (by first | assumption | omega | (simp only [lS]; omega)) ?_)); try dsimp only
  refine r_brI rfl rfl (fun hc => ?_) (fun hc => ?_)
  · (repeat (first | refine r_fw rfl rfl rfl rfl ?_ | refine rS_get rfl rfl ?_ | refine rS_ild rfl rfl (by first | assumption | omega | (simp only [lS]; omega)) ?_)); try dsimp only
    exact r_ret rfl rfl rfl rfl
  · (repeat (first | refine r_fw rfl rfl rfl rfl ?_ | refine rS_get rfl rfl ?_ | refine rS_ild rfl rfl (by first | assumption | omega | (simp only [lS]; omega)) ?_)); try dsimp only
    refine r_brI rfl rfl (fun hc => ?_) (fun hc => ?_)
    · (repeat (first | refine r_fw rfl rfl rfl rfl ?_ | refine rS_get rfl rfl ?_ | refine rS_ild rfl rfl (by first | assumption | omega | (simp only [lS]; omega)) ?_)); try dsimp only
      exact r_ret rfl rfl rfl rfl
    · (repeat (first | refine r_fw rfl rfl rfl rfl ?_ | refine rS_get rfl rfl ?_ | refine rS_ild rfl rfl (by first | assumption | omega | (simp only [lS]; omega)) ?_)); try dsimp only
      exact r_ret rfl rfl rfl rfl
def otF (S : hT2) (n : Nat) (t x : Int32) : Int32 := fo (fun p a => if S 1 p = t then a else if S 2 p < x then a else a + 1) n 0 0
theorem othersFrom_loop {t x r : Int32} (hn : S 0 5 = nI n) (hn24 : n ≤ 24) (K : hRun 56 23 [.ref b, .int t, .int x, .int (otF S n t x), .int (nI n)] [] (hpS h b S) (some (.int r)) (hpS h b S)) : ∀ d p a, p + d = n → fo (fun p a => if S 1 p = t then a else if S 2 p < x then a else a + 1) d p a = otF S n t x → hRun 56 4 [.ref b, .int t, .int x, .int a, .int (nI p)] [] (hpS h b S) (some (.int r)) (hpS h b S) := by
  intro d
  induction d with
  | zero =>
    intro p a hp ha
    (repeat (first | refine r_fw rfl rfl rfl rfl ?_ | refine rS_get rfl rfl ?_ | refine rS_ild rfl rfl (by first | assumption | omega | (simp only [lS]; omega)) ?_)); try dsimp only
    rw [hn]
    refine r_brT rfl rfl ?_ ?_
    · exact nI_le (by omega) (by omega)
    rw [show p = n by omega, show a = otF S n t x from ha]
    exact K
  | succ d ih =>
    intro p a hp ha
    (repeat (first | refine r_fw rfl rfl rfl rfl ?_ | refine rS_get rfl rfl ?_ | refine rS_ild rfl rfl (by first | assumption | omega | (simp only [lS]; omega)) ?_)); try dsimp only
    rw [hn]
    refine r_brF rfl rfl ?_ ?_
    · exact nle (by omega) (by omega)
    (repeat (first | refine r_fw rfl rfl rfl rfl ?_ | refine rS_get rfl rfl ?_ | refine rS_ild rfl rfl (by first | assumption | omega | (simp only [lS]; omega)) ?_)); try dsimp only
    unfold fo at ha
    refine r_br rfl rfl (fun hc => ?_) (fun hc => ?_)
    · rw [if_pos hc] at ha
      (repeat (first | refine r_fw rfl rfl rfl rfl ?_ | refine rS_get rfl rfl ?_ | refine rS_ild rfl rfl (by first | assumption | omega | (simp only [lS]; omega)) ?_)); try dsimp only
      refine r_step rfl rfl rfl ?_
      rw [nI_1]
      exact ih (p + 1) _ (by omega) ha
    · rw [if_neg hc] at ha
      (repeat (first | refine r_fw rfl rfl rfl rfl ?_ | refine rS_get rfl rfl ?_ | refine rS_ild rfl rfl (by first | assumption | omega | (simp only [lS]; omega)) ?_)); try dsimp only
      refine r_br rfl rfl (fun hc => ?_) (fun hc => ?_)
      · rw [if_pos hc] at ha
        (repeat (first | refine r_fw rfl rfl rfl rfl ?_ | refine rS_get rfl rfl ?_ | refine rS_ild rfl rfl (by first | assumption | omega | (simp only [lS]; omega)) ?_)); try dsimp only
        refine r_step rfl rfl rfl ?_
        rw [nI_1]
        exact ih (p + 1) _ (by omega) ha
      · rw [if_neg hc] at ha
        (repeat (first | refine r_fw rfl rfl rfl rfl ?_ | refine rS_get rfl rfl ?_ | refine rS_ild rfl rfl (by first | assumption | omega | (simp only [lS]; omega)) ?_)); try dsimp only
        refine r_step rfl rfl rfl ?_
        rw [nI_1]
        exact ih (p + 1) _ (by omega) ha
def ofF (S : hT2) (n : Nat) (t x : Int32) : Int32 := if S 0 3 < x then otF S n t x else otF S n t x + (1000 - nI n - (if fnF (S 1) t n 0 = -1 then 1 else 0))
theorem c_othersFrom (t x : Int32) (hn : S 0 5 = nI n) (hn24 : n ≤ 24) : hRun 56 0 [.ref b, .int t, .int x, hU, hU] [] (hpS h b S) (some (.int (ofF S n t x))) (hpS h b S) := by
  refine r_step rfl rfl rfl ?_
  refine r_step rfl rfl rfl ?_
  refine r_step rfl rfl rfl ?_
  refine r_step rfl rfl rfl ?_
  refine othersFrom_loop hn hn24 ?_ n 0 0 (by omega) rfl
  (repeat (first | refine r_fw rfl rfl rfl rfl ?_ | refine rS_get rfl rfl ?_ | refine rS_ild rfl rfl (by first | assumption | omega | (simp only [lS]; omega)) ?_)); try dsimp only
  unfold ofF
  refine r_brI rfl rfl (fun hc => ?_) (fun hc => ?_)
  · (repeat (first | refine r_fw rfl rfl rfl rfl ?_ | refine rS_get rfl rfl ?_ | refine rS_ild rfl rfl (by first | assumption | omega | (simp only [lS]; omega)) ?_)); try dsimp only
    exact r_ret rfl rfl rfl rfl
  · (repeat (first | refine r_fw rfl rfl rfl rfl ?_ | refine rS_get rfl rfl ?_ | refine rS_ild rfl rfl (by first | assumption | omega | (simp only [lS]; omega)) ?_)); try dsimp only
    rw [hn]
    (repeat (first | refine r_fw rfl rfl rfl rfl ?_ | refine rS_get rfl rfl ?_ | refine rS_ild rfl rfl (by first | assumption | omega | (simp only [lS]; omega)) ?_)); try dsimp only
    refine rS_call rfl rfl rfl rfl rfl (c_find t hn hn24) ?_
    (repeat (first | refine r_fw rfl rfl rfl rfl ?_ | refine rS_get rfl rfl ?_ | refine rS_ild rfl rfl (by first | assumption | omega | (simp only [lS]; omega)) ?_)); try dsimp only
    refine r_br rfl rfl (fun hc => ?_) (fun hc => ?_)
    · rw [if_pos hc]
      (repeat (first | refine r_fw rfl rfl rfl rfl ?_ | refine rS_get rfl rfl ?_ | refine rS_ild rfl rfl (by first | assumption | omega | (simp only [lS]; omega)) ?_)); try dsimp only
      exact r_ret rfl rfl rfl rfl
    · rw [if_neg hc]
      (repeat (first | refine r_fw rfl rfl rfl rfl ?_ | refine rS_get rfl rfl ?_ | refine rS_ild rfl rfl (by first | assumption | omega | (simp only [lS]; omega)) ?_)); try dsimp only
      exact r_ret rfl rfl rfl rfl
theorem c_asOftenPerhaps (t : Int32) (hn : S 0 5 = nI n) (hn24 : n ≤ 24) : hRun 55 0 [.ref b, .int t] [] (hpS h b S) (some (.int (ofF S n t (lowF S n t)))) (hpS h b S) := by
  (repeat (first | refine r_fw rfl rfl rfl rfl ?_ | refine rS_get rfl rfl ?_ | refine rS_ild rfl rfl (by first | assumption | omega | (simp only [lS]; omega)) ?_)); try dsimp only
  refine rS_call rfl rfl rfl rfl rfl (c_lowOf t hn hn24) ?_
  refine rS_call rfl rfl rfl rfl rfl (c_othersFrom _ _ hn hn24) ?_
  exact r_ret rfl rfl rfl rfl
theorem c_oftenerPerhaps (t : Int32) (hn : S 0 5 = nI n) (hn24 : n ≤ 24) : hRun 61 0 [.ref b, .int t] [] (hpS h b S) (some (.int (ofF S n t (lowF S n t + 1)))) (hpS h b S) := by
  (repeat (first | refine r_fw rfl rfl rfl rfl ?_ | refine rS_get rfl rfl ?_ | refine rS_ild rfl rfl (by first | assumption | omega | (simp only [lS]; omega)) ?_)); try dsimp only
  refine rS_call rfl rfl rfl rfl rfl (c_lowOf t hn hn24) ?_
  (repeat (first | refine r_fw rfl rfl rfl rfl ?_ | refine rS_get rfl rfl ?_ | refine rS_ild rfl rfl (by first | assumption | omega | (simp only [lS]; omega)) ?_)); try dsimp only
  refine rS_call rfl rfl rfl rfl rfl (c_othersFrom _ _ hn hn24) ?_
  exact r_ret rfl rfl rfl rfl
def coF (S : hT2) (n : Nat) (m r : Int32) : Int32 := fo (fun p a => if S 1 p - S 1 p / m * m = r then a + 1 else a) n 0 0
theorem countersOf_loop (m r : Int32) (hm : ¬ m = 0) (hn : S 0 5 = nI n) (hn24 : n ≤ 24) : ∀ d p a, p + d = n → hRun 57 4 [.ref b, .int m, .int r, .int a, .int (nI p)] [] (hpS h b S) (some (.int (fo (fun p a => if S 1 p - S 1 p / m * m = r then a + 1 else a) d p a))) (hpS h b S) := by
  intro d
  induction d with
  | zero =>
    intro p a hp
    (repeat (first | refine r_fw rfl rfl rfl rfl ?_ | refine rS_get rfl rfl ?_ | refine rS_ild rfl rfl (by first | assumption | omega | (simp only [lS]; omega)) ?_)); try dsimp only
    rw [hn]
    refine r_brT rfl rfl ?_ ?_
    · exact nI_le (by omega) (by omega)
    (repeat (first | refine r_fw rfl rfl rfl rfl ?_ | refine rS_get rfl rfl ?_ | refine rS_ild rfl rfl (by first | assumption | omega | (simp only [lS]; omega)) ?_)); try dsimp only
    exact r_ret rfl rfl rfl rfl
  | succ d ih =>
    intro p a hp
    (repeat (first | refine r_fw rfl rfl rfl rfl ?_ | refine rS_get rfl rfl ?_ | refine rS_ild rfl rfl (by first | assumption | omega | (simp only [lS]; omega)) ?_)); try dsimp only
    rw [hn]
    refine r_brF rfl rfl ?_ ?_
    · exact nle (by omega) (by omega)
    (repeat (first | refine r_fw rfl rfl rfl rfl ?_ | refine rS_get rfl rfl ?_ | refine rS_ild rfl rfl (by first | assumption | omega | (simp only [lS]; omega)) ?_)); try dsimp only
    refine r_fw rfl rfl rfl (if_neg hm) ?_
    (repeat (first | refine r_fw rfl rfl rfl rfl ?_ | refine rS_get rfl rfl ?_ | refine rS_ild rfl rfl (by first | assumption | omega | (simp only [lS]; omega)) ?_)); try dsimp only
    unfold fo
    refine r_br rfl rfl (fun hc => ?_) (fun hc => ?_)
    · rw [if_pos hc]
      (repeat (first | refine r_fw rfl rfl rfl rfl ?_ | refine rS_get rfl rfl ?_ | refine rS_ild rfl rfl (by first | assumption | omega | (simp only [lS]; omega)) ?_)); try dsimp only
      refine r_step rfl rfl rfl ?_
      rw [nI_1]
      exact ih (p + 1) _ (by omega)
    · rw [if_neg hc]
      (repeat (first | refine r_fw rfl rfl rfl rfl ?_ | refine rS_get rfl rfl ?_ | refine rS_ild rfl rfl (by first | assumption | omega | (simp only [lS]; omega)) ?_)); try dsimp only
      refine r_step rfl rfl rfl ?_
      rw [nI_1]
      exact ih (p + 1) _ (by omega)
theorem c_countersOf (m r : Int32) (hm : ¬ m = 0) (hn : S 0 5 = nI n) (hn24 : n ≤ 24) : hRun 57 0 [.ref b, .int m, .int r, hU, hU] [] (hpS h b S) (some (.int (coF S n m r))) (hpS h b S) := by
  refine r_step rfl rfl rfl ?_
  refine r_step rfl rfl rfl ?_
  refine r_step rfl rfl rfl ?_
  refine r_step rfl rfl rfl ?_
  exact countersOf_loop m r hm hn hn24 n 0 0 (by omega)
theorem c_isBetween {p : Nat} (f w : Int32) (hp : p < 24) : hRun 68 0 [.ref b, .int (nI p), .int f, .int w] [] (hpS h b S) (some (.int (if S 1 p < f then 0 else if f + w ≤ S 1 p then 0 else 1))) (hpS h b S) := by
  (repeat (first | refine r_fw rfl rfl rfl rfl ?_ | refine rS_get rfl rfl ?_ | refine rS_ild rfl rfl (by first | assumption | omega | (simp only [lS]; omega)) ?_)); try dsimp only
  refine r_brI rfl rfl (fun hc => ?_) (fun hc => ?_)
  · (repeat (first | refine r_fw rfl rfl rfl rfl ?_ | refine rS_get rfl rfl ?_ | refine rS_ild rfl rfl (by first | assumption | omega | (simp only [lS]; omega)) ?_)); try dsimp only
    exact r_ret rfl rfl rfl rfl
  · (repeat (first | refine r_fw rfl rfl rfl rfl ?_ | refine rS_get rfl rfl ?_ | refine rS_ild rfl rfl (by first | assumption | omega | (simp only [lS]; omega)) ?_)); try dsimp only
    refine r_brI rfl rfl (fun hc => ?_) (fun hc => ?_)
    · (repeat (first | refine r_fw rfl rfl rfl rfl ?_ | refine rS_get rfl rfl ?_ | refine rS_ild rfl rfl (by first | assumption | omega | (simp only [lS]; omega)) ?_)); try dsimp only
      exact r_ret rfl rfl rfl rfl
    · (repeat (first | refine r_fw rfl rfl rfl rfl ?_ | refine rS_get rfl rfl ?_ | refine rS_ild rfl rfl (by first | assumption | omega | (simp only [lS]; omega)) ?_)); try dsimp only
      exact r_ret rfl rfl rfl rfl
def beF (S : hT2) (f w : Int32) (p : Nat) : Int32 := if S 1 p < f then 0 else if f + w ≤ S 1 p then 0 else 1
theorem lowsBetween_loop (f w : Int32) (hn : S 0 5 = nI n) (hn24 : n ≤ 24) : ∀ d p a, p + d = n → hRun 67 4 [.ref b, .int f, .int w, .int a, .int (nI p)] [] (hpS h b S) (some (.int (fo (fun p a => if beF S f w p = 0 then a else a + S 3 p) d p a))) (hpS h b S) := by
  intro d
  induction d with
  | zero =>
    intro p a hp
    (repeat (first | refine r_fw rfl rfl rfl rfl ?_ | refine rS_get rfl rfl ?_ | refine rS_ild rfl rfl (by first | assumption | omega | (simp only [lS]; omega)) ?_)); try dsimp only
    rw [hn]
    refine r_brT rfl rfl ?_ ?_
    · exact nI_le (by omega) (by omega)
    (repeat (first | refine r_fw rfl rfl rfl rfl ?_ | refine rS_get rfl rfl ?_ | refine rS_ild rfl rfl (by first | assumption | omega | (simp only [lS]; omega)) ?_)); try dsimp only
    exact r_ret rfl rfl rfl rfl
  | succ d ih =>
    intro p a hp
    (repeat (first | refine r_fw rfl rfl rfl rfl ?_ | refine rS_get rfl rfl ?_ | refine rS_ild rfl rfl (by first | assumption | omega | (simp only [lS]; omega)) ?_)); try dsimp only
    rw [hn]
    refine r_brF rfl rfl ?_ ?_
    · exact nle (by omega) (by omega)
    (repeat (first | refine r_fw rfl rfl rfl rfl ?_ | refine rS_get rfl rfl ?_ | refine rS_ild rfl rfl (by first | assumption | omega | (simp only [lS]; omega)) ?_)); try dsimp only
    refine rS_call rfl rfl rfl rfl rfl (c_isBetween f w (by omega)) ?_
    unfold fo
    refine r_br rfl rfl (fun hc => ?_) (fun hc => ?_)
    · rw [if_pos (show beF S f w p = 0 from hc)]
      (repeat (first | refine r_fw rfl rfl rfl rfl ?_ | refine rS_get rfl rfl ?_ | refine rS_ild rfl rfl (by first | assumption | omega | (simp only [lS]; omega)) ?_)); try dsimp only
      refine r_step rfl rfl rfl ?_
      rw [nI_1]
      exact ih (p + 1) _ (by omega)
    · rw [if_neg (show ¬ beF S f w p = 0 from hc)]
      (repeat (first | refine r_fw rfl rfl rfl rfl ?_ | refine rS_get rfl rfl ?_ | refine rS_ild rfl rfl (by first | assumption | omega | (simp only [lS]; omega)) ?_)); try dsimp only
      refine r_step rfl rfl rfl ?_
      rw [nI_1]
      exact ih (p + 1) _ (by omega)
theorem c_lowsBetween (f w : Int32) (hn : S 0 5 = nI n) (hn24 : n ≤ 24) : hRun 67 0 [.ref b, .int f, .int w, hU, hU] [] (hpS h b S) (some (.int (fo (fun p a => if beF S f w p = 0 then a else a + S 3 p) n 0 0))) (hpS h b S) := by
  refine r_step rfl rfl rfl ?_
  refine r_step rfl rfl rfl ?_
  refine r_step rfl rfl rfl ?_
  refine r_step rfl rfl rfl ?_
  exact lowsBetween_loop f w hn hn24 n 0 0 (by omega)
theorem countersBetween_loop (f w : Int32) (hn : S 0 5 = nI n) (hn24 : n ≤ 24) : ∀ d p a, p + d = n → hRun 69 4 [.ref b, .int f, .int w, .int a, .int (nI p)] [] (hpS h b S) (some (.int (fo (fun p a => if beF S f w p = 0 then a else a + 1) d p a))) (hpS h b S) := by
  intro d
  induction d with
  | zero =>
    intro p a hp
    (repeat (first | refine r_fw rfl rfl rfl rfl ?_ | refine rS_get rfl rfl ?_ | refine rS_ild rfl rfl (by first | assumption | omega | (simp only [lS]; omega)) ?_)); try dsimp only
    rw [hn]
    refine r_brT rfl rfl ?_ ?_
    · exact nI_le (by omega) (by omega)
    (repeat (first | refine r_fw rfl rfl rfl rfl ?_ | refine rS_get rfl rfl ?_ | refine rS_ild rfl rfl (by first | assumption | omega | (simp only [lS]; omega)) ?_)); try dsimp only
    exact r_ret rfl rfl rfl rfl
  | succ d ih =>
    intro p a hp
    (repeat (first | refine r_fw rfl rfl rfl rfl ?_ | refine rS_get rfl rfl ?_ | refine rS_ild rfl rfl (by first | assumption | omega | (simp only [lS]; omega)) ?_)); try dsimp only
    rw [hn]
    refine r_brF rfl rfl ?_ ?_
    · exact nle (by omega) (by omega)
    (repeat (first | refine r_fw rfl rfl rfl rfl ?_ | refine rS_get rfl rfl ?_ | refine rS_ild rfl rfl (by first | assumption | omega | (simp only [lS]; omega)) ?_)); try dsimp only
    refine rS_call rfl rfl rfl rfl rfl (c_isBetween f w (by omega)) ?_
    unfold fo
    refine r_br rfl rfl (fun hc => ?_) (fun hc => ?_)
    · rw [if_pos (show beF S f w p = 0 from hc)]
      (repeat (first | refine r_fw rfl rfl rfl rfl ?_ | refine rS_get rfl rfl ?_ | refine rS_ild rfl rfl (by first | assumption | omega | (simp only [lS]; omega)) ?_)); try dsimp only
      refine r_step rfl rfl rfl ?_
      rw [nI_1]
      exact ih (p + 1) _ (by omega)
    · rw [if_neg (show ¬ beF S f w p = 0 from hc)]
      (repeat (first | refine r_fw rfl rfl rfl rfl ?_ | refine rS_get rfl rfl ?_ | refine rS_ild rfl rfl (by first | assumption | omega | (simp only [lS]; omega)) ?_)); try dsimp only
      refine r_step rfl rfl rfl ?_
      rw [nI_1]
      exact ih (p + 1) _ (by omega)
theorem c_countersBetween (f w : Int32) (hn : S 0 5 = nI n) (hn24 : n ≤ 24) : hRun 69 0 [.ref b, .int f, .int w, hU, hU] [] (hpS h b S) (some (.int (fo (fun p a => if beF S f w p = 0 then a else a + 1) n 0 0))) (hpS h b S) := by
  refine r_step rfl rfl rfl ?_
  refine r_step rfl rfl rfl ?_
  refine r_step rfl rfl rfl ?_
  refine r_step rfl rfl rfl ?_
  exact countersBetween_loop f w hn hn24 n 0 0 (by omega)
end SRF
