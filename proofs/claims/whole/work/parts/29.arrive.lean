/-! begin, sendFirst, halveAll, keepLast, keepGroup, reckon, arrive -/
section SAR
variable {h : hH} {b : Nat} {S : hT2} {n : Nat}
def beg0 (S : hT2) (x : Int32) : hT2 := s2 (s2 (s2 (s2 (s2 (s2 (s2 (s2 S 0 0 1) 0 1 x) 0 2 0) 0 3 0) 0 4 0) 0 5 0) 0 6 0) 0 7 0
def begF (S : hT2) (x : Int32) : hT2 := s1 (beg0 S x) 4 (flF 0 1000 0 (beg0 S x 4))
theorem c_begin (x : Int32) : hRun 27 0 [.ref b, .int x] [] (hpS h b S) none (hpS h b (begF S x)) := by
  (repeat (first | refine r_fw rfl rfl rfl rfl ?_ | refine rS_get rfl rfl ?_ | refine rS_ild rfl rfl (by first | assumption | omega | (simp only [lS]; omega)) ?_)); try dsimp only
  refine rS_set rfl rfl rfl ?_
  (repeat (first | refine r_fw rfl rfl rfl rfl ?_ | refine rS_get rfl rfl ?_ | refine rS_ild rfl rfl (by first | assumption | omega | (simp only [lS]; omega)) ?_)); try dsimp only
  refine rS_set rfl rfl rfl ?_
  (repeat (first | refine r_fw rfl rfl rfl rfl ?_ | refine rS_get rfl rfl ?_ | refine rS_ild rfl rfl (by first | assumption | omega | (simp only [lS]; omega)) ?_)); try dsimp only
  refine rS_set rfl rfl rfl ?_
  (repeat (first | refine r_fw rfl rfl rfl rfl ?_ | refine rS_get rfl rfl ?_ | refine rS_ild rfl rfl (by first | assumption | omega | (simp only [lS]; omega)) ?_)); try dsimp only
  refine rS_set rfl rfl rfl ?_
  (repeat (first | refine r_fw rfl rfl rfl rfl ?_ | refine rS_get rfl rfl ?_ | refine rS_ild rfl rfl (by first | assumption | omega | (simp only [lS]; omega)) ?_)); try dsimp only
  refine rS_set rfl rfl rfl ?_
  (repeat (first | refine r_fw rfl rfl rfl rfl ?_ | refine rS_get rfl rfl ?_ | refine rS_ild rfl rfl (by first | assumption | omega | (simp only [lS]; omega)) ?_)); try dsimp only
  refine rS_set rfl rfl rfl ?_
  (repeat (first | refine r_fw rfl rfl rfl rfl ?_ | refine rS_get rfl rfl ?_ | refine rS_ild rfl rfl (by first | assumption | omega | (simp only [lS]; omega)) ?_)); try dsimp only
  refine rS_set rfl rfl rfl ?_
  (repeat (first | refine r_fw rfl rfl rfl rfl ?_ | refine rS_get rfl rfl ?_ | refine rS_ild rfl rfl (by first | assumption | omega | (simp only [lS]; omega)) ?_)); try dsimp only
  refine rS_set rfl rfl rfl ?_
  (repeat (first | refine r_fw rfl rfl rfl rfl ?_ | refine rS_get rfl rfl ?_ | refine rS_ild rfl rfl (by first | assumption | omega | (simp only [lS]; omega)) ?_)); try dsimp only
  refine r_callS rfl rfl rfl rfl (c_fill 0) ?_
  exact r_ret rfl rfl rfl rfl
/-- what is kept of one that goes -/
def go0 (S : hT2) (w : Nat) (f : Int32) : hT2 := s1 (s1 (s1 S 5 (upd (S 5) (w % 20) (S 1 0))) 6 (upd (S 6) (w % 20) (S 2 0))) 7 (upd (S 7) (w % 20) f)
def goF (S : hT2) (w : Nat) (f : Int32) : hT2 := s2 (s2 (go0 S w f) 0 7 (S 0 7 + 1)) 0 3 (mxI (S 0 3) (S 2 0))
theorem c_sendFirst {w : Nat} (f : Int32) (hn : S 0 5 = nI n) (h1 : 1 ≤ n) (hn24 : n ≤ 24) (hw : S 0 7 = nI w) (hw2 : w < 2 ^ 31) : hRun 42 0 [.ref b, .int f, hU] [] (hpS h b S) none (hpS h b (takeF (goF S w f) n 0)) := by
  (repeat (first | refine r_fw rfl rfl rfl rfl ?_ | refine rS_get rfl rfl ?_ | refine rS_ild rfl rfl (by first | assumption | omega | (simp only [lS]; omega)) ?_)); try dsimp only
  rw [hw, show (20 : Int32) = nI 20 from rfl, pk_rem hw2 (by omega) (by omega)]
  have hl : w % 20 < lS 5 := by
    show w % 20 < 20
    omega
  (repeat (first | refine r_fw rfl rfl rfl rfl ?_ | refine rS_get rfl rfl ?_ | refine rS_ild rfl rfl (by first | assumption | omega | (simp only [lS]; omega)) ?_)); try dsimp only
  refine rS_ist rfl rfl hl ?_
  (repeat (first | refine r_fw rfl rfl rfl rfl ?_ | refine rS_get rfl rfl ?_ | refine rS_ild rfl rfl (by first | assumption | omega | (simp only [lS]; omega)) ?_)); try dsimp only
  refine rS_ist rfl rfl hl ?_
  (repeat (first | refine r_fw rfl rfl rfl rfl ?_ | refine rS_get rfl rfl ?_ | refine rS_ild rfl rfl (by first | assumption | omega | (simp only [lS]; omega)) ?_)); try dsimp only
  refine rS_ist rfl rfl hl ?_
  (repeat (first | refine r_fw rfl rfl rfl rfl ?_ | refine rS_get rfl rfl ?_ | refine rS_ild rfl rfl (by first | assumption | omega | (simp only [lS]; omega)) ?_)); try dsimp only
  refine rS_set rfl rfl rfl ?_
  (repeat (first | refine r_fw rfl rfl rfl rfl ?_ | refine rS_get rfl rfl ?_ | refine rS_ild rfl rfl (by first | assumption | omega | (simp only [lS]; omega)) ?_)); try dsimp only
  refine rS_call rfl rfl rfl rfl rfl (c_raiseAbsent _) ?_
  (repeat (first | refine r_fw rfl rfl rfl rfl ?_ | refine rS_get rfl rfl ?_ | refine rS_ild rfl rfl (by first | assumption | omega | (simp only [lS]; omega)) ?_)); try dsimp only
  change hRun 42 _ _ _ (hpS h b (goF S w f)) _ _
  refine rS_call rfl rfl rfl rfl rfl (c_takeOut (a := 0) (n := n) hn hn24 (by omega)) ?_
  exact r_ret rfl rfl rfl rfl
def hvF : Nat → Nat → (Nat → Int32) → (Nat → Int32)
  | 0, _, f => f
  | d + 1, p, f => hvF d (p + 1) (upd f p (f p / 2))
def hcF : Nat → Nat → Nat → hT2 → Nat × hT2
  | 0, _, q, S => (q, S)
  | d + 1, p, q, S => if S 2 p < 2 then hcF d (p + 1) q S else hcF d (p + 1) (q + 1) (setF S q (S 1 p) (S 2 p / 2) (S 3 p / 2))
theorem halveT_loop {S0 : hT2} {r : Option Value} {h' : hH} (K : ∀ z : Value, hRun 44 27 [.ref b, .int (nI 1000), z] [] (hpS h b (s1 S0 4 (hvF 1000 0 (S0 4)))) r h') {z : Value} : ∀ d p (f : Nat → Int32), p + d = 1000 → hvF d p f = hvF 1000 0 (S0 4) → hRun 44 14 [.ref b, .int (nI p), z] [] (hpS h b (s1 S0 4 f)) r h' := by
  intro d
  induction d with
  | zero =>
    intro p f hp hf
    (repeat (first | refine r_fw rfl rfl rfl rfl ?_ | refine rS_get rfl rfl ?_ | refine rS_ild rfl rfl (by first | assumption | omega | (simp only [lS]; omega)) ?_)); try dsimp only
    refine r_brT rfl rfl ?_ ?_
    · exact nI_le (a := 1000) (by omega) (by omega)
    have hf2 : f = hvF 1000 0 (S0 4) := hf
    rw [show p = 1000 by omega, hf2]
    exact K _
  | succ d ih =>
    intro p f hp hf
    (repeat (first | refine r_fw rfl rfl rfl rfl ?_ | refine rS_get rfl rfl ?_ | refine rS_ild rfl rfl (by first | assumption | omega | (simp only [lS]; omega)) ?_)); try dsimp only
    refine r_brF rfl rfl ?_ ?_
    · exact nle (b := 1000) (by omega) (by omega)
    (repeat (first | refine r_fw rfl rfl rfl rfl ?_ | refine rS_get rfl rfl ?_ | refine rS_ild rfl rfl (by first | assumption | omega | (simp only [lS]; omega)) ?_)); try dsimp only
    rw [s1_at]
    refine rS_ist rfl rfl (by first | assumption | omega | (simp only [lS]; omega)) ?_
    rw [s1_s1, s1_at]
    (repeat (first | refine r_fw rfl rfl rfl rfl ?_ | refine rS_get rfl rfl ?_ | refine rS_ild rfl rfl (by first | assumption | omega | (simp only [lS]; omega)) ?_)); try dsimp only
    refine r_step rfl rfl rfl ?_
    rw [nI_1]
    exact ih (p + 1) _ (by omega) hf
theorem halveC_loop {n : Nat} (hn24 : n ≤ 24) : ∀ d p q (S : hT2), S 0 5 = nI n → p + d = n → q ≤ p → hRun 44 31 [.ref b, .int (nI q), .int (nI p)] [] (hpS h b S) (some (.int (nI n - nI (hcF d p q S).1))) (hpS h b (s2 (s2 (hcF d p q S).2 0 6 (S 0 6 + 1)) 0 5 (nI (hcF d p q S).1))) := by
  intro d
  induction d with
  | zero =>
    intro p q S hn hp hq
    (repeat (first | refine r_fw rfl rfl rfl rfl ?_ | refine rS_get rfl rfl ?_ | refine rS_ild rfl rfl (by first | assumption | omega | (simp only [lS]; omega)) ?_)); try dsimp only
    rw [hn]
    refine r_brT rfl rfl ?_ ?_
    · exact nI_le (by omega) (by omega)
    (repeat (first | refine r_fw rfl rfl rfl rfl ?_ | refine rS_get rfl rfl ?_ | refine rS_ild rfl rfl (by first | assumption | omega | (simp only [lS]; omega)) ?_)); try dsimp only
    refine rS_set rfl rfl rfl ?_
    (repeat (first | refine r_fw rfl rfl rfl rfl ?_ | refine rS_get rfl rfl ?_ | refine rS_ild rfl rfl (by first | assumption | omega | (simp only [lS]; omega)) ?_)); try dsimp only
    refine rS_call rfl rfl rfl rfl rfl (c_shortenTo _) ?_
    rw [show (s2 S 0 (jS 6) (S 0 6 + 1)) 0 5 = nI n from hn]
    exact r_ret rfl rfl rfl rfl
  | succ d ih =>
    intro p q S hn hp hq
    (repeat (first | refine r_fw rfl rfl rfl rfl ?_ | refine rS_get rfl rfl ?_ | refine rS_ild rfl rfl (by first | assumption | omega | (simp only [lS]; omega)) ?_)); try dsimp only
    rw [hn]
    refine r_brF rfl rfl ?_ ?_
    · exact nle (by omega) (by omega)
    (repeat (first | refine r_fw rfl rfl rfl rfl ?_ | refine rS_get rfl rfl ?_ | refine rS_ild rfl rfl (by first | assumption | omega | (simp only [lS]; omega)) ?_)); try dsimp only
    unfold hcF
    refine r_br rfl rfl (fun hc => ?_) (fun hc => ?_)
    · rw [if_pos hc]
      (repeat (first | refine r_fw rfl rfl rfl rfl ?_ | refine rS_get rfl rfl ?_ | refine rS_ild rfl rfl (by first | assumption | omega | (simp only [lS]; omega)) ?_)); try dsimp only
      refine r_step rfl rfl rfl ?_
      rw [nI_1]
      exact ih (p + 1) q S hn (by omega) (by omega)
    · rw [if_neg hc]
      (repeat (first | refine r_fw rfl rfl rfl rfl ?_ | refine rS_get rfl rfl ?_ | refine rS_ild rfl rfl (by first | assumption | omega | (simp only [lS]; omega)) ?_)); try dsimp only
      refine rS_call rfl rfl rfl rfl rfl (c_setAt _ _ _ (by omega)) ?_
      (repeat (first | refine r_fw rfl rfl rfl rfl ?_ | refine rS_get rfl rfl ?_ | refine rS_ild rfl rfl (by first | assumption | omega | (simp only [lS]; omega)) ?_)); try dsimp only
      refine r_step rfl rfl rfl ?_
      rw [nI_1, nI_1]
      exact ih (p + 1) (q + 1) _ hn (by omega) (by omega)
def hal0 (S : hT2) : hT2 := s1 (s2 (s2 S 0 2 (S 0 2 / 2)) 0 3 (S 0 3 / 2)) 4 (hvF 1000 0 (S 4))
def halF (S : hT2) (n : Nat) : hT2 := s2 (s2 (hcF n 0 0 (hal0 S)).2 0 6 (S 0 6 + 1)) 0 5 (nI (hcF n 0 0 (hal0 S)).1)
theorem c_halveAll (hn : S 0 5 = nI n) (hn24 : n ≤ 24) : hRun 44 0 [.ref b, hU, hU] [] (hpS h b S) (some (.int (nI n - nI (hcF n 0 0 (hal0 S)).1))) (hpS h b (halF S n)) := by
  (repeat (first | refine r_fw rfl rfl rfl rfl ?_ | refine rS_get rfl rfl ?_ | refine rS_ild rfl rfl (by first | assumption | omega | (simp only [lS]; omega)) ?_)); try dsimp only
  refine rS_set rfl rfl rfl ?_
  (repeat (first | refine r_fw rfl rfl rfl rfl ?_ | refine rS_get rfl rfl ?_ | refine rS_ild rfl rfl (by first | assumption | omega | (simp only [lS]; omega)) ?_)); try dsimp only
  refine rS_set rfl rfl rfl ?_
  refine r_step rfl rfl rfl ?_
  refine r_step rfl rfl rfl ?_
  have e : ∀ T : hT2, hpS h b T = hpS h b (s1 T 4 (T 4)) := by
    intro T
    congr 1
    funext a
    unfold s1
    by_cases h : a = 4
    · simp [h]
    · simp [h]
  rw [e]
  refine halveT_loop (S0 := s2 (s2 S 0 2 (S 0 2 / 2)) 0 3 (S 0 3 / 2)) (fun z => ?_) 1000 0 _ (by omega) rfl
  refine r_step rfl rfl rfl ?_
  refine r_step rfl rfl rfl ?_
  refine r_step rfl rfl rfl ?_
  refine r_step rfl rfl rfl ?_
  exact halveC_loop hn24 n 0 0 (hal0 S) hn (by omega) (by omega)
def klF (o : Nat) : Nat → Nat → hT2 → hT2
  | 0, _, S => S
  | d + 1, p, S => if o ≤ p then klF o d (p + 1) (setF S (p - o) (S 1 p) (S 2 p) (S 3 p)) else klF o d (p + 1) (s2 S 0 3 (mxI (S 0 3) (S 2 p)))
theorem keepLast_loop {n o : Nat} {x : Int32} (hn24 : n ≤ 24) (ho : o ≤ n) : ∀ d p (S : hT2), S 0 5 = nI n → p + d = n → hRun 46 12 [.ref b, .int x, .int (nI o), .int (nI p)] [] (hpS h b S) (some (.int (nI n - (nI n - nI o)))) (hpS h b (s2 (klF o d p S) 0 5 (nI n - nI o))) := by
  intro d
  induction d with
  | zero =>
    intro p S hn hp
    (repeat (first | refine r_fw rfl rfl rfl rfl ?_ | refine rS_get rfl rfl ?_ | refine rS_ild rfl rfl (by first | assumption | omega | (simp only [lS]; omega)) ?_)); try dsimp only
    rw [hn]
    refine r_brT rfl rfl ?_ ?_
    · exact nI_le (by omega) (by omega)
    (repeat (first | refine r_fw rfl rfl rfl rfl ?_ | refine rS_get rfl rfl ?_ | refine rS_ild rfl rfl (by first | assumption | omega | (simp only [lS]; omega)) ?_)); try dsimp only
    rw [hn]
    refine rS_call rfl rfl rfl rfl rfl (c_shortenTo _) ?_
    rw [hn]
    exact r_ret rfl rfl rfl rfl
  | succ d ih =>
    intro p S hn hp
    (repeat (first | refine r_fw rfl rfl rfl rfl ?_ | refine rS_get rfl rfl ?_ | refine rS_ild rfl rfl (by first | assumption | omega | (simp only [lS]; omega)) ?_)); try dsimp only
    rw [hn]
    refine r_brF rfl rfl ?_ ?_
    · exact nle (by omega) (by omega)
    (repeat (first | refine r_fw rfl rfl rfl rfl ?_ | refine rS_get rfl rfl ?_ | refine rS_ild rfl rfl (by first | assumption | omega | (simp only [lS]; omega)) ?_)); try dsimp only
    unfold klF
    by_cases hc : o ≤ p
    · rw [if_pos hc]
      refine r_brT rfl rfl ?_ ?_
      · exact nI_le hc (by omega)
      (repeat (first | refine r_fw rfl rfl rfl rfl ?_ | refine rS_get rfl rfl ?_ | refine rS_ild rfl rfl (by first | assumption | omega | (simp only [lS]; omega)) ?_)); try dsimp only
      rw [pk_sub hc]
      refine rS_call rfl rfl rfl rfl rfl (c_setAt _ _ _ (by omega)) ?_
      (repeat (first | refine r_fw rfl rfl rfl rfl ?_ | refine rS_get rfl rfl ?_ | refine rS_ild rfl rfl (by first | assumption | omega | (simp only [lS]; omega)) ?_)); try dsimp only
      refine r_step rfl rfl rfl ?_
      rw [nI_1]
      exact ih (p + 1) _ hn (by omega)
    · rw [if_neg hc]
      refine r_brF rfl rfl ?_ ?_
      · exact nle (by omega) (by omega)
      (repeat (first | refine r_fw rfl rfl rfl rfl ?_ | refine rS_get rfl rfl ?_ | refine rS_ild rfl rfl (by first | assumption | omega | (simp only [lS]; omega)) ?_)); try dsimp only
      refine rS_call rfl rfl rfl rfl rfl (c_raiseAbsent _) ?_
      (repeat (first | refine r_fw rfl rfl rfl rfl ?_ | refine rS_get rfl rfl ?_ | refine rS_ild rfl rfl (by first | assumption | omega | (simp only [lS]; omega)) ?_)); try dsimp only
      refine r_step rfl rfl rfl ?_
      rw [nI_1]
      exact ih (p + 1) _ hn (by omega)
theorem mx0 {n m : Nat} (h1 : n < 2 ^ 30) (h2 : m < 2 ^ 30) : mxI 0 (nI n - nI m) = nI (n - m) := by
  unfold mxI
  rcases Nat.lt_or_ge m n with h | h
  · rw [if_pos ?_, pk_sub (by omega)]
    rw [Int32.lt_iff_toInt_lt, pk_sub_toInt h1 h2, Int32.toInt_zero]
    omega
  · rw [if_neg ?_, show n - m = 0 by omega]
    · rfl
    · rw [Int32.lt_iff_toInt_lt, pk_sub_toInt h1 h2, Int32.toInt_zero]
      omega
def keepF (S : hT2) (n m : Nat) : hT2 := s2 (klF (n - m) n 0 (s2 S 0 1 (nI m))) 0 5 (nI n - nI (n - m))
theorem c_keepLast {m : Nat} (hn : S 0 5 = nI n) (hn24 : n ≤ 24) (hm : m < 2 ^ 30) : hRun 46 0 [.ref b, .int (nI m), hU, hU] [] (hpS h b S) (some (.int (nI n - (nI n - nI (n - m))))) (hpS h b (keepF S n m)) := by
  (repeat (first | refine r_fw rfl rfl rfl rfl ?_ | refine rS_get rfl rfl ?_ | refine rS_ild rfl rfl (by first | assumption | omega | (simp only [lS]; omega)) ?_)); try dsimp only
  refine rS_set rfl rfl rfl ?_
  (repeat (first | refine r_fw rfl rfl rfl rfl ?_ | refine rS_get rfl rfl ?_ | refine rS_ild rfl rfl (by first | assumption | omega | (simp only [lS]; omega)) ?_)); try dsimp only
  rw [show (s2 S 0 (jS 1) (nI m)) 0 5 = nI n from hn]
  refine r_callS rfl rfl rfl rfl (c_max _ _) ?_
  rw [show (if (0 : Int32) < nI n - nI m then nI n - nI m else 0) = nI (n - m) from mx0 (by omega) hm]
  refine r_step rfl rfl rfl ?_
  refine r_step rfl rfl rfl ?_
  refine r_step rfl rfl rfl ?_
  exact keepLast_loop hn24 (by omega) n 0 _ hn (by omega)
def kgF (m r : Int32) : Nat → Nat → Nat → hT2 → Nat × hT2
  | 0, _, q, S => (q, S)
  | d + 1, p, q, S => if S 1 p - S 1 p / m * m = r then kgF m r d (p + 1) (q + 1) (setF S q (S 1 p) (S 2 p) (S 3 p)) else kgF m r d (p + 1) q (s2 S 0 3 (mxI (S 0 3) (S 2 p)))
theorem keepGroup_loop {n : Nat} {m r : Int32} (hm : ¬ m = 0) (hn24 : n ≤ 24) : ∀ d p q (S : hT2), S 0 5 = nI n → p + d = n → q ≤ p → hRun 64 4 [.ref b, .int m, .int r, .int (nI q), .int (nI p)] [] (hpS h b S) (some (.int (nI n - nI (kgF m r d p q S).1))) (hpS h b (s2 (kgF m r d p q S).2 0 5 (nI (kgF m r d p q S).1))) := by
  intro d
  induction d with
  | zero =>
    intro p q S hn hp hq
    (repeat (first | refine r_fw rfl rfl rfl rfl ?_ | refine rS_get rfl rfl ?_ | refine rS_ild rfl rfl (by first | assumption | omega | (simp only [lS]; omega)) ?_)); try dsimp only
    rw [hn]
    refine r_brT rfl rfl ?_ ?_
    · exact nI_le (by omega) (by omega)
    (repeat (first | refine r_fw rfl rfl rfl rfl ?_ | refine rS_get rfl rfl ?_ | refine rS_ild rfl rfl (by first | assumption | omega | (simp only [lS]; omega)) ?_)); try dsimp only
    refine rS_call rfl rfl rfl rfl rfl (c_shortenTo _) ?_
    rw [hn]
    exact r_ret rfl rfl rfl rfl
  | succ d ih =>
    intro p q S hn hp hq
    (repeat (first | refine r_fw rfl rfl rfl rfl ?_ | refine rS_get rfl rfl ?_ | refine rS_ild rfl rfl (by first | assumption | omega | (simp only [lS]; omega)) ?_)); try dsimp only
    rw [hn]
    refine r_brF rfl rfl ?_ ?_
    · exact nle (by omega) (by omega)
    (repeat (first | refine r_fw rfl rfl rfl rfl ?_ | refine rS_get rfl rfl ?_ | refine rS_ild rfl rfl (by first | assumption | omega | (simp only [lS]; omega)) ?_)); try dsimp only
    refine r_fw rfl rfl rfl (if_neg hm) ?_
    (repeat (first | refine r_fw rfl rfl rfl rfl ?_ | refine rS_get rfl rfl ?_ | refine rS_ild rfl rfl (by first | assumption | omega | (simp only [lS]; omega)) ?_)); try dsimp only
    unfold kgF
    refine r_br rfl rfl (fun hc => ?_) (fun hc => ?_)
    · rw [if_pos hc]
      (repeat (first | refine r_fw rfl rfl rfl rfl ?_ | refine rS_get rfl rfl ?_ | refine rS_ild rfl rfl (by first | assumption | omega | (simp only [lS]; omega)) ?_)); try dsimp only
      refine rS_call rfl rfl rfl rfl rfl (c_setAt _ _ _ (by omega)) ?_
      (repeat (first | refine r_fw rfl rfl rfl rfl ?_ | refine rS_get rfl rfl ?_ | refine rS_ild rfl rfl (by first | assumption | omega | (simp only [lS]; omega)) ?_)); try dsimp only
      refine r_step rfl rfl rfl ?_
      rw [nI_1, nI_1]
      exact ih (p + 1) (q + 1) _ hn (by omega) (by omega)
    · rw [if_neg hc]
      (repeat (first | refine r_fw rfl rfl rfl rfl ?_ | refine rS_get rfl rfl ?_ | refine rS_ild rfl rfl (by first | assumption | omega | (simp only [lS]; omega)) ?_)); try dsimp only
      refine rS_call rfl rfl rfl rfl rfl (c_raiseAbsent _) ?_
      (repeat (first | refine r_fw rfl rfl rfl rfl ?_ | refine rS_get rfl rfl ?_ | refine rS_ild rfl rfl (by first | assumption | omega | (simp only [lS]; omega)) ?_)); try dsimp only
      refine r_step rfl rfl rfl ?_
      rw [nI_1]
      exact ih (p + 1) q _ hn (by omega) (by omega)
theorem c_keepGroup (m r : Int32) (hm : ¬ m = 0) (hn : S 0 5 = nI n) (hn24 : n ≤ 24) : hRun 64 0 [.ref b, .int m, .int r, hU, hU] [] (hpS h b S) (some (.int (nI n - nI (kgF m r n 0 0 S).1))) (hpS h b (s2 (kgF m r n 0 0 S).2 0 5 (nI (kgF m r n 0 0 S).1))) := by
  refine r_step rfl rfl rfl ?_
  refine r_step rfl rfl rfl ?_
  refine r_step rfl rfl rfl ?_
  refine r_step rfl rfl rfl ?_
  exact keepGroup_loop hm hn24 n 0 0 S hn (by omega) (by omega)
end SAR
