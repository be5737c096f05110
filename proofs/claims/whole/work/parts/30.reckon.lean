/-! reckon and arrive -/
section SRK
variable {h : hH} {b : Nat} {S : hT2} {n : Nat}
theorem nI_s1 {n : Nat} (h : 1 ≤ n) : nI n - 1 = nI (n - 1) := pk_sub (b := 1) h
/-- a thing comes: what is answered, the summary, how many counters -/
def rkF (S : hT2) (n w : Nat) (t x : Int32) : Int32 × hT2 × Nat :=
  if fnF (S 1) t n 0 = -1 then
    (if S 0 5 < S 0 1 then (1, putF S n t (S 0 3 + x) x, n + 1)
     else (2, putF (takeF (goF S w t) n 0) (n - 1) t (mxI (S 0 3) (S 2 0) + x) x, n))
  else (0, putF (takeF S n (fnF (S 1) t n 0).toNatClampNeg) (n - 1) t (S 2 (fnF (S 1) t n 0).toNatClampNeg + x) (S 3 (fnF (S 1) t n 0).toNatClampNeg + x), n)
theorem takeF_05 {S : hT2} {n a : Nat} (h1 : 1 ≤ n) : takeF S n a 0 5 = nI (n - 1) := by
  unfold takeF
  rw [← nI_s1 h1]
  rfl
theorem toF_0 : ∀ d p (S : hT2), toF d p S 0 = S 0
  | 0, _, _ => rfl
  | d + 1, p, S => by rw [toF, toF_0 d]; rfl
theorem takeF_0 {S : hT2} {n a j : Nat} (hj : j ≠ 5) : takeF S n a 0 j = S 0 j := by
  unfold takeF s2
  rw [if_pos rfl, if_neg hj, toF_0]
theorem c_reckon {w : Nat} (t x : Int32) (hn : S 0 5 = nI n) (hn24 : n ≤ 24) (hrm : ¬ nI 0 < S 0 1 → False) (hw : S 0 7 = nI w) (hw2 : w < 2 ^ 31) : hRun 35 0 [.ref b, .int t, .int x, hU, hU, hU] [] (hpS h b S) (some (.int (rkF S n w t x).1)) (hpS h b (rkF S n w t x).2.1) := by
  (repeat (first | refine r_fw rfl rfl rfl rfl ?_ | refine rS_get rfl rfl ?_ | refine rS_ild rfl rfl (by first | assumption | omega | (simp only [lS]; omega)) ?_)); try dsimp only
  refine rS_call rfl rfl rfl rfl rfl (c_find t hn hn24) ?_
  (repeat (first | refine r_fw rfl rfl rfl rfl ?_ | refine rS_get rfl rfl ?_ | refine rS_ild rfl rfl (by first | assumption | omega | (simp only [lS]; omega)) ?_)); try dsimp only
  unfold rkF
  by_cases hc : fnF (S 1) t n 0 = -1
  · rw [if_pos hc]
    refine r_brT rfl rfl ?_ ?_
    · exact hc
    (repeat (first | refine r_fw rfl rfl rfl rfl ?_ | refine rS_get rfl rfl ?_ | refine rS_ild rfl rfl (by first | assumption | omega | (simp only [lS]; omega)) ?_)); try dsimp only
    refine rS_call rfl rfl rfl rfl rfl c_isFull ?_
    by_cases hf : S 0 5 < S 0 1
    · rw [if_pos hf, if_pos hf]
      refine r_brT rfl rfl ?_ ?_
      · rfl
      (repeat (first | refine r_fw rfl rfl rfl rfl ?_ | refine rS_get rfl rfl ?_ | refine rS_ild rfl rfl (by first | assumption | omega | (simp only [lS]; omega)) ?_)); try dsimp only
      refine rS_call rfl rfl rfl rfl rfl (c_putIn _ _ _ hn hn24) ?_
      (repeat (first | refine r_fw rfl rfl rfl rfl ?_ | refine rS_get rfl rfl ?_ | refine rS_ild rfl rfl (by first | assumption | omega | (simp only [lS]; omega)) ?_)); try dsimp only
      exact r_ret rfl rfl rfl rfl
    · rw [if_neg hf, if_neg hf]
      refine r_brF rfl rfl ?_ ?_
      · decide
      have h1 : 1 ≤ n := by
        rcases Nat.eq_zero_or_pos n with e | e
        · exfalso
          rw [hn, e] at hf
          exact hrm hf
        · exact e
      (repeat (first | refine r_fw rfl rfl rfl rfl ?_ | refine rS_get rfl rfl ?_ | refine rS_ild rfl rfl (by first | assumption | omega | (simp only [lS]; omega)) ?_)); try dsimp only
      refine rS_call rfl rfl rfl rfl rfl (c_sendFirst t hn h1 hn24 hw hw2) ?_
      (repeat (first | refine r_fw rfl rfl rfl rfl ?_ | refine rS_get rfl rfl ?_ | refine rS_ild rfl rfl (by first | assumption | omega | (simp only [lS]; omega)) ?_)); try dsimp only
      rw [takeF_0 (by decide : (3 : Nat) ≠ 5)]
      refine rS_call rfl rfl rfl rfl rfl (c_putIn (n := n - 1) _ _ _ (takeF_05 h1) (by omega)) ?_
      (repeat (first | refine r_fw rfl rfl rfl rfl ?_ | refine rS_get rfl rfl ?_ | refine rS_ild rfl rfl (by first | assumption | omega | (simp only [lS]; omega)) ?_)); try dsimp only
      exact r_ret rfl rfl rfl rfl
  · rw [if_neg hc]
    refine r_brF rfl rfl ?_ ?_
    · exact hc
    rcases fnF_or (S 1) t n 0 with ⟨h1, -⟩ | ⟨q, -, hq, h3, -⟩
    · exact absurd h1 hc
    · rw [h3, nI_clamp (by omega)]
      (repeat (first | refine r_fw rfl rfl rfl rfl ?_ | refine rS_get rfl rfl ?_ | refine rS_ild rfl rfl (by first | assumption | omega | (simp only [lS]; omega)) ?_)); try dsimp only
      refine rS_call rfl rfl rfl rfl rfl (c_takeOut hn hn24 (by omega)) ?_
      (repeat (first | refine r_fw rfl rfl rfl rfl ?_ | refine rS_get rfl rfl ?_ | refine rS_ild rfl rfl (by first | assumption | omega | (simp only [lS]; omega)) ?_)); try dsimp only
      refine rS_call rfl rfl rfl rfl rfl (c_putIn (n := n - 1) _ _ _ (takeF_05 (by omega)) (by omega)) ?_
      (repeat (first | refine r_fw rfl rfl rfl rfl ?_ | refine rS_get rfl rfl ?_ | refine rS_ild rfl rfl (by first | assumption | omega | (simp only [lS]; omega)) ?_)); try dsimp only
      exact r_ret rfl rfl rfl rfl
def ar0 (S : hT2) (t : Nat) (x : Int32) : hT2 := s1 (s2 S 0 2 (S 0 2 + x)) 4 (upd (S 4) t (S 4 t + x))
def arF (S : hT2) (n w t : Nat) (x : Int32) : Int32 × hT2 × Nat :=
  let R := rkF (ar0 S t x) n w (nI t) x
  if R.2.1 0 4 = 0 then R else if R.2.1 0 2 < R.2.1 0 4 then R else (R.1, halF R.2.1 R.2.2, (hcF R.2.2 0 0 (hal0 R.2.1)).1)
theorem putF_05 {S : hT2} {n : Nat} {t c l : Int32} (hn : n < 24) : putF S n t c l 0 5 = nI (n + 1) := by
  unfold putF
  rw [if_pos hn, ← nI_1]
  rfl
theorem rkF_05 {S : hT2} {n w : Nat} {t x : Int32} (hn : S 0 5 = nI n) (hn24 : n ≤ 24) (hrm : ¬ nI 0 < S 0 1 → False) {rm : Nat} (hr : S 0 1 = nI rm) (hr24 : rm ≤ 24) : (rkF S n w t x).2.1 0 5 = nI (rkF S n w t x).2.2 ∧ (rkF S n w t x).2.2 ≤ 24 := by
  unfold rkF
  by_cases hc : fnF (S 1) t n 0 = -1
  · rw [if_pos hc]
    by_cases hf : S 0 5 < S 0 1
    · rw [if_pos hf]
      rw [hn, hr, nI_ltI (by omega) (by omega)] at hf
      exact ⟨putF_05 (by omega), by show n + 1 ≤ 24; omega⟩
    · rw [if_neg hf]
      have h1 : 1 ≤ n := by
        rcases Nat.eq_zero_or_pos n with e | e
        · exfalso
          rw [hn, e] at hf
          exact hrm hf
        · exact e
      refine ⟨?_, hn24⟩
      dsimp only
      rw [putF_05 (by omega), show n - 1 + 1 = n by omega]
  · rw [if_neg hc]
    rcases fnF_or (S 1) t n 0 with ⟨h1, -⟩ | ⟨q, -, hq, h3, -⟩
    · exact absurd h1 hc
    · refine ⟨?_, hn24⟩
      dsimp only
      rw [putF_05 (by omega), show n - 1 + 1 = n by omega]
theorem c_arrive {w t : Nat} (x : Int32) (ht : t < 1000) (hn : S 0 5 = nI n) (hn24 : n ≤ 24) {rm : Nat} (hr : S 0 1 = nI rm) (hr1 : 1 ≤ rm) (hr24 : rm ≤ 24) (hw : S 0 7 = nI w) (hw2 : w < 2 ^ 31) : hRun 34 0 [.ref b, .int (nI t), .int x, hU] [] (hpS h b S) (some (.int (arF S n w t x).1)) (hpS h b (arF S n w t x).2.1) := by
  have hrm : ¬ nI 0 < S 0 1 → False := fun k => k (by rw [hr]; exact nI_lt (by omega) (by omega))
  (repeat (first | refine r_fw rfl rfl rfl rfl ?_ | refine rS_get rfl rfl ?_ | refine rS_ild rfl rfl (by first | assumption | omega | (simp only [lS]; omega)) ?_)); try dsimp only
  refine rS_set rfl rfl rfl ?_
  (repeat (first | refine r_fw rfl rfl rfl rfl ?_ | refine rS_get rfl rfl ?_ | refine rS_ild rfl rfl (by first | assumption | omega | (simp only [lS]; omega)) ?_)); try dsimp only
  refine rS_ist rfl rfl (by first | assumption | omega | (simp only [lS]; omega)) ?_
  (repeat (first | refine r_fw rfl rfl rfl rfl ?_ | refine rS_get rfl rfl ?_ | refine rS_ild rfl rfl (by first | assumption | omega | (simp only [lS]; omega)) ?_)); try dsimp only
  change hRun 34 _ _ _ (hpS h b (ar0 S t x)) _ _
  refine rS_call rfl rfl rfl rfl rfl (c_reckon (n := n) (nI t) x hn hn24 hrm hw hw2) ?_
  have hk := rkF_05 (S := ar0 S t x) (n := n) (w := w) (t := nI t) (x := x) hn hn24 hrm (rm := rm) hr hr24
  unfold arF
  generalize rkF (ar0 S t x) n w (nI t) x = R at hk ⊢
  obtain ⟨a, T, n'⟩ := R
  dsimp only at hk ⊢
  (repeat (first | refine r_fw rfl rfl rfl rfl ?_ | refine rS_get rfl rfl ?_ | refine rS_ild rfl rfl (by first | assumption | omega | (simp only [lS]; omega)) ?_)); try dsimp only
  refine r_br rfl rfl (fun hc => ?_) (fun hc => ?_)
  · rw [if_pos hc]
    (repeat (first | refine r_fw rfl rfl rfl rfl ?_ | refine rS_get rfl rfl ?_ | refine rS_ild rfl rfl (by first | assumption | omega | (simp only [lS]; omega)) ?_)); try dsimp only
    exact r_ret rfl rfl rfl rfl
  · rw [if_neg hc]
    (repeat (first | refine r_fw rfl rfl rfl rfl ?_ | refine rS_get rfl rfl ?_ | refine rS_ild rfl rfl (by first | assumption | omega | (simp only [lS]; omega)) ?_)); try dsimp only
    refine r_br rfl rfl (fun hc => ?_) (fun hc => ?_)
    · rw [if_pos hc]
      (repeat (first | refine r_fw rfl rfl rfl rfl ?_ | refine rS_get rfl rfl ?_ | refine rS_ild rfl rfl (by first | assumption | omega | (simp only [lS]; omega)) ?_)); try dsimp only
      exact r_ret rfl rfl rfl rfl
    · rw [if_neg hc]
      (repeat (first | refine r_fw rfl rfl rfl rfl ?_ | refine rS_get rfl rfl ?_ | refine rS_ild rfl rfl (by first | assumption | omega | (simp only [lS]; omega)) ?_)); try dsimp only
      refine rS_call rfl rfl rfl rfl rfl (c_halveAll hk.1 hk.2) ?_
      (repeat (first | refine r_fw rfl rfl rfl rfl ?_ | refine rS_get rfl rfl ?_ | refine rS_ild rfl rfl (by first | assumption | omega | (simp only [lS]; omega)) ?_)); try dsimp only
      exact r_ret rfl rfl rfl rfl
end SRK
