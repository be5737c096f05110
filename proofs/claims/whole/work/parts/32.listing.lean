/-! the Listing -/
section LST
variable {h : hH} {b : Nat} {S : hT2} {n : Nat}
theorem c_empty : hRun 4 0 [.ref b] [] (hpG yL h b S) none (hpG yL h b (s2 S 0 0 0)) := by
  (repeat (first | refine r_fw rfl rfl rfl rfl ?_ | refine rG_get rfl rfl rfl ?_)); try dsimp only
  refine rG_set (j := 0) rfl rfl rfl rfl rfl ?_
  exact r_ret rfl rfl rfl rfl
def appF (S : hT2) (n : Nat) (t : Int32) : hT2 := if n < 48 then s2 (s1 S 1 (upd (S 1) n t)) 0 0 (nI n + 1) else S
theorem c_append (t : Int32) (hn : S 0 0 = nI n) (hn2 : n ≤ 48) : hRun 8 0 [.ref b, .int t] [] (hpG yL h b S) none (hpG yL h b (appF S n t)) := by
  (repeat (first | refine r_fw rfl rfl rfl rfl ?_ | refine rG_get rfl rfl rfl ?_)); try dsimp only
  refine rG_len rfl rfl ?_
  rw [hn]
  unfold appF
  by_cases hc : n < 48
  · rw [if_pos hc]
    refine r_brF rfl rfl ?_ ?_
    · exact nle (b := 48) hc (by omega)
    (repeat (first | refine r_fw rfl rfl rfl rfl ?_ | refine rG_get rfl rfl rfl ?_)); try dsimp only
    rw [hn]
    refine rG_ist rfl rfl rfl hc ?_
    (repeat (first | refine r_fw rfl rfl rfl rfl ?_ | refine rG_get rfl rfl rfl ?_)); try dsimp only
    rw [show (s1 S 1 (upd (S 1) n t)) 0 0 = nI n from hn]
    refine rG_set (j := 0) rfl rfl rfl rfl rfl ?_
    exact r_ret rfl rfl rfl rfl
  · rw [if_neg hc]
    refine r_brT rfl rfl ?_ ?_
    · exact nI_le (a := 48) (by omega) (by omega)
    exact r_ret rfl rfl rfl rfl
theorem c_tell (i : Int32) (hn : S 0 0 = nI n) (hn2 : n ≤ 48) : hRun 7 0 [.ref b, .int i] [] (hpG yL h b S) (some (.int (if i = -1 then nI n else if i < 0 then -1 else if i < nI n then S 1 i.toNatClampNeg else -1))) (hpG yL h b S) := by
  (repeat (first | refine r_fw rfl rfl rfl rfl ?_ | refine rG_get rfl rfl rfl ?_)); try dsimp only
  refine r_brI rfl rfl (fun hc => ?_) (fun hc => ?_)
  · (repeat (first | refine r_fw rfl rfl rfl rfl ?_ | refine rG_get rfl rfl rfl ?_)); try dsimp only
    rw [hn]
    exact r_ret rfl rfl rfl rfl
  · (repeat (first | refine r_fw rfl rfl rfl rfl ?_ | refine rG_get rfl rfl rfl ?_)); try dsimp only
    refine r_brI rfl rfl (fun hc => ?_) (fun hc => ?_)
    · (repeat (first | refine r_fw rfl rfl rfl rfl ?_ | refine rG_get rfl rfl rfl ?_)); try dsimp only
      exact r_ret rfl rfl rfl rfl
    · (repeat (first | refine r_fw rfl rfl rfl rfl ?_ | refine rG_get rfl rfl rfl ?_)); try dsimp only
      rw [hn]
      refine r_brI rfl rfl (fun hc => ?_) (fun hc => ?_)
      · (repeat (first | refine r_fw rfl rfl rfl rfl ?_ | refine rG_get rfl rfl rfl ?_)); try dsimp only
        rename_i c1 c2
        obtain ⟨j, hj, e⟩ := nI_of c2
        subst e
        rw [nI_clamp hj]
        have hlt : j < n := by
          rcases Nat.lt_or_ge j n with w | w
          · exact w
          · exact absurd hc (nI_nlt w hj)
        refine rG_ild rfl rfl (show j < 48 by omega) ?_
        (repeat (first | refine r_fw rfl rfl rfl rfl ?_ | refine rG_get rfl rfl rfl ?_)); try dsimp only
        exact r_ret rfl rfl rfl rfl
      · (repeat (first | refine r_fw rfl rfl rfl rfl ?_ | refine rG_get rfl rfl rfl ?_)); try dsimp only
        exact r_ret rfl rfl rfl rfl
theorem c_cutTo (x : Int32) : hRun 6 0 [.ref b, .int x] [] (hpG yL h b S) none (hpG yL h b (s2 S 0 0 (if x < S 0 0 then x else S 0 0))) := by
  (repeat (first | refine r_fw rfl rfl rfl rfl ?_ | refine rG_get rfl rfl rfl ?_)); try dsimp only
  refine r_callS rfl rfl rfl rfl (c_min _ _) ?_
  refine rG_set (j := 0) rfl rfl rfl rfl rfl ?_
  exact r_ret rfl rfl rfl rfl
/-- insertion: shifting down to the place -/
def shL (S : hT2) (a : Nat) : hT2 := s1 (s1 (s1 S 1 (upd (S 1) (a + 1) (S 1 a))) 2 (upd (S 2) (a + 1) (S 2 a))) 3 (upd (S 3) (a + 1) (S 3 a))
def rkL (t c : Int32) : Nat → hT2 → Nat × hT2
  | 0, S => (0, S)
  | a + 1, S => if S 2 a < c then rkL t c a (shL S a) else if S 2 a = c then (if S 1 a ≤ t then (a + 1, S) else rkL t c a (shL S a)) else (a + 1, S)
def inL (S : hT2) (a : Nat) (t c l : Int32) : hT2 := s1 (s1 (s1 S 1 (upd (S 1) a t)) 2 (upd (S 2) a c)) 3 (upd (S 3) a l)
def rankF (S : hT2) (n : Nat) (t c l : Int32) : hT2 := if n < 48 then s2 (inL (rkL t c n S).2 (rkL t c n S).1 t c l) 0 0 (nI n + 1) else S
theorem rkL_le (t c : Int32) : ∀ a (S : hT2), (rkL t c a S).1 ≤ a
  | 0, _ => Nat.le_refl 0
  | a + 1, S => by
    unfold rkL
    split
    · exact Nat.le_succ_of_le (rkL_le t c a _)
    · split
      · split
        · exact Nat.le_refl _
        · exact Nat.le_succ_of_le (rkL_le t c a _)
      · exact Nat.le_refl _
theorem rkL_0 (t c : Int32) : ∀ a (S : hT2), (rkL t c a S).2 0 = S 0
  | 0, _ => rfl
  | a + 1, S => by
    unfold rkL
    split
    · rw [rkL_0 t c a]; rfl
    · split
      · split
        · rfl
        · rw [rkL_0 t c a]; rfl
      · rfl
theorem rank_shift {t c l : Int32} {r : Option Value} {h' : hH} {a : Nat} (ha : a + 1 < 48) (K : hRun 5 10 [.ref b, .int t, .int c, .int l, .int (nI a)] [] (hpG yL h b (shL S a)) r h') : hRun 5 36 [.ref b, .int t, .int c, .int l, .int (nI (a + 1))] [] (hpG yL h b S) r h' := by
  (repeat (first | refine r_fw rfl rfl rfl rfl ?_ | refine rG_get rfl rfl rfl ?_)); try dsimp only
  rw [nI_pred]
  refine rG_ild rfl rfl (show a < 48 by omega) ?_
  refine rG_ist rfl rfl rfl (show a + 1 < 48 by omega) ?_
  (repeat (first | refine r_fw rfl rfl rfl rfl ?_ | refine rG_get rfl rfl rfl ?_)); try dsimp only
  rw [nI_pred]
  refine rG_ild rfl rfl (show a < 48 by omega) ?_
  refine rG_ist rfl rfl rfl (show a + 1 < 48 by omega) ?_
  (repeat (first | refine r_fw rfl rfl rfl rfl ?_ | refine rG_get rfl rfl rfl ?_)); try dsimp only
  rw [nI_pred]
  refine rG_ild rfl rfl (show a < 48 by omega) ?_
  refine rG_ist rfl rfl rfl (show a + 1 < 48 by omega) ?_
  (repeat (first | refine r_fw rfl rfl rfl rfl ?_ | refine rG_get rfl rfl rfl ?_)); try dsimp only
  refine r_step rfl rfl rfl ?_
  rw [pk_m1]
  exact K
theorem rank_loop {t c l : Int32} {r : Option Value} {h' : hH} {N : Nat} (hN : N < 48) {P : Nat × hT2} (K : hRun 5 68 [.ref b, .int t, .int c, .int l, .int (nI P.1)] [] (hpG yL h b P.2) r h') : ∀ a (S : hT2), a ≤ N → rkL t c a S = P → hRun 5 10 [.ref b, .int t, .int c, .int l, .int (nI a)] [] (hpG yL h b S) r h' := by
  intro a
  induction a with
  | zero =>
    intro S ha e
    (repeat (first | refine r_fw rfl rfl rfl rfl ?_ | refine rG_get rfl rfl rfl ?_)); try dsimp only
    refine r_brT rfl rfl ?_ ?_
    · decide
    rw [← e] at K
    exact K
  | succ a ih =>
    intro S ha e
    (repeat (first | refine r_fw rfl rfl rfl rfl ?_ | refine rG_get rfl rfl rfl ?_)); try dsimp only
    refine r_brF rfl rfl ?_ ?_
    · exact nI_nle (by omega) (by omega)
    (repeat (first | refine r_fw rfl rfl rfl rfl ?_ | refine rG_get rfl rfl rfl ?_)); try dsimp only
    rw [nI_pred]
    refine rG_ild rfl rfl (show a < 48 by omega) ?_
    (repeat (first | refine r_fw rfl rfl rfl rfl ?_ | refine rG_get rfl rfl rfl ?_)); try dsimp only
    unfold rkL at e
    refine r_br rfl rfl (fun hc => ?_) (fun hc => ?_)
    · rw [if_pos hc] at e
      exact rank_shift (by omega) (ih _ (by omega) e)
    · rw [if_neg hc] at e
      (repeat (first | refine r_fw rfl rfl rfl rfl ?_ | refine rG_get rfl rfl rfl ?_)); try dsimp only
      rw [nI_pred]
      refine rG_ild rfl rfl (show a < 48 by omega) ?_
      (repeat (first | refine r_fw rfl rfl rfl rfl ?_ | refine rG_get rfl rfl rfl ?_)); try dsimp only
      refine r_br rfl rfl (fun hc => ?_) (fun hc => ?_)
      · rw [if_pos hc] at e
        (repeat (first | refine r_fw rfl rfl rfl rfl ?_ | refine rG_get rfl rfl rfl ?_)); try dsimp only
        rw [nI_pred]
        refine rG_ild rfl rfl (show a < 48 by omega) ?_
        (repeat (first | refine r_fw rfl rfl rfl rfl ?_ | refine rG_get rfl rfl rfl ?_)); try dsimp only
        refine r_br rfl rfl (fun hc => ?_) (fun hc => ?_)
        · rw [if_pos hc] at e
          rw [← e] at K
          exact K
        · rw [if_neg hc] at e
          exact rank_shift (by omega) (ih _ (by omega) e)
      · rw [if_neg hc] at e
        rw [← e] at K
        exact K
theorem c_rank (t c l : Int32) (hn : S 0 0 = nI n) (hn2 : n ≤ 48) : hRun 5 0 [.ref b, .int t, .int c, .int l, hU] [] (hpG yL h b S) none (hpG yL h b (rankF S n t c l)) := by
  (repeat (first | refine r_fw rfl rfl rfl rfl ?_ | refine rG_get rfl rfl rfl ?_)); try dsimp only
  refine rG_len rfl rfl ?_
  rw [hn]
  unfold rankF
  by_cases hc : n < 48
  · rw [if_pos hc]
    refine r_brT rfl rfl ?_ ?_
    · exact nI_lt (b := 48) hc (by omega)
    refine r_step rfl rfl rfl ?_
    refine rG_get rfl rfl rfl ?_
    rw [hn]
    refine r_step rfl rfl rfl ?_
    refine rank_loop (P := rkL t c n S) hc ?_ n S (Nat.le_refl _) rfl
    have hle := rkL_le t c n S
    (repeat (first | refine r_fw rfl rfl rfl rfl ?_ | refine rG_get rfl rfl rfl ?_)); try dsimp only
    refine rG_ist rfl rfl rfl (show _ < 48 by omega) ?_
    (repeat (first | refine r_fw rfl rfl rfl rfl ?_ | refine rG_get rfl rfl rfl ?_)); try dsimp only
    refine rG_ist rfl rfl rfl (show _ < 48 by omega) ?_
    (repeat (first | refine r_fw rfl rfl rfl rfl ?_ | refine rG_get rfl rfl rfl ?_)); try dsimp only
    refine rG_ist rfl rfl rfl (show _ < 48 by omega) ?_
    (repeat (first | refine r_fw rfl rfl rfl rfl ?_ | refine rG_get rfl rfl rfl ?_)); try dsimp only
    change hRun 5 _ _ _ (hpG yL h b (inL (rkL t c n S).2 (rkL t c n S).1 t c l)) _ _
    rw [show (s1 (s1 (s1 (rkL t c n S).2 1 (upd ((rkL t c n S).2 1) (rkL t c n S).1 t)) 2 (upd ((s1 (rkL t c n S).2 1 (upd ((rkL t c n S).2 1) (rkL t c n S).1 t)) 2) (rkL t c n S).1 c)) 3 (upd ((s1 (s1 (rkL t c n S).2 1 (upd ((rkL t c n S).2 1) (rkL t c n S).1 t)) 2 (upd ((s1 (rkL t c n S).2 1 (upd ((rkL t c n S).2 1) (rkL t c n S).1 t)) 2) (rkL t c n S).1 c)) 3) (rkL t c n S).1 l)) 0 0 = nI n from by
      show (rkL t c n S).2 0 0 = nI n
      rw [rkL_0]
      exact hn]
    refine rG_set (j := 0) rfl rfl rfl rfl rfl ?_
    exact r_ret rfl rfl rfl rfl
  · rw [if_neg hc]
    refine r_brF rfl rfl ?_ ?_
    · exact nI_nlt (b := 48) (by omega) (by omega)
    exact r_ret rfl rfl rfl rfl
end LST
