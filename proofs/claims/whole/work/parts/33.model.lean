/-! THE REFERENCE: one object, its arrays behind it. M 0: thrown, mMany, trueMany, octetMany, taped, faultKind, faultPlace; M 1 the banks, 2 to 4 what is merged, 5 by truth, 6 owns, 7 paneMost, 8 paneMany, 9 octets, 10 tape (bytes), 11 isKept (booleans); x apart -/
def oM (b : Nat) (M : hT2) (x : Int64) : List Value := [.int (M 0 0), .ref (b + 1), .long x, .ref (b + 2), .ref (b + 3), .ref (b + 4), .int (M 0 1), .ref (b + 5), .int (M 0 2), .ref (b + 6), .ref (b + 7), .ref (b + 8), .ref (b + 9), .int (M 0 3), .ref (b + 10), .int (M 0 4), .int (M 0 5), .int (M 0 6), .ref (b + 11)]
def lM (j : Nat) : Nat := match j with
  | 1 => 35588
  | 2 => 48
  | 3 => 48
  | 4 => 48
  | 5 => 1000
  | 6 => 1111
  | 7 => 2
  | 8 => 2
  | 9 => 256
  | 10 => 300
  | _ => 2
def tM (j : Nat) : Nat := match j with
  | 10 => 1
  | 11 => 2
  | _ => 0
def hpM (h : hH) (b : Nat) (M : hT2) (x : Int64) : hH := (h.1, h.2.1, fun a => if a = b then .inl (9, oM b M x) else if b < a ∧ a ≤ b + 11 then .inr (tM (a - b), lM (a - b), .inl (M (a - b))) else h.2.2 a)
section RMO
variable {mi k : Nat} {L st : List Value} {h h' : hH} {r : Option Value} {b : Nat} {M : hT2} {x : Int64}
theorem hpM_0 : (hpM h b M x).2.2 b = .inl (9, oM b M x) := if_pos rfl
theorem hpM_j {j : Nat} (h1 : 1 ≤ j) (h2 : j ≤ 11) : (hpM h b M x).2.2 (b + j) = .inr (tM j, lM j, .inl (M j)) := by
  show (if b + j = b then _ else _) = _
  rw [if_neg (by omega), if_pos (by omega), show b + j - b = j by omega]
theorem hpM_st {j : Nat} {f : Nat → Int32} (h1 : 1 ≤ j) (h2 : j ≤ 11) : hSt (hpM h b M x) (b + j) (.inr (tM j, lM j, .inl f)) = hpM h b (s1 M j f) x := by
  unfold hSt hpM
  refine congrArg (fun z => (h.1, h.2.1, z)) (funext fun a => ?_)
  dsimp only
  by_cases e1 : a = b + j
  · subst e1
    rw [if_pos rfl, if_neg (by omega), if_pos (by omega), show b + j - b = j by omega]
    simp [s1]
  · rw [if_neg e1]
    by_cases e2 : a = b
    · rw [if_pos e2, if_pos e2]
      simp only [oM, s1, if_neg (show ¬ (0 = j) by omega)]
    · rw [if_neg e2, if_neg e2]
      by_cases e3 : b < a ∧ a ≤ b + 11
      · rw [if_pos e3, if_pos e3]
        simp only [s1, if_neg (show ¬ (a - b = j) by omega)]
      · rw [if_neg e3, if_neg e3]
theorem hpM_o {fs : List Value} {T : hT2} {z : Int64} (h1 : fs = oM b T z) (h2 : ∀ j, 1 ≤ j → T j = M j) : hSt (hpM h b M x) b (.inl (9, fs)) = hpM h b T z := by
  subst h1
  unfold hSt hpM
  refine congrArg (fun z => (h.1, h.2.1, z)) (funext fun a => ?_)
  dsimp only
  by_cases e2 : a = b
  · rw [if_pos e2, if_pos e2]
  · rw [if_neg e2, if_neg e2, if_neg e2]
    by_cases e3 : b < a ∧ a ≤ b + 11
    · rw [if_pos e3, if_pos e3, h2 (a - b) (by omega)]
    · rw [if_neg e3, if_neg e3]
theorem rM_get {i len pc f : Nat} {z : Int32} {zl : Int64} {ts : List Nat} {v : Value} {st : List Value} (he : hI mi k = some (.getfield i, len, pc, 9, f, z, zl, ts)) (hv : (oM b M x)[f]? = some v) (K : hRun mi (k + 1) L (v :: st) (hpM h b M x) r h') : hRun mi k L (.ref b :: st) (hpM h b M x) r h' := r_get he hpM_0 hv K
def jM (f : Nat) : Nat := match f with
  | 0 => 0
  | 6 => 1
  | 8 => 2
  | 13 => 3
  | 15 => 4
  | 16 => 5
  | _ => 6
theorem rM_set {i len pc f : Nat} {z : Int32} {zl : Int64} {ts : List Nat} {v : Int32} {st : List Value} (he : hI mi k = some (.putfield i, len, pc, 9, f, z, zl, ts)) (hf : decide (f = 0 ∨ f = 6 ∨ f = 8 ∨ f = 13 ∨ f = 15 ∨ f = 16 ∨ f = 17) = true) (K : hRun mi (k + 1) L st (hpM h b (s2 M 0 (jM f) v) x) r h') : hRun mi k L (.int v :: .ref b :: st) (hpM h b M x) r h' := by
  have hf := of_decide_eq_true hf
  have key : hFit (hTy 9 f) (.int v) = true ∧ decide (f < (oM b M x).length) = true ∧ (oM b M x).set f (.int v) = oM b (s2 M 0 (jM f) v) x := by
    rcases hf with rfl | rfl | rfl | rfl | rfl | rfl | rfl <;> exact ⟨rfl, rfl, rfl⟩
  refine r_put he hpM_0 key.1 key.2.1 ?_
  rw [hpM_o key.2.2 (fun m h1 => s2_row (by omega))]
  exact K
theorem rM_setx {i len pc : Nat} {z : Int32} {zl : Int64} {ts : List Nat} {v : Int64} {st : List Value} (he : hI mi k = some (.putfield i, len, pc, 9, 2, z, zl, ts)) (K : hRun mi (k + 1) L st (hpM h b M v) r h') : hRun mi k L (.long v :: .ref b :: st) (hpM h b M x) r h' := by
  refine r_put he hpM_0 rfl rfl ?_
  have e : (oM b M x).set 2 (.long v) = oM b M v := rfl
  rw [hpM_o e (fun m h1 => rfl)]
  exact K
theorem lM_lt (j : Nat) : lM j < 2 ^ 31 := by
  unfold lM
  split <;> omega
theorem rM_ild {len pc w y j p : Nat} {z : Int32} {zl : Int64} {ts : List Nat} {st : List Value} (he : hI mi k = some (.iaload, len, pc, w, y, z, zl, ts)) (hj : decide (1 ≤ j ∧ j ≤ 9) = true) (hp : p < lM j) (K : hRun mi (k + 1) L (.int (M j p) :: st) (hpM h b M x) r h') : hRun mi k L (.int (nI p) :: .ref (b + j) :: st) (hpM h b M x) r h' := by
  have hj := of_decide_eq_true hj
  have ht : tM j = 0 := by
    unfold tM
    split <;> omega
  refine r_ild he (hpM_j hj.1 (by omega)) (by rw [ht]; rfl) hp (lM_lt j) K
theorem rM_ist {len pc w y j p : Nat} {z : Int32} {zl : Int64} {ts : List Nat} {v : Int32} {st : List Value} (he : hI mi k = some (.iastore, len, pc, w, y, z, zl, ts)) (hj : decide (1 ≤ j ∧ j ≤ 9) = true) (hp : p < lM j) (K : hRun mi (k + 1) L st (hpM h b (s1 M j (upd (M j) p v)) x) r h') : hRun mi k L (.int v :: .int (nI p) :: .ref (b + j) :: st) (hpM h b M x) r h' := by
  have hj := of_decide_eq_true hj
  have ht : tM j = 0 := by
    unfold tM
    split <;> omega
  have hc := hpM_j (h := h) (b := b) (M := M) (x := x) hj.1 (by omega : j ≤ 11)
  rw [ht] at hc
  refine r_ist he hc hp (lM_lt j) ?_
  have := hpM_st (h := h) (b := b) (M := M) (x := x) (f := upd (M j) p v) hj.1 (by omega : j ≤ 11)
  rw [ht] at this
  rw [this]
  exact K
theorem rM_call {i len pc w y : Nat} {z : Int32} {zl : Int64} {ts : List Nat} {q : hR} {r1 : Option Value} {h1 : hH} {as : List Value} (he : hI mi k = some (.invokevirtual i, len, pc, w, y, z, zl, ts)) (hq : hmR w = some q) (h5 : q.2.2.2.2.2.1 = 9) (ha : (st.take y).reverse = .ref b :: as) (hs : decide (hCats (st.drop y) ≤ 8 ∧ (st.take y).length = y ∧ (hFl (st.take y).reverse).length ≤ q.2.2.1) = true) (C : hRun w 0 (hEnt (.ref b :: as) q.2.2.1) [] (hpM h b M x) r1 h1) (K : hRun mi (k + 1) L (r1.toList ++ st.drop y) h1 r h') : hRun mi k L st (hpM h b M x) r h' := by
  refine r_call he rfl rfl rfl hq ?_ hs ?_ K
  · rw [ha, h5]
    simp [hRcv, hpM_0]
  · dsimp only
    rw [ha]
    exact C
end RMO
/-! numbers -/
theorem na1 (a : Nat) : nI a + 1 = nI (a + 1) := nI_add a 1
theorem na0 (a : Nat) : nI a + 0 = nI a := nI_add a 0
theorem na2 (a : Nat) : nI a + 2 = nI (a + 2) := nI_add a 2
theorem na3 (a : Nat) : nI a + 3 = nI (a + 3) := nI_add a 3
theorem na4 (a : Nat) : nI a + 4 = nI (a + 4) := nI_add a 4
theorem na5 (a : Nat) : nI a + 5 = nI (a + 5) := nI_add a 5
theorem na6 (a : Nat) : nI a + 6 = nI (a + 6) := nI_add a 6
theorem na7 (a : Nat) : nI a + 7 = nI (a + 7) := nI_add a 7
theorem na8 (a : Nat) : nI a + 8 = nI (a + 8) := nI_add a 8
theorem na16 (a : Nat) : nI a + 16 = nI (a + 16) := nI_add a 16
theorem na88 (a : Nat) : nI a + 88 = nI (a + 88) := nI_add a 88
theorem na148 (a : Nat) : nI a + 148 = nI (a + 148) := nI_add a 148
theorem nm3 (a : Nat) : 3 * nI a = nI (3 * a) := pk_mul 3 a
theorem nm1148 (a : Nat) : 1148 * nI a = nI (1148 * a) := pk_mul 1148 a
section MBS
variable {h : hH} {b : Nat} {M : hT2} {x : Int64} {n B : Nat}
theorem m_bank (s : Int32) : hRun 162 0 [.int s] [] h (some (.int (1148 * s))) h := by
  (repeat (first | refine r_fw rfl rfl rfl rfl ?_ | refine rS_get rfl rfl ?_ | refine rS_ild rfl rfl (by first | assumption | omega | (simp only [lS]; omega)) ?_)); try dsimp only
  exact r_ret rfl rfl rfl rfl
theorem m_flag (v : Int32) : hRun 171 0 [.int v] [] h (some (.int (if v = 0 then 0 else 1))) h := by
  (repeat (first | refine r_fw rfl rfl rfl rfl ?_ | refine rS_get rfl rfl ?_ | refine rS_ild rfl rfl (by first | assumption | omega | (simp only [lS]; omega)) ?_)); try dsimp only
  refine r_brI rfl rfl (fun hc => ?_) (fun hc => ?_)
  · (repeat (first | refine r_fw rfl rfl rfl rfl ?_ | refine rS_get rfl rfl ?_ | refine rS_ild rfl rfl (by first | assumption | omega | (simp only [lS]; omega)) ?_)); try dsimp only
    exact r_ret rfl rfl rfl rfl
  · (repeat (first | refine r_fw rfl rfl rfl rfl ?_ | refine rS_get rfl rfl ?_ | refine rS_ild rfl rfl (by first | assumption | omega | (simp only [lS]; omega)) ?_)); try dsimp only
    exact r_ret rfl rfl rfl rfl
theorem m_greater (u v : Int32) : hRun 186 0 [.int u, .int v] [] h (some (.int (if u ≤ v then v else u))) h := by
  (repeat (first | refine r_fw rfl rfl rfl rfl ?_ | refine rS_get rfl rfl ?_ | refine rS_ild rfl rfl (by first | assumption | omega | (simp only [lS]; omega)) ?_)); try dsimp only
  refine r_brI rfl rfl (fun hc => ?_) (fun hc => ?_)
  · (repeat (first | refine r_fw rfl rfl rfl rfl ?_ | refine rS_get rfl rfl ?_ | refine rS_ild rfl rfl (by first | assumption | omega | (simp only [lS]; omega)) ?_)); try dsimp only
    exact r_ret rfl rfl rfl rfl
  · (repeat (first | refine r_fw rfl rfl rfl rfl ?_ | refine rS_get rfl rfl ?_ | refine rS_ild rfl rfl (by first | assumption | omega | (simp only [lS]; omega)) ?_)); try dsimp only
    exact r_ret rfl rfl rfl rfl
theorem m_isIn (u v w : Int64) : hRun 161 0 [.long u, hU, .long v, hU, .long w, hU] [] h (some (.int (if u < v then 0 else if w < u then 0 else 1))) h := by
  (repeat (first | refine r_fw rfl rfl rfl rfl ?_ | refine rS_get rfl rfl ?_ | refine rS_ild rfl rfl (by first | assumption | omega | (simp only [lS]; omega)) ?_)); try dsimp only
  refine r_br rfl rfl (fun hc => ?_) (fun hc => ?_)
  · rw [if_pos (lcmp_lt.mp hc)]
    (repeat (first | refine r_fw rfl rfl rfl rfl ?_ | refine rS_get rfl rfl ?_ | refine rS_ild rfl rfl (by first | assumption | omega | (simp only [lS]; omega)) ?_)); try dsimp only
    exact r_ret rfl rfl rfl rfl
  · rw [if_neg (fun w => hc (lcmp_lt.mpr w))]
    (repeat (first | refine r_fw rfl rfl rfl rfl ?_ | refine rS_get rfl rfl ?_ | refine rS_ild rfl rfl (by first | assumption | omega | (simp only [lS]; omega)) ?_)); try dsimp only
    refine r_br rfl rfl (fun hc => ?_) (fun hc => ?_)
    · rw [if_pos (lcmp_gt.mp hc)]
      (repeat (first | refine r_fw rfl rfl rfl rfl ?_ | refine rS_get rfl rfl ?_ | refine rS_ild rfl rfl (by first | assumption | omega | (simp only [lS]; omega)) ?_)); try dsimp only
      exact r_ret rfl rfl rfl rfl
    · rw [if_neg (fun w => hc (lcmp_gt.mpr w))]
      (repeat (first | refine r_fw rfl rfl rfl rfl ?_ | refine rS_get rfl rfl ?_ | refine rS_ild rfl rfl (by first | assumption | omega | (simp only [lS]; omega)) ?_)); try dsimp only
      exact r_ret rfl rfl rfl rfl
theorem m_many (hB : B + 1148 ≤ 35588) : hRun 168 0 [.ref b, .int (nI B)] [] (hpM h b M x) (some (.int (M 1 (B + 2)))) (hpM h b M x) := by
  (repeat (first | refine r_fw rfl rfl rfl rfl ?_ | refine rM_get rfl rfl ?_)); try dsimp only
  try simp only [na0, na1, na2, na3, na4, na5, na6, na7, na8, na16, na88, na148, nm3, nI_add]
  refine rM_ild rfl rfl (show B + 2 < 35588 by omega) ?_
  exact r_ret rfl rfl rfl rfl
theorem m_of {i w : Nat} (hi : i ≤ 24) (hw : w < 3) (hB : B + 1148 ≤ 35588) : hRun 170 0 [.ref b, .int (nI B), .int (nI i), .int (nI w)] [] (hpM h b M x) (some (.int (M 1 (B + 16 + 3 * i + w)))) (hpM h b M x) := by
  (repeat (first | refine r_fw rfl rfl rfl rfl ?_ | refine rM_get rfl rfl ?_)); try dsimp only
  try simp only [na0, na1, na2, na3, na4, na5, na6, na7, na8, na16, na88, na148, nm3, nI_add]
  refine rM_ild rfl rfl (show B + 16 + 3 * i + w < 35588 by omega) ?_
  exact r_ret rfl rfl rfl rfl
theorem m_truth {t : Nat} (ht : t < 1000) (hB : B + 1148 ≤ 35588) : hRun 173 0 [.ref b, .int (nI B), .int (nI t)] [] (hpM h b M x) (some (.int (M 1 (B + 148 + t)))) (hpM h b M x) := by
  (repeat (first | refine r_fw rfl rfl rfl rfl ?_ | refine rM_get rfl rfl ?_)); try dsimp only
  try simp only [na0, na1, na2, na3, na4, na5, na6, na7, na8, na16, na88, na148, nm3, nI_add]
  refine rM_ild rfl rfl (show B + 148 + t < 35588 by omega) ?_
  exact r_ret rfl rfl rfl rfl
theorem placeOf_loop {t : Int32} (hn : M 1 (B + 2) = nI n) (hn24 : n ≤ 24) (hB : B + 1148 ≤ 35588) : ∀ d p, p + d = n → hRun 182 2 [.ref b, .int (nI B), .int t, .int (nI p)] [] (hpM h b M x) (some (.int (fnF (fun q => M 1 (B + 16 + 3 * q)) t d p))) (hpM h b M x) := by
  intro d
  induction d with
  | zero =>
    intro p hp
    (repeat (first | refine r_fw rfl rfl rfl rfl ?_ | refine rM_get rfl rfl ?_)); try dsimp only
    try simp only [na0, na1, na2, na3, na4, na5, na6, na7, na8, na16, na88, na148, nm3, nI_add]
    refine rM_call rfl rfl rfl rfl rfl (m_many hB) ?_
    rw [hn]
    refine r_brT rfl rfl ?_ ?_
    · exact nI_le (by omega) (by omega)
    (repeat (first | refine r_fw rfl rfl rfl rfl ?_ | refine rM_get rfl rfl ?_)); try dsimp only
    try simp only [na0, na1, na2, na3, na4, na5, na6, na7, na8, na16, na88, na148, nm3, nI_add]
    exact r_ret rfl rfl rfl rfl
  | succ d ih =>
    intro p hp
    (repeat (first | refine r_fw rfl rfl rfl rfl ?_ | refine rM_get rfl rfl ?_)); try dsimp only
    try simp only [na0, na1, na2, na3, na4, na5, na6, na7, na8, na16, na88, na148, nm3, nI_add]
    refine rM_call rfl rfl rfl rfl rfl (m_many hB) ?_
    rw [hn]
    refine r_brF rfl rfl ?_ ?_
    · exact nle (by omega) (by omega)
    (repeat (first | refine r_fw rfl rfl rfl rfl ?_ | refine rM_get rfl rfl ?_)); try dsimp only
    try simp only [na0, na1, na2, na3, na4, na5, na6, na7, na8, na16, na88, na148, nm3, nI_add]
    refine rM_call rfl rfl rfl rfl rfl (m_of (w := 0) (by omega) (by omega) hB) ?_
    (repeat (first | refine r_fw rfl rfl rfl rfl ?_ | refine rM_get rfl rfl ?_)); try dsimp only
    try simp only [na0, na1, na2, na3, na4, na5, na6, na7, na8, na16, na88, na148, nm3, nI_add]
    unfold fnF
    refine r_brI rfl rfl (fun hc => ?_) (fun hc => ?_)
    · (repeat (first | refine r_fw rfl rfl rfl rfl ?_ | refine rM_get rfl rfl ?_)); try dsimp only
      try simp only [na0, na1, na2, na3, na4, na5, na6, na7, na8, na16, na88, na148, nm3, nI_add]
      exact r_ret rfl rfl rfl rfl
    · (repeat (first | refine r_fw rfl rfl rfl rfl ?_ | refine rM_get rfl rfl ?_)); try dsimp only
      try simp only [na0, na1, na2, na3, na4, na5, na6, na7, na8, na16, na88, na148, nm3, nI_add]
      refine r_step rfl rfl rfl ?_
      exact ih (p + 1) (by omega)
theorem m_placeOf (t : Int32) (hn : M 1 (B + 2) = nI n) (hn24 : n ≤ 24) (hB : B + 1148 ≤ 35588) : hRun 182 0 [.ref b, .int (nI B), .int t, hU] [] (hpM h b M x) (some (.int (fnF (fun q => M 1 (B + 16 + 3 * q)) t n 0))) (hpM h b M x) := by
  refine r_step rfl rfl rfl ?_
  refine r_step rfl rfl rfl ?_
  exact placeOf_loop hn hn24 hB n 0 (by omega)
end MBS
