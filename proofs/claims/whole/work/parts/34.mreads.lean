/-! the reference: what is asked of a bank -/
section MRD
variable {h : hH} {b : Nat} {M : hT2} {x : Int64} {n B : Nat}
/-- within, as the reference asks it -/
def inL3 (u v w : Int64) : Int32 := if u < v then 0 else if w < u then 0 else 1
theorem inL3_fit (u v w : Int64) : hFit .boolean (.int (inL3 u v w)) = true := by
  unfold inL3
  split
  · rfl
  · split <;> rfl
theorem m_isSummary (s : Int32) : hRun 160 0 [.ref b, .int s] [] (hpM h b M x) (some (.int (inL3 s.toInt64 0 5))) (hpM h b M x) := by
  (repeat (first | refine r_fw rfl rfl rfl rfl ?_ | refine rM_get rfl rfl ?_)); try dsimp only
  try simp only [na0, na1, na2, na3, na4, na5, na6, na7, na8, na16, na88, na148, nm3, nI_add]
  refine r_callS rfl rfl rfl rfl (m_isIn _ _ _) ?_
  exact r_ret rfl rfl rfl (inL3_fit _ _ _)
theorem m_isThing (t : Int32) : hRun 179 0 [.int t] [] h (some (.int (inL3 t.toInt64 0 999))) h := by
  (repeat (first | refine r_fw rfl rfl rfl rfl ?_ | refine rM_get rfl rfl ?_)); try dsimp only
  try simp only [na0, na1, na2, na3, na4, na5, na6, na7, na8, na16, na88, na148, nm3, nI_add]
  refine r_callS rfl rfl rfl rfl (m_isIn _ _ _) ?_
  exact r_ret rfl rfl rfl (inL3_fit _ _ _)
theorem m_isTop (t : Int32) : hRun 211 0 [.int t] [] h (some (.int (inL3 t.toInt64 1 24))) h := by
  (repeat (first | refine r_fw rfl rfl rfl rfl ?_ | refine rM_get rfl rfl ?_)); try dsimp only
  try simp only [na0, na1, na2, na3, na4, na5, na6, na7, na8, na16, na88, na148, nm3, nI_add]
  refine r_callS rfl rfl rfl rfl (m_isIn _ _ _) ?_
  exact r_ret rfl rfl rfl (inL3_fit _ _ _)
theorem m_isPart (t : Int32) : hRun 221 0 [.int t] [] h (some (.int (inL3 t.toInt64 1 1000))) h := by
  (repeat (first | refine r_fw rfl rfl rfl rfl ?_ | refine rM_get rfl rfl ?_)); try dsimp only
  try simp only [na0, na1, na2, na3, na4, na5, na6, na7, na8, na16, na88, na148, nm3, nI_add]
  refine r_callS rfl rfl rfl rfl (m_isIn _ _ _) ?_
  exact r_ret rfl rfl rfl (inL3_fit _ _ _)
theorem m_canCome (t v : Int32) : hRun 178 0 [.int t, .int v] [] h (some (.int (if inL3 t.toInt64 0 999 = 0 then 0 else if inL3 v.toInt64 1 9999 = 0 then 0 else 1))) h := by
  (repeat (first | refine r_fw rfl rfl rfl rfl ?_ | refine rM_get rfl rfl ?_)); try dsimp only
  try simp only [na0, na1, na2, na3, na4, na5, na6, na7, na8, na16, na88, na148, nm3, nI_add]
  refine r_callS rfl rfl rfl rfl (m_isThing _) ?_
  refine r_brI rfl rfl (fun hc => ?_) (fun hc => ?_)
  · (repeat (first | refine r_fw rfl rfl rfl rfl ?_ | refine rM_get rfl rfl ?_)); try dsimp only
    try simp only [na0, na1, na2, na3, na4, na5, na6, na7, na8, na16, na88, na148, nm3, nI_add]
    exact r_ret rfl rfl rfl rfl
  · (repeat (first | refine r_fw rfl rfl rfl rfl ?_ | refine rM_get rfl rfl ?_)); try dsimp only
    try simp only [na0, na1, na2, na3, na4, na5, na6, na7, na8, na16, na88, na148, nm3, nI_add]
    refine r_callS rfl rfl rfl rfl (m_isIn _ _ _) ?_
    refine r_brI rfl rfl (fun hc => ?_) (fun hc => ?_)
    · (repeat (first | refine r_fw rfl rfl rfl rfl ?_ | refine rM_get rfl rfl ?_)); try dsimp only
      try simp only [na0, na1, na2, na3, na4, na5, na6, na7, na8, na16, na88, na148, nm3, nI_add]
      exact r_ret rfl rfl rfl rfl
    · (repeat (first | refine r_fw rfl rfl rfl rfl ?_ | refine rM_get rfl rfl ?_)); try dsimp only
      try simp only [na0, na1, na2, na3, na4, na5, na6, na7, na8, na16, na88, na148, nm3, nI_add]
      exact r_ret rfl rfl rfl rfl
theorem m_isFull (v : Int64) (hB : B + 1148 ≤ 35588) : hRun 180 0 [.ref b, .int (nI B), .long v, hU] [] (hpM h b M x) (some (.int (if (M 1 (B + 3)).toInt64 + v ≤ 1000000000 then 0 else 1))) (hpM h b M x) := by
  (repeat (first | refine r_fw rfl rfl rfl rfl ?_ | refine rM_get rfl rfl ?_)); try dsimp only
  try simp only [na0, na1, na2, na3, na4, na5, na6, na7, na8, na16, na88, na148, nm3, nI_add]
  refine rM_ild rfl rfl (show B + 3 < 35588 by omega) ?_
  (repeat (first | refine r_fw rfl rfl rfl rfl ?_ | refine rM_get rfl rfl ?_)); try dsimp only
  try simp only [na0, na1, na2, na3, na4, na5, na6, na7, na8, na16, na88, na148, nm3, nI_add]
  refine r_br rfl rfl (fun hc => ?_) (fun hc => ?_)
  · rw [if_pos ?_]
    · (repeat (first | refine r_fw rfl rfl rfl rfl ?_ | refine rM_get rfl rfl ?_)); try dsimp only
      try simp only [na0, na1, na2, na3, na4, na5, na6, na7, na8, na16, na88, na148, nm3, nI_add]
      exact r_ret rfl rfl rfl rfl
    · by_cases w : (1000000000 : Int64) < (M 1 (B + 3)).toInt64 + v
      · exact absurd (lcmp_gt.mpr w) (by rw [Int32.lt_iff_toInt_lt]; rw [Int32.le_iff_toInt_le] at hc; omega)
      · exact Int64.not_lt.mp w
  · rw [if_neg ?_]
    · (repeat (first | refine r_fw rfl rfl rfl rfl ?_ | refine rM_get rfl rfl ?_)); try dsimp only
      try simp only [na0, na1, na2, na3, na4, na5, na6, na7, na8, na16, na88, na148, nm3, nI_add]
      exact r_ret rfl rfl rfl rfl
    · intro w
      refine hc ?_
      by_cases w2 : 0 < lg_cmp ((M 1 (B + 3)).toInt64 + v) 1000000000
      · exact absurd (lcmp_gt.mp w2) (by rw [Int64.lt_iff_toInt_lt]; rw [Int64.le_iff_toInt_le] at w; omega)
      · exact Int32.not_lt.mp w2
theorem m_held (v : Int64) : hRun 176 0 [.long v, hU] [] h (some (.int (if v ≤ 1000000000 then v.toInt32 else 1000000000))) h := by
  (repeat (first | refine r_fw rfl rfl rfl rfl ?_ | refine rM_get rfl rfl ?_)); try dsimp only
  try simp only [na0, na1, na2, na3, na4, na5, na6, na7, na8, na16, na88, na148, nm3, nI_add]
  refine r_br rfl rfl (fun hc => ?_) (fun hc => ?_)
  · rw [if_pos ?_]
    · (repeat (first | refine r_fw rfl rfl rfl rfl ?_ | refine rM_get rfl rfl ?_)); try dsimp only
      try simp only [na0, na1, na2, na3, na4, na5, na6, na7, na8, na16, na88, na148, nm3, nI_add]
      exact r_ret rfl rfl rfl rfl
    · by_cases w : (1000000000 : Int64) < v
      · exact absurd (lcmp_gt.mpr w) (by rw [Int32.lt_iff_toInt_lt]; rw [Int32.le_iff_toInt_le] at hc; omega)
      · exact Int64.not_lt.mp w
  · rw [if_neg ?_]
    · (repeat (first | refine r_fw rfl rfl rfl rfl ?_ | refine rM_get rfl rfl ?_)); try dsimp only
      try simp only [na0, na1, na2, na3, na4, na5, na6, na7, na8, na16, na88, na148, nm3, nI_add]
      exact r_ret rfl rfl rfl rfl
    · intro w
      refine hc ?_
      by_cases w2 : 0 < lg_cmp v 1000000000
      · exact absurd (lcmp_gt.mp w2) (by rw [Int64.lt_iff_toInt_lt]; rw [Int64.le_iff_toInt_le] at w; omega)
      · exact Int32.not_lt.mp w2
/-- the bank as a summary's rows: things, counts, lows, truths -/
def mV (w : Nat → Int32) (B : Nat) : hT2 := fun r p => match r with
  | 1 => w (B + 16 + 3 * p)
  | 2 => w (B + 16 + 3 * p + 1)
  | 3 => w (B + 16 + 3 * p + 2)
  | 4 => w (B + 148 + p)
  | _ => match p with
    | 0 => w B
    | 1 => w (B + 1)
    | 2 => w (B + 3)
    | 3 => w (B + 4)
    | 4 => w (B + 5)
    | 5 => w (B + 2)
    | 6 => w (B + 7)
    | _ => w (B + 6)
/-- at a place that was found -/
theorem fnF_at {f : Nat → Int32} {t : Int32} {n : Nat} (hn : n ≤ 24) (hc : ¬ fnF f t n 0 = -1) : ∃ q, q < n ∧ fnF f t n 0 = nI q ∧ (fnF f t n 0).toNatClampNeg = q := by
  rcases fnF_or f t n 0 with ⟨h1, -⟩ | ⟨q, -, hq, h3, -⟩
  · exact absurd h1 hc
  · exact ⟨q, by omega, h3, by rw [h3, nI_clamp (by omega)]⟩
theorem m_high (t : Int32) (hn : M 1 (B + 2) = nI n) (hn24 : n ≤ 24) (hB : B + 1148 ≤ 35588) : hRun 200 0 [.ref b, .int (nI B), .int t, hU] [] (hpM h b M x) (some (.int (highF (mV (M 1) B) n t))) (hpM h b M x) := by
  (repeat (first | refine r_fw rfl rfl rfl rfl ?_ | refine rM_get rfl rfl ?_)); try dsimp only
  try simp only [na0, na1, na2, na3, na4, na5, na6, na7, na8, na16, na88, na148, nm3, nI_add]
  refine rM_call rfl rfl rfl rfl rfl (m_placeOf t hn hn24 hB) ?_
  (repeat (first | refine r_fw rfl rfl rfl rfl ?_ | refine rM_get rfl rfl ?_)); try dsimp only
  try simp only [na0, na1, na2, na3, na4, na5, na6, na7, na8, na16, na88, na148, nm3, nI_add]
  unfold highF
  by_cases hc : fnF (mV (M 1) B 1) t n 0 = -1
  · rw [if_pos hc]
    refine r_brT rfl rfl ?_ ?_
    · exact hc
    (repeat (first | refine r_fw rfl rfl rfl rfl ?_ | refine rM_get rfl rfl ?_)); try dsimp only
    try simp only [na0, na1, na2, na3, na4, na5, na6, na7, na8, na16, na88, na148, nm3, nI_add]
    refine rM_ild rfl rfl (show B + 4 < 35588 by omega) ?_
    (repeat (first | refine r_fw rfl rfl rfl rfl ?_ | refine rM_get rfl rfl ?_)); try dsimp only
    try simp only [na0, na1, na2, na3, na4, na5, na6, na7, na8, na16, na88, na148, nm3, nI_add]
    exact r_ret rfl rfl rfl rfl
  · rw [if_neg hc]
    refine r_brF rfl rfl ?_ ?_
    · exact hc
    obtain ⟨q, h1, h2, h3⟩ := fnF_at hn24 hc
    rw [h3]
    have h2' : fnF (fun q => M 1 (B + 16 + 3 * q)) t n 0 = nI q := h2
    rw [h2']
    (repeat (first | refine r_fw rfl rfl rfl rfl ?_ | refine rM_get rfl rfl ?_)); try dsimp only
    try simp only [na0, na1, na2, na3, na4, na5, na6, na7, na8, na16, na88, na148, nm3, nI_add]
    refine rM_call rfl rfl rfl rfl rfl (m_of (w := 1) (by omega) (by omega) hB) ?_
    exact r_ret rfl rfl rfl rfl
theorem m_low (t : Int32) (hn : M 1 (B + 2) = nI n) (hn24 : n ≤ 24) (hB : B + 1148 ≤ 35588) : hRun 201 0 [.ref b, .int (nI B), .int t, hU] [] (hpM h b M x) (some (.int (lowF (mV (M 1) B) n t))) (hpM h b M x) := by
  (repeat (first | refine r_fw rfl rfl rfl rfl ?_ | refine rM_get rfl rfl ?_)); try dsimp only
  try simp only [na0, na1, na2, na3, na4, na5, na6, na7, na8, na16, na88, na148, nm3, nI_add]
  refine rM_call rfl rfl rfl rfl rfl (m_placeOf t hn hn24 hB) ?_
  (repeat (first | refine r_fw rfl rfl rfl rfl ?_ | refine rM_get rfl rfl ?_)); try dsimp only
  try simp only [na0, na1, na2, na3, na4, na5, na6, na7, na8, na16, na88, na148, nm3, nI_add]
  unfold lowF
  by_cases hc : fnF (mV (M 1) B 1) t n 0 = -1
  · rw [if_pos hc]
    refine r_brT rfl rfl ?_ ?_
    · exact hc
    (repeat (first | refine r_fw rfl rfl rfl rfl ?_ | refine rM_get rfl rfl ?_)); try dsimp only
    try simp only [na0, na1, na2, na3, na4, na5, na6, na7, na8, na16, na88, na148, nm3, nI_add]
    exact r_ret rfl rfl rfl rfl
  · rw [if_neg hc]
    refine r_brF rfl rfl ?_ ?_
    · exact hc
    obtain ⟨q, h1, h2, h3⟩ := fnF_at hn24 hc
    rw [h3]
    have h2' : fnF (fun q => M 1 (B + 16 + 3 * q)) t n 0 = nI q := h2
    rw [h2']
    (repeat (first | refine r_fw rfl rfl rfl rfl ?_ | refine rM_get rfl rfl ?_)); try dsimp only
    try simp only [na0, na1, na2, na3, na4, na5, na6, na7, na8, na16, na88, na148, nm3, nI_add]
    refine rM_call rfl rfl rfl rfl rfl (m_of (w := 2) (by omega) (by omega) hB) ?_
    exact r_ret rfl rfl rfl rfl
theorem lows_loop (hn : M 1 (B + 2) = nI n) (hn24 : n ≤ 24) (hB : B + 1148 ≤ 35588) : ∀ d p a, p + d = n → hRun 174 4 [.ref b, .int (nI B), .int a, .int (nI p)] [] (hpM h b M x) (some (.int (fo (fun p a => a + mV (M 1) B 3 p) d p a))) (hpM h b M x) := by
  intro d
  induction d with
  | zero =>
    intro p a hp
    (repeat (first | refine r_fw rfl rfl rfl rfl ?_ | refine rM_get rfl rfl ?_)); try dsimp only
    try simp only [na0, na1, na2, na3, na4, na5, na6, na7, na8, na16, na88, na148, nm3, nI_add]
    refine rM_call rfl rfl rfl rfl rfl (m_many hB) ?_
    rw [hn]
    refine r_brT rfl rfl ?_ ?_
    · exact nI_le (by omega) (by omega)
    (repeat (first | refine r_fw rfl rfl rfl rfl ?_ | refine rM_get rfl rfl ?_)); try dsimp only
    try simp only [na0, na1, na2, na3, na4, na5, na6, na7, na8, na16, na88, na148, nm3, nI_add]
    exact r_ret rfl rfl rfl rfl
  | succ d ih =>
    intro p a hp
    (repeat (first | refine r_fw rfl rfl rfl rfl ?_ | refine rM_get rfl rfl ?_)); try dsimp only
    try simp only [na0, na1, na2, na3, na4, na5, na6, na7, na8, na16, na88, na148, nm3, nI_add]
    refine rM_call rfl rfl rfl rfl rfl (m_many hB) ?_
    rw [hn]
    refine r_brF rfl rfl ?_ ?_
    · exact nle (by omega) (by omega)
    (repeat (first | refine r_fw rfl rfl rfl rfl ?_ | refine rM_get rfl rfl ?_)); try dsimp only
    try simp only [na0, na1, na2, na3, na4, na5, na6, na7, na8, na16, na88, na148, nm3, nI_add]
    refine rM_call rfl rfl rfl rfl rfl (m_of (w := 2) (by omega) (by omega) hB) ?_
    (repeat (first | refine r_fw rfl rfl rfl rfl ?_ | refine rM_get rfl rfl ?_)); try dsimp only
    try simp only [na0, na1, na2, na3, na4, na5, na6, na7, na8, na16, na88, na148, nm3, nI_add]
    refine r_step rfl rfl rfl ?_
    exact ih (p + 1) _ (by omega)
theorem m_lows (hn : M 1 (B + 2) = nI n) (hn24 : n ≤ 24) (hB : B + 1148 ≤ 35588) : hRun 174 0 [.ref b, .int (nI B), hU, hU] [] (hpM h b M x) (some (.int (fo (fun p a => a + mV (M 1) B 3 p) n 0 0))) (hpM h b M x) := by
  refine r_step rfl rfl rfl ?_
  refine r_step rfl rfl rfl ?_
  refine r_step rfl rfl rfl ?_
  refine r_step rfl rfl rfl ?_
  exact lows_loop hn hn24 hB n 0 0 (by omega)
theorem counts_loop (hn : M 1 (B + 2) = nI n) (hn24 : n ≤ 24) (hB : B + 1148 ≤ 35588) : ∀ d p (a : Int64), p + d = n → hRun 175 4 [.ref b, .int (nI B), .long a, hU, .int (nI p)] [] (hpM h b M x) (some (.long (fo (fun p a => a + (mV (M 1) B 2 p).toInt64) d p a))) (hpM h b M x) := by
  intro d
  induction d with
  | zero =>
    intro p a hp
    (repeat (first | refine r_fw rfl rfl rfl rfl ?_ | refine rM_get rfl rfl ?_)); try dsimp only
    try simp only [na0, na1, na2, na3, na4, na5, na6, na7, na8, na16, na88, na148, nm3, nI_add]
    refine rM_call rfl rfl rfl rfl rfl (m_many hB) ?_
    rw [hn]
    refine r_brT rfl rfl ?_ ?_
    · exact nI_le (by omega) (by omega)
    (repeat (first | refine r_fw rfl rfl rfl rfl ?_ | refine rM_get rfl rfl ?_)); try dsimp only
    try simp only [na0, na1, na2, na3, na4, na5, na6, na7, na8, na16, na88, na148, nm3, nI_add]
    exact r_ret rfl rfl rfl rfl
  | succ d ih =>
    intro p a hp
    (repeat (first | refine r_fw rfl rfl rfl rfl ?_ | refine rM_get rfl rfl ?_)); try dsimp only
    try simp only [na0, na1, na2, na3, na4, na5, na6, na7, na8, na16, na88, na148, nm3, nI_add]
    refine rM_call rfl rfl rfl rfl rfl (m_many hB) ?_
    rw [hn]
    refine r_brF rfl rfl ?_ ?_
    · exact nle (by omega) (by omega)
    (repeat (first | refine r_fw rfl rfl rfl rfl ?_ | refine rM_get rfl rfl ?_)); try dsimp only
    try simp only [na0, na1, na2, na3, na4, na5, na6, na7, na8, na16, na88, na148, nm3, nI_add]
    refine rM_call rfl rfl rfl rfl rfl (m_of (w := 1) (by omega) (by omega) hB) ?_
    (repeat (first | refine r_fw rfl rfl rfl rfl ?_ | refine rM_get rfl rfl ?_)); try dsimp only
    try simp only [na0, na1, na2, na3, na4, na5, na6, na7, na8, na16, na88, na148, nm3, nI_add]
    refine r_step rfl rfl rfl ?_
    exact ih (p + 1) _ (by omega)
theorem m_counts (hn : M 1 (B + 2) = nI n) (hn24 : n ≤ 24) (hB : B + 1148 ≤ 35588) : hRun 175 0 [.ref b, .int (nI B), hU, hU, hU] [] (hpM h b M x) (some (.long (fo (fun p a => a + (mV (M 1) B 2 p).toInt64) n 0 (0 : Int64)))) (hpM h b M x) := by
  refine r_step rfl rfl rfl ?_
  refine r_step rfl rfl rfl ?_
  refine r_step rfl rfl rfl ?_
  refine r_step rfl rfl rfl ?_
  exact counts_loop hn hn24 hB n 0 0 (by omega)
theorem trueOnes_loop (hB : B + 1148 ≤ 35588) : ∀ d p a, p + d = 1000 → hRun 172 4 [.ref b, .int (nI B), .int a, .int (nI p)] [] (hpM h b M x) (some (.int (fo (fun p a => if mV (M 1) B 4 p ≤ 0 then a + 0 else a + 1) d p a))) (hpM h b M x) := by
  intro d
  induction d with
  | zero =>
    intro p a hp
    (repeat (first | refine r_fw rfl rfl rfl rfl ?_ | refine rM_get rfl rfl ?_)); try dsimp only
    try simp only [na0, na1, na2, na3, na4, na5, na6, na7, na8, na16, na88, na148, nm3, nI_add]
    refine r_brT rfl rfl ?_ ?_
    · exact nI_le (a := 1000) (by omega) (by omega)
    (repeat (first | refine r_fw rfl rfl rfl rfl ?_ | refine rM_get rfl rfl ?_)); try dsimp only
    try simp only [na0, na1, na2, na3, na4, na5, na6, na7, na8, na16, na88, na148, nm3, nI_add]
    exact r_ret rfl rfl rfl rfl
  | succ d ih =>
    intro p a hp
    (repeat (first | refine r_fw rfl rfl rfl rfl ?_ | refine rM_get rfl rfl ?_)); try dsimp only
    try simp only [na0, na1, na2, na3, na4, na5, na6, na7, na8, na16, na88, na148, nm3, nI_add]
    refine r_brF rfl rfl ?_ ?_
    · exact nle (b := 1000) (by omega) (by omega)
    (repeat (first | refine r_fw rfl rfl rfl rfl ?_ | refine rM_get rfl rfl ?_)); try dsimp only
    try simp only [na0, na1, na2, na3, na4, na5, na6, na7, na8, na16, na88, na148, nm3, nI_add]
    refine rM_call rfl rfl rfl rfl rfl (m_truth (by omega) hB) ?_
    unfold fo
    refine r_br rfl rfl (fun hc => ?_) (fun hc => ?_)
    · rw [if_pos (show mV (M 1) B 4 p ≤ 0 from hc)]
      (repeat (first | refine r_fw rfl rfl rfl rfl ?_ | refine rM_get rfl rfl ?_)); try dsimp only
      try simp only [na0, na1, na2, na3, na4, na5, na6, na7, na8, na16, na88, na148, nm3, nI_add]
      refine r_callS rfl rfl rfl rfl (m_flag _) ?_
      (repeat (first | refine r_fw rfl rfl rfl rfl ?_ | refine rM_get rfl rfl ?_)); try dsimp only
      try simp only [na0, na1, na2, na3, na4, na5, na6, na7, na8, na16, na88, na148, nm3, nI_add]
      refine r_step rfl rfl rfl ?_
      exact ih (p + 1) _ (by omega)
    · rw [if_neg (show ¬ mV (M 1) B 4 p ≤ 0 from hc)]
      (repeat (first | refine r_fw rfl rfl rfl rfl ?_ | refine rM_get rfl rfl ?_)); try dsimp only
      try simp only [na0, na1, na2, na3, na4, na5, na6, na7, na8, na16, na88, na148, nm3, nI_add]
      refine r_callS rfl rfl rfl rfl (m_flag _) ?_
      (repeat (first | refine r_fw rfl rfl rfl rfl ?_ | refine rM_get rfl rfl ?_)); try dsimp only
      try simp only [na0, na1, na2, na3, na4, na5, na6, na7, na8, na16, na88, na148, nm3, nI_add]
      refine r_step rfl rfl rfl ?_
      exact ih (p + 1) _ (by omega)
theorem m_trueOnes (hB : B + 1148 ≤ 35588) : hRun 172 0 [.ref b, .int (nI B), hU, hU] [] (hpM h b M x) (some (.int (fo (fun p a => if mV (M 1) B 4 p ≤ 0 then a + 0 else a + 1) 1000 0 0))) (hpM h b M x) := by
  refine r_step rfl rfl rfl ?_
  refine r_step rfl rfl rfl ?_
  refine r_step rfl rfl rfl ?_
  refine r_step rfl rfl rfl ?_
  exact trueOnes_loop hB 1000 0 0 (by omega)
theorem m_isHeavy (o f : Int32) (hB : B + 1148 ≤ 35588) : hRun 222 0 [.ref b, .int (nI B), .int o, .int f] [] (hpM h b M x) (some (.int (reF o f (M 1 (B + 3))))) (hpM h b M x) := by
  (repeat (first | refine r_fw rfl rfl rfl rfl ?_ | refine rM_get rfl rfl ?_)); try dsimp only
  try simp only [na0, na1, na2, na3, na4, na5, na6, na7, na8, na16, na88, na148, nm3, nI_add]
  unfold reF
  refine r_brI rfl rfl (fun hc => ?_) (fun hc => ?_)
  · (repeat (first | refine r_fw rfl rfl rfl rfl ?_ | refine rM_get rfl rfl ?_)); try dsimp only
    try simp only [na0, na1, na2, na3, na4, na5, na6, na7, na8, na16, na88, na148, nm3, nI_add]
    exact r_ret rfl rfl rfl rfl
  · (repeat (first | refine r_fw rfl rfl rfl rfl ?_ | refine rM_get rfl rfl ?_)); try dsimp only
    try simp only [na0, na1, na2, na3, na4, na5, na6, na7, na8, na16, na88, na148, nm3, nI_add]
    refine rM_ild rfl rfl (show B + 3 < 35588 by omega) ?_
    (repeat (first | refine r_fw rfl rfl rfl rfl ?_ | refine rM_get rfl rfl ?_)); try dsimp only
    try simp only [na0, na1, na2, na3, na4, na5, na6, na7, na8, na16, na88, na148, nm3, nI_add]
    refine r_br rfl rfl (fun hc => ?_) (fun hc => ?_)
    · rw [if_pos (lcmp_lt.mp hc)]
      (repeat (first | refine r_fw rfl rfl rfl rfl ?_ | refine rM_get rfl rfl ?_)); try dsimp only
      try simp only [na0, na1, na2, na3, na4, na5, na6, na7, na8, na16, na88, na148, nm3, nI_add]
      exact r_ret rfl rfl rfl rfl
    · rw [if_neg (fun w => hc (lcmp_lt.mpr w))]
      (repeat (first | refine r_fw rfl rfl rfl rfl ?_ | refine rM_get rfl rfl ?_)); try dsimp only
      try simp only [na0, na1, na2, na3, na4, na5, na6, na7, na8, na16, na88, na148, nm3, nI_add]
      exact r_ret rfl rfl rfl rfl
end MRD
