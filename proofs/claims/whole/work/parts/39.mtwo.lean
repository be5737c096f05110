/-! the reference: two banks, the tree, windows -/
section MTW
variable {h : hH} {b : Nat} {M : hT2} {x : Int64} {n m B O : Nat}
def lfF (V : hT2) (m : Nat) (T : hT2) (n : Nat) : Int32 := fo (fun p a => if fnF (V 1) (T 1 p) m 0 = -1 then a else a + 1) n 0 0
theorem leftOf_loop (hn : M 1 (B + 2) = nI n) (hn24 : n ≤ 24) (hB : B + 1148 ≤ 35588) (hm : M 1 (O + 2) = nI m) (hm24 : m ≤ 24) (hO : O + 1148 ≤ 35588) : ∀ d p a, p + d = n → hRun 193 4 [.ref b, .int (nI B), .int (nI O), .int a, .int (nI p)] [] (hpM h b M x) (some (.int (fo (fun p a => if fnF (mV (M 1) O 1) (mV (M 1) B 1 p) m 0 = -1 then a else a + 1) d p a))) (hpM h b M x) := by
  intro d
  induction d with
  | zero =>
    intro p a hp
    (repeat (first | refine r_fw rfl rfl rfl rfl ?_ | refine rM_get rfl rfl ?_)); try dsimp only
    try simp only [na0, na1, na2, na3, na4, na5, na6, na7, na8, na16, na88, na148, nm3, nI_add]
    refine rM_call rfl rfl rfl rfl rfl (m_many hB) ?_
    rw [hn]
    refine r_brT rfl rfl ?_ ?_
    · exact nI_le (by omega) (by omega)
    (repeat (first | refine r_fw rfl rfl rfl rfl ?_ | refine rM_get rfl rfl ?_)); try dsimp only
    try simp only [na0, na1, na2, na3, na4, na5, na6, na7, na8, na16, na88, na148, nm3, nI_add]
    exact r_ret rfl rfl rfl rfl
  | succ d ih =>
    intro p a hp
    (repeat (first | refine r_fw rfl rfl rfl rfl ?_ | refine rM_get rfl rfl ?_)); try dsimp only
    try simp only [na0, na1, na2, na3, na4, na5, na6, na7, na8, na16, na88, na148, nm3, nI_add]
    refine rM_call rfl rfl rfl rfl rfl (m_many hB) ?_
    rw [hn]
    refine r_brF rfl rfl ?_ ?_
    · exact nle (by omega) (by omega)
    (repeat (first | refine r_fw rfl rfl rfl rfl ?_ | refine rM_get rfl rfl ?_)); try dsimp only
    try simp only [na0, na1, na2, na3, na4, na5, na6, na7, na8, na16, na88, na148, nm3, nI_add]
    refine rM_call rfl rfl rfl rfl rfl (m_of (w := 0) (by omega) (by omega) hB) ?_
    refine rM_call rfl rfl rfl rfl rfl (m_placeOf _ hm hm24 hO) ?_
    (repeat (first | refine r_fw rfl rfl rfl rfl ?_ | refine rM_get rfl rfl ?_)); try dsimp only
    try simp only [na0, na1, na2, na3, na4, na5, na6, na7, na8, na16, na88, na148, nm3, nI_add]
    unfold fo
    by_cases hc : fnF (mV (M 1) O 1) (mV (M 1) B 1 p) m 0 = -1
    · rw [if_pos hc]
      refine r_brT rfl rfl ?_ ?_
      · exact hc
      (repeat (first | refine r_fw rfl rfl rfl rfl ?_ | refine rM_get rfl rfl ?_)); try dsimp only
      try simp only [na0, na1, na2, na3, na4, na5, na6, na7, na8, na16, na88, na148, nm3, nI_add]
      first | refine r_callS rfl rfl rfl rfl m_fl0 ?_ | refine r_callS rfl rfl rfl rfl m_fl1 ?_
      (repeat (first | refine r_fw rfl rfl rfl rfl ?_ | refine rM_get rfl rfl ?_)); try dsimp only
      try simp only [na0, na1, na2, na3, na4, na5, na6, na7, na8, na16, na88, na148, nm3, nI_add]
      rw [Int32.add_zero]
      refine r_step rfl rfl rfl ?_
      exact ih (p + 1) _ (by omega)
    · rw [if_neg hc]
      refine r_brF rfl rfl ?_ ?_
      · exact hc
      (repeat (first | refine r_fw rfl rfl rfl rfl ?_ | refine rM_get rfl rfl ?_)); try dsimp only
      try simp only [na0, na1, na2, na3, na4, na5, na6, na7, na8, na16, na88, na148, nm3, nI_add]
      first | refine r_callS rfl rfl rfl rfl m_fl0 ?_ | refine r_callS rfl rfl rfl rfl m_fl1 ?_
      (repeat (first | refine r_fw rfl rfl rfl rfl ?_ | refine rM_get rfl rfl ?_)); try dsimp only
      try simp only [na0, na1, na2, na3, na4, na5, na6, na7, na8, na16, na88, na148, nm3, nI_add]
      refine r_step rfl rfl rfl ?_
      exact ih (p + 1) _ (by omega)
theorem m_leftOf (hn : M 1 (B + 2) = nI n) (hn24 : n ≤ 24) (hB : B + 1148 ≤ 35588) (hm : M 1 (O + 2) = nI m) (hm24 : m ≤ 24) (hO : O + 1148 ≤ 35588) : hRun 193 0 [.ref b, .int (nI B), .int (nI O), hU, hU] [] (hpM h b M x) (some (.int (lfF (mV (M 1) O) m (mV (M 1) B) n))) (hpM h b M x) := by
  refine r_step rfl rfl rfl ?_
  refine r_step rfl rfl rfl ?_
  refine r_step rfl rfl rfl ?_
  refine r_step rfl rfl rfl ?_
  exact leftOf_loop hn hn24 hB hm hm24 hO n 0 0 (by omega)
def rlF (V : hT2) (pf : Nat → Nat) (at_ gone k ab : Int32) : Nat → Nat → Int32 → Int32
  | 0, _, _ => ab
  | d + 1, p, c => if nI (pf p) = at_ then rlF V pf at_ gone k ab d (p + 1) c else if nI (pf p) = gone then rlF V pf at_ gone k ab d (p + 1) c else if ab ≤ V 2 (pf p) then (if c + 1 = k then V 2 (pf p) else rlF V pf at_ gone k ab d (p + 1) (c + 1)) else rlF V pf at_ gone k ab d (p + 1) c
theorem rival_loop {pf : Nat → Nat} (at_ gone k ab : Int32) (hA : ∀ p, p < n → afF (mV (M 1) B) n (nI p) n 0 = nI (pf p) ∧ pf p < n) (hn : M 1 (B + 2) = nI n) (hn24 : n ≤ 24) (hB : B + 1148 ≤ 35588) : ∀ d p c (z : Value), p + d = n → hRun 230 4 [.ref b, .int (nI B), .int at_, .int gone, .int k, .int ab, .int c, .int (nI p), z] [] (hpM h b M x) (some (.int (rlF (mV (M 1) B) pf at_ gone k ab d p c))) (hpM h b M x) := by
  intro d
  induction d with
  | zero =>
    intro p c z hp
    (repeat (first | refine r_fw rfl rfl rfl rfl ?_ | refine rM_get rfl rfl ?_)); try dsimp only
    try simp only [na0, na1, na2, na3, na4, na5, na6, na7, na8, na16, na88, na148, nm3, nI_add]
    refine rM_call rfl rfl rfl rfl rfl (m_many hB) ?_
    rw [hn]
    refine r_brT rfl rfl ?_ ?_
    · exact nI_le (by omega) (by omega)
    (repeat (first | refine r_fw rfl rfl rfl rfl ?_ | refine rM_get rfl rfl ?_)); try dsimp only
    try simp only [na0, na1, na2, na3, na4, na5, na6, na7, na8, na16, na88, na148, nm3, nI_add]
    exact r_ret rfl rfl rfl rfl
  | succ d ih =>
    intro p c z hp
    obtain ⟨a1, a2⟩ := hA p (by omega)
    (repeat (first | refine r_fw rfl rfl rfl rfl ?_ | refine rM_get rfl rfl ?_)); try dsimp only
    try simp only [na0, na1, na2, na3, na4, na5, na6, na7, na8, na16, na88, na148, nm3, nI_add]
    refine rM_call rfl rfl rfl rfl rfl (m_many hB) ?_
    rw [hn]
    refine r_brF rfl rfl ?_ ?_
    · exact nle (by omega) (by omega)
    (repeat (first | refine r_fw rfl rfl rfl rfl ?_ | refine rM_get rfl rfl ?_)); try dsimp only
    try simp only [na0, na1, na2, na3, na4, na5, na6, na7, na8, na16, na88, na148, nm3, nI_add]
    refine rM_call rfl rfl rfl rfl rfl (m_atFall _ hn hn24 hB) ?_
    rw [a1]
    (repeat (first | refine r_fw rfl rfl rfl rfl ?_ | refine rM_get rfl rfl ?_)); try dsimp only
    try simp only [na0, na1, na2, na3, na4, na5, na6, na7, na8, na16, na88, na148, nm3, nI_add]
    unfold rlF
    by_cases c1 : nI (pf p) = at_
    · rw [if_pos c1]
      refine r_brT rfl rfl ?_ ?_
      · exact c1
      (repeat (first | refine r_fw rfl rfl rfl rfl ?_ | refine rM_get rfl rfl ?_)); try dsimp only
      try simp only [na0, na1, na2, na3, na4, na5, na6, na7, na8, na16, na88, na148, nm3, nI_add]
      refine r_step rfl rfl rfl ?_
      exact ih (p + 1) _ _ (by omega)
    · rw [if_neg c1]
      refine r_brF rfl rfl ?_ ?_
      · exact c1
      (repeat (first | refine r_fw rfl rfl rfl rfl ?_ | refine rM_get rfl rfl ?_)); try dsimp only
      try simp only [na0, na1, na2, na3, na4, na5, na6, na7, na8, na16, na88, na148, nm3, nI_add]
      by_cases c2 : nI (pf p) = gone
      · rw [if_pos c2]
        refine r_brT rfl rfl ?_ ?_
        · exact c2
        (repeat (first | refine r_fw rfl rfl rfl rfl ?_ | refine rM_get rfl rfl ?_)); try dsimp only
        try simp only [na0, na1, na2, na3, na4, na5, na6, na7, na8, na16, na88, na148, nm3, nI_add]
        refine r_step rfl rfl rfl ?_
        exact ih (p + 1) _ _ (by omega)
      · rw [if_neg c2]
        refine r_brF rfl rfl ?_ ?_
        · exact c2
        (repeat (first | refine r_fw rfl rfl rfl rfl ?_ | refine rM_get rfl rfl ?_)); try dsimp only
        try simp only [na0, na1, na2, na3, na4, na5, na6, na7, na8, na16, na88, na148, nm3, nI_add]
        refine rM_call rfl rfl rfl rfl rfl (m_of (w := 1) (by omega) (by omega) hB) ?_
        (repeat (first | refine r_fw rfl rfl rfl rfl ?_ | refine rM_get rfl rfl ?_)); try dsimp only
        try simp only [na0, na1, na2, na3, na4, na5, na6, na7, na8, na16, na88, na148, nm3, nI_add]
        by_cases c3 : ab ≤ mV (M 1) B 2 (pf p)
        · rw [if_pos c3]
          refine r_brT rfl rfl ?_ ?_
          · exact c3
          (repeat (first | refine r_fw rfl rfl rfl rfl ?_ | refine rM_get rfl rfl ?_)); try dsimp only
          try simp only [na0, na1, na2, na3, na4, na5, na6, na7, na8, na16, na88, na148, nm3, nI_add]
          by_cases c4 : c + 1 = k
          · rw [if_pos c4]
            refine r_brT rfl rfl ?_ ?_
            · exact c4
            (repeat (first | refine r_fw rfl rfl rfl rfl ?_ | refine rM_get rfl rfl ?_)); try dsimp only
            try simp only [na0, na1, na2, na3, na4, na5, na6, na7, na8, na16, na88, na148, nm3, nI_add]
            refine rM_call rfl rfl rfl rfl rfl (m_of (w := 1) (by omega) (by omega) hB) ?_
            exact r_ret rfl rfl rfl rfl
          · rw [if_neg c4]
            refine r_brF rfl rfl ?_ ?_
            · exact c4
            (repeat (first | refine r_fw rfl rfl rfl rfl ?_ | refine rM_get rfl rfl ?_)); try dsimp only
            try simp only [na0, na1, na2, na3, na4, na5, na6, na7, na8, na16, na88, na148, nm3, nI_add]
            refine r_step rfl rfl rfl ?_
            exact ih (p + 1) _ _ (by omega)
        · rw [if_neg c3]
          refine r_brF rfl rfl ?_ ?_
          · exact c3
          (repeat (first | refine r_fw rfl rfl rfl rfl ?_ | refine rM_get rfl rfl ?_)); try dsimp only
          try simp only [na0, na1, na2, na3, na4, na5, na6, na7, na8, na16, na88, na148, nm3, nI_add]
          refine r_step rfl rfl rfl ?_
          exact ih (p + 1) _ _ (by omega)
theorem m_rival {pf : Nat → Nat} (at_ gone k ab : Int32) (hA : ∀ p, p < n → afF (mV (M 1) B) n (nI p) n 0 = nI (pf p) ∧ pf p < n) (hn : M 1 (B + 2) = nI n) (hn24 : n ≤ 24) (hB : B + 1148 ≤ 35588) : hRun 230 0 [.ref b, .int (nI B), .int at_, .int gone, .int k, .int ab, hU, hU, hU] [] (hpM h b M x) (some (.int (rlF (mV (M 1) B) pf at_ gone k ab n 0 0))) (hpM h b M x) := by
  refine r_step rfl rfl rfl ?_
  refine r_step rfl rfl rfl ?_
  refine r_step rfl rfl rfl ?_
  refine r_step rfl rfl rfl ?_
  exact rival_loop at_ gone k ab hA hn hn24 hB n 0 0 _ (by omega)
/-- the least thing that has no counter, but not one -/
theorem newOne_loop {T : Nat} (bt : Int32) (hT : T < 1000) (hT1 : nI T ≠ bt) (hT2 : fnF (mV (M 1) B 1) (nI T) n 0 = -1) (hT3 : ∀ t, t < T → nI t = bt ∨ fnF (mV (M 1) B 1) (nI t) n 0 ≠ -1) (hn : M 1 (B + 2) = nI n) (hn24 : n ≤ 24) (hB : B + 1148 ≤ 35588) : ∀ d t, t + d = T → hRun 232 2 [.ref b, .int (nI B), .int bt, .int (nI t)] [] (hpM h b M x) (some (.int (nI T))) (hpM h b M x) := by
  intro d
  induction d with
  | zero =>
    intro t ht
    have e : t = T := by omega
    subst e
    (repeat (first | refine r_fw rfl rfl rfl rfl ?_ | refine rM_get rfl rfl ?_)); try dsimp only
    try simp only [na0, na1, na2, na3, na4, na5, na6, na7, na8, na16, na88, na148, nm3, nI_add]
    refine r_brF rfl rfl ?_ ?_
    · exact hT1
    (repeat (first | refine r_fw rfl rfl rfl rfl ?_ | refine rM_get rfl rfl ?_)); try dsimp only
    try simp only [na0, na1, na2, na3, na4, na5, na6, na7, na8, na16, na88, na148, nm3, nI_add]
    refine rM_call rfl rfl rfl rfl rfl (m_placeOf _ hn hn24 hB) ?_
    (repeat (first | refine r_fw rfl rfl rfl rfl ?_ | refine rM_get rfl rfl ?_)); try dsimp only
    try simp only [na0, na1, na2, na3, na4, na5, na6, na7, na8, na16, na88, na148, nm3, nI_add]
    refine r_brT rfl rfl ?_ ?_
    · exact hT2
    (repeat (first | refine r_fw rfl rfl rfl rfl ?_ | refine rM_get rfl rfl ?_)); try dsimp only
    try simp only [na0, na1, na2, na3, na4, na5, na6, na7, na8, na16, na88, na148, nm3, nI_add]
    exact r_ret rfl rfl rfl rfl
  | succ d ih =>
    intro t ht
    (repeat (first | refine r_fw rfl rfl rfl rfl ?_ | refine rM_get rfl rfl ?_)); try dsimp only
    try simp only [na0, na1, na2, na3, na4, na5, na6, na7, na8, na16, na88, na148, nm3, nI_add]
    by_cases c1 : nI t = bt
    · refine r_brT rfl rfl ?_ ?_
      · exact c1
      (repeat (first | refine r_fw rfl rfl rfl rfl ?_ | refine rM_get rfl rfl ?_)); try dsimp only
      try simp only [na0, na1, na2, na3, na4, na5, na6, na7, na8, na16, na88, na148, nm3, nI_add]
      refine r_step rfl rfl rfl ?_
      exact ih (t + 1) (by omega)
    · refine r_brF rfl rfl ?_ ?_
      · exact c1
      (repeat (first | refine r_fw rfl rfl rfl rfl ?_ | refine rM_get rfl rfl ?_)); try dsimp only
      try simp only [na0, na1, na2, na3, na4, na5, na6, na7, na8, na16, na88, na148, nm3, nI_add]
      refine rM_call rfl rfl rfl rfl rfl (m_placeOf _ hn hn24 hB) ?_
      (repeat (first | refine r_fw rfl rfl rfl rfl ?_ | refine rM_get rfl rfl ?_)); try dsimp only
      try simp only [na0, na1, na2, na3, na4, na5, na6, na7, na8, na16, na88, na148, nm3, nI_add]
      refine r_brF rfl rfl ?_ ?_
      · rcases hT3 t (by omega) with w | w
        · exact absurd w c1
        · exact w
      (repeat (first | refine r_fw rfl rfl rfl rfl ?_ | refine rM_get rfl rfl ?_)); try dsimp only
      try simp only [na0, na1, na2, na3, na4, na5, na6, na7, na8, na16, na88, na148, nm3, nI_add]
      refine r_step rfl rfl rfl ?_
      exact ih (t + 1) (by omega)
theorem m_newOne {T : Nat} (bt : Int32) (hT : T < 1000) (hT1 : nI T ≠ bt) (hT2 : fnF (mV (M 1) B 1) (nI T) n 0 = -1) (hT3 : ∀ t, t < T → nI t = bt ∨ fnF (mV (M 1) B 1) (nI t) n 0 ≠ -1) (hn : M 1 (B + 2) = nI n) (hn24 : n ≤ 24) (hB : B + 1148 ≤ 35588) : hRun 232 0 [.ref b, .int (nI B), .int bt, hU] [] (hpM h b M x) (some (.int (nI T))) (hpM h b M x) := by
  refine r_step rfl rfl rfl ?_
  refine r_step rfl rfl rfl ?_
  exact newOne_loop bt hT hT1 hT2 hT3 hn hn24 hB T 0 (by omega)
theorem m_risenBy (t : Int32) (hn : M 1 (B + 2) = nI n) (hn24 : n ≤ 24) (hB : B + 1148 ≤ 35588) (hm : M 1 (O + 2) = nI m) (hm24 : m ≤ 24) (hO : O + 1148 ≤ 35588) : hRun 235 0 [.ref b, .int (nI B), .int (nI O), .int t] [] (hpM h b M x) (some (.int (lowF (mV (M 1) O) m t - highF (mV (M 1) B) n t))) (hpM h b M x) := by
  (repeat (first | refine r_fw rfl rfl rfl rfl ?_ | refine rM_get rfl rfl ?_)); try dsimp only
  try simp only [na0, na1, na2, na3, na4, na5, na6, na7, na8, na16, na88, na148, nm3, nI_add]
  refine rM_call rfl rfl rfl rfl rfl (m_low _ hm hm24 hO) ?_
  (repeat (first | refine r_fw rfl rfl rfl rfl ?_ | refine rM_get rfl rfl ?_)); try dsimp only
  try simp only [na0, na1, na2, na3, na4, na5, na6, na7, na8, na16, na88, na148, nm3, nI_add]
  refine rM_call rfl rfl rfl rfl rfl (m_high _ hn hn24 hB) ?_
  (repeat (first | refine r_fw rfl rfl rfl rfl ?_ | refine rM_get rfl rfl ?_)); try dsimp only
  try simp only [na0, na1, na2, na3, na4, na5, na6, na7, na8, na16, na88, na148, nm3, nI_add]
  exact r_ret rfl rfl rfl rfl
def apF (V : hT2) (n : Nat) (T : hT2) (m : Nat) (g t : Int32) : Int32 := if g = 0 then grI 0 (grI (lowF T m t - highF V n t) (lowF V n t - highF T m t)) else grI 0 (grI (highF T m t - lowF V n t) (highF V n t - lowF T m t))
theorem m_apartBy (t g : Int32) (hn : M 1 (B + 2) = nI n) (hn24 : n ≤ 24) (hB : B + 1148 ≤ 35588) (hm : M 1 (O + 2) = nI m) (hm24 : m ≤ 24) (hO : O + 1148 ≤ 35588) : hRun 237 0 [.ref b, .int (nI B), .int (nI O), .int t, .int g, hU, hU] [] (hpM h b M x) (some (.int (apF (mV (M 1) B) n (mV (M 1) O) m g t))) (hpM h b M x) := by
  unfold apF
  (repeat (first | refine r_fw rfl rfl rfl rfl ?_ | refine rM_get rfl rfl ?_)); try dsimp only
  try simp only [na0, na1, na2, na3, na4, na5, na6, na7, na8, na16, na88, na148, nm3, nI_add]
  by_cases hg : g = 0
  · rw [if_pos hg]
    refine r_brT rfl rfl ?_ ?_
    · exact hg
    (repeat (first | refine r_fw rfl rfl rfl rfl ?_ | refine rM_get rfl rfl ?_)); try dsimp only
    try simp only [na0, na1, na2, na3, na4, na5, na6, na7, na8, na16, na88, na148, nm3, nI_add]
    refine rM_call rfl rfl rfl rfl rfl (m_low _ hm hm24 hO) ?_
    (repeat (first | refine r_fw rfl rfl rfl rfl ?_ | refine rM_get rfl rfl ?_)); try dsimp only
    try simp only [na0, na1, na2, na3, na4, na5, na6, na7, na8, na16, na88, na148, nm3, nI_add]
    refine rM_call rfl rfl rfl rfl rfl (m_high _ hn hn24 hB) ?_
    (repeat (first | refine r_fw rfl rfl rfl rfl ?_ | refine rM_get rfl rfl ?_)); try dsimp only
    try simp only [na0, na1, na2, na3, na4, na5, na6, na7, na8, na16, na88, na148, nm3, nI_add]
    refine r_brT rfl rfl ?_ ?_
    · exact hg
    (repeat (first | refine r_fw rfl rfl rfl rfl ?_ | refine rM_get rfl rfl ?_)); try dsimp only
    try simp only [na0, na1, na2, na3, na4, na5, na6, na7, na8, na16, na88, na148, nm3, nI_add]
    refine rM_call rfl rfl rfl rfl rfl (m_low _ hn hn24 hB) ?_
    (repeat (first | refine r_fw rfl rfl rfl rfl ?_ | refine rM_get rfl rfl ?_)); try dsimp only
    try simp only [na0, na1, na2, na3, na4, na5, na6, na7, na8, na16, na88, na148, nm3, nI_add]
    refine rM_call rfl rfl rfl rfl rfl (m_high _ hm hm24 hO) ?_
    (repeat (first | refine r_fw rfl rfl rfl rfl ?_ | refine rM_get rfl rfl ?_)); try dsimp only
    try simp only [na0, na1, na2, na3, na4, na5, na6, na7, na8, na16, na88, na148, nm3, nI_add]
    refine r_callS rfl rfl rfl rfl (m_greater _ _) ?_
    refine r_callS rfl rfl rfl rfl (m_greater _ _) ?_
    exact r_ret rfl rfl rfl rfl
  · rw [if_neg hg]
    refine r_brF rfl rfl ?_ ?_
    · exact hg
    (repeat (first | refine r_fw rfl rfl rfl rfl ?_ | refine rM_get rfl rfl ?_)); try dsimp only
    try simp only [na0, na1, na2, na3, na4, na5, na6, na7, na8, na16, na88, na148, nm3, nI_add]
    refine rM_call rfl rfl rfl rfl rfl (m_high _ hm hm24 hO) ?_
    (repeat (first | refine r_fw rfl rfl rfl rfl ?_ | refine rM_get rfl rfl ?_)); try dsimp only
    try simp only [na0, na1, na2, na3, na4, na5, na6, na7, na8, na16, na88, na148, nm3, nI_add]
    refine rM_call rfl rfl rfl rfl rfl (m_low _ hn hn24 hB) ?_
    (repeat (first | refine r_fw rfl rfl rfl rfl ?_ | refine rM_get rfl rfl ?_)); try dsimp only
    try simp only [na0, na1, na2, na3, na4, na5, na6, na7, na8, na16, na88, na148, nm3, nI_add]
    refine r_brF rfl rfl ?_ ?_
    · exact hg
    (repeat (first | refine r_fw rfl rfl rfl rfl ?_ | refine rM_get rfl rfl ?_)); try dsimp only
    try simp only [na0, na1, na2, na3, na4, na5, na6, na7, na8, na16, na88, na148, nm3, nI_add]
    refine rM_call rfl rfl rfl rfl rfl (m_high _ hn hn24 hB) ?_
    (repeat (first | refine r_fw rfl rfl rfl rfl ?_ | refine rM_get rfl rfl ?_)); try dsimp only
    try simp only [na0, na1, na2, na3, na4, na5, na6, na7, na8, na16, na88, na148, nm3, nI_add]
    refine rM_call rfl rfl rfl rfl rfl (m_low _ hm hm24 hO) ?_
    (repeat (first | refine r_fw rfl rfl rfl rfl ?_ | refine rM_get rfl rfl ?_)); try dsimp only
    try simp only [na0, na1, na2, na3, na4, na5, na6, na7, na8, na16, na88, na148, nm3, nI_add]
    refine r_callS rfl rfl rfl rfl (m_greater _ _) ?_
    refine r_callS rfl rfl rfl rfl (m_greater _ _) ?_
    exact r_ret rfl rfl rfl rfl
/-- by how much things have risen -/
def rbF (V : hT2) (n : Nat) (T : hT2) (m : Nat) (t : Int32) : Int32 := lowF T m t - highF V n t
def raF (V : hT2) (n : Nat) (T : hT2) (m : Nat) (t : Int32) : Int32 := fo (fun p a => if rbF V n T m t < rbF V n T m (T 1 p) then a + 1 else if rbF V n T m (T 1 p) = rbF V n T m t then (if t ≤ T 1 p then a else a + 1) else a) m 0 0
theorem risenAhead_loop (t : Int32) (hn : M 1 (B + 2) = nI n) (hn24 : n ≤ 24) (hB : B + 1148 ≤ 35588) (hm : M 1 (O + 2) = nI m) (hm24 : m ≤ 24) (hO : O + 1148 ≤ 35588) : ∀ d p a (y z : Value), y.category = 1 → p + d = m → hRun 239 10 [.ref b, .int (nI B), .int (nI O), .int t, .int (rbF (mV (M 1) B) n (mV (M 1) O) m t), .int a, .int (nI p), y, z] [] (hpM h b M x) (some (.int (fo (fun p a => if rbF (mV (M 1) B) n (mV (M 1) O) m t < rbF (mV (M 1) B) n (mV (M 1) O) m (mV (M 1) O 1 p) then a + 1 else if rbF (mV (M 1) B) n (mV (M 1) O) m (mV (M 1) O 1 p) = rbF (mV (M 1) B) n (mV (M 1) O) m t then (if t ≤ mV (M 1) O 1 p then a else a + 1) else a) d p a))) (hpM h b M x) := by
  intro d
  induction d with
  | zero =>
    intro p a y z hy hp
    (repeat (first | refine r_fw rfl rfl rfl rfl ?_ | refine rM_get rfl rfl ?_)); try dsimp only
    try simp only [na0, na1, na2, na3, na4, na5, na6, na7, na8, na16, na88, na148, nm3, nI_add]
    refine rM_call rfl rfl rfl rfl rfl (m_many hO) ?_
    rw [hm]
    refine r_brT rfl rfl ?_ ?_
    · exact nI_le (by omega) (by omega)
    (repeat (first | refine r_fw rfl rfl rfl rfl ?_ | refine rM_get rfl rfl ?_)); try dsimp only
    try simp only [na0, na1, na2, na3, na4, na5, na6, na7, na8, na16, na88, na148, nm3, nI_add]
    exact r_ret rfl rfl rfl rfl
  | succ d ih =>
    intro p a y z hy hp
    (repeat (first | refine r_fw rfl rfl rfl rfl ?_ | refine rM_get rfl rfl ?_)); try dsimp only
    try simp only [na0, na1, na2, na3, na4, na5, na6, na7, na8, na16, na88, na148, nm3, nI_add]
    refine rM_call rfl rfl rfl rfl rfl (m_many hO) ?_
    rw [hm]
    refine r_brF rfl rfl ?_ ?_
    · exact nle (by omega) (by omega)
    (repeat (first | refine r_fw rfl rfl rfl rfl ?_ | refine rM_get rfl rfl ?_)); try dsimp only
    try simp only [na0, na1, na2, na3, na4, na5, na6, na7, na8, na16, na88, na148, nm3, nI_add]
    refine rM_call rfl rfl rfl rfl rfl (m_of (w := 0) (by omega) (by omega) hO) ?_
    (repeat (first | refine r_fw rfl rfl rfl rfl ?_ | refine rM_get rfl rfl ?_)); try dsimp only
    try simp only [na0, na1, na2, na3, na4, na5, na6, na7, na8, na16, na88, na148, nm3, nI_add]
    refine rM_call rfl rfl rfl rfl rfl (m_risenBy _ hn hn24 hB hm hm24 hO) ?_
    (repeat (first | refine r_fw rfl rfl rfl rfl ?_ | refine rM_get rfl rfl ?_)); try dsimp only
    try simp only [na0, na1, na2, na3, na4, na5, na6, na7, na8, na16, na88, na148, nm3, nI_add]
    unfold fo
    by_cases hc : rbF (mV (M 1) B) n (mV (M 1) O) m t < rbF (mV (M 1) B) n (mV (M 1) O) m (mV (M 1) O 1 p)
    · rw [if_pos hc]
      refine r_brT rfl rfl ?_ ?_
      · exact hc
      (repeat (first | refine r_fw rfl rfl rfl rfl ?_ | refine rM_get rfl rfl ?_)); try dsimp only
      try simp only [na0, na1, na2, na3, na4, na5, na6, na7, na8, na16, na88, na148, nm3, nI_add]
      first | refine r_callS rfl rfl rfl rfl m_fl0 ?_ | refine r_callS rfl rfl rfl rfl m_fl1 ?_
      (repeat (first | refine r_fw rfl rfl rfl rfl ?_ | refine rM_get rfl rfl ?_)); try dsimp only
      try simp only [na0, na1, na2, na3, na4, na5, na6, na7, na8, na16, na88, na148, nm3, nI_add]
      refine r_step rfl rfl rfl ?_
      exact ih (p + 1) _ _ _ rfl (by omega)
    · rw [if_neg hc]
      refine r_brF rfl rfl ?_ ?_
      · exact hc
      (repeat (first | refine r_fw rfl rfl rfl rfl ?_ | refine rM_get rfl rfl ?_)); try dsimp only
      try simp only [na0, na1, na2, na3, na4, na5, na6, na7, na8, na16, na88, na148, nm3, nI_add]
      by_cases hd : rbF (mV (M 1) B) n (mV (M 1) O) m (mV (M 1) O 1 p) = rbF (mV (M 1) B) n (mV (M 1) O) m t
      · rw [if_pos hd]
        refine r_brT rfl rfl ?_ ?_
        · exact hd
        (repeat (first | refine r_fw rfl rfl rfl rfl ?_ | refine rM_get rfl rfl ?_)); try dsimp only
        try simp only [na0, na1, na2, na3, na4, na5, na6, na7, na8, na16, na88, na148, nm3, nI_add]
        by_cases he : t ≤ mV (M 1) O 1 p
        · rw [if_pos he]
          refine r_brT rfl rfl ?_ ?_
          · exact he
          (repeat (first | refine r_fw rfl rfl rfl rfl ?_ | refine rM_get rfl rfl ?_)); try dsimp only
          try simp only [na0, na1, na2, na3, na4, na5, na6, na7, na8, na16, na88, na148, nm3, nI_add]
          first | refine r_callS rfl rfl rfl rfl m_fl0 ?_ | refine r_callS rfl rfl rfl rfl m_fl1 ?_
          (repeat (first | refine r_fw rfl rfl rfl rfl ?_ | refine rM_get rfl rfl ?_)); try dsimp only
          try simp only [na0, na1, na2, na3, na4, na5, na6, na7, na8, na16, na88, na148, nm3, nI_add]
          rw [Int32.add_zero]
          refine r_step rfl rfl rfl ?_
          exact ih (p + 1) _ _ _ rfl (by omega)
        · rw [if_neg he]
          refine r_brF rfl rfl ?_ ?_
          · exact he
          (repeat (first | refine r_fw rfl rfl rfl rfl ?_ | refine rM_get rfl rfl ?_)); try dsimp only
          try simp only [na0, na1, na2, na3, na4, na5, na6, na7, na8, na16, na88, na148, nm3, nI_add]
          first | refine r_callS rfl rfl rfl rfl m_fl0 ?_ | refine r_callS rfl rfl rfl rfl m_fl1 ?_
          (repeat (first | refine r_fw rfl rfl rfl rfl ?_ | refine rM_get rfl rfl ?_)); try dsimp only
          try simp only [na0, na1, na2, na3, na4, na5, na6, na7, na8, na16, na88, na148, nm3, nI_add]
          refine r_step rfl rfl rfl ?_
          exact ih (p + 1) _ _ _ rfl (by omega)
      · rw [if_neg hd]
        refine r_brF rfl rfl ?_ ?_
        · exact hd
        (repeat (first | refine r_fw rfl rfl rfl rfl ?_ | refine rM_get rfl rfl ?_)); try dsimp only
        try simp only [na0, na1, na2, na3, na4, na5, na6, na7, na8, na16, na88, na148, nm3, nI_add]
        first | refine r_callS rfl rfl rfl rfl m_fl0 ?_ | refine r_callS rfl rfl rfl rfl m_fl1 ?_
        (repeat (first | refine r_fw rfl rfl rfl rfl ?_ | refine rM_get rfl rfl ?_)); try dsimp only
        try simp only [na0, na1, na2, na3, na4, na5, na6, na7, na8, na16, na88, na148, nm3, nI_add]
        rw [Int32.add_zero]
        refine r_step rfl rfl rfl ?_
        exact ih (p + 1) _ _ _ rfl (by omega)
theorem m_risenAhead (t : Int32) (hn : M 1 (B + 2) = nI n) (hn24 : n ≤ 24) (hB : B + 1148 ≤ 35588) (hm : M 1 (O + 2) = nI m) (hm24 : m ≤ 24) (hO : O + 1148 ≤ 35588) : hRun 239 0 [.ref b, .int (nI B), .int (nI O), .int t, hU, hU, hU, hU, hU] [] (hpM h b M x) (some (.int (raF (mV (M 1) B) n (mV (M 1) O) m t))) (hpM h b M x) := by
  refine r_step rfl rfl rfl ?_
  refine r_step rfl rfl rfl ?_
  refine r_step rfl rfl rfl ?_
  refine r_step rfl rfl rfl ?_
  refine rM_call rfl rfl rfl rfl rfl (m_risenBy _ hn hn24 hB hm hm24 hO) ?_
  refine r_step rfl rfl rfl ?_
  refine r_step rfl rfl rfl ?_
  refine r_step rfl rfl rfl ?_
  refine r_step rfl rfl rfl ?_
  refine r_step rfl rfl rfl ?_
  exact risenAhead_loop t hn hn24 hB hm hm24 hO m 0 0 _ _ rfl (by omega)
/-- how many things a node has -/
def wdF (l : Nat) : Nat := match l with
  | 3 => 1
  | 2 => 10
  | 1 => 100
  | _ => 1000
theorem m_wide {l : Nat} (hl : l ≤ 3) : hRun 248 0 [.int (nI l)] [] h (some (.int (nI (wdF l)))) h := by
  have : l = 0 ∨ l = 1 ∨ l = 2 ∨ l = 3 := by omega
  rcases this with rfl | rfl | rfl | rfl
  · (repeat (first | refine r_fw rfl rfl rfl rfl ?_ | refine rS_get rfl rfl ?_ | refine rS_ild rfl rfl (by first | assumption | omega | (simp only [lS]; omega)) ?_)); try dsimp only
    refine r_brF rfl rfl ?_ ?_
    · decide
    (repeat (first | refine r_fw rfl rfl rfl rfl ?_ | refine rS_get rfl rfl ?_ | refine rS_ild rfl rfl (by first | assumption | omega | (simp only [lS]; omega)) ?_)); try dsimp only
    refine r_brF rfl rfl ?_ ?_
    · decide
    (repeat (first | refine r_fw rfl rfl rfl rfl ?_ | refine rS_get rfl rfl ?_ | refine rS_ild rfl rfl (by first | assumption | omega | (simp only [lS]; omega)) ?_)); try dsimp only
    refine r_brF rfl rfl ?_ ?_
    · decide
    (repeat (first | refine r_fw rfl rfl rfl rfl ?_ | refine rS_get rfl rfl ?_ | refine rS_ild rfl rfl (by first | assumption | omega | (simp only [lS]; omega)) ?_)); try dsimp only
    exact r_ret rfl rfl rfl rfl
  · (repeat (first | refine r_fw rfl rfl rfl rfl ?_ | refine rS_get rfl rfl ?_ | refine rS_ild rfl rfl (by first | assumption | omega | (simp only [lS]; omega)) ?_)); try dsimp only
    refine r_brF rfl rfl ?_ ?_
    · decide
    (repeat (first | refine r_fw rfl rfl rfl rfl ?_ | refine rS_get rfl rfl ?_ | refine rS_ild rfl rfl (by first | assumption | omega | (simp only [lS]; omega)) ?_)); try dsimp only
    refine r_brF rfl rfl ?_ ?_
    · decide
    (repeat (first | refine r_fw rfl rfl rfl rfl ?_ | refine rS_get rfl rfl ?_ | refine rS_ild rfl rfl (by first | assumption | omega | (simp only [lS]; omega)) ?_)); try dsimp only
    refine r_brT rfl rfl ?_ ?_
    · decide
    (repeat (first | refine r_fw rfl rfl rfl rfl ?_ | refine rS_get rfl rfl ?_ | refine rS_ild rfl rfl (by first | assumption | omega | (simp only [lS]; omega)) ?_)); try dsimp only
    exact r_ret rfl rfl rfl rfl
  · (repeat (first | refine r_fw rfl rfl rfl rfl ?_ | refine rS_get rfl rfl ?_ | refine rS_ild rfl rfl (by first | assumption | omega | (simp only [lS]; omega)) ?_)); try dsimp only
    refine r_brF rfl rfl ?_ ?_
    · decide
    (repeat (first | refine r_fw rfl rfl rfl rfl ?_ | refine rS_get rfl rfl ?_ | refine rS_ild rfl rfl (by first | assumption | omega | (simp only [lS]; omega)) ?_)); try dsimp only
    refine r_brT rfl rfl ?_ ?_
    · decide
    (repeat (first | refine r_fw rfl rfl rfl rfl ?_ | refine rS_get rfl rfl ?_ | refine rS_ild rfl rfl (by first | assumption | omega | (simp only [lS]; omega)) ?_)); try dsimp only
    exact r_ret rfl rfl rfl rfl
  · (repeat (first | refine r_fw rfl rfl rfl rfl ?_ | refine rS_get rfl rfl ?_ | refine rS_ild rfl rfl (by first | assumption | omega | (simp only [lS]; omega)) ?_)); try dsimp only
    refine r_brT rfl rfl ?_ ?_
    · decide
    (repeat (first | refine r_fw rfl rfl rfl rfl ?_ | refine rS_get rfl rfl ?_ | refine rS_ild rfl rfl (by first | assumption | omega | (simp only [lS]; omega)) ?_)); try dsimp only
    exact r_ret rfl rfl rfl rfl
theorem wdF_pos (l : Nat) : 0 < wdF l ∧ wdF l ≤ 1000 := by
  unfold wdF
  split <;> omega
theorem wd_ne (l : Nat) : ¬ nI (wdF l) = 0 := nI_ne0 (wdF_pos l).1 (by have := (wdF_pos l).2; omega)
def lnF (V : hT2) (n l : Nat) (nd : Int32) : Int32 := fo (fun p a => if V 1 p / nI (wdF l) = nd then a + V 3 p else a) n 0 0
theorem lowsOf_loop {l : Nat} (hl : l ≤ 3) (nd : Int32) (hn : M 1 (B + 2) = nI n) (hn24 : n ≤ 24) (hB : B + 1148 ≤ 35588) : ∀ d p a, p + d = n → hRun 249 4 [.ref b, .int (nI B), .int (nI l), .int nd, .int a, .int (nI p)] [] (hpM h b M x) (some (.int (fo (fun p a => if mV (M 1) B 1 p / nI (wdF l) = nd then a + mV (M 1) B 3 p else a) d p a))) (hpM h b M x) := by
  intro d
  induction d with
  | zero =>
    intro p a hp
    (repeat (first | refine r_fw rfl rfl rfl rfl ?_ | refine rM_get rfl rfl ?_)); try dsimp only
    try simp only [na0, na1, na2, na3, na4, na5, na6, na7, na8, na16, na88, na148, nm3, nI_add]
    refine rM_call rfl rfl rfl rfl rfl (m_many hB) ?_
    rw [hn]
    refine r_brT rfl rfl ?_ ?_
    · exact nI_le (by omega) (by omega)
    (repeat (first | refine r_fw rfl rfl rfl rfl ?_ | refine rM_get rfl rfl ?_)); try dsimp only
    try simp only [na0, na1, na2, na3, na4, na5, na6, na7, na8, na16, na88, na148, nm3, nI_add]
    exact r_ret rfl rfl rfl rfl
  | succ d ih =>
    intro p a hp
    (repeat (first | refine r_fw rfl rfl rfl rfl ?_ | refine rM_get rfl rfl ?_)); try dsimp only
    try simp only [na0, na1, na2, na3, na4, na5, na6, na7, na8, na16, na88, na148, nm3, nI_add]
    refine rM_call rfl rfl rfl rfl rfl (m_many hB) ?_
    rw [hn]
    refine r_brF rfl rfl ?_ ?_
    · exact nle (by omega) (by omega)
    (repeat (first | refine r_fw rfl rfl rfl rfl ?_ | refine rM_get rfl rfl ?_)); try dsimp only
    try simp only [na0, na1, na2, na3, na4, na5, na6, na7, na8, na16, na88, na148, nm3, nI_add]
    refine rM_call rfl rfl rfl rfl rfl (m_of (w := 0) (by omega) (by omega) hB) ?_
    (repeat (first | refine r_fw rfl rfl rfl rfl ?_ | refine rM_get rfl rfl ?_)); try dsimp only
    try simp only [na0, na1, na2, na3, na4, na5, na6, na7, na8, na16, na88, na148, nm3, nI_add]
    refine r_callS rfl rfl rfl rfl (m_wide hl) ?_
    refine r_fw rfl rfl rfl (if_neg (wd_ne l)) ?_
    (repeat (first | refine r_fw rfl rfl rfl rfl ?_ | refine rM_get rfl rfl ?_)); try dsimp only
    try simp only [na0, na1, na2, na3, na4, na5, na6, na7, na8, na16, na88, na148, nm3, nI_add]
    unfold fo
    by_cases hc : mV (M 1) B 1 p / nI (wdF l) = nd
    · rw [if_pos hc]
      refine r_brT rfl rfl ?_ ?_
      · exact hc
      (repeat (first | refine r_fw rfl rfl rfl rfl ?_ | refine rM_get rfl rfl ?_)); try dsimp only
      try simp only [na0, na1, na2, na3, na4, na5, na6, na7, na8, na16, na88, na148, nm3, nI_add]
      refine rM_call rfl rfl rfl rfl rfl (m_of (w := 2) (by omega) (by omega) hB) ?_
      (repeat (first | refine r_fw rfl rfl rfl rfl ?_ | refine rM_get rfl rfl ?_)); try dsimp only
      try simp only [na0, na1, na2, na3, na4, na5, na6, na7, na8, na16, na88, na148, nm3, nI_add]
      refine r_step rfl rfl rfl ?_
      exact ih (p + 1) _ (by omega)
    · rw [if_neg hc]
      refine r_brF rfl rfl ?_ ?_
      · exact hc
      (repeat (first | refine r_fw rfl rfl rfl rfl ?_ | refine rM_get rfl rfl ?_)); try dsimp only
      try simp only [na0, na1, na2, na3, na4, na5, na6, na7, na8, na16, na88, na148, nm3, nI_add]
      refine r_step rfl rfl rfl ?_
      exact ih (p + 1) _ (by omega)
theorem m_lowsOf {l : Nat} (hl : l ≤ 3) (nd : Int32) (hn : M 1 (B + 2) = nI n) (hn24 : n ≤ 24) (hB : B + 1148 ≤ 35588) : hRun 249 0 [.ref b, .int (nI B), .int (nI l), .int nd, hU, hU] [] (hpM h b M x) (some (.int (lnF (mV (M 1) B) n l nd))) (hpM h b M x) := by
  refine r_step rfl rfl rfl ?_
  refine r_step rfl rfl rfl ?_
  refine r_step rfl rfl rfl ?_
  refine r_step rfl rfl rfl ?_
  exact lowsOf_loop hl nd hn hn24 hB n 0 0 (by omega)
def cnF (V : hT2) (n l : Nat) (nd : Int32) : Int32 := fo (fun p a => if V 1 p / nI (wdF l) = nd then a + 1 else a) n 0 0
theorem mcountersOf_loop {l : Nat} (hl : l ≤ 3) (nd : Int32) (hn : M 1 (B + 2) = nI n) (hn24 : n ≤ 24) (hB : B + 1148 ≤ 35588) : ∀ d p a, p + d = n → hRun 250 4 [.ref b, .int (nI B), .int (nI l), .int nd, .int a, .int (nI p)] [] (hpM h b M x) (some (.int (fo (fun p a => if mV (M 1) B 1 p / nI (wdF l) = nd then a + 1 else a) d p a))) (hpM h b M x) := by
  intro d
  induction d with
  | zero =>
    intro p a hp
    (repeat (first | refine r_fw rfl rfl rfl rfl ?_ | refine rM_get rfl rfl ?_)); try dsimp only
    try simp only [na0, na1, na2, na3, na4, na5, na6, na7, na8, na16, na88, na148, nm3, nI_add]
    refine rM_call rfl rfl rfl rfl rfl (m_many hB) ?_
    rw [hn]
    refine r_brT rfl rfl ?_ ?_
    · exact nI_le (by omega) (by omega)
    (repeat (first | refine r_fw rfl rfl rfl rfl ?_ | refine rM_get rfl rfl ?_)); try dsimp only
    try simp only [na0, na1, na2, na3, na4, na5, na6, na7, na8, na16, na88, na148, nm3, nI_add]
    exact r_ret rfl rfl rfl rfl
  | succ d ih =>
    intro p a hp
    (repeat (first | refine r_fw rfl rfl rfl rfl ?_ | refine rM_get rfl rfl ?_)); try dsimp only
    try simp only [na0, na1, na2, na3, na4, na5, na6, na7, na8, na16, na88, na148, nm3, nI_add]
    refine rM_call rfl rfl rfl rfl rfl (m_many hB) ?_
    rw [hn]
    refine r_brF rfl rfl ?_ ?_
    · exact nle (by omega) (by omega)
    (repeat (first | refine r_fw rfl rfl rfl rfl ?_ | refine rM_get rfl rfl ?_)); try dsimp only
    try simp only [na0, na1, na2, na3, na4, na5, na6, na7, na8, na16, na88, na148, nm3, nI_add]
    refine rM_call rfl rfl rfl rfl rfl (m_of (w := 0) (by omega) (by omega) hB) ?_
    (repeat (first | refine r_fw rfl rfl rfl rfl ?_ | refine rM_get rfl rfl ?_)); try dsimp only
    try simp only [na0, na1, na2, na3, na4, na5, na6, na7, na8, na16, na88, na148, nm3, nI_add]
    refine r_callS rfl rfl rfl rfl (m_wide hl) ?_
    refine r_fw rfl rfl rfl (if_neg (wd_ne l)) ?_
    (repeat (first | refine r_fw rfl rfl rfl rfl ?_ | refine rM_get rfl rfl ?_)); try dsimp only
    try simp only [na0, na1, na2, na3, na4, na5, na6, na7, na8, na16, na88, na148, nm3, nI_add]
    unfold fo
    by_cases hc : mV (M 1) B 1 p / nI (wdF l) = nd
    · rw [if_pos hc]
      refine r_brT rfl rfl ?_ ?_
      · exact hc
      (repeat (first | refine r_fw rfl rfl rfl rfl ?_ | refine rM_get rfl rfl ?_)); try dsimp only
      try simp only [na0, na1, na2, na3, na4, na5, na6, na7, na8, na16, na88, na148, nm3, nI_add]
      first | refine r_callS rfl rfl rfl rfl m_fl0 ?_ | refine r_callS rfl rfl rfl rfl m_fl1 ?_
      (repeat (first | refine r_fw rfl rfl rfl rfl ?_ | refine rM_get rfl rfl ?_)); try dsimp only
      try simp only [na0, na1, na2, na3, na4, na5, na6, na7, na8, na16, na88, na148, nm3, nI_add]
      refine r_step rfl rfl rfl ?_
      exact ih (p + 1) _ (by omega)
    · rw [if_neg hc]
      refine r_brF rfl rfl ?_ ?_
      · exact hc
      (repeat (first | refine r_fw rfl rfl rfl rfl ?_ | refine rM_get rfl rfl ?_)); try dsimp only
      try simp only [na0, na1, na2, na3, na4, na5, na6, na7, na8, na16, na88, na148, nm3, nI_add]
      first | refine r_callS rfl rfl rfl rfl m_fl0 ?_ | refine r_callS rfl rfl rfl rfl m_fl1 ?_
      (repeat (first | refine r_fw rfl rfl rfl rfl ?_ | refine rM_get rfl rfl ?_)); try dsimp only
      try simp only [na0, na1, na2, na3, na4, na5, na6, na7, na8, na16, na88, na148, nm3, nI_add]
      rw [Int32.add_zero]
      refine r_step rfl rfl rfl ?_
      exact ih (p + 1) _ (by omega)
theorem m_countersOf {l : Nat} (hl : l ≤ 3) (nd : Int32) (hn : M 1 (B + 2) = nI n) (hn24 : n ≤ 24) (hB : B + 1148 ≤ 35588) : hRun 250 0 [.ref b, .int (nI B), .int (nI l), .int nd, hU, hU] [] (hpM h b M x) (some (.int (cnF (mV (M 1) B) n l nd))) (hpM h b M x) := by
  refine r_step rfl rfl rfl ?_
  refine r_step rfl rfl rfl ?_
  refine r_step rfl rfl rfl ?_
  refine r_step rfl rfl rfl ?_
  exact mcountersOf_loop hl nd hn hn24 hB n 0 0 (by omega)
def ofsF (l : Nat) : Nat := match l with
  | 3 => 0
  | 2 => 1000
  | 1 => 1100
  | _ => 1110
theorem m_placeOfNode {l k : Nat} (hl : l ≤ 3) : hRun 253 0 [.int (nI l), .int (nI k)] [] h (some (.int (nI (k + ofsF l)))) h := by
  rw [← nI_add]
  have : l = 0 ∨ l = 1 ∨ l = 2 ∨ l = 3 := by omega
  rcases this with rfl | rfl | rfl | rfl
  · (repeat (first | refine r_fw rfl rfl rfl rfl ?_ | refine rS_get rfl rfl ?_ | refine rS_ild rfl rfl (by first | assumption | omega | (simp only [lS]; omega)) ?_)); try dsimp only
    refine r_brF rfl rfl ?_ ?_
    · decide
    (repeat (first | refine r_fw rfl rfl rfl rfl ?_ | refine rS_get rfl rfl ?_ | refine rS_ild rfl rfl (by first | assumption | omega | (simp only [lS]; omega)) ?_)); try dsimp only
    refine r_brF rfl rfl ?_ ?_
    · decide
    (repeat (first | refine r_fw rfl rfl rfl rfl ?_ | refine rS_get rfl rfl ?_ | refine rS_ild rfl rfl (by first | assumption | omega | (simp only [lS]; omega)) ?_)); try dsimp only
    refine r_brF rfl rfl ?_ ?_
    · decide
    (repeat (first | refine r_fw rfl rfl rfl rfl ?_ | refine rS_get rfl rfl ?_ | refine rS_ild rfl rfl (by first | assumption | omega | (simp only [lS]; omega)) ?_)); try dsimp only
    exact r_ret rfl rfl rfl rfl
  · (repeat (first | refine r_fw rfl rfl rfl rfl ?_ | refine rS_get rfl rfl ?_ | refine rS_ild rfl rfl (by first | assumption | omega | (simp only [lS]; omega)) ?_)); try dsimp only
    refine r_brF rfl rfl ?_ ?_
    · decide
    (repeat (first | refine r_fw rfl rfl rfl rfl ?_ | refine rS_get rfl rfl ?_ | refine rS_ild rfl rfl (by first | assumption | omega | (simp only [lS]; omega)) ?_)); try dsimp only
    refine r_brF rfl rfl ?_ ?_
    · decide
    (repeat (first | refine r_fw rfl rfl rfl rfl ?_ | refine rS_get rfl rfl ?_ | refine rS_ild rfl rfl (by first | assumption | omega | (simp only [lS]; omega)) ?_)); try dsimp only
    refine r_brT rfl rfl ?_ ?_
    · decide
    (repeat (first | refine r_fw rfl rfl rfl rfl ?_ | refine rS_get rfl rfl ?_ | refine rS_ild rfl rfl (by first | assumption | omega | (simp only [lS]; omega)) ?_)); try dsimp only
    exact r_ret rfl rfl rfl rfl
  · (repeat (first | refine r_fw rfl rfl rfl rfl ?_ | refine rS_get rfl rfl ?_ | refine rS_ild rfl rfl (by first | assumption | omega | (simp only [lS]; omega)) ?_)); try dsimp only
    refine r_brF rfl rfl ?_ ?_
    · decide
    (repeat (first | refine r_fw rfl rfl rfl rfl ?_ | refine rS_get rfl rfl ?_ | refine rS_ild rfl rfl (by first | assumption | omega | (simp only [lS]; omega)) ?_)); try dsimp only
    refine r_brT rfl rfl ?_ ?_
    · decide
    (repeat (first | refine r_fw rfl rfl rfl rfl ?_ | refine rS_get rfl rfl ?_ | refine rS_ild rfl rfl (by first | assumption | omega | (simp only [lS]; omega)) ?_)); try dsimp only
    exact r_ret rfl rfl rfl rfl
  · (repeat (first | refine r_fw rfl rfl rfl rfl ?_ | refine rS_get rfl rfl ?_ | refine rS_ild rfl rfl (by first | assumption | omega | (simp only [lS]; omega)) ?_)); try dsimp only
    refine r_brT rfl rfl ?_ ?_
    · decide
    (repeat (first | refine r_fw rfl rfl rfl rfl ?_ | refine rS_get rfl rfl ?_ | refine rS_ild rfl rfl (by first | assumption | omega | (simp only [lS]; omega)) ?_)); try dsimp only
    exact r_ret rfl rfl rfl rfl
theorem m_paneAt {v k : Nat} : hRun 257 0 [.int (nI v), .int (nI k)] [] h (some (.int (nI (20664 + 1148 * (6 * v + k))))) h := by
  rw [← nI_add, ← pk_mul, ← nI_add, ← pk_mul]
  (repeat (first | refine r_fw rfl rfl rfl rfl ?_ | refine rS_get rfl rfl ?_ | refine rS_ild rfl rfl (by first | assumption | omega | (simp only [lS]; omega)) ?_)); try dsimp only
  exact r_ret rfl rfl rfl rfl
theorem howMany_loop : ∀ d p a, p + d = 6 → hRun 166 4 [.ref b, .int a, .int (nI p)] [] (hpM h b M x) (some (.int (fo (fun p a => a + M 1 (1148 * p)) d p a))) (hpM h b M x) := by
  intro d
  induction d with
  | zero =>
    intro p a hp
    (repeat (first | refine r_fw rfl rfl rfl rfl ?_ | refine rM_get rfl rfl ?_)); try dsimp only
    try simp only [na0, na1, na2, na3, na4, na5, na6, na7, na8, na16, na88, na148, nm3, nI_add]
    refine r_brT rfl rfl ?_ ?_
    · exact nI_le (a := 6) (by omega) (by omega)
    (repeat (first | refine r_fw rfl rfl rfl rfl ?_ | refine rM_get rfl rfl ?_)); try dsimp only
    try simp only [na0, na1, na2, na3, na4, na5, na6, na7, na8, na16, na88, na148, nm3, nI_add]
    exact r_ret rfl rfl rfl rfl
  | succ d ih =>
    intro p a hp
    (repeat (first | refine r_fw rfl rfl rfl rfl ?_ | refine rM_get rfl rfl ?_)); try dsimp only
    try simp only [na0, na1, na2, na3, na4, na5, na6, na7, na8, na16, na88, na148, nm3, nI_add]
    refine r_brF rfl rfl ?_ ?_
    · exact nle (b := 6) (by omega) (by omega)
    (repeat (first | refine r_fw rfl rfl rfl rfl ?_ | refine rM_get rfl rfl ?_)); try dsimp only
    try simp only [na0, na1, na2, na3, na4, na5, na6, na7, na8, na16, na88, na148, nm3, nI_add]
    refine r_callS rfl rfl rfl rfl (m_bank _) ?_
    rw [nm1148]
    (repeat (first | refine r_fw rfl rfl rfl rfl ?_ | refine rM_get rfl rfl ?_)); try dsimp only
    try simp only [na0, na1, na2, na3, na4, na5, na6, na7, na8, na16, na88, na148, nm3, nI_add]
    refine rM_ild rfl rfl (show 1148 * p < 35588 by omega) ?_
    (repeat (first | refine r_fw rfl rfl rfl rfl ?_ | refine rM_get rfl rfl ?_)); try dsimp only
    try simp only [na0, na1, na2, na3, na4, na5, na6, na7, na8, na16, na88, na148, nm3, nI_add]
    refine r_step rfl rfl rfl ?_
    exact ih (p + 1) _ (by omega)
theorem m_howMany : hRun 166 0 [.ref b, hU, hU] [] (hpM h b M x) (some (.int (fo (fun p a => a + M 1 (1148 * p)) 6 0 0))) (hpM h b M x) := by
  refine r_step rfl rfl rfl ?_
  refine r_step rfl rfl rfl ?_
  refine r_step rfl rfl rfl ?_
  refine r_step rfl rfl rfl ?_
  exact howMany_loop 6 0 0 (by omega)
end MTW
