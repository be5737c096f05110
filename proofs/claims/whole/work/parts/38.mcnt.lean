/-! the reference: what is counted in a bank -/
section MCN
variable {h : hH} {b : Nat} {M : hT2} {x : Int64} {n B : Nat}
theorem m_fl0 : hRun 171 0 [.int 0] [] h (some (.int 0)) h := m_flag 0
theorem m_fl1 : hRun 171 0 [.int 1] [] h (some (.int 1)) h := m_flag 1
def mb1 (V : hT2) (p : Nat) (a : Int32) : Int32 := if nI p = 0 then a + 1 else if V 2 p = V 2 (p - 1) then a else a + 1
theorem buckets_loop (hn : M 1 (B + 2) = nI n) (hn24 : n ≤ 24) (hB : B + 1148 ≤ 35588) : ∀ d p a, p + d = n → hRun 169 4 [.ref b, .int (nI B), .int a, .int (nI p)] [] (hpM h b M x) (some (.int (fo (mb1 (mV (M 1) B)) d p a))) (hpM h b M x) := by
  intro d
  induction d with
  | zero =>
    intro p a hp
    (repeat (first | refine r_fw rfl rfl rfl rfl ?_ | refine rM_get rfl rfl ?_)); try dsimp only
    try simp only [na0, na1, na2, na3, na4, na5, na6, na7, na8, na16, na88, na148, nm3, nI_add]
    refine rM_call rfl rfl rfl rfl rfl (m_many hB) ?_
    rw [hn]
    refine r_brT rfl rfl ?_ ?_
    · exact nI_le (by omega) (by omega)
    (repeat (first | refine r_fw rfl rfl rfl rfl ?_ | refine rM_get rfl rfl ?_)); try dsimp only
    try simp only [na0, na1, na2, na3, na4, na5, na6, na7, na8, na16, na88, na148, nm3, nI_add]
    exact r_ret rfl rfl rfl rfl
  | succ d ih =>
    intro p a hp
    (repeat (first | refine r_fw rfl rfl rfl rfl ?_ | refine rM_get rfl rfl ?_)); try dsimp only
    try simp only [na0, na1, na2, na3, na4, na5, na6, na7, na8, na16, na88, na148, nm3, nI_add]
    refine rM_call rfl rfl rfl rfl rfl (m_many hB) ?_
    rw [hn]
    refine r_brF rfl rfl ?_ ?_
    · exact nle (by omega) (by omega)
    (repeat (first | refine r_fw rfl rfl rfl rfl ?_ | refine rM_get rfl rfl ?_)); try dsimp only
    try simp only [na0, na1, na2, na3, na4, na5, na6, na7, na8, na16, na88, na148, nm3, nI_add]
    unfold fo
    unfold mb1
    by_cases hc : nI p = 0
    · rw [if_pos hc]
      refine r_brT rfl rfl ?_ ?_
      · exact hc
      (repeat (first | refine r_fw rfl rfl rfl rfl ?_ | refine rM_get rfl rfl ?_)); try dsimp only
      try simp only [na0, na1, na2, na3, na4, na5, na6, na7, na8, na16, na88, na148, nm3, nI_add]
      first | refine r_callS rfl rfl rfl rfl m_fl0 ?_ | refine r_callS rfl rfl rfl rfl m_fl1 ?_
      (repeat (first | refine r_fw rfl rfl rfl rfl ?_ | refine rM_get rfl rfl ?_)); try dsimp only
      try simp only [na0, na1, na2, na3, na4, na5, na6, na7, na8, na16, na88, na148, nm3, nI_add]
      refine r_step rfl rfl rfl ?_
      exact ih (p + 1) _ (by omega)
    · rw [if_neg hc]
      refine r_brF rfl rfl ?_ ?_
      · exact hc
      have hp0 : 0 < p := by
        rcases Nat.eq_zero_or_pos p with e | e
        · rw [e] at hc; exact absurd nI_0 hc
        · exact e
      (repeat (first | refine r_fw rfl rfl rfl rfl ?_ | refine rM_get rfl rfl ?_)); try dsimp only
      try simp only [na0, na1, na2, na3, na4, na5, na6, na7, na8, na16, na88, na148, nm3, nI_add]
      refine rM_call rfl rfl rfl rfl rfl (m_of (w := 1) (by omega) (by omega) hB) ?_
      (repeat (first | refine r_fw rfl rfl rfl rfl ?_ | refine rM_get rfl rfl ?_)); try dsimp only
      try simp only [na0, na1, na2, na3, na4, na5, na6, na7, na8, na16, na88, na148, nm3, nI_add]
      rw [nI_s1 hp0]
      refine rM_call rfl rfl rfl rfl rfl (m_of (w := 1) (by omega) (by omega) hB) ?_
      by_cases hd : mV (M 1) B 2 p = mV (M 1) B 2 (p - 1)
      · rw [if_pos hd]
        refine r_brT rfl rfl ?_ ?_
        · exact hd
        (repeat (first | refine r_fw rfl rfl rfl rfl ?_ | refine rM_get rfl rfl ?_)); try dsimp only
        try simp only [na0, na1, na2, na3, na4, na5, na6, na7, na8, na16, na88, na148, nm3, nI_add]
        first | refine r_callS rfl rfl rfl rfl m_fl0 ?_ | refine r_callS rfl rfl rfl rfl m_fl1 ?_
        (repeat (first | refine r_fw rfl rfl rfl rfl ?_ | refine rM_get rfl rfl ?_)); try dsimp only
        try simp only [na0, na1, na2, na3, na4, na5, na6, na7, na8, na16, na88, na148, nm3, nI_add]
        rw [Int32.add_zero]
        refine r_step rfl rfl rfl ?_
        exact ih (p + 1) _ (by omega)
      · rw [if_neg hd]
        refine r_brF rfl rfl ?_ ?_
        · exact hd
        (repeat (first | refine r_fw rfl rfl rfl rfl ?_ | refine rM_get rfl rfl ?_)); try dsimp only
        try simp only [na0, na1, na2, na3, na4, na5, na6, na7, na8, na16, na88, na148, nm3, nI_add]
        first | refine r_callS rfl rfl rfl rfl m_fl0 ?_ | refine r_callS rfl rfl rfl rfl m_fl1 ?_
        (repeat (first | refine r_fw rfl rfl rfl rfl ?_ | refine rM_get rfl rfl ?_)); try dsimp only
        try simp only [na0, na1, na2, na3, na4, na5, na6, na7, na8, na16, na88, na148, nm3, nI_add]
        refine r_step rfl rfl rfl ?_
        exact ih (p + 1) _ (by omega)
theorem m_buckets (hn : M 1 (B + 2) = nI n) (hn24 : n ≤ 24) (hB : B + 1148 ≤ 35588) : hRun 169 0 [.ref b, .int (nI B), hU, hU] [] (hpM h b M x) (some (.int (fo (mb1 (mV (M 1) B)) n 0 0))) (hpM h b M x) := by
  refine r_step rfl rfl rfl ?_
  refine r_step rfl rfl rfl ?_
  refine r_step rfl rfl rfl ?_
  refine r_step rfl rfl rfl ?_
  exact buckets_loop hn hn24 hB n 0 0 (by omega)
def mb2 (V : hT2) (p : Nat) (a : Int32) : Int32 := if V 2 p = V 2 (p - 1) then a else a + 1
theorem mbucketOf_loop {q : Nat} (hq : q < 24) (hB : B + 1148 ≤ 35588) : ∀ d p a, 1 ≤ p → p + d = q + 1 → hRun 205 4 [.ref b, .int (nI B), .int (nI q), .int a, .int (nI p)] [] (hpM h b M x) (some (.int (fo (mb2 (mV (M 1) B)) d p a))) (hpM h b M x) := by
  intro d
  induction d with
  | zero =>
    intro p a h1 hp
    (repeat (first | refine r_fw rfl rfl rfl rfl ?_ | refine rM_get rfl rfl ?_)); try dsimp only
    try simp only [na0, na1, na2, na3, na4, na5, na6, na7, na8, na16, na88, na148, nm3, nI_add]
    refine r_brT rfl rfl ?_ ?_
    · exact nI_lt (by omega) (by omega)
    (repeat (first | refine r_fw rfl rfl rfl rfl ?_ | refine rM_get rfl rfl ?_)); try dsimp only
    try simp only [na0, na1, na2, na3, na4, na5, na6, na7, na8, na16, na88, na148, nm3, nI_add]
    exact r_ret rfl rfl rfl rfl
  | succ d ih =>
    intro p a h1 hp
    (repeat (first | refine r_fw rfl rfl rfl rfl ?_ | refine rM_get rfl rfl ?_)); try dsimp only
    try simp only [na0, na1, na2, na3, na4, na5, na6, na7, na8, na16, na88, na148, nm3, nI_add]
    refine r_brF rfl rfl ?_ ?_
    · exact nI_nlt (by omega) (by omega)
    (repeat (first | refine r_fw rfl rfl rfl rfl ?_ | refine rM_get rfl rfl ?_)); try dsimp only
    try simp only [na0, na1, na2, na3, na4, na5, na6, na7, na8, na16, na88, na148, nm3, nI_add]
    unfold fo
    unfold mb2
    refine rM_call rfl rfl rfl rfl rfl (m_of (w := 1) (by omega) (by omega) hB) ?_
    (repeat (first | refine r_fw rfl rfl rfl rfl ?_ | refine rM_get rfl rfl ?_)); try dsimp only
    try simp only [na0, na1, na2, na3, na4, na5, na6, na7, na8, na16, na88, na148, nm3, nI_add]
    rw [nI_s1 h1]
    refine rM_call rfl rfl rfl rfl rfl (m_of (w := 1) (by omega) (by omega) hB) ?_
    by_cases hd : mV (M 1) B 2 p = mV (M 1) B 2 (p - 1)
    · rw [if_pos hd]
      refine r_brT rfl rfl ?_ ?_
      · exact hd
      (repeat (first | refine r_fw rfl rfl rfl rfl ?_ | refine rM_get rfl rfl ?_)); try dsimp only
      try simp only [na0, na1, na2, na3, na4, na5, na6, na7, na8, na16, na88, na148, nm3, nI_add]
      first | refine r_callS rfl rfl rfl rfl m_fl0 ?_ | refine r_callS rfl rfl rfl rfl m_fl1 ?_
      (repeat (first | refine r_fw rfl rfl rfl rfl ?_ | refine rM_get rfl rfl ?_)); try dsimp only
      try simp only [na0, na1, na2, na3, na4, na5, na6, na7, na8, na16, na88, na148, nm3, nI_add]
      rw [Int32.add_zero]
      refine r_step rfl rfl rfl ?_
      exact ih (p + 1) _ (by omega) (by omega)
    · rw [if_neg hd]
      refine r_brF rfl rfl ?_ ?_
      · exact hd
      (repeat (first | refine r_fw rfl rfl rfl rfl ?_ | refine rM_get rfl rfl ?_)); try dsimp only
      try simp only [na0, na1, na2, na3, na4, na5, na6, na7, na8, na16, na88, na148, nm3, nI_add]
      first | refine r_callS rfl rfl rfl rfl m_fl0 ?_ | refine r_callS rfl rfl rfl rfl m_fl1 ?_
      (repeat (first | refine r_fw rfl rfl rfl rfl ?_ | refine rM_get rfl rfl ?_)); try dsimp only
      try simp only [na0, na1, na2, na3, na4, na5, na6, na7, na8, na16, na88, na148, nm3, nI_add]
      refine r_step rfl rfl rfl ?_
      exact ih (p + 1) _ (by omega) (by omega)
theorem m_bucketOf {q : Nat} (hq : q < 24) (hB : B + 1148 ≤ 35588) : hRun 205 0 [.ref b, .int (nI B), .int (nI q), hU, hU] [] (hpM h b M x) (some (.int (fo (mb2 (mV (M 1) B)) q 1 0))) (hpM h b M x) := by
  refine r_step rfl rfl rfl ?_
  refine r_step rfl rfl rfl ?_
  refine r_step rfl rfl rfl ?_
  refine r_step rfl rfl rfl ?_
  exact mbucketOf_loop hq hB q 1 0 (by omega) (by omega)
theorem fallOf_loop {q : Nat} (hq : q < 24) (hn : M 1 (B + 2) = nI n) (hn24 : n ≤ 24) (hB : B + 1148 ≤ 35588) : ∀ d p a (z : Value), p + d = n → hRun 208 4 [.ref b, .int (nI B), .int (nI q), .int a, .int (nI p), z] [] (hpM h b M x) (some (.int (fo (fun p a => if mV (M 1) B 2 q < mV (M 1) B 2 p then a + 1 else if mV (M 1) B 2 p = mV (M 1) B 2 q then (if mV (M 1) B 1 q ≤ mV (M 1) B 1 p then a else a + 1) else a) d p a))) (hpM h b M x) := by
  intro d
  induction d with
  | zero =>
    intro p a z hp
    (repeat (first | refine r_fw rfl rfl rfl rfl ?_ | refine rM_get rfl rfl ?_)); try dsimp only
    try simp only [na0, na1, na2, na3, na4, na5, na6, na7, na8, na16, na88, na148, nm3, nI_add]
    refine rM_call rfl rfl rfl rfl rfl (m_many hB) ?_
    rw [hn]
    refine r_brT rfl rfl ?_ ?_
    · exact nI_le (by omega) (by omega)
    (repeat (first | refine r_fw rfl rfl rfl rfl ?_ | refine rM_get rfl rfl ?_)); try dsimp only
    try simp only [na0, na1, na2, na3, na4, na5, na6, na7, na8, na16, na88, na148, nm3, nI_add]
    exact r_ret rfl rfl rfl rfl
  | succ d ih =>
    intro p a z hp
    (repeat (first | refine r_fw rfl rfl rfl rfl ?_ | refine rM_get rfl rfl ?_)); try dsimp only
    try simp only [na0, na1, na2, na3, na4, na5, na6, na7, na8, na16, na88, na148, nm3, nI_add]
    refine rM_call rfl rfl rfl rfl rfl (m_many hB) ?_
    rw [hn]
    refine r_brF rfl rfl ?_ ?_
    · exact nle (by omega) (by omega)
    (repeat (first | refine r_fw rfl rfl rfl rfl ?_ | refine rM_get rfl rfl ?_)); try dsimp only
    try simp only [na0, na1, na2, na3, na4, na5, na6, na7, na8, na16, na88, na148, nm3, nI_add]
    unfold fo
    refine rM_call rfl rfl rfl rfl rfl (m_of (w := 1) (by omega) (by omega) hB) ?_
    (repeat (first | refine r_fw rfl rfl rfl rfl ?_ | refine rM_get rfl rfl ?_)); try dsimp only
    try simp only [na0, na1, na2, na3, na4, na5, na6, na7, na8, na16, na88, na148, nm3, nI_add]
    refine rM_call rfl rfl rfl rfl rfl (m_of (w := 1) (by omega) (by omega) hB) ?_
    by_cases hc : mV (M 1) B 2 q < mV (M 1) B 2 p
    · rw [if_pos hc]
      refine r_brT rfl rfl ?_ ?_
      · exact hc
      (repeat (first | refine r_fw rfl rfl rfl rfl ?_ | refine rM_get rfl rfl ?_)); try dsimp only
      try simp only [na0, na1, na2, na3, na4, na5, na6, na7, na8, na16, na88, na148, nm3, nI_add]
      first | refine r_callS rfl rfl rfl rfl m_fl0 ?_ | refine r_callS rfl rfl rfl rfl m_fl1 ?_
      (repeat (first | refine r_fw rfl rfl rfl rfl ?_ | refine rM_get rfl rfl ?_)); try dsimp only
      try simp only [na0, na1, na2, na3, na4, na5, na6, na7, na8, na16, na88, na148, nm3, nI_add]
      refine r_step rfl rfl rfl ?_
      exact ih (p + 1) _ _ (by omega)
    · rw [if_neg hc]
      refine r_brF rfl rfl ?_ ?_
      · exact hc
      (repeat (first | refine r_fw rfl rfl rfl rfl ?_ | refine rM_get rfl rfl ?_)); try dsimp only
      try simp only [na0, na1, na2, na3, na4, na5, na6, na7, na8, na16, na88, na148, nm3, nI_add]
      refine rM_call rfl rfl rfl rfl rfl (m_of (w := 1) (by omega) (by omega) hB) ?_
      by_cases hd : mV (M 1) B 2 p = mV (M 1) B 2 q
      · rw [if_pos hd]
        refine r_brT rfl rfl ?_ ?_
        · exact hd
        (repeat (first | refine r_fw rfl rfl rfl rfl ?_ | refine rM_get rfl rfl ?_)); try dsimp only
        try simp only [na0, na1, na2, na3, na4, na5, na6, na7, na8, na16, na88, na148, nm3, nI_add]
        refine rM_call rfl rfl rfl rfl rfl (m_of (w := 0) (by omega) (by omega) hB) ?_
        (repeat (first | refine r_fw rfl rfl rfl rfl ?_ | refine rM_get rfl rfl ?_)); try dsimp only
        try simp only [na0, na1, na2, na3, na4, na5, na6, na7, na8, na16, na88, na148, nm3, nI_add]
        refine rM_call rfl rfl rfl rfl rfl (m_of (w := 0) (by omega) (by omega) hB) ?_
        by_cases he : mV (M 1) B 1 q ≤ mV (M 1) B 1 p
        · rw [if_pos he]
          refine r_brT rfl rfl ?_ ?_
          · exact he
          (repeat (first | refine r_fw rfl rfl rfl rfl ?_ | refine rM_get rfl rfl ?_)); try dsimp only
          try simp only [na0, na1, na2, na3, na4, na5, na6, na7, na8, na16, na88, na148, nm3, nI_add]
          first | refine r_callS rfl rfl rfl rfl m_fl0 ?_ | refine r_callS rfl rfl rfl rfl m_fl1 ?_
          (repeat (first | refine r_fw rfl rfl rfl rfl ?_ | refine rM_get rfl rfl ?_)); try dsimp only
          try simp only [na0, na1, na2, na3, na4, na5, na6, na7, na8, na16, na88, na148, nm3, nI_add]
          rw [Int32.add_zero]
          refine r_step rfl rfl rfl ?_
          exact ih (p + 1) _ _ (by omega)
        · rw [if_neg he]
          refine r_brF rfl rfl ?_ ?_
          · exact he
          (repeat (first | refine r_fw rfl rfl rfl rfl ?_ | refine rM_get rfl rfl ?_)); try dsimp only
          try simp only [na0, na1, na2, na3, na4, na5, na6, na7, na8, na16, na88, na148, nm3, nI_add]
          first | refine r_callS rfl rfl rfl rfl m_fl0 ?_ | refine r_callS rfl rfl rfl rfl m_fl1 ?_
          (repeat (first | refine r_fw rfl rfl rfl rfl ?_ | refine rM_get rfl rfl ?_)); try dsimp only
          try simp only [na0, na1, na2, na3, na4, na5, na6, na7, na8, na16, na88, na148, nm3, nI_add]
          refine r_step rfl rfl rfl ?_
          exact ih (p + 1) _ _ (by omega)
      · rw [if_neg hd]
        refine r_brF rfl rfl ?_ ?_
        · exact hd
        (repeat (first | refine r_fw rfl rfl rfl rfl ?_ | refine rM_get rfl rfl ?_)); try dsimp only
        try simp only [na0, na1, na2, na3, na4, na5, na6, na7, na8, na16, na88, na148, nm3, nI_add]
        first | refine r_callS rfl rfl rfl rfl m_fl0 ?_ | refine r_callS rfl rfl rfl rfl m_fl1 ?_
        (repeat (first | refine r_fw rfl rfl rfl rfl ?_ | refine rM_get rfl rfl ?_)); try dsimp only
        try simp only [na0, na1, na2, na3, na4, na5, na6, na7, na8, na16, na88, na148, nm3, nI_add]
        rw [Int32.add_zero]
        refine r_step rfl rfl rfl ?_
        exact ih (p + 1) _ _ (by omega)
theorem m_fallOf {q : Nat} (hq : q < 24) (hn : M 1 (B + 2) = nI n) (hn24 : n ≤ 24) (hB : B + 1148 ≤ 35588) : hRun 208 0 [.ref b, .int (nI B), .int (nI q), hU, hU, hU] [] (hpM h b M x) (some (.int (faF (mV (M 1) B) n (mV (M 1) B 2 q) (mV (M 1) B 1 q)))) (hpM h b M x) := by
  refine r_step rfl rfl rfl ?_
  refine r_step rfl rfl rfl ?_
  refine r_step rfl rfl rfl ?_
  refine r_step rfl rfl rfl ?_
  exact fallOf_loop hq hn hn24 hB n 0 0 _ (by omega)
/-- the place of the k-th by fall -/
def afF (V : hT2) (n : Nat) (k : Int32) : Nat → Nat → Int32
  | 0, _ => -1
  | d + 1, p => if faF V n (V 2 p) (V 1 p) = k then nI p else afF V n k d (p + 1)
theorem atFall_loop (k : Int32) (hn : M 1 (B + 2) = nI n) (hn24 : n ≤ 24) (hB : B + 1148 ≤ 35588) : ∀ d p, p + d = n → hRun 212 2 [.ref b, .int (nI B), .int k, .int (nI p)] [] (hpM h b M x) (some (.int (afF (mV (M 1) B) n k d p))) (hpM h b M x) := by
  intro d
  induction d with
  | zero =>
    intro p hp
    (repeat (first | refine r_fw rfl rfl rfl rfl ?_ | refine rM_get rfl rfl ?_)); try dsimp only
    try simp only [na0, na1, na2, na3, na4, na5, na6, na7, na8, na16, na88, na148, nm3, nI_add]
    refine rM_call rfl rfl rfl rfl rfl (m_many hB) ?_
    rw [hn]
    refine r_brT rfl rfl ?_ ?_
    · exact nI_le (by omega) (by omega)
    (repeat (first | refine r_fw rfl rfl rfl rfl ?_ | refine rM_get rfl rfl ?_)); try dsimp only
    try simp only [na0, na1, na2, na3, na4, na5, na6, na7, na8, na16, na88, na148, nm3, nI_add]
    exact r_ret rfl rfl rfl rfl
  | succ d ih =>
    intro p hp
    (repeat (first | refine r_fw rfl rfl rfl rfl ?_ | refine rM_get rfl rfl ?_)); try dsimp only
    try simp only [na0, na1, na2, na3, na4, na5, na6, na7, na8, na16, na88, na148, nm3, nI_add]
    refine rM_call rfl rfl rfl rfl rfl (m_many hB) ?_
    rw [hn]
    refine r_brF rfl rfl ?_ ?_
    · exact nle (by omega) (by omega)
    (repeat (first | refine r_fw rfl rfl rfl rfl ?_ | refine rM_get rfl rfl ?_)); try dsimp only
    try simp only [na0, na1, na2, na3, na4, na5, na6, na7, na8, na16, na88, na148, nm3, nI_add]
    refine rM_call rfl rfl rfl rfl rfl (m_fallOf (by omega) hn hn24 hB) ?_
    (repeat (first | refine r_fw rfl rfl rfl rfl ?_ | refine rM_get rfl rfl ?_)); try dsimp only
    try simp only [na0, na1, na2, na3, na4, na5, na6, na7, na8, na16, na88, na148, nm3, nI_add]
    unfold afF
    by_cases hc : faF (mV (M 1) B) n (mV (M 1) B 2 p) (mV (M 1) B 1 p) = k
    · rw [if_pos hc]
      refine r_brT rfl rfl ?_ ?_
      · exact hc
      (repeat (first | refine r_fw rfl rfl rfl rfl ?_ | refine rM_get rfl rfl ?_)); try dsimp only
      try simp only [na0, na1, na2, na3, na4, na5, na6, na7, na8, na16, na88, na148, nm3, nI_add]
      exact r_ret rfl rfl rfl rfl
    · rw [if_neg hc]
      refine r_brF rfl rfl ?_ ?_
      · exact hc
      (repeat (first | refine r_fw rfl rfl rfl rfl ?_ | refine rM_get rfl rfl ?_)); try dsimp only
      try simp only [na0, na1, na2, na3, na4, na5, na6, na7, na8, na16, na88, na148, nm3, nI_add]
      refine r_step rfl rfl rfl ?_
      exact ih (p + 1) (by omega)
theorem m_atFall (k : Int32) (hn : M 1 (B + 2) = nI n) (hn24 : n ≤ 24) (hB : B + 1148 ≤ 35588) : hRun 212 0 [.ref b, .int (nI B), .int k, hU] [] (hpM h b M x) (some (.int (afF (mV (M 1) B) n k n 0))) (hpM h b M x) := by
  refine r_step rfl rfl rfl ?_
  refine r_step rfl rfl rfl ?_
  exact atFall_loop k hn hn24 hB n 0 (by omega)
def saF (V : hT2) (n : Nat) (y bt : Int32) : Int32 := fo (fun p a => if nI p = bt then a else if V 3 p ≤ y then a else a + 1) n 0 0
theorem surelyAbove_loop (y bt : Int32) (hn : M 1 (B + 2) = nI n) (hn24 : n ≤ 24) (hB : B + 1148 ≤ 35588) : ∀ d p a, p + d = n → hRun 215 4 [.ref b, .int (nI B), .int y, .int bt, .int a, .int (nI p)] [] (hpM h b M x) (some (.int (fo (fun p a => if nI p = bt then a else if mV (M 1) B 3 p ≤ y then a else a + 1) d p a))) (hpM h b M x) := by
  intro d
  induction d with
  | zero =>
    intro p a hp
    (repeat (first | refine r_fw rfl rfl rfl rfl ?_ | refine rM_get rfl rfl ?_)); try dsimp only
    try simp only [na0, na1, na2, na3, na4, na5, na6, na7, na8, na16, na88, na148, nm3, nI_add]
    refine rM_call rfl rfl rfl rfl rfl (m_many hB) ?_
    rw [hn]
    refine r_brT rfl rfl ?_ ?_
    · exact nI_le (by omega) (by omega)
    (repeat (first | refine r_fw rfl rfl rfl rfl ?_ | refine rM_get rfl rfl ?_)); try dsimp only
    try simp only [na0, na1, na2, na3, na4, na5, na6, na7, na8, na16, na88, na148, nm3, nI_add]
    exact r_ret rfl rfl rfl rfl
  | succ d ih =>
    intro p a hp
    (repeat (first | refine r_fw rfl rfl rfl rfl ?_ | refine rM_get rfl rfl ?_)); try dsimp only
    try simp only [na0, na1, na2, na3, na4, na5, na6, na7, na8, na16, na88, na148, nm3, nI_add]
    refine rM_call rfl rfl rfl rfl rfl (m_many hB) ?_
    rw [hn]
    refine r_brF rfl rfl ?_ ?_
    · exact nle (by omega) (by omega)
    (repeat (first | refine r_fw rfl rfl rfl rfl ?_ | refine rM_get rfl rfl ?_)); try dsimp only
    try simp only [na0, na1, na2, na3, na4, na5, na6, na7, na8, na16, na88, na148, nm3, nI_add]
    unfold fo
    by_cases hc : nI p = bt
    · rw [if_pos hc]
      refine r_brT rfl rfl ?_ ?_
      · exact hc
      (repeat (first | refine r_fw rfl rfl rfl rfl ?_ | refine rM_get rfl rfl ?_)); try dsimp only
      try simp only [na0, na1, na2, na3, na4, na5, na6, na7, na8, na16, na88, na148, nm3, nI_add]
      first | refine r_callS rfl rfl rfl rfl m_fl0 ?_ | refine r_callS rfl rfl rfl rfl m_fl1 ?_
      (repeat (first | refine r_fw rfl rfl rfl rfl ?_ | refine rM_get rfl rfl ?_)); try dsimp only
      try simp only [na0, na1, na2, na3, na4, na5, na6, na7, na8, na16, na88, na148, nm3, nI_add]
      rw [Int32.add_zero]
      refine r_step rfl rfl rfl ?_
      exact ih (p + 1) _ (by omega)
    · rw [if_neg hc]
      refine r_brF rfl rfl ?_ ?_
      · exact hc
      (repeat (first | refine r_fw rfl rfl rfl rfl ?_ | refine rM_get rfl rfl ?_)); try dsimp only
      try simp only [na0, na1, na2, na3, na4, na5, na6, na7, na8, na16, na88, na148, nm3, nI_add]
      refine rM_call rfl rfl rfl rfl rfl (m_of (w := 2) (by omega) (by omega) hB) ?_
      (repeat (first | refine r_fw rfl rfl rfl rfl ?_ | refine rM_get rfl rfl ?_)); try dsimp only
      try simp only [na0, na1, na2, na3, na4, na5, na6, na7, na8, na16, na88, na148, nm3, nI_add]
      by_cases hd : mV (M 1) B 3 p ≤ y
      · rw [if_pos hd]
        refine r_brT rfl rfl ?_ ?_
        · exact hd
        (repeat (first | refine r_fw rfl rfl rfl rfl ?_ | refine rM_get rfl rfl ?_)); try dsimp only
        try simp only [na0, na1, na2, na3, na4, na5, na6, na7, na8, na16, na88, na148, nm3, nI_add]
        first | refine r_callS rfl rfl rfl rfl m_fl0 ?_ | refine r_callS rfl rfl rfl rfl m_fl1 ?_
        (repeat (first | refine r_fw rfl rfl rfl rfl ?_ | refine rM_get rfl rfl ?_)); try dsimp only
        try simp only [na0, na1, na2, na3, na4, na5, na6, na7, na8, na16, na88, na148, nm3, nI_add]
        rw [Int32.add_zero]
        refine r_step rfl rfl rfl ?_
        exact ih (p + 1) _ (by omega)
      · rw [if_neg hd]
        refine r_brF rfl rfl ?_ ?_
        · exact hd
        (repeat (first | refine r_fw rfl rfl rfl rfl ?_ | refine rM_get rfl rfl ?_)); try dsimp only
        try simp only [na0, na1, na2, na3, na4, na5, na6, na7, na8, na16, na88, na148, nm3, nI_add]
        first | refine r_callS rfl rfl rfl rfl m_fl0 ?_ | refine r_callS rfl rfl rfl rfl m_fl1 ?_
        (repeat (first | refine r_fw rfl rfl rfl rfl ?_ | refine rM_get rfl rfl ?_)); try dsimp only
        try simp only [na0, na1, na2, na3, na4, na5, na6, na7, na8, na16, na88, na148, nm3, nI_add]
        refine r_step rfl rfl rfl ?_
        exact ih (p + 1) _ (by omega)
theorem m_surelyAbove (y bt : Int32) (hn : M 1 (B + 2) = nI n) (hn24 : n ≤ 24) (hB : B + 1148 ≤ 35588) : hRun 215 0 [.ref b, .int (nI B), .int y, .int bt, hU, hU] [] (hpM h b M x) (some (.int (saF (mV (M 1) B) n y bt))) (hpM h b M x) := by
  refine r_step rfl rfl rfl ?_
  refine r_step rfl rfl rfl ?_
  refine r_step rfl rfl rfl ?_
  refine r_step rfl rfl rfl ?_
  exact surelyAbove_loop y bt hn hn24 hB n 0 0 (by omega)
def rvM (V : hT2) (n : Nat) (y bt a : Int32) : Int32 := fo (fun p a => if nI p = bt then a else if V 2 p < y then a else a + 1) n 0 a
theorem rivals_loop (y bt : Int32) (hn : M 1 (B + 2) = nI n) (hn24 : n ≤ 24) (hB : B + 1148 ≤ 35588) : ∀ d p a, p + d = n → hRun 216 24 [.ref b, .int (nI B), .int bt, .int y, .int a, .int (nI p)] [] (hpM h b M x) (some (.int (fo (fun p a => if nI p = bt then a else if mV (M 1) B 2 p < y then a else a + 1) d p a))) (hpM h b M x) := by
  intro d
  induction d with
  | zero =>
    intro p a hp
    (repeat (first | refine r_fw rfl rfl rfl rfl ?_ | refine rM_get rfl rfl ?_)); try dsimp only
    try simp only [na0, na1, na2, na3, na4, na5, na6, na7, na8, na16, na88, na148, nm3, nI_add]
    refine rM_call rfl rfl rfl rfl rfl (m_many hB) ?_
    rw [hn]
    refine r_brT rfl rfl ?_ ?_
    · exact nI_le (by omega) (by omega)
    (repeat (first | refine r_fw rfl rfl rfl rfl ?_ | refine rM_get rfl rfl ?_)); try dsimp only
    try simp only [na0, na1, na2, na3, na4, na5, na6, na7, na8, na16, na88, na148, nm3, nI_add]
    exact r_ret rfl rfl rfl rfl
  | succ d ih =>
    intro p a hp
    (repeat (first | refine r_fw rfl rfl rfl rfl ?_ | refine rM_get rfl rfl ?_)); try dsimp only
    try simp only [na0, na1, na2, na3, na4, na5, na6, na7, na8, na16, na88, na148, nm3, nI_add]
    refine rM_call rfl rfl rfl rfl rfl (m_many hB) ?_
    rw [hn]
    refine r_brF rfl rfl ?_ ?_
    · exact nle (by omega) (by omega)
    (repeat (first | refine r_fw rfl rfl rfl rfl ?_ | refine rM_get rfl rfl ?_)); try dsimp only
    try simp only [na0, na1, na2, na3, na4, na5, na6, na7, na8, na16, na88, na148, nm3, nI_add]
    unfold fo
    by_cases hc : nI p = bt
    · rw [if_pos hc]
      refine r_brT rfl rfl ?_ ?_
      · exact hc
      (repeat (first | refine r_fw rfl rfl rfl rfl ?_ | refine rM_get rfl rfl ?_)); try dsimp only
      try simp only [na0, na1, na2, na3, na4, na5, na6, na7, na8, na16, na88, na148, nm3, nI_add]
      first | refine r_callS rfl rfl rfl rfl m_fl0 ?_ | refine r_callS rfl rfl rfl rfl m_fl1 ?_
      (repeat (first | refine r_fw rfl rfl rfl rfl ?_ | refine rM_get rfl rfl ?_)); try dsimp only
      try simp only [na0, na1, na2, na3, na4, na5, na6, na7, na8, na16, na88, na148, nm3, nI_add]
      rw [Int32.add_zero]
      refine r_step rfl rfl rfl ?_
      exact ih (p + 1) _ (by omega)
    · rw [if_neg hc]
      refine r_brF rfl rfl ?_ ?_
      · exact hc
      (repeat (first | refine r_fw rfl rfl rfl rfl ?_ | refine rM_get rfl rfl ?_)); try dsimp only
      try simp only [na0, na1, na2, na3, na4, na5, na6, na7, na8, na16, na88, na148, nm3, nI_add]
      refine rM_call rfl rfl rfl rfl rfl (m_of (w := 1) (by omega) (by omega) hB) ?_
      (repeat (first | refine r_fw rfl rfl rfl rfl ?_ | refine rM_get rfl rfl ?_)); try dsimp only
      try simp only [na0, na1, na2, na3, na4, na5, na6, na7, na8, na16, na88, na148, nm3, nI_add]
      by_cases hd : mV (M 1) B 2 p < y
      · rw [if_pos hd]
        refine r_brT rfl rfl ?_ ?_
        · exact hd
        (repeat (first | refine r_fw rfl rfl rfl rfl ?_ | refine rM_get rfl rfl ?_)); try dsimp only
        try simp only [na0, na1, na2, na3, na4, na5, na6, na7, na8, na16, na88, na148, nm3, nI_add]
        first | refine r_callS rfl rfl rfl rfl m_fl0 ?_ | refine r_callS rfl rfl rfl rfl m_fl1 ?_
        (repeat (first | refine r_fw rfl rfl rfl rfl ?_ | refine rM_get rfl rfl ?_)); try dsimp only
        try simp only [na0, na1, na2, na3, na4, na5, na6, na7, na8, na16, na88, na148, nm3, nI_add]
        rw [Int32.add_zero]
        refine r_step rfl rfl rfl ?_
        exact ih (p + 1) _ (by omega)
      · rw [if_neg hd]
        refine r_brF rfl rfl ?_ ?_
        · exact hd
        (repeat (first | refine r_fw rfl rfl rfl rfl ?_ | refine rM_get rfl rfl ?_)); try dsimp only
        try simp only [na0, na1, na2, na3, na4, na5, na6, na7, na8, na16, na88, na148, nm3, nI_add]
        first | refine r_callS rfl rfl rfl rfl m_fl0 ?_ | refine r_callS rfl rfl rfl rfl m_fl1 ?_
        (repeat (first | refine r_fw rfl rfl rfl rfl ?_ | refine rM_get rfl rfl ?_)); try dsimp only
        try simp only [na0, na1, na2, na3, na4, na5, na6, na7, na8, na16, na88, na148, nm3, nI_add]
        refine r_step rfl rfl rfl ?_
        exact ih (p + 1) _ (by omega)
theorem m_rivals {q : Nat} (hq : q < 24) (hn : M 1 (B + 2) = nI n) (hn24 : n ≤ 24) (hB : B + 1148 ≤ 35588) : hRun 216 0 [.ref b, .int (nI B), .int (nI q), hU, hU, hU] [] (hpM h b M x) (some (.int (rvM (mV (M 1) B) n (mV (M 1) B 3 q) (nI q) (if mV (M 1) B 0 3 < mV (M 1) B 3 q then 0 else 1000 - nI n)))) (hpM h b M x) := by
  (repeat (first | refine r_fw rfl rfl rfl rfl ?_ | refine rM_get rfl rfl ?_)); try dsimp only
  try simp only [na0, na1, na2, na3, na4, na5, na6, na7, na8, na16, na88, na148, nm3, nI_add]
  refine rM_call rfl rfl rfl rfl rfl (m_of (w := 2) (by omega) (by omega) hB) ?_
  (repeat (first | refine r_fw rfl rfl rfl rfl ?_ | refine rM_get rfl rfl ?_)); try dsimp only
  try simp only [na0, na1, na2, na3, na4, na5, na6, na7, na8, na16, na88, na148, nm3, nI_add]
  refine rM_ild rfl rfl (show B + 4 < 35588 by omega) ?_
  (repeat (first | refine r_fw rfl rfl rfl rfl ?_ | refine rM_get rfl rfl ?_)); try dsimp only
  try simp only [na0, na1, na2, na3, na4, na5, na6, na7, na8, na16, na88, na148, nm3, nI_add]
  by_cases hd : mV (M 1) B 0 3 < mV (M 1) B 3 q
  · rw [if_pos hd]
    refine r_brT rfl rfl ?_ ?_
    · exact hd
    refine r_step rfl rfl rfl ?_
    refine r_step rfl rfl rfl ?_
    refine r_step rfl rfl rfl ?_
    refine r_step rfl rfl rfl ?_
    exact rivals_loop _ _ hn hn24 hB n 0 _ (by omega)
  · rw [if_neg hd]
    refine r_brF rfl rfl ?_ ?_
    · exact hd
    (repeat (first | refine r_fw rfl rfl rfl rfl ?_ | refine rM_get rfl rfl ?_)); try dsimp only
    try simp only [na0, na1, na2, na3, na4, na5, na6, na7, na8, na16, na88, na148, nm3, nI_add]
    refine rM_call rfl rfl rfl rfl rfl (m_many hB) ?_
    rw [hn]
    refine r_step rfl rfl rfl ?_
    refine r_step rfl rfl rfl ?_
    refine r_step rfl rfl rfl ?_
    refine r_step rfl rfl rfl ?_
    refine r_step rfl rfl rfl ?_
    exact rivals_loop _ _ hn hn24 hB n 0 _ (by omega)
def isuF (V : hT2) (n q : Nat) (k ps : Int32) : Int32 := if ps = 0 then (if k ≤ rvM V n (V 3 q) (nI q) (if V 0 3 < V 3 q then 0 else 1000 - nI n) then 0 else 1) else (if k ≤ saF V n (V 2 q) (nI q) then 0 else 1)
theorem m_isSure {q : Nat} (k ps : Int32) (hq : q < 24) (hn : M 1 (B + 2) = nI n) (hn24 : n ≤ 24) (hB : B + 1148 ≤ 35588) : hRun 214 0 [.ref b, .int (nI B), .int (nI q), .int k, .int ps] [] (hpM h b M x) (some (.int (isuF (mV (M 1) B) n q k ps))) (hpM h b M x) := by
  (repeat (first | refine r_fw rfl rfl rfl rfl ?_ | refine rM_get rfl rfl ?_)); try dsimp only
  try simp only [na0, na1, na2, na3, na4, na5, na6, na7, na8, na16, na88, na148, nm3, nI_add]
  unfold isuF
  refine r_brI rfl rfl (fun hc => ?_) (fun hc => ?_)
  · (repeat (first | refine r_fw rfl rfl rfl rfl ?_ | refine rM_get rfl rfl ?_)); try dsimp only
    try simp only [na0, na1, na2, na3, na4, na5, na6, na7, na8, na16, na88, na148, nm3, nI_add]
    refine rM_call rfl rfl rfl rfl rfl (m_rivals hq hn hn24 hB) ?_
    (repeat (first | refine r_fw rfl rfl rfl rfl ?_ | refine rM_get rfl rfl ?_)); try dsimp only
    try simp only [na0, na1, na2, na3, na4, na5, na6, na7, na8, na16, na88, na148, nm3, nI_add]
    refine r_brI rfl rfl (fun hc => ?_) (fun hc => ?_)
    · (repeat (first | refine r_fw rfl rfl rfl rfl ?_ | refine rM_get rfl rfl ?_)); try dsimp only
      try simp only [na0, na1, na2, na3, na4, na5, na6, na7, na8, na16, na88, na148, nm3, nI_add]
      exact r_ret rfl rfl rfl rfl
    · (repeat (first | refine r_fw rfl rfl rfl rfl ?_ | refine rM_get rfl rfl ?_)); try dsimp only
      try simp only [na0, na1, na2, na3, na4, na5, na6, na7, na8, na16, na88, na148, nm3, nI_add]
      exact r_ret rfl rfl rfl rfl
  · (repeat (first | refine r_fw rfl rfl rfl rfl ?_ | refine rM_get rfl rfl ?_)); try dsimp only
    try simp only [na0, na1, na2, na3, na4, na5, na6, na7, na8, na16, na88, na148, nm3, nI_add]
    refine rM_call rfl rfl rfl rfl rfl (m_of (w := 1) (by omega) (by omega) hB) ?_
    (repeat (first | refine r_fw rfl rfl rfl rfl ?_ | refine rM_get rfl rfl ?_)); try dsimp only
    try simp only [na0, na1, na2, na3, na4, na5, na6, na7, na8, na16, na88, na148, nm3, nI_add]
    refine rM_call rfl rfl rfl rfl rfl (m_surelyAbove _ _ hn hn24 hB) ?_
    (repeat (first | refine r_fw rfl rfl rfl rfl ?_ | refine rM_get rfl rfl ?_)); try dsimp only
    try simp only [na0, na1, na2, na3, na4, na5, na6, na7, na8, na16, na88, na148, nm3, nI_add]
    by_cases hd : k ≤ saF (mV (M 1) B) n (mV (M 1) B 2 q) (nI q)
    · rw [if_pos hd]
      refine r_brT rfl rfl ?_ ?_
      · exact hd
      (repeat (first | refine r_fw rfl rfl rfl rfl ?_ | refine rM_get rfl rfl ?_)); try dsimp only
      try simp only [na0, na1, na2, na3, na4, na5, na6, na7, na8, na16, na88, na148, nm3, nI_add]
      exact r_ret rfl rfl rfl rfl
    · rw [if_neg hd]
      refine r_brF rfl rfl ?_ ?_
      · exact hd
      (repeat (first | refine r_fw rfl rfl rfl rfl ?_ | refine rM_get rfl rfl ?_)); try dsimp only
      try simp only [na0, na1, na2, na3, na4, na5, na6, na7, na8, na16, na88, na148, nm3, nI_add]
      exact r_ret rfl rfl rfl rfl
theorem reF_fit (o f t : Int32) : hFit .boolean (.int (reF o f t)) = true := by
  unfold reF
  split
  · rfl
  · split <;> rfl
def icF (V : hT2) (f t : Int32) : Nat → Nat → Int32
  | 0, _ => 1
  | d + 1, p => if reF (V 2 p) f t = reF (V 3 p) f t then icF V f t d (p + 1) else 0
theorem isClear_loop (f : Int32) (hn : M 1 (B + 2) = nI n) (hn24 : n ≤ 24) (hB : B + 1148 ≤ 35588) : ∀ d p, p + d = n → hRun 224 2 [.ref b, .int (nI B), .int f, .int (nI p)] [] (hpM h b M x) (some (.int (icF (mV (M 1) B) f (mV (M 1) B 0 2) d p))) (hpM h b M x) := by
  intro d
  induction d with
  | zero =>
    intro p hp
    (repeat (first | refine r_fw rfl rfl rfl rfl ?_ | refine rM_get rfl rfl ?_)); try dsimp only
    try simp only [na0, na1, na2, na3, na4, na5, na6, na7, na8, na16, na88, na148, nm3, nI_add]
    refine rM_call rfl rfl rfl rfl rfl (m_many hB) ?_
    rw [hn]
    refine r_brT rfl rfl ?_ ?_
    · exact nI_le (by omega) (by omega)
    (repeat (first | refine r_fw rfl rfl rfl rfl ?_ | refine rM_get rfl rfl ?_)); try dsimp only
    try simp only [na0, na1, na2, na3, na4, na5, na6, na7, na8, na16, na88, na148, nm3, nI_add]
    exact r_ret rfl rfl rfl rfl
  | succ d ih =>
    intro p hp
    (repeat (first | refine r_fw rfl rfl rfl rfl ?_ | refine rM_get rfl rfl ?_)); try dsimp only
    try simp only [na0, na1, na2, na3, na4, na5, na6, na7, na8, na16, na88, na148, nm3, nI_add]
    refine rM_call rfl rfl rfl rfl rfl (m_many hB) ?_
    rw [hn]
    refine r_brF rfl rfl ?_ ?_
    · exact nle (by omega) (by omega)
    (repeat (first | refine r_fw rfl rfl rfl rfl ?_ | refine rM_get rfl rfl ?_)); try dsimp only
    try simp only [na0, na1, na2, na3, na4, na5, na6, na7, na8, na16, na88, na148, nm3, nI_add]
    refine rM_call rfl rfl rfl rfl rfl (m_of (w := 1) (by omega) (by omega) hB) ?_
    (repeat (first | refine r_fw rfl rfl rfl rfl ?_ | refine rM_get rfl rfl ?_)); try dsimp only
    try simp only [na0, na1, na2, na3, na4, na5, na6, na7, na8, na16, na88, na148, nm3, nI_add]
    refine rM_call rfl rfl rfl rfl rfl (m_isHeavy _ _ hB) ?_
    (repeat (first | refine r_fw rfl rfl rfl rfl ?_ | refine rM_get rfl rfl ?_)); try dsimp only
    try simp only [na0, na1, na2, na3, na4, na5, na6, na7, na8, na16, na88, na148, nm3, nI_add]
    refine rM_call rfl rfl rfl rfl rfl (m_of (w := 2) (by omega) (by omega) hB) ?_
    (repeat (first | refine r_fw rfl rfl rfl rfl ?_ | refine rM_get rfl rfl ?_)); try dsimp only
    try simp only [na0, na1, na2, na3, na4, na5, na6, na7, na8, na16, na88, na148, nm3, nI_add]
    refine rM_call rfl rfl rfl rfl rfl (m_isHeavy _ _ hB) ?_
    unfold icF
    by_cases hc : reF (mV (M 1) B 2 p) f (mV (M 1) B 0 2) = reF (mV (M 1) B 3 p) f (mV (M 1) B 0 2)
    · rw [if_pos hc]
      refine r_brT rfl rfl ?_ ?_
      · exact hc
      (repeat (first | refine r_fw rfl rfl rfl rfl ?_ | refine rM_get rfl rfl ?_)); try dsimp only
      try simp only [na0, na1, na2, na3, na4, na5, na6, na7, na8, na16, na88, na148, nm3, nI_add]
      refine r_step rfl rfl rfl ?_
      exact ih (p + 1) (by omega)
    · rw [if_neg hc]
      refine r_brF rfl rfl ?_ ?_
      · exact hc
      (repeat (first | refine r_fw rfl rfl rfl rfl ?_ | refine rM_get rfl rfl ?_)); try dsimp only
      try simp only [na0, na1, na2, na3, na4, na5, na6, na7, na8, na16, na88, na148, nm3, nI_add]
      exact r_ret rfl rfl rfl rfl
theorem m_isClear (f : Int32) (hn : M 1 (B + 2) = nI n) (hn24 : n ≤ 24) (hB : B + 1148 ≤ 35588) : hRun 224 0 [.ref b, .int (nI B), .int f, hU] [] (hpM h b M x) (some (.int (icF (mV (M 1) B) f (mV (M 1) B 0 2) n 0))) (hpM h b M x) := by
  refine r_step rfl rfl rfl ?_
  refine r_step rfl rfl rfl ?_
  exact isClear_loop f hn hn24 hB n 0 (by omega)
end MCN
