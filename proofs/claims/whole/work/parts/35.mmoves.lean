/-! the reference: what changes a bank; w is the row of banks -/
section MMV
variable {h : hH} {b : Nat} {M : hT2} {x : Int64} {n B : Nat}
def cpW (T F : Nat) : Nat → Nat → (Nat → Int32) → (Nat → Int32)
  | 0, _, w => w
  | d + 1, k, w => cpW T F d (k + 1) (upd w (T + k) (w (F + k)))
theorem copies_loop {T F : Nat} (hT : T + 1148 ≤ 35588) (hF : F + 1148 ≤ 35588) : ∀ d k (w : Nat → Int32), k + d = 1148 → hRun 192 2 [.ref b, .int (nI T), .int (nI F), .int (nI k)] [] (hpM h b (s1 M 1 w) x) none (hpM h b (s1 M 1 (cpW T F d k w)) x) := by
  intro d
  induction d with
  | zero =>
    intro k w hk
    (repeat (first | refine r_fw rfl rfl rfl rfl ?_ | refine rM_get rfl rfl ?_)); try dsimp only
    try simp only [na0, na1, na2, na3, na4, na5, na6, na7, na8, na16, na88, na148, nm3, nI_add]
    refine r_brT rfl rfl ?_ ?_
    · exact nI_le (a := 1148) (by omega) (by omega)
    exact r_ret rfl rfl rfl rfl
  | succ d ih =>
    intro k w hk
    (repeat (first | refine r_fw rfl rfl rfl rfl ?_ | refine rM_get rfl rfl ?_)); try dsimp only
    try simp only [na0, na1, na2, na3, na4, na5, na6, na7, na8, na16, na88, na148, nm3, nI_add]
    refine r_brF rfl rfl ?_ ?_
    · exact nle (b := 1148) (by omega) (by omega)
    (repeat (first | refine r_fw rfl rfl rfl rfl ?_ | refine rM_get rfl rfl ?_)); try dsimp only
    try simp only [na0, na1, na2, na3, na4, na5, na6, na7, na8, na16, na88, na148, nm3, nI_add]
    refine rM_ild rfl rfl (show F + k < 35588 by omega) ?_
    refine rM_ist rfl rfl (show T + k < 35588 by omega) ?_
    rw [s1_s1, s1_at]
    (repeat (first | refine r_fw rfl rfl rfl rfl ?_ | refine rM_get rfl rfl ?_)); try dsimp only
    try simp only [na0, na1, na2, na3, na4, na5, na6, na7, na8, na16, na88, na148, nm3, nI_add]
    refine r_step rfl rfl rfl ?_
    exact ih (k + 1) _ (by omega)
theorem s1_id (M : hT2) (j : Nat) : s1 M j (M j) = M := by
  funext a
  unfold s1
  by_cases h : a = j
  · simp [h]
  · simp [h]
theorem m_copies {T F : Nat} (hT : T + 1148 ≤ 35588) (hF : F + 1148 ≤ 35588) : hRun 192 0 [.ref b, .int (nI T), .int (nI F), hU] [] (hpM h b M x) none (hpM h b (s1 M 1 (cpW T F 1148 0 (M 1))) x) := by
  have := copies_loop (h := h) (b := b) (M := M) (x := x) hT hF 1148 0 (M 1) (by omega)
  rw [s1_id] at this
  refine r_step rfl rfl rfl ?_
  refine r_step rfl rfl rfl ?_
  exact this
def zrW (B : Nat) : Nat → Nat → (Nat → Int32) → (Nat → Int32)
  | 0, _, w => w
  | d + 1, k, w => zrW B d (k + 1) (upd w (B + k) 0)
def bgW (w : Nat → Int32) (B : Nat) (r : Int32) : Nat → Int32 := upd (upd (zrW B 1148 0 w) B 1) (B + 1) r
theorem begins_loop {r : Int32} (hB : B + 1148 ≤ 35588) (w0 : Nat → Int32) : ∀ d k (w : Nat → Int32), k + d = 1148 → zrW B d k w = zrW B 1148 0 w0 → hRun 163 2 [.ref b, .int (nI B), .int r, .int (nI k)] [] (hpM h b (s1 M 1 w) x) none (hpM h b (s1 M 1 (bgW w0 B r)) x) := by
  intro d
  induction d with
  | zero =>
    intro k w hk e
    (repeat (first | refine r_fw rfl rfl rfl rfl ?_ | refine rM_get rfl rfl ?_)); try dsimp only
    try simp only [na0, na1, na2, na3, na4, na5, na6, na7, na8, na16, na88, na148, nm3, nI_add]
    refine r_brT rfl rfl ?_ ?_
    · exact nI_le (a := 1148) (by omega) (by omega)
    have e2 : w = zrW B 1148 0 w0 := e
    (repeat (first | refine r_fw rfl rfl rfl rfl ?_ | refine rM_get rfl rfl ?_)); try dsimp only
    try simp only [na0, na1, na2, na3, na4, na5, na6, na7, na8, na16, na88, na148, nm3, nI_add]
    refine rM_ist rfl rfl (show B < 35588 by omega) ?_
    rw [s1_s1, s1_at]
    (repeat (first | refine r_fw rfl rfl rfl rfl ?_ | refine rM_get rfl rfl ?_)); try dsimp only
    try simp only [na0, na1, na2, na3, na4, na5, na6, na7, na8, na16, na88, na148, nm3, nI_add]
    refine rM_ist rfl rfl (show B + 1 < 35588 by omega) ?_
    rw [s1_s1, s1_at]
    unfold bgW
    rw [← e2]
    exact r_ret rfl rfl rfl rfl
  | succ d ih =>
    intro k w hk e
    (repeat (first | refine r_fw rfl rfl rfl rfl ?_ | refine rM_get rfl rfl ?_)); try dsimp only
    try simp only [na0, na1, na2, na3, na4, na5, na6, na7, na8, na16, na88, na148, nm3, nI_add]
    refine r_brF rfl rfl ?_ ?_
    · exact nle (b := 1148) (by omega) (by omega)
    (repeat (first | refine r_fw rfl rfl rfl rfl ?_ | refine rM_get rfl rfl ?_)); try dsimp only
    try simp only [na0, na1, na2, na3, na4, na5, na6, na7, na8, na16, na88, na148, nm3, nI_add]
    refine rM_ist rfl rfl (show B + k < 35588 by omega) ?_
    rw [s1_s1, s1_at]
    (repeat (first | refine r_fw rfl rfl rfl rfl ?_ | refine rM_get rfl rfl ?_)); try dsimp only
    try simp only [na0, na1, na2, na3, na4, na5, na6, na7, na8, na16, na88, na148, nm3, nI_add]
    refine r_step rfl rfl rfl ?_
    exact ih (k + 1) _ (by omega) e
theorem m_begins (r : Int32) (hB : B + 1148 ≤ 35588) : hRun 163 0 [.ref b, .int (nI B), .int r, hU] [] (hpM h b M x) none (hpM h b (s1 M 1 (bgW (M 1) B r)) x) := by
  have := begins_loop (h := h) (b := b) (M := M) (x := x) (r := r) hB (M 1) 1148 0 (M 1) (by omega) rfl
  rw [s1_id] at this
  refine r_step rfl rfl rfl ?_
  refine r_step rfl rfl rfl ?_
  exact this
/-- three places of a counter, one by one -/
def t3F (A C : Nat) : Nat → Nat → (Nat → Int32) → (Nat → Int32)
  | 0, _, w => w
  | d + 1, k, w => t3F A C d (k + 1) (upd w (A + k) (w (C + k)))
theorem take3_loop {t : Int32} {i : Nat} (hB : B + 1148 ≤ 35588) (hi : i < 24) {r : Option Value} {h' : hH} {P : Nat → Int32} (K : ∀ z : Value, hRun 183 43 [.ref b, .int (nI B), .int t, .int (nI i), z] [] (hpM h b (s1 M 1 P) x) r h') : ∀ d k (w : Nat → Int32), k + d = 3 → t3F (B + 16 + 3 * i) (B + 16 + 3 * (i + 1)) d k w = P → hRun 183 19 [.ref b, .int (nI B), .int t, .int (nI i), .int (nI k)] [] (hpM h b (s1 M 1 w) x) r h' := by
  intro d
  induction d with
  | zero =>
    intro k w hk e
    (repeat (first | refine r_fw rfl rfl rfl rfl ?_ | refine rM_get rfl rfl ?_)); try dsimp only
    try simp only [na0, na1, na2, na3, na4, na5, na6, na7, na8, na16, na88, na148, nm3, nI_add]
    refine r_brT rfl rfl ?_ ?_
    · exact nI_le (a := 3) (by omega) (by omega)
    have e2 : w = P := e
    rw [e2]
    exact K _
  | succ d ih =>
    intro k w hk e
    (repeat (first | refine r_fw rfl rfl rfl rfl ?_ | refine rM_get rfl rfl ?_)); try dsimp only
    try simp only [na0, na1, na2, na3, na4, na5, na6, na7, na8, na16, na88, na148, nm3, nI_add]
    refine r_brF rfl rfl ?_ ?_
    · exact nle (b := 3) (by omega) (by omega)
    (repeat (first | refine r_fw rfl rfl rfl rfl ?_ | refine rM_get rfl rfl ?_)); try dsimp only
    try simp only [na0, na1, na2, na3, na4, na5, na6, na7, na8, na16, na88, na148, nm3, nI_add]
    refine rM_call rfl rfl rfl rfl rfl (m_of (i := i + 1) (w := k) (by omega) (by omega) hB) ?_
    refine rM_ist rfl rfl (show B + 16 + 3 * i + k < 35588 by omega) ?_
    rw [s1_s1, s1_at]
    (repeat (first | refine r_fw rfl rfl rfl rfl ?_ | refine rM_get rfl rfl ?_)); try dsimp only
    try simp only [na0, na1, na2, na3, na4, na5, na6, na7, na8, na16, na88, na148, nm3, nI_add]
    refine r_step rfl rfl rfl ?_
    exact ih (k + 1) _ (by omega) e
def txW (B : Nat) : Nat → Nat → (Nat → Int32) → (Nat → Int32)
  | 0, _, w => w
  | d + 1, i, w => txW B d (i + 1) (t3F (B + 16 + 3 * i) (B + 16 + 3 * (i + 1)) 3 0 w)
theorem t3F_out {A C : Nat} : ∀ d k (w : Nat → Int32) (q : Nat), (q < A ∨ A + (k + d) ≤ q) → t3F A C d k w q = w q
  | 0, _, _, _, _ => rfl
  | d + 1, k, w, q, hq => by
    rw [t3F, t3F_out d (k + 1) _ q (by omega)]
    unfold upd
    rw [if_neg (by omega)]
theorem takesOut_loop {t : Int32} (hB : B + 1148 ≤ 35588) (hn24 : n ≤ 24) : ∀ d i (w : Nat → Int32), i + d = n → w (B + 2) = nI n → ∀ z : Value, hRun 183 12 [.ref b, .int (nI B), .int t, .int (nI i), z] [] (hpM h b (s1 M 1 w) x) none (hpM h b (s1 M 1 (txW B d i w)) x) := by
  intro d
  induction d with
  | zero =>
    intro i w hi hn z
    (repeat (first | refine r_fw rfl rfl rfl rfl ?_ | refine rM_get rfl rfl ?_)); try dsimp only
    try simp only [na0, na1, na2, na3, na4, na5, na6, na7, na8, na16, na88, na148, nm3, nI_add]
    refine rM_call rfl rfl rfl rfl rfl (m_many hB) ?_
    rw [s1_at, hn]
    refine r_brT rfl rfl ?_ ?_
    · exact nI_le (by omega) (by omega)
    exact r_ret rfl rfl rfl rfl
  | succ d ih =>
    intro i w hi hn z
    (repeat (first | refine r_fw rfl rfl rfl rfl ?_ | refine rM_get rfl rfl ?_)); try dsimp only
    try simp only [na0, na1, na2, na3, na4, na5, na6, na7, na8, na16, na88, na148, nm3, nI_add]
    refine rM_call rfl rfl rfl rfl rfl (m_many hB) ?_
    rw [s1_at, hn]
    refine r_brF rfl rfl ?_ ?_
    · exact nle (by omega) (by omega)
    refine r_step rfl rfl rfl ?_
    refine r_step rfl rfl rfl ?_
    refine take3_loop hB (by omega) (fun z => ?_) 3 0 w (by omega) rfl
    (repeat (first | refine r_fw rfl rfl rfl rfl ?_ | refine rM_get rfl rfl ?_)); try dsimp only
    try simp only [na0, na1, na2, na3, na4, na5, na6, na7, na8, na16, na88, na148, nm3, nI_add]
    refine r_step rfl rfl rfl ?_
    refine ih (i + 1) _ (by omega) ?_ _
    rw [t3F_out 3 0 w (B + 2) (by omega)]
    exact hn
/-- a counter is taken out of a bank -/
def takeW (w : Nat → Int32) (B n a : Nat) : Nat → Int32 := txW B (n - 1 - a) a (upd w (B + 2) (nI (n - 1)))
theorem m_takesOut {a : Nat} (hn : M 1 (B + 2) = nI n) (hn24 : n ≤ 24) (ha : a < n) (hB : B + 1148 ≤ 35588) : hRun 183 0 [.ref b, .int (nI B), .int (nI a), hU, hU] [] (hpM h b M x) none (hpM h b (s1 M 1 (takeW (M 1) B n a)) x) := by
  (repeat (first | refine r_fw rfl rfl rfl rfl ?_ | refine rM_get rfl rfl ?_)); try dsimp only
  try simp only [na0, na1, na2, na3, na4, na5, na6, na7, na8, na16, na88, na148, nm3, nI_add]
  refine rM_ild rfl rfl (show B + 2 < 35588 by omega) ?_
  rw [hn]
  (repeat (first | refine r_fw rfl rfl rfl rfl ?_ | refine rM_get rfl rfl ?_)); try dsimp only
  try simp only [na0, na1, na2, na3, na4, na5, na6, na7, na8, na16, na88, na148, nm3, nI_add]
  rw [nI_s1 (by omega)]
  refine rM_ist rfl rfl (show B + 2 < 35588 by omega) ?_
  refine r_step rfl rfl rfl ?_
  refine r_step rfl rfl rfl ?_
  refine takesOut_loop (n := n - 1) hB (by omega) (n - 1 - a) a _ (by omega) ?_ _
  unfold upd
  rw [if_pos rfl]
end MMV
