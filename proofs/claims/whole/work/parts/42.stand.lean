/-- an instruction that goes on and puts nothing -/
def hFx (e : hE) (k : Nat) : Bool := match e.1 with
  | .putfield _ => false
  | .iastore => false
  | .aastore => false
  | _ => hFw e k
theorem r_fx {mi k : Nat} {L st : List Value} {h h' : hH} {r : Option Value} {e : hE} {k1 : Nat} {L1 st1 : List Value} {h1 : hH} (he : hI mi k = some e) (hk : hKd e = 0) (hf : hFx e k = true) (hs : hStep e k L st h = some (k1, L1, st1, h1)) (K : hRun mi k1 L1 st1 h1 r h') : hRun mi k L st h r h' := r_step he hk hs K
theorem wb_inj {a b : Int64} (h : a.toBitVec = b.toBitVec) : a = b := Int64.toBitVec_inj.mp h
theorem wb_tb (n : Nat) : (lN n).toBitVec = BitVec.ofNat 64 n := rfl
theorem wb_lt2 {a b : Nat} (h : a < b) : 2 ^ a < 2 ^ b := Nat.pow_lt_pow_right (by decide) h
theorem wb_and {a b : Nat} (ha : a < 2 ^ 64) (hb : b < 2 ^ 64) : lN a &&& lN b = lN (a &&& b) := by
  apply wb_inj
  rw [Int64.toBitVec_and, wb_tb, wb_tb, wb_tb]
  apply BitVec.eq_of_toNat_eq
  rw [BitVec.toNat_and, BitVec.toNat_ofNat, BitVec.toNat_ofNat, BitVec.toNat_ofNat, Nat.mod_eq_of_lt ha, Nat.mod_eq_of_lt hb, Nat.mod_eq_of_lt (Nat.and_lt_two_pow _ hb)]
theorem wb_mask {n k : Nat} (hn : n < 2 ^ 64) (hk : k < 64) : lN n &&& lN (2 ^ k - 1) = lN (n % 2 ^ k) := by
  rw [wb_and hn (by have := wb_lt2 hk; omega), Nat.and_two_pow_sub_one_eq_mod]
/-! standing, opened; isThere, isWindow; a shelf's number; the draws -/
section STD
variable {E : hEn} {w : hWo}
theorem x_standing_t {s : Nat} (hs : s < 6) (ht : w.1 s 0 0 = 1) : hRun 85 0 [.ref 2, .int (nI s)] [] (hW E w) (some (.ref (bs s))) (hW E w) := by
  (repeat (first | refine r_fx rfl rfl rfl rfl ?_ | refine r_get rfl rfl rfl ?_ | refine wS_get (by omega) rfl rfl ?_)); try dsimp only
  refine r_callS rfl rfl rfl rfl (g_isSummary _) ?_
  rw [rgI_t (by rw [nI_toInt (by omega)]; omega)]
  refine r_brF rfl rfl (by decide) ?_
  (repeat (first | refine r_fx rfl rfl rfl rfl ?_ | refine r_get rfl rfl rfl ?_ | refine wS_get (by omega) rfl rfl ?_)); try dsimp only
  refine w4_ld hs rfl ?_
  (repeat (first | refine r_fx rfl rfl rfl rfl ?_ | refine r_get rfl rfl rfl ?_ | refine wS_get (by omega) rfl rfl ?_)); try dsimp only
  rw [ht]
  refine r_brF rfl rfl (by decide) ?_
  (repeat (first | refine r_fx rfl rfl rfl rfl ?_ | refine r_get rfl rfl rfl ?_ | refine wS_get (by omega) rfl rfl ?_)); try dsimp only
  refine w4_ld hs rfl ?_
  (repeat (first | refine r_fx rfl rfl rfl rfl ?_ | refine r_get rfl rfl rfl ?_ | refine wS_get (by omega) rfl rfl ?_)); try dsimp only
  exact r_ret rfl rfl rfl rfl
theorem x_standing_f {s : Int32} (hs : ∀ p, p < 6 → s = nI p → w.1 p 0 0 = 0) : hRun 85 0 [.ref 2, .int s] [] (hW E w) (some .null) (hW E w) := by
  (repeat (first | refine r_fx rfl rfl rfl rfl ?_ | refine r_get rfl rfl rfl ?_ | refine wS_get (by omega) rfl rfl ?_)); try dsimp only
  refine r_callS rfl rfl rfl rfl (g_isSummary _) ?_
  by_cases hc : 0 ≤ s.toInt ∧ s.toInt ≤ 5
  · rw [rgI_t hc]
    obtain ⟨p, e, -, h2⟩ := rg_of (lo := 0) (hi := 5) hc
    have h0 := hs p (by omega) e
    subst e
    refine r_brF rfl rfl (by decide) ?_
    (repeat (first | refine r_fx rfl rfl rfl rfl ?_ | refine r_get rfl rfl rfl ?_ | refine wS_get (by omega) rfl rfl ?_)); try dsimp only
    refine w4_ld (show p < 6 by omega) rfl ?_
    (repeat (first | refine r_fx rfl rfl rfl rfl ?_ | refine r_get rfl rfl rfl ?_ | refine wS_get (by omega) rfl rfl ?_)); try dsimp only
    rw [h0]
    refine r_brT rfl rfl (by decide) ?_
    (repeat (first | refine r_fx rfl rfl rfl rfl ?_ | refine r_get rfl rfl rfl ?_ | refine wS_get (by omega) rfl rfl ?_)); try dsimp only
    exact r_ret rfl rfl rfl rfl
  · rw [rgI_f hc]
    refine r_brT rfl rfl (by decide) ?_
    (repeat (first | refine r_fx rfl rfl rfl rfl ?_ | refine r_get rfl rfl rfl ?_ | refine wS_get (by omega) rfl rfl ?_)); try dsimp only
    exact r_ret rfl rfl rfl rfl
theorem x_opened_t {v : Nat} (hv : v < 2) (ht : w.1 35 1 (4 * v) = 1) : hRun 145 0 [.ref 2, .int (nI v)] [] (hW E w) (some (.ref (181 + 50 * v))) (hW E w) := by
  have : v = 0 ∨ v = 1 := by omega
  rcases this with rfl | rfl
  · (repeat (first | refine r_fx rfl rfl rfl rfl ?_ | refine r_get rfl rfl rfl ?_ | refine wS_get (by omega) rfl rfl ?_)); try dsimp only
    refine r_callS rfl rfl rfl rfl (g_isWindow _) ?_
    rw [rgI_t (by decide)]
    refine r_brF rfl rfl (by decide) ?_
    (repeat (first | refine r_fx rfl rfl rfl rfl ?_ | refine r_get rfl rfl rfl ?_ | refine wS_get (by omega) rfl rfl ?_)); try dsimp only
    rw [show w.1 35 1 0 = 1 from ht]
    refine r_brF rfl rfl (by decide) ?_
    (repeat (first | refine r_fx rfl rfl rfl rfl ?_ | refine r_get rfl rfl rfl ?_ | refine wS_get (by omega) rfl rfl ?_)); try dsimp only
    exact r_ret rfl rfl rfl rfl
  · (repeat (first | refine r_fx rfl rfl rfl rfl ?_ | refine r_get rfl rfl rfl ?_ | refine wS_get (by omega) rfl rfl ?_)); try dsimp only
    refine r_callS rfl rfl rfl rfl (g_isWindow _) ?_
    rw [rgI_t (by decide)]
    refine r_brF rfl rfl (by decide) ?_
    (repeat (first | refine r_fx rfl rfl rfl rfl ?_ | refine r_get rfl rfl rfl ?_ | refine wS_get (by omega) rfl rfl ?_)); try dsimp only
    rw [show w.1 35 1 4 = 1 from ht]
    refine r_brF rfl rfl (by decide) ?_
    (repeat (first | refine r_fx rfl rfl rfl rfl ?_ | refine r_get rfl rfl rfl ?_ | refine wS_get (by omega) rfl rfl ?_)); try dsimp only
    exact r_ret rfl rfl rfl rfl
theorem x_opened_f {s : Int32} (hs : ∀ p, p < 2 → s = nI p → w.1 35 1 (4 * p) = 0) : hRun 145 0 [.ref 2, .int s] [] (hW E w) (some .null) (hW E w) := by
  (repeat (first | refine r_fx rfl rfl rfl rfl ?_ | refine r_get rfl rfl rfl ?_ | refine wS_get (by omega) rfl rfl ?_)); try dsimp only
  refine r_callS rfl rfl rfl rfl (g_isWindow _) ?_
  by_cases hc : 0 ≤ s.toInt ∧ s.toInt ≤ 1
  · rw [rgI_t hc]
    obtain ⟨p, e, -, h2⟩ := rg_of (lo := 0) (hi := 1) hc
    have h0 := hs p (by omega) e
    subst e
    refine r_brF rfl rfl (by decide) ?_
    have : p = 0 ∨ p = 1 := by omega
    rcases this with rfl | rfl
    · (repeat (first | refine r_fx rfl rfl rfl rfl ?_ | refine r_get rfl rfl rfl ?_ | refine wS_get (by omega) rfl rfl ?_)); try dsimp only
      rw [show w.1 35 1 0 = 0 from h0]
      refine r_brT rfl rfl (by decide) ?_
      (repeat (first | refine r_fx rfl rfl rfl rfl ?_ | refine r_get rfl rfl rfl ?_ | refine wS_get (by omega) rfl rfl ?_)); try dsimp only
      exact r_ret rfl rfl rfl rfl
    · (repeat (first | refine r_fx rfl rfl rfl rfl ?_ | refine r_get rfl rfl rfl ?_ | refine wS_get (by omega) rfl rfl ?_)); try dsimp only
      rw [show w.1 35 1 4 = 0 from h0]
      refine r_brT rfl rfl (by decide) ?_
      (repeat (first | refine r_fx rfl rfl rfl rfl ?_ | refine r_get rfl rfl rfl ?_ | refine wS_get (by omega) rfl rfl ?_)); try dsimp only
      exact r_ret rfl rfl rfl rfl
  · rw [rgI_f hc]
    refine r_brT rfl rfl (by decide) ?_
    (repeat (first | refine r_fx rfl rfl rfl rfl ?_ | refine r_get rfl rfl rfl ?_ | refine wS_get (by omega) rfl rfl ?_)); try dsimp only
    exact r_ret rfl rfl rfl rfl
end STD
section MST
variable {h : hH} {b : Nat} {M : hT2} {x : Int64}
theorem k_isThere_t {s : Nat} (hs : s < 6) (ht : M 1 (1148 * s) = 1) : hRun 165 0 [.ref b, .int (nI s)] [] (hpM h b M x) (some (.int 1)) (hpM h b M x) := by
  (repeat (first | refine r_fw rfl rfl rfl rfl ?_ | refine rM_get rfl rfl ?_)); try dsimp only
  try simp only [na0, na1, na2, na3, na4, na5, na6, na7, na8, na16, na88, na148, nm3, nI_add]
  refine rM_call rfl rfl rfl rfl rfl (k_isSummary _) ?_
  rw [rgI_t (by rw [nI_toInt (by omega)]; omega)]
  refine r_brF rfl rfl (by decide) ?_
  (repeat (first | refine r_fw rfl rfl rfl rfl ?_ | refine rM_get rfl rfl ?_)); try dsimp only
  try simp only [na0, na1, na2, na3, na4, na5, na6, na7, na8, na16, na88, na148, nm3, nI_add]
  refine r_callS rfl rfl rfl rfl (m_bank _) ?_
  rw [nm1148]
  (repeat (first | refine r_fw rfl rfl rfl rfl ?_ | refine rM_get rfl rfl ?_)); try dsimp only
  try simp only [na0, na1, na2, na3, na4, na5, na6, na7, na8, na16, na88, na148, nm3, nI_add]
  refine rM_ild rfl rfl (show 1148 * s < 35588 by omega) ?_
  rw [ht]
  (repeat (first | refine r_fw rfl rfl rfl rfl ?_ | refine rM_get rfl rfl ?_)); try dsimp only
  try simp only [na0, na1, na2, na3, na4, na5, na6, na7, na8, na16, na88, na148, nm3, nI_add]
  refine r_brT rfl rfl (by decide) ?_
  (repeat (first | refine r_fw rfl rfl rfl rfl ?_ | refine rM_get rfl rfl ?_)); try dsimp only
  try simp only [na0, na1, na2, na3, na4, na5, na6, na7, na8, na16, na88, na148, nm3, nI_add]
  exact r_ret rfl rfl rfl rfl
theorem k_isThere_f {s : Int32} (hs : ∀ p, p < 6 → s = nI p → M 1 (1148 * p) = 0) : hRun 165 0 [.ref b, .int s] [] (hpM h b M x) (some (.int 0)) (hpM h b M x) := by
  (repeat (first | refine r_fw rfl rfl rfl rfl ?_ | refine rM_get rfl rfl ?_)); try dsimp only
  try simp only [na0, na1, na2, na3, na4, na5, na6, na7, na8, na16, na88, na148, nm3, nI_add]
  refine rM_call rfl rfl rfl rfl rfl (k_isSummary _) ?_
  by_cases hc : 0 ≤ s.toInt ∧ s.toInt ≤ 5
  · rw [rgI_t hc]
    obtain ⟨p, e, -, h2⟩ := rg_of (lo := 0) (hi := 5) hc
    have h0 := hs p (by omega) e
    subst e
    refine r_brF rfl rfl (by decide) ?_
    (repeat (first | refine r_fw rfl rfl rfl rfl ?_ | refine rM_get rfl rfl ?_)); try dsimp only
    try simp only [na0, na1, na2, na3, na4, na5, na6, na7, na8, na16, na88, na148, nm3, nI_add]
    refine r_callS rfl rfl rfl rfl (m_bank _) ?_
    rw [nm1148]
    (repeat (first | refine r_fw rfl rfl rfl rfl ?_ | refine rM_get rfl rfl ?_)); try dsimp only
    try simp only [na0, na1, na2, na3, na4, na5, na6, na7, na8, na16, na88, na148, nm3, nI_add]
    refine rM_ild rfl rfl (show 1148 * p < 35588 by omega) ?_
    rw [h0]
    (repeat (first | refine r_fw rfl rfl rfl rfl ?_ | refine rM_get rfl rfl ?_)); try dsimp only
    try simp only [na0, na1, na2, na3, na4, na5, na6, na7, na8, na16, na88, na148, nm3, nI_add]
    refine r_brF rfl rfl (by decide) ?_
    (repeat (first | refine r_fw rfl rfl rfl rfl ?_ | refine rM_get rfl rfl ?_)); try dsimp only
    try simp only [na0, na1, na2, na3, na4, na5, na6, na7, na8, na16, na88, na148, nm3, nI_add]
    exact r_ret rfl rfl rfl rfl
  · rw [rgI_f hc]
    refine r_brT rfl rfl (by decide) ?_
    (repeat (first | refine r_fw rfl rfl rfl rfl ?_ | refine rM_get rfl rfl ?_)); try dsimp only
    try simp only [na0, na1, na2, na3, na4, na5, na6, na7, na8, na16, na88, na148, nm3, nI_add]
    exact r_ret rfl rfl rfl rfl
theorem k_isWindow_t {v : Nat} (hv : v < 2) (ht : 0 < M 7 v) : hRun 256 0 [.ref b, .int (nI v)] [] (hpM h b M x) (some (.int 1)) (hpM h b M x) := by
  (repeat (first | refine r_fw rfl rfl rfl rfl ?_ | refine rM_get rfl rfl ?_)); try dsimp only
  try simp only [na0, na1, na2, na3, na4, na5, na6, na7, na8, na16, na88, na148, nm3, nI_add]
  refine r_callS rfl rfl rfl rfl (k_isIn _ _ _ (lo := 0) (hi := 1) (by decide) (by decide)) ?_
  rw [rgI_t (by rw [nI_toInt (by omega)]; omega)]
  refine r_brF rfl rfl (by decide) ?_
  (repeat (first | refine r_fw rfl rfl rfl rfl ?_ | refine rM_get rfl rfl ?_)); try dsimp only
  try simp only [na0, na1, na2, na3, na4, na5, na6, na7, na8, na16, na88, na148, nm3, nI_add]
  refine rM_ild rfl rfl (show v < 2 by omega) ?_
  refine r_brF rfl rfl ?_ ?_
  · exact Int32.not_le.mpr ht
  (repeat (first | refine r_fw rfl rfl rfl rfl ?_ | refine rM_get rfl rfl ?_)); try dsimp only
  try simp only [na0, na1, na2, na3, na4, na5, na6, na7, na8, na16, na88, na148, nm3, nI_add]
  exact r_ret rfl rfl rfl rfl
theorem k_isWindow_f {s : Int32} (hs : ∀ p, p < 2 → s = nI p → M 7 p = 0) : hRun 256 0 [.ref b, .int s] [] (hpM h b M x) (some (.int 0)) (hpM h b M x) := by
  (repeat (first | refine r_fw rfl rfl rfl rfl ?_ | refine rM_get rfl rfl ?_)); try dsimp only
  try simp only [na0, na1, na2, na3, na4, na5, na6, na7, na8, na16, na88, na148, nm3, nI_add]
  refine r_callS rfl rfl rfl rfl (k_isIn _ _ _ (lo := 0) (hi := 1) (by decide) (by decide)) ?_
  by_cases hc : 0 ≤ s.toInt ∧ s.toInt ≤ 1
  · rw [rgI_t hc]
    obtain ⟨p, e, -, h2⟩ := rg_of (lo := 0) (hi := 1) hc
    have h0 := hs p (by omega) e
    subst e
    refine r_brF rfl rfl (by decide) ?_
    (repeat (first | refine r_fw rfl rfl rfl rfl ?_ | refine rM_get rfl rfl ?_)); try dsimp only
    try simp only [na0, na1, na2, na3, na4, na5, na6, na7, na8, na16, na88, na148, nm3, nI_add]
    refine rM_ild rfl rfl (show p < 2 by omega) ?_
    rw [h0]
    refine r_brT rfl rfl (by decide) ?_
    (repeat (first | refine r_fw rfl rfl rfl rfl ?_ | refine rM_get rfl rfl ?_)); try dsimp only
    try simp only [na0, na1, na2, na3, na4, na5, na6, na7, na8, na16, na88, na148, nm3, nI_add]
    exact r_ret rfl rfl rfl rfl
  · rw [rgI_f hc]
    refine r_brT rfl rfl (by decide) ?_
    (repeat (first | refine r_fw rfl rfl rfl rfl ?_ | refine rM_get rfl rfl ?_)); try dsimp only
    try simp only [na0, na1, na2, na3, na4, na5, na6, na7, na8, na16, na88, na148, nm3, nI_add]
    exact r_ret rfl rfl rfl rfl
/-- the next of a stream -/
def drF (a : Nat) : Nat := (1103515245 * a + 12345) % 2147483648
theorem drF_lt (a : Nat) : drF a < 2147483648 := Nat.mod_lt _ (by omega)
theorem k_draw {a m : Nat} (ha : a < 2147483648) (hm1 : 1 ≤ m) (hm : m < 2 ^ 31) : hRun 190 0 [.ref b, .int (nI m)] [] (hpM h b M (lN a)) (some (.int (nI (drF a / 64 % m)))) (hpM h b M (lN (drF a))) := by
  have e1 : (1103515245 : Int64) * lN a + 12345 = lN (1103515245 * a + 12345) := by
    rw [show (1103515245 : Int64) = lN 1103515245 from rfl, lN_mul, show (12345 : Int64) = lN 12345 from rfl, lN_add]
  have e2 : ∀ y : Int64, y = lN (1103515245 * a + 12345) → y - y / 2147483648 * 2147483648 = lN (drF a) := by
    intro y hy
    rw [hy, show (2147483648 : Int64) = lN 2147483648 from rfl, pk_lRem (by omega) (by omega) (by omega)]
    rfl
  have e3 : ∀ y : Int64, y = lN (drF a) → (y / 64 - y / 64 / (nI m).toInt64 * (nI m).toInt64).toInt32 = nI (drF a / 64 % m) := by
    intro y hy
    have := drF_lt a
    rw [hy, show (64 : Int64) = lN 64 from rfl, pk_lDiv (by omega) (by omega) (by omega), nI_l hm, pk_lRem (by omega) (by omega) (by omega), lN_i]
  have hm0 : ¬ (nI m).toInt64 = 0 := by
    rw [nI_l hm, show (0 : Int64) = lN 0 from rfl, lN_eq (by omega) (by omega)]
    omega
  (repeat (first | refine r_fw rfl rfl rfl rfl ?_ | refine rM_get rfl rfl ?_))
  dsimp only
  refine rM_setx rfl ?_
  rw [e2 _ e1]
  (repeat (first | refine r_fw rfl rfl rfl rfl ?_ | refine rM_get rfl rfl ?_))
  refine r_fw rfl rfl rfl (if_neg hm0) ?_
  refine r_step rfl rfl rfl ?_
  dsimp only
  rw [e3 _ rfl]
  exact r_ret rfl rfl rfl rfl
end MST
section DRW
variable {E : hEn} {w : hWo}
/-- the draws changed -/
def wX (w : hWo) (x : Int64) : hWo := (w.1, x, w.2.2)
theorem hW_X {x : Int64} : hSt (hW E w) 72 (.inl (0, [.long x])) = hW E (wX w x) := by
  unfold hSt hW
  refine congrArg (fun z => (E.1, E.2.1, z)) (funext fun a => ?_)
  dsimp only
  by_cases h0 : a = 72
  · subst h0
    rfl
  · rw [if_neg h0]
    unfold wCl
    have es : wSt E (wX w x) a = wSt E w a := by
      unfold wSt
      split <;> first | rfl | (exfalso; omega)
    rw [es]
    rfl
theorem rX_put {mi k : Nat} {L : List Value} {h' : hH} {r : Option Value} {i len pc : Nat} {z : Int32} {zl : Int64} {ts : List Nat} {v : Int64} {st : List Value} (he : hI mi k = some (.putfield i, len, pc, 0, 0, z, zl, ts)) (K : hRun mi (k + 1) L st (hW E (wX w v)) r h') : hRun mi k L (.long v :: .ref 72 :: st) (hW E w) r h' := by
  refine r_put (fs := [Value.long w.2.1]) he rfl rfl rfl ?_
  rw [show hSt (hW E w) 72 (.inl (0, List.set [Value.long w.2.1] 0 (.long v))) = hW E (wX w v) from hW_X]
  exact K
theorem x_draw {a m : Nat} (hx : w.2.1 = lN a) (ha : a < 2147483648) (hm1 : 1 ≤ m) (hm : m < 2 ^ 31) : hRun 2 0 [.ref 72, .int (nI m)] [] (hW E w) (some (.int (nI (drF a / 64 % m)))) (hW E (wX w (lN (drF a)))) := by
  have e1 : ((1103515245 : Int64) * w.2.1 + 12345) &&& 2147483647 = lN (drF a) := by
    rw [hx, show (1103515245 : Int64) = lN 1103515245 from rfl, lN_mul, show (12345 : Int64) = lN 12345 from rfl, lN_add, show (2147483647 : Int64) = lN (2 ^ 31 - 1) from rfl, wb_mask (by omega) (by omega)]
    rfl
  have e3 : ∀ y : Int64, y = lN (drF a) → (y / 64 - y / 64 / (nI m).toInt64 * (nI m).toInt64).toInt32 = nI (drF a / 64 % m) := by
    intro y hy
    have := drF_lt a
    rw [hy, show (64 : Int64) = lN 64 from rfl, pk_lDiv (by omega) (by omega) (by omega), nI_l hm, pk_lRem (by omega) (by omega) (by omega), lN_i]
  have hm0 : ¬ (nI m).toInt64 = 0 := by
    rw [nI_l hm, show (0 : Int64) = lN 0 from rfl, lN_eq (by omega) (by omega)]
    omega
  (repeat (first | refine r_fx rfl rfl rfl rfl ?_ | refine r_get rfl rfl rfl ?_ | refine wS_get (by omega) rfl rfl ?_)); try dsimp only
  rw [e1]
  refine rX_put rfl ?_
  (repeat (first | refine r_fx rfl rfl rfl rfl ?_ | refine r_get rfl rfl rfl ?_ | refine wS_get (by omega) rfl rfl ?_)); try dsimp only
  refine r_brT rfl rfl ?_ ?_
  · exact nI_le (a := 1) hm1 hm
  (repeat (first | refine r_fx rfl rfl rfl rfl ?_ | refine r_get rfl rfl rfl ?_ | refine wS_get (by omega) rfl rfl ?_)); try dsimp only
  refine r_fw rfl rfl rfl (if_neg hm0) ?_
  refine r_step rfl rfl rfl ?_
  dsimp only
  rw [e3 (wX w (lN (drF a))).2.1 rfl]
  exact r_ret rfl rfl rfl rfl
end DRW
