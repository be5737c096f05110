/-! the reference: halving; a thing comes -/
section MCO
variable {h : hH} {b : Nat} {M : hT2} {x : Int64} {n B : Nat}
def hvT (w : Nat → Int32) (B k : Nat) : Nat → Int32 := fun q => if B + 148 ≤ q ∧ q < B + 148 + k then w q / 2 else w q
def hvC (w : Nat → Int32) (B i : Nat) : Nat → Int32 := fun q => if B + 16 ≤ q ∧ q < B + 16 + 3 * i ∧ (q - B - 16) % 3 ≠ 0 then w q / 2 else w q
def hzW (B : Nat) : Nat → (Nat → Int32) → Nat × (Nat → Int32)
  | 0, w => (0, w)
  | n + 1, w => if w (B + 17) = 0 then hzW B n (takW w B (n + 1) 0) else (n + 1, w)
theorem hzW_le (B : Nat) : ∀ n (w : Nat → Int32), (hzW B n w).1 ≤ n
  | 0, _ => Nat.le_refl 0
  | n + 1, w => by
    unfold hzW
    split
    · exact Nat.le_succ_of_le (hzW_le B n _)
    · exact Nat.le_refl _
def hv3 (w : Nat → Int32) (B : Nat) : Nat → Int32 := upd (upd (upd w (B + 3) (w (B + 3) / 2)) (B + 4) (w (B + 4) / 2)) (B + 7) (w (B + 7) + 1)
theorem halves_take (hB : B + 1148 ≤ 35588) {N : Nat} : ∀ n (w : Nat → Int32), n ≤ N → N ≤ 24 → w (B + 2) = nI n → hRun 187 92 [.ref b, .int (nI B), .int (nI (N - n))] [] (hpM h b (s1 M 1 w) x) (some (.int (nI (N - (hzW B n w).1)))) (hpM h b (s1 M 1 (hzW B n w).2) x) := by
  intro n
  induction n with
  | zero =>
    intro w hnN hN hn
    (repeat (first | refine r_fw rfl rfl rfl rfl ?_ | refine rM_get rfl rfl ?_)); try dsimp only
    try simp only [na0, na1, na2, na3, na4, na5, na6, na7, na8, na16, na88, na148, nm3, nI_add]
    refine rM_call rfl rfl rfl rfl rfl (m_many hB) ?_
    rw [s1_at, hn]
    refine r_brT rfl rfl ?_ ?_
    · decide
    (repeat (first | refine r_fw rfl rfl rfl rfl ?_ | refine rM_get rfl rfl ?_)); try dsimp only
    try simp only [na0, na1, na2, na3, na4, na5, na6, na7, na8, na16, na88, na148, nm3, nI_add]
    exact r_ret rfl rfl rfl rfl
  | succ n ih =>
    intro w hnN hN hn
    (repeat (first | refine r_fw rfl rfl rfl rfl ?_ | refine rM_get rfl rfl ?_)); try dsimp only
    try simp only [na0, na1, na2, na3, na4, na5, na6, na7, na8, na16, na88, na148, nm3, nI_add]
    refine rM_call rfl rfl rfl rfl rfl (m_many hB) ?_
    rw [s1_at, hn]
    refine r_brF rfl rfl ?_ ?_
    · exact nI_nle (by omega) (by omega)
    (repeat (first | refine r_fw rfl rfl rfl rfl ?_ | refine rM_get rfl rfl ?_)); try dsimp only
    try simp only [na0, na1, na2, na3, na4, na5, na6, na7, na8, na16, na88, na148, nm3, nI_add]
    refine rM_call rfl rfl rfl rfl rfl (m_of (i := 0) (w := 1) (by omega) (by omega) hB) ?_
    rw [s1_at]
    unfold hzW
    by_cases hc : w (B + 17) = 0
    · rw [if_pos hc]
      refine r_brT rfl rfl ?_ ?_
      · exact hc
      (repeat (first | refine r_fw rfl rfl rfl rfl ?_ | refine rM_get rfl rfl ?_)); try dsimp only
      try simp only [na0, na1, na2, na3, na4, na5, na6, na7, na8, na16, na88, na148, nm3, nI_add]
      refine rM_call rfl rfl rfl rfl rfl (m_takes (a := 0) (n := n + 1) hn (by omega) (by omega) hB) ?_
      rw [s1_s1, s1_at]
      (repeat (first | refine r_fw rfl rfl rfl rfl ?_ | refine rM_get rfl rfl ?_)); try dsimp only
      try simp only [na0, na1, na2, na3, na4, na5, na6, na7, na8, na16, na88, na148, nm3, nI_add]
      refine r_step rfl rfl rfl ?_
      rw [show N - (n + 1) + 1 = N - n by omega]
      refine ih _ (by omega) hN ?_
      unfold takW
      rw [if_pos rfl]
      rfl
    · rw [if_neg hc]
      refine r_brF rfl rfl ?_ ?_
      · exact hc
      (repeat (first | refine r_fw rfl rfl rfl rfl ?_ | refine rM_get rfl rfl ?_)); try dsimp only
      try simp only [na0, na1, na2, na3, na4, na5, na6, na7, na8, na16, na88, na148, nm3, nI_add]
      exact r_ret rfl rfl rfl rfl
theorem halves_cnt {r : Option Value} {h' : hH} (hB : B + 1148 ≤ 35588) (hn24 : n ≤ 24) (w : Nat → Int32) (hn : w (B + 2) = nI n) (K : ∀ z : Value, hRun 187 90 [.ref b, .int (nI B), z] [] (hpM h b (s1 M 1 (hvC w B n)) x) r h') : ∀ d i, i + d = n → hRun 187 51 [.ref b, .int (nI B), .int (nI i)] [] (hpM h b (s1 M 1 (hvC w B i)) x) r h' := by
  intro d
  induction d with
  | zero =>
    intro i hi
    have e : hvC w B i (B + 2) = nI n := by
      unfold hvC
      rw [if_neg (by omega)]
      exact hn
    (repeat (first | refine r_fw rfl rfl rfl rfl ?_ | refine rM_get rfl rfl ?_)); try dsimp only
    try simp only [na0, na1, na2, na3, na4, na5, na6, na7, na8, na16, na88, na148, nm3, nI_add]
    refine rM_call rfl rfl rfl rfl rfl (m_many hB) ?_
    rw [s1_at, e]
    refine r_brT rfl rfl ?_ ?_
    · exact nI_le (by omega) (by omega)
    rw [show i = n by omega]
    exact K _
  | succ d ih =>
    intro i hi
    have e : hvC w B i (B + 2) = nI n := by
      unfold hvC
      rw [if_neg (by omega)]
      exact hn
    (repeat (first | refine r_fw rfl rfl rfl rfl ?_ | refine rM_get rfl rfl ?_)); try dsimp only
    try simp only [na0, na1, na2, na3, na4, na5, na6, na7, na8, na16, na88, na148, nm3, nI_add]
    refine rM_call rfl rfl rfl rfl rfl (m_many hB) ?_
    rw [s1_at, e]
    refine r_brF rfl rfl ?_ ?_
    · exact nle (by omega) (by omega)
    (repeat (first | refine r_fw rfl rfl rfl rfl ?_ | refine rM_get rfl rfl ?_)); try dsimp only
    try simp only [na0, na1, na2, na3, na4, na5, na6, na7, na8, na16, na88, na148, nm3, nI_add]
    refine rM_ild rfl rfl (show B + 16 + 3 * i + 1 < 35588 by omega) ?_
    (repeat (first | refine r_fw rfl rfl rfl rfl ?_ | refine rM_get rfl rfl ?_)); try dsimp only
    try simp only [na0, na1, na2, na3, na4, na5, na6, na7, na8, na16, na88, na148, nm3, nI_add]
    refine rM_ist rfl rfl (show B + 16 + 3 * i + 1 < 35588 by omega) ?_
    rw [s1_s1, s1_at]
    (repeat (first | refine r_fw rfl rfl rfl rfl ?_ | refine rM_get rfl rfl ?_)); try dsimp only
    try simp only [na0, na1, na2, na3, na4, na5, na6, na7, na8, na16, na88, na148, nm3, nI_add]
    refine rM_ild rfl rfl (show B + 16 + 3 * i + 2 < 35588 by omega) ?_
    rw [s1_at, pk_un (by omega)]
    (repeat (first | refine r_fw rfl rfl rfl rfl ?_ | refine rM_get rfl rfl ?_)); try dsimp only
    try simp only [na0, na1, na2, na3, na4, na5, na6, na7, na8, na16, na88, na148, nm3, nI_add]
    refine rM_ist rfl rfl (show B + 16 + 3 * i + 2 < 35588 by omega) ?_
    rw [s1_s1, s1_at]
    have e2 : upd (upd (hvC w B i) (B + 16 + 3 * i + 1) (hvC w B i (B + 16 + 3 * i + 1) / 2)) (B + 16 + 3 * i + 2) (hvC w B i (B + 16 + 3 * i + 2) / 2) = hvC w B (i + 1) := by
      funext q
      simp only [upd]
      by_cases h2 : q = B + 16 + 3 * i + 2
      · subst h2
        rw [if_pos rfl]
        simp only [hvC]
        rw [if_neg (by omega), if_pos (by omega)]
      · rw [if_neg h2]
        by_cases h1 : q = B + 16 + 3 * i + 1
        · subst h1
          rw [if_pos rfl]
          simp only [hvC]
          rw [if_neg (by omega), if_pos (by omega)]
        · rw [if_neg h1]
          simp only [hvC]
          by_cases h3 : B + 16 ≤ q ∧ q < B + 16 + 3 * i ∧ (q - B - 16) % 3 ≠ 0
          · rw [if_pos h3, if_pos (by omega)]
          · rw [if_neg h3, if_neg (by omega)]
    rw [e2]
    (repeat (first | refine r_fw rfl rfl rfl rfl ?_ | refine rM_get rfl rfl ?_)); try dsimp only
    try simp only [na0, na1, na2, na3, na4, na5, na6, na7, na8, na16, na88, na148, nm3, nI_add]
    refine r_step rfl rfl rfl ?_
    exact ih (i + 1) (by omega)
theorem halves_tru {r : Option Value} {h' : hH} (hB : B + 1148 ≤ 35588) (w : Nat → Int32) (K : ∀ z : Value, hRun 187 49 [.ref b, .int (nI B), z] [] (hpM h b (s1 M 1 (hvT w B 1000)) x) r h') : ∀ d i, i + d = 1000 → hRun 187 32 [.ref b, .int (nI B), .int (nI i)] [] (hpM h b (s1 M 1 (hvT w B i)) x) r h' := by
  intro d
  induction d with
  | zero =>
    intro i hi
    (repeat (first | refine r_fw rfl rfl rfl rfl ?_ | refine rM_get rfl rfl ?_)); try dsimp only
    try simp only [na0, na1, na2, na3, na4, na5, na6, na7, na8, na16, na88, na148, nm3, nI_add]
    refine r_brT rfl rfl ?_ ?_
    · exact nI_le (a := 1000) (by omega) (by omega)
    rw [show i = 1000 by omega]
    exact K _
  | succ d ih =>
    intro i hi
    (repeat (first | refine r_fw rfl rfl rfl rfl ?_ | refine rM_get rfl rfl ?_)); try dsimp only
    try simp only [na0, na1, na2, na3, na4, na5, na6, na7, na8, na16, na88, na148, nm3, nI_add]
    refine r_brF rfl rfl ?_ ?_
    · exact nle (b := 1000) (by omega) (by omega)
    (repeat (first | refine r_fw rfl rfl rfl rfl ?_ | refine rM_get rfl rfl ?_)); try dsimp only
    try simp only [na0, na1, na2, na3, na4, na5, na6, na7, na8, na16, na88, na148, nm3, nI_add]
    refine rM_ild rfl rfl (show B + 148 + i < 35588 by omega) ?_
    (repeat (first | refine r_fw rfl rfl rfl rfl ?_ | refine rM_get rfl rfl ?_)); try dsimp only
    try simp only [na0, na1, na2, na3, na4, na5, na6, na7, na8, na16, na88, na148, nm3, nI_add]
    refine rM_ist rfl rfl (show B + 148 + i < 35588 by omega) ?_
    rw [s1_s1, s1_at]
    have e2 : upd (hvT w B i) (B + 148 + i) (hvT w B i (B + 148 + i) / 2) = hvT w B (i + 1) := by
      funext q
      simp only [upd]
      by_cases h2 : q = B + 148 + i
      · subst h2
        rw [if_pos rfl]
        simp only [hvT]
        rw [if_neg (by omega), if_pos (by omega)]
      · rw [if_neg h2]
        simp only [hvT]
        by_cases h3 : B + 148 ≤ q ∧ q < B + 148 + i
        · rw [if_pos h3, if_pos (by omega)]
        · rw [if_neg h3, if_neg (by omega)]
    rw [e2]
    (repeat (first | refine r_fw rfl rfl rfl rfl ?_ | refine rM_get rfl rfl ?_)); try dsimp only
    try simp only [na0, na1, na2, na3, na4, na5, na6, na7, na8, na16, na88, na148, nm3, nI_add]
    refine r_step rfl rfl rfl ?_
    exact ih (i + 1) (by omega)
/-- all halved, none taken out yet -/
def hv4 (w : Nat → Int32) (B n : Nat) : Nat → Int32 := hvC (hvT (hv3 w B) B 1000) B n
theorem m_halves (hn : M 1 (B + 2) = nI n) (hn24 : n ≤ 24) (hB : B + 1148 ≤ 35588) : hRun 187 0 [.ref b, .int (nI B), hU] [] (hpM h b M x) (some (.int (nI (n - (hzW B n (hv4 (M 1) B n)).1)))) (hpM h b (s1 M 1 (hzW B n (hv4 (M 1) B n)).2) x) := by
  (repeat (first | refine r_fw rfl rfl rfl rfl ?_ | refine rM_get rfl rfl ?_)); try dsimp only
  try simp only [na0, na1, na2, na3, na4, na5, na6, na7, na8, na16, na88, na148, nm3, nI_add]
  refine rM_ild rfl rfl (show B + 3 < 35588 by omega) ?_
  (repeat (first | refine r_fw rfl rfl rfl rfl ?_ | refine rM_get rfl rfl ?_)); try dsimp only
  try simp only [na0, na1, na2, na3, na4, na5, na6, na7, na8, na16, na88, na148, nm3, nI_add]
  refine rM_ist rfl rfl (show B + 3 < 35588 by omega) ?_
  (repeat (first | refine r_fw rfl rfl rfl rfl ?_ | refine rM_get rfl rfl ?_)); try dsimp only
  try simp only [na0, na1, na2, na3, na4, na5, na6, na7, na8, na16, na88, na148, nm3, nI_add]
  refine rM_ild rfl rfl (show B + 4 < 35588 by omega) ?_
  rw [s1_at, pk_un (by omega)]
  (repeat (first | refine r_fw rfl rfl rfl rfl ?_ | refine rM_get rfl rfl ?_)); try dsimp only
  try simp only [na0, na1, na2, na3, na4, na5, na6, na7, na8, na16, na88, na148, nm3, nI_add]
  refine rM_ist rfl rfl (show B + 4 < 35588 by omega) ?_
  rw [s1_s1, s1_at]
  (repeat (first | refine r_fw rfl rfl rfl rfl ?_ | refine rM_get rfl rfl ?_)); try dsimp only
  try simp only [na0, na1, na2, na3, na4, na5, na6, na7, na8, na16, na88, na148, nm3, nI_add]
  refine rM_ild rfl rfl (show B + 7 < 35588 by omega) ?_
  rw [s1_at, pk_un (by omega), pk_un (by omega)]
  (repeat (first | refine r_fw rfl rfl rfl rfl ?_ | refine rM_get rfl rfl ?_)); try dsimp only
  try simp only [na0, na1, na2, na3, na4, na5, na6, na7, na8, na16, na88, na148, nm3, nI_add]
  refine rM_ist rfl rfl (show B + 7 < 35588 by omega) ?_
  rw [s1_s1, s1_at]
  change hRun 187 _ _ _ (hpM h b (s1 M 1 (hv3 (M 1) B)) x) _ _
  generalize hw : M 1 = w
  rw [hw] at hn
  have e1 : hv3 w B (B + 2) = nI n := by
    unfold hv3
    rw [pk_un (by omega), pk_un (by omega), pk_un (by omega)]
    exact hn
  have e2 : hvT (hv3 w B) B 1000 (B + 2) = nI n := by
    unfold hvT
    rw [if_neg (by omega)]
    exact e1
  have e3 : hv4 w B n (B + 2) = nI n := by
    unfold hv4 hvC
    rw [if_neg (by omega)]
    exact e2
  refine r_step rfl rfl rfl ?_
  refine r_step rfl rfl rfl ?_
  have f0 : hvT (hv3 w B) B 0 = hv3 w B := by
    funext q
    unfold hvT
    rw [if_neg (by omega)]
  have g0 : hvC (hvT (hv3 w B) B 1000) B 0 = hvT (hv3 w B) B 1000 := by
    funext q
    unfold hvC
    rw [if_neg (by omega)]
  suffices H : hRun 187 32 [.ref b, .int (nI B), .int (nI 0)] [] (hpM h b (s1 M 1 (hvT (hv3 w B) B 0)) x) (some (.int (nI (n - (hzW B n (hv4 w B n)).1)))) (hpM h b (s1 M 1 (hzW B n (hv4 w B n)).2) x) by
    rw [f0] at H
    exact H
  refine halves_tru hB _ (fun z => ?_) 1000 0 (by omega)
  refine r_step rfl rfl rfl ?_
  refine r_step rfl rfl rfl ?_
  suffices H : hRun 187 51 [.ref b, .int (nI B), .int (nI 0)] [] (hpM h b (s1 M 1 (hvC (hvT (hv3 w B) B 1000) B 0)) x) (some (.int (nI (n - (hzW B n (hv4 w B n)).1)))) (hpM h b (s1 M 1 (hzW B n (hv4 w B n)).2) x) by
    rw [g0] at H
    exact H
  refine halves_cnt hB hn24 _ e2 (fun z => ?_) n 0 (by omega)
  refine r_step rfl rfl rfl ?_
  refine r_step rfl rfl rfl ?_
  have := halves_take (h := h) (b := b) (M := M) (x := x) hB (N := n) n (hv4 w B n) (Nat.le_refl _) hn24 e3
  rw [show n - n = 0 by omega] at this
  exact this
/-- a thing comes to a bank, without halving: what is answered, how many counters, the row -/
def cm0 (w : Nat → Int32) (B t : Nat) (x : Int32) : Nat → Int32 := upd (upd w (B + 3) (w (B + 3) + x)) (B + 148 + t) (w (B + 148 + t) + x)
def cm1 (w : Nat → Int32) (B n u : Nat) (t x : Int32) : Int32 × Nat × (Nat → Int32) :=
  if fnF (mV w B 1) t n 0 = -1 then
    (if w (B + 1) ≤ nI n then (2, n, putW (takW (gonW w B (tldF u) t) B n 0) B (n - 1) t (grI (w (B + 4)) (w (B + 17)) + x) x)
     else (1, n + 1, putW w B n t (w (B + 4) + x) x))
  else (0, n, putW (takW w B n (fnF (mV w B 1) t n 0).toNatClampNeg) B (n - 1) t (mV w B 2 (fnF (mV w B 1) t n 0).toNatClampNeg + x) (mV w B 3 (fnF (mV w B 1) t n 0).toNatClampNeg + x))
def cm2 (B : Nat) (R : Int32 × Nat × (Nat → Int32)) : Int32 × Nat × (Nat → Int32) :=
  if R.2.2 (B + 5) = 0 then R else if R.2.2 (B + 3) < R.2.2 (B + 5) then R else (R.1, hzW B R.2.1 (hv4 R.2.2 B R.2.1))
def cmW (w : Nat → Int32) (B n u t : Nat) (x : Int32) : Int32 × Nat × (Nat → Int32) := cm2 B (cm1 (cm0 w B t x) B n u (nI t) x)
theorem comes_end {R : Int32 × Nat × (Nat → Int32)} {L1 L2 L3 L4 L5 : Value} (hn : R.2.2 (B + 2) = nI R.2.1) (hn24 : R.2.1 ≤ 24) (hB : B + 1148 ≤ 35588) : hRun 181 95 [.ref b, .int (nI B), L1, L2, L3, .int R.1, L4, L5] [] (hpM h b (s1 M 1 R.2.2) x) (some (.int (cm2 B R).1)) (hpM h b (s1 M 1 (cm2 B R).2.2) x) := by
  unfold cm2
  (repeat (first | refine r_fw rfl rfl rfl rfl ?_ | refine rM_get rfl rfl ?_)); try dsimp only
  try simp only [na0, na1, na2, na3, na4, na5, na6, na7, na8, na16, na88, na148, nm3, nI_add]
  refine rM_ild rfl rfl (show B + 5 < 35588 by omega) ?_
  rw [s1_at]
  refine r_br rfl rfl (fun hc => ?_) (fun hc => ?_)
  · rw [if_pos hc]
    (repeat (first | refine r_fw rfl rfl rfl rfl ?_ | refine rM_get rfl rfl ?_)); try dsimp only
    try simp only [na0, na1, na2, na3, na4, na5, na6, na7, na8, na16, na88, na148, nm3, nI_add]
    exact r_ret rfl rfl rfl rfl
  · rw [if_neg hc]
    (repeat (first | refine r_fw rfl rfl rfl rfl ?_ | refine rM_get rfl rfl ?_)); try dsimp only
    try simp only [na0, na1, na2, na3, na4, na5, na6, na7, na8, na16, na88, na148, nm3, nI_add]
    refine rM_ild rfl rfl (show B + 3 < 35588 by omega) ?_
    rw [s1_at]
    (repeat (first | refine r_fw rfl rfl rfl rfl ?_ | refine rM_get rfl rfl ?_)); try dsimp only
    try simp only [na0, na1, na2, na3, na4, na5, na6, na7, na8, na16, na88, na148, nm3, nI_add]
    refine rM_ild rfl rfl (show B + 5 < 35588 by omega) ?_
    rw [s1_at]
    refine r_br rfl rfl (fun hc => ?_) (fun hc => ?_)
    · rw [if_pos hc]
      (repeat (first | refine r_fw rfl rfl rfl rfl ?_ | refine rM_get rfl rfl ?_)); try dsimp only
      try simp only [na0, na1, na2, na3, na4, na5, na6, na7, na8, na16, na88, na148, nm3, nI_add]
      exact r_ret rfl rfl rfl rfl
    · rw [if_neg hc]
      (repeat (first | refine r_fw rfl rfl rfl rfl ?_ | refine rM_get rfl rfl ?_)); try dsimp only
      try simp only [na0, na1, na2, na3, na4, na5, na6, na7, na8, na16, na88, na148, nm3, nI_add]
      refine rM_call rfl rfl rfl rfl rfl (m_halves hn hn24 hB) ?_
      rw [s1_s1, s1_at]
      refine r_step rfl rfl rfl ?_
      (repeat (first | refine r_fw rfl rfl rfl rfl ?_ | refine rM_get rfl rfl ?_)); try dsimp only
      try simp only [na0, na1, na2, na3, na4, na5, na6, na7, na8, na16, na88, na148, nm3, nI_add]
      exact r_ret rfl rfl rfl rfl
theorem insW_2 {w : Nat → Int32} {k : Nat} {t c l : Int32} : insW w B n k t c l (B + 2) = nI (n + 1) := if_pos rfl
theorem takW_2 {w : Nat → Int32} {a : Nat} : takW w B n a (B + 2) = nI (n - 1) := if_pos rfl
theorem cm1_2 {w : Nat → Int32} {u rm : Nat} {t x : Int32} (hn : w (B + 2) = nI n) (hn24 : n ≤ 24) (hr : w (B + 1) = nI rm) (hr1 : 1 ≤ rm) (hr24 : rm ≤ 24) : (cm1 w B n u t x).2.2 (B + 2) = nI (cm1 w B n u t x).2.1 ∧ (cm1 w B n u t x).2.1 ≤ 24 := by
  unfold cm1
  by_cases hc : fnF (mV w B 1) t n 0 = -1
  · rw [if_pos hc]
    by_cases hf : w (B + 1) ≤ nI n
    · rw [if_pos hf]
      rw [hr, nI_leI (by omega) (by omega)] at hf
      refine ⟨?_, hn24⟩
      dsimp only [putW]
      rw [insW_2, show n - 1 + 1 = n by omega]
    · rw [if_neg hf]
      rw [hr, nI_leI (by omega) (by omega)] at hf
      exact ⟨insW_2, by show n + 1 ≤ 24; omega⟩
  · rw [if_neg hc]
    obtain ⟨q, h1, h2, h3⟩ := fnF_at hn24 hc
    refine ⟨?_, hn24⟩
    dsimp only [putW]
    rw [insW_2, show n - 1 + 1 = n by omega]
theorem m_comes {u t rm : Nat} (v : Int32) (ht : t < 1000) (hn : M 1 (B + 2) = nI n) (hn24 : n ≤ 24) (hr : M 1 (B + 1) = nI rm) (hr1 : 1 ≤ rm) (hr24 : rm ≤ 24) (hu : M 1 (B + 8) = nI u) (hu2 : u ≤ 20) (hB : B + 1148 ≤ 35588) : hRun 181 0 [.ref b, .int (nI B), .int (nI t), .int v, hU, hU, hU, hU] [] (hpM h b M x) (some (.int (cmW (M 1) B n u t v).1)) (hpM h b (s1 M 1 (cmW (M 1) B n u t v).2.2) x) := by
  (repeat (first | refine r_fw rfl rfl rfl rfl ?_ | refine rM_get rfl rfl ?_)); try dsimp only
  try simp only [na0, na1, na2, na3, na4, na5, na6, na7, na8, na16, na88, na148, nm3, nI_add]
  refine rM_ild rfl rfl (show B + 3 < 35588 by omega) ?_
  (repeat (first | refine r_fw rfl rfl rfl rfl ?_ | refine rM_get rfl rfl ?_)); try dsimp only
  try simp only [na0, na1, na2, na3, na4, na5, na6, na7, na8, na16, na88, na148, nm3, nI_add]
  refine rM_ist rfl rfl (show B + 3 < 35588 by omega) ?_
  (repeat (first | refine r_fw rfl rfl rfl rfl ?_ | refine rM_get rfl rfl ?_)); try dsimp only
  try simp only [na0, na1, na2, na3, na4, na5, na6, na7, na8, na16, na88, na148, nm3, nI_add]
  refine rM_ild rfl rfl (show B + 148 + t < 35588 by omega) ?_
  rw [s1_at, pk_un (by omega)]
  (repeat (first | refine r_fw rfl rfl rfl rfl ?_ | refine rM_get rfl rfl ?_)); try dsimp only
  try simp only [na0, na1, na2, na3, na4, na5, na6, na7, na8, na16, na88, na148, nm3, nI_add]
  refine rM_ist rfl rfl (show B + 148 + t < 35588 by omega) ?_
  rw [s1_s1, s1_at]
  change hRun 181 _ _ _ (hpM h b (s1 M 1 (cm0 (M 1) B t v)) x) _ _
  unfold cmW
  have a1 : cm0 (M 1) B t v (B + 2) = nI n := by
    unfold cm0
    rw [pk_un (by omega), pk_un (by omega)]
    exact hn
  have a2 : cm0 (M 1) B t v (B + 1) = nI rm := by
    unfold cm0
    rw [pk_un (by omega), pk_un (by omega)]
    exact hr
  have a3 : cm0 (M 1) B t v (B + 8) = nI u := by
    unfold cm0
    rw [pk_un (by omega), pk_un (by omega)]
    exact hu
  generalize cm0 (M 1) B t v = w at a1 a2 a3
  have hk := cm1_2 (B := B) (n := n) (u := u) (t := nI t) (x := v) a1 hn24 a2 hr1 hr24
  (repeat (first | refine r_fw rfl rfl rfl rfl ?_ | refine rM_get rfl rfl ?_)); try dsimp only
  try simp only [na0, na1, na2, na3, na4, na5, na6, na7, na8, na16, na88, na148, nm3, nI_add]
  refine rM_call rfl rfl rfl rfl rfl (m_placeOf (nI t) a1 hn24 hB) ?_
  rw [s1_at]
  change hRun 181 _ _ [.int (fnF (mV w B 1) (nI t) n 0)] _ _ _
  by_cases hc : fnF (mV w B 1) (nI t) n 0 = -1
  · (repeat (first | refine r_fw rfl rfl rfl rfl ?_ | refine rM_get rfl rfl ?_)); try dsimp only
    try simp only [na0, na1, na2, na3, na4, na5, na6, na7, na8, na16, na88, na148, nm3, nI_add]
    refine r_brT rfl rfl ?_ ?_
    · exact hc
    (repeat (first | refine r_fw rfl rfl rfl rfl ?_ | refine rM_get rfl rfl ?_)); try dsimp only
    try simp only [na0, na1, na2, na3, na4, na5, na6, na7, na8, na16, na88, na148, nm3, nI_add]
    refine rM_call rfl rfl rfl rfl rfl (m_many hB) ?_
    rw [s1_at, a1]
    (repeat (first | refine r_fw rfl rfl rfl rfl ?_ | refine rM_get rfl rfl ?_)); try dsimp only
    try simp only [na0, na1, na2, na3, na4, na5, na6, na7, na8, na16, na88, na148, nm3, nI_add]
    refine rM_ild rfl rfl (show B + 1 < 35588 by omega) ?_
    rw [s1_at]
    by_cases hf : w (B + 1) ≤ nI n
    · have e : cm1 w B n u (nI t) v = (2, n, putW (takW (gonW w B (tldF u) (nI t)) B n 0) B (n - 1) (nI t) (grI (w (B + 4)) (w (B + 17)) + v) v) := by
        unfold cm1
        rw [if_pos hc, if_pos hf]
      rw [e] at hk ⊢
      have hf2 := hf
      rw [a2, nI_leI (by omega) (by omega)] at hf2
      refine r_brT rfl rfl ?_ ?_
      · exact hf
      (repeat (first | refine r_fw rfl rfl rfl rfl ?_ | refine rM_get rfl rfl ?_)); try dsimp only
      try simp only [na0, na1, na2, na3, na4, na5, na6, na7, na8, na16, na88, na148, nm3, nI_add]
      refine r_brF rfl rfl ?_ ?_
      · decide
      (repeat (first | refine r_fw rfl rfl rfl rfl ?_ | refine rM_get rfl rfl ?_)); try dsimp only
      try simp only [na0, na1, na2, na3, na4, na5, na6, na7, na8, na16, na88, na148, nm3, nI_add]
      refine r_brT rfl rfl ?_ ?_
      · rfl
      (repeat (first | refine r_fw rfl rfl rfl rfl ?_ | refine rM_get rfl rfl ?_)); try dsimp only
      try simp only [na0, na1, na2, na3, na4, na5, na6, na7, na8, na16, na88, na148, nm3, nI_add]
      refine rM_call rfl rfl rfl rfl rfl (m_goes (nI t) a1 hn24 (by omega) a3 hu2 hB) ?_
      rw [s1_s1, s1_at]
      (repeat (first | refine r_fw rfl rfl rfl rfl ?_ | refine rM_get rfl rfl ?_)); try dsimp only
      try simp only [na0, na1, na2, na3, na4, na5, na6, na7, na8, na16, na88, na148, nm3, nI_add]
      refine rM_ild rfl rfl (show B + 4 < 35588 by omega) ?_
      rw [s1_at]
      have e4 : takW (gonW w B (tldF u) (nI t)) B n 0 (B + 4) = grI (w (B + 4)) (w (B + 17)) := by
        unfold takW
        rw [if_neg (by omega), if_neg (by omega)]
        unfold gonW
        rw [pk_us]
      rw [e4]
      (repeat (first | refine r_fw rfl rfl rfl rfl ?_ | refine rM_get rfl rfl ?_)); try dsimp only
      try simp only [na0, na1, na2, na3, na4, na5, na6, na7, na8, na16, na88, na148, nm3, nI_add]
      refine rM_call rfl rfl rfl rfl rfl (m_inserts (n := n - 1) _ _ _ takW_2 (by omega) hB) ?_
      rw [s1_s1, s1_at]
      exact comes_end (R := (2, n, putW (takW (gonW w B (tldF u) (nI t)) B n 0) B (n - 1) (nI t) (grI (w (B + 4)) (w (B + 17)) + v) v)) hk.1 hk.2 hB
    · have e : cm1 w B n u (nI t) v = (1, n + 1, putW w B n (nI t) (w (B + 4) + v) v) := by
        unfold cm1
        rw [if_pos hc, if_neg hf]
      rw [e] at hk ⊢
      have hf2 := hf
      rw [a2, nI_leI (by omega) (by omega)] at hf2
      refine r_brF rfl rfl ?_ ?_
      · exact hf
      (repeat (first | refine r_fw rfl rfl rfl rfl ?_ | refine rM_get rfl rfl ?_)); try dsimp only
      try simp only [na0, na1, na2, na3, na4, na5, na6, na7, na8, na16, na88, na148, nm3, nI_add]
      refine r_brF rfl rfl ?_ ?_
      · decide
      (repeat (first | refine r_fw rfl rfl rfl rfl ?_ | refine rM_get rfl rfl ?_)); try dsimp only
      try simp only [na0, na1, na2, na3, na4, na5, na6, na7, na8, na16, na88, na148, nm3, nI_add]
      refine r_brF rfl rfl ?_ ?_
      · decide
      (repeat (first | refine r_fw rfl rfl rfl rfl ?_ | refine rM_get rfl rfl ?_)); try dsimp only
      try simp only [na0, na1, na2, na3, na4, na5, na6, na7, na8, na16, na88, na148, nm3, nI_add]
      refine rM_ild rfl rfl (show B + 4 < 35588 by omega) ?_
      rw [s1_at]
      (repeat (first | refine r_fw rfl rfl rfl rfl ?_ | refine rM_get rfl rfl ?_)); try dsimp only
      try simp only [na0, na1, na2, na3, na4, na5, na6, na7, na8, na16, na88, na148, nm3, nI_add]
      refine rM_call rfl rfl rfl rfl rfl (m_inserts (n := n) _ _ _ a1 (by omega) hB) ?_
      rw [s1_s1, s1_at]
      exact comes_end (R := (1, n + 1, putW w B n (nI t) (w (B + 4) + v) v)) hk.1 hk.2 hB
  · obtain ⟨q, h1, h2, h3⟩ := fnF_at hn24 hc
    have e : cm1 w B n u (nI t) v = (0, n, putW (takW w B n q) B (n - 1) (nI t) (mV w B 2 q + v) (mV w B 3 q + v)) := by
      unfold cm1
      rw [if_neg hc, h3]
    rw [e] at hk ⊢
    rw [h2]
    (repeat (first | refine r_fw rfl rfl rfl rfl ?_ | refine rM_get rfl rfl ?_)); try dsimp only
    try simp only [na0, na1, na2, na3, na4, na5, na6, na7, na8, na16, na88, na148, nm3, nI_add]
    refine r_brF rfl rfl ?_ ?_
    · exact nI_m1 (by omega)
    (repeat (first | refine r_fw rfl rfl rfl rfl ?_ | refine rM_get rfl rfl ?_)); try dsimp only
    try simp only [na0, na1, na2, na3, na4, na5, na6, na7, na8, na16, na88, na148, nm3, nI_add]
    refine r_brT rfl rfl ?_ ?_
    · rfl
    (repeat (first | refine r_fw rfl rfl rfl rfl ?_ | refine rM_get rfl rfl ?_)); try dsimp only
    try simp only [na0, na1, na2, na3, na4, na5, na6, na7, na8, na16, na88, na148, nm3, nI_add]
    refine rM_call rfl rfl rfl rfl rfl (m_of (i := q) (w := 1) (by omega) (by omega) hB) ?_
    rw [s1_at]
    (repeat (first | refine r_fw rfl rfl rfl rfl ?_ | refine rM_get rfl rfl ?_)); try dsimp only
    try simp only [na0, na1, na2, na3, na4, na5, na6, na7, na8, na16, na88, na148, nm3, nI_add]
    refine rM_call rfl rfl rfl rfl rfl (m_of (i := q) (w := 2) (by omega) (by omega) hB) ?_
    rw [s1_at]
    (repeat (first | refine r_fw rfl rfl rfl rfl ?_ | refine rM_get rfl rfl ?_)); try dsimp only
    try simp only [na0, na1, na2, na3, na4, na5, na6, na7, na8, na16, na88, na148, nm3, nI_add]
    refine rM_call rfl rfl rfl rfl rfl (m_takes (a := q) a1 hn24 h1 hB) ?_
    rw [s1_s1, s1_at]
    (repeat (first | refine r_fw rfl rfl rfl rfl ?_ | refine rM_get rfl rfl ?_)); try dsimp only
    try simp only [na0, na1, na2, na3, na4, na5, na6, na7, na8, na16, na88, na148, nm3, nI_add]
    refine rM_call rfl rfl rfl rfl rfl (m_inserts (n := n - 1) _ _ _ takW_2 (by omega) hB) ?_
    rw [s1_s1, s1_at]
    refine r_step rfl rfl rfl ?_
    exact comes_end (R := (0, n, putW (takW w B n q) B (n - 1) (nI t) (mV w B 2 q + v) (mV w B 3 q + v))) hk.1 hk.2 hB
end MCO
