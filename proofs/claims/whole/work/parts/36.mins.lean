/-! the reference: a counter comes, the first goes, halving, a thing comes -/
section MIN
variable {h : hH} {b : Nat} {M : hT2} {x : Int64} {n B : Nat}
/-- shifted up by one counter from i on -/
def upW (w : Nat → Int32) (B n i : Nat) : Nat → Int32 := fun q => if B + 16 + 3 * i + 3 ≤ q ∧ q < B + 16 + 3 * n + 3 then w (q - 3) else w q
theorem upW_n (w : Nat → Int32) (B n : Nat) : upW w B n n = w := by
  funext q
  unfold upW
  rw [if_neg (by omega)]
theorem upW_s (w : Nat → Int32) (B n i : Nat) (hi : i < n) : t3F (B + 16 + 3 * (i + 1)) (B + 16 + 3 * i) 3 0 (upW w B n (i + 1)) = upW w B n i := by
  funext q
  simp only [t3F, upd, upW]
  repeat' split
  all_goals first | rfl | omega | (congr 1; omega)
def insW (w : Nat → Int32) (B n k : Nat) (t c l : Int32) : Nat → Int32 := fun q => if q = B + 2 then nI (n + 1) else if q = B + 16 + 3 * k + 2 then l else if q = B + 16 + 3 * k + 1 then c else if q = B + 16 + 3 * k then t else upW w B n k q
theorem ins3_loop {t c l : Int32} {i : Nat} (hB : B + 1148 ≤ 35588) (hi : i < 24) {r : Option Value} {h' : hH} {P : Nat → Int32} (K : ∀ z : Value, hRun 184 41 [.ref b, .int (nI B), .int t, .int c, .int l, .int (nI (i + 1)), z] [] (hpM h b (s1 M 1 P) x) r h') : ∀ d k (w : Nat → Int32), k + d = 3 → t3F (B + 16 + 3 * (i + 1)) (B + 16 + 3 * i) d k w = P → hRun 184 17 [.ref b, .int (nI B), .int t, .int c, .int l, .int (nI (i + 1)), .int (nI k)] [] (hpM h b (s1 M 1 w) x) r h' := by
  intro d
  induction d with
  | zero =>
    intro k w hk e
    (repeat (first | refine r_fw rfl rfl rfl rfl ?_ | refine rM_get rfl rfl ?_)); try dsimp only
    try simp only [na0, na1, na2, na3, na4, na5, na6, na7, na8, na16, na88, na148, nm3, nI_add]
    refine r_brT rfl rfl ?_ ?_
    · exact nI_le (a := 3) (by omega) (by omega)
    have e2 : w = P := e
    rw [e2]
    exact K _
  | succ d ih =>
    intro k w hk e
    (repeat (first | refine r_fw rfl rfl rfl rfl ?_ | refine rM_get rfl rfl ?_)); try dsimp only
    try simp only [na0, na1, na2, na3, na4, na5, na6, na7, na8, na16, na88, na148, nm3, nI_add]
    refine r_brF rfl rfl ?_ ?_
    · exact nle (b := 3) (by omega) (by omega)
    (repeat (first | refine r_fw rfl rfl rfl rfl ?_ | refine rM_get rfl rfl ?_)); try dsimp only
    try simp only [na0, na1, na2, na3, na4, na5, na6, na7, na8, na16, na88, na148, nm3, nI_add]
    rw [nI_pred]
    refine rM_call rfl rfl rfl rfl rfl (m_of (i := i) (w := k) (by omega) (by omega) hB) ?_
    refine rM_ist rfl rfl (show B + 16 + 3 * (i + 1) + k < 35588 by omega) ?_
    rw [s1_s1, s1_at]
    (repeat (first | refine r_fw rfl rfl rfl rfl ?_ | refine rM_get rfl rfl ?_)); try dsimp only
    try simp only [na0, na1, na2, na3, na4, na5, na6, na7, na8, na16, na88, na148, nm3, nI_add]
    refine r_step rfl rfl rfl ?_
    exact ih (k + 1) _ (by omega) e
theorem ins_end {t c l : Int32} {k : Nat} {z : Value} (hB : B + 1148 ≤ 35588) (hn24 : n < 24) (hk : k ≤ n) (w : Nat → Int32) (hn : w (B + 2) = nI n) : hRun 184 43 [.ref b, .int (nI B), .int t, .int c, .int l, .int (nI k), z] [] (hpM h b (s1 M 1 (upW w B n k)) x) none (hpM h b (s1 M 1 (insW w B n k t c l)) x) := by
  (repeat (first | refine r_fw rfl rfl rfl rfl ?_ | refine rM_get rfl rfl ?_)); try dsimp only
  try simp only [na0, na1, na2, na3, na4, na5, na6, na7, na8, na16, na88, na148, nm3, nI_add]
  refine rM_ist rfl rfl (show B + 16 + 3 * k < 35588 by omega) ?_
  rw [s1_s1, s1_at]
  (repeat (first | refine r_fw rfl rfl rfl rfl ?_ | refine rM_get rfl rfl ?_)); try dsimp only
  try simp only [na0, na1, na2, na3, na4, na5, na6, na7, na8, na16, na88, na148, nm3, nI_add]
  refine rM_ist rfl rfl (show B + 16 + 3 * k + 1 < 35588 by omega) ?_
  rw [s1_s1, s1_at]
  (repeat (first | refine r_fw rfl rfl rfl rfl ?_ | refine rM_get rfl rfl ?_)); try dsimp only
  try simp only [na0, na1, na2, na3, na4, na5, na6, na7, na8, na16, na88, na148, nm3, nI_add]
  refine rM_ist rfl rfl (show B + 16 + 3 * k + 2 < 35588 by omega) ?_
  rw [s1_s1, s1_at]
  (repeat (first | refine r_fw rfl rfl rfl rfl ?_ | refine rM_get rfl rfl ?_)); try dsimp only
  try simp only [na0, na1, na2, na3, na4, na5, na6, na7, na8, na16, na88, na148, nm3, nI_add]
  refine rM_ild rfl rfl (show B + 2 < 35588 by omega) ?_
  (repeat (first | refine r_fw rfl rfl rfl rfl ?_ | refine rM_get rfl rfl ?_)); try dsimp only
  try simp only [na0, na1, na2, na3, na4, na5, na6, na7, na8, na16, na88, na148, nm3, nI_add]
  refine rM_ist rfl rfl (show B + 2 < 35588 by omega) ?_
  rw [s1_s1, s1_at]
  have e : ∀ v : Int32, v = nI n → upd (upd (upd (upd (upW w B n k) (B + 16 + 3 * k) t) (B + 16 + 3 * k + 1) c) (B + 16 + 3 * k + 2) l) (B + 2) (v + 1) = insW w B n k t c l := by
    intro v hv
    funext q
    simp only [upd, insW, hv, na1]
  rw [e]
  · exact r_ret rfl rfl rfl rfl
  · simp only [upd]
    rw [if_neg (by omega), if_neg (by omega), if_neg (by omega)]
    unfold upW
    rw [if_neg (by omega)]
    exact hn
theorem ins_loop {t c l : Int32} (hB : B + 1148 ≤ 35588) (hn24 : n < 24) (w : Nat → Int32) (hn : w (B + 2) = nI n) : ∀ i (z : Value), i ≤ n → bhF (mV w B) c i = bhF (mV w B) c n → hRun 184 4 [.ref b, .int (nI B), .int t, .int c, .int l, .int (nI i), z] [] (hpM h b (s1 M 1 (upW w B n i)) x) none (hpM h b (s1 M 1 (insW w B n (bhF (mV w B) c n) t c l)) x) := by
  intro i
  induction i with
  | zero =>
    intro z hi hb
    (repeat (first | refine r_fw rfl rfl rfl rfl ?_ | refine rM_get rfl rfl ?_)); try dsimp only
    try simp only [na0, na1, na2, na3, na4, na5, na6, na7, na8, na16, na88, na148, nm3, nI_add]
    refine r_brT rfl rfl ?_ ?_
    · decide
    rw [← hb]
    exact ins_end hB hn24 (by omega) w hn
  | succ i ih =>
    intro z hi hb
    (repeat (first | refine r_fw rfl rfl rfl rfl ?_ | refine rM_get rfl rfl ?_)); try dsimp only
    try simp only [na0, na1, na2, na3, na4, na5, na6, na7, na8, na16, na88, na148, nm3, nI_add]
    refine r_brF rfl rfl ?_ ?_
    · exact nI_nle (by omega) (by omega)
    (repeat (first | refine r_fw rfl rfl rfl rfl ?_ | refine rM_get rfl rfl ?_)); try dsimp only
    try simp only [na0, na1, na2, na3, na4, na5, na6, na7, na8, na16, na88, na148, nm3, nI_add]
    rw [nI_pred]
    refine rM_call rfl rfl rfl rfl rfl (m_of (i := i) (w := 1) (by omega) (by omega) hB) ?_
    rw [s1_at]
    have e1 : upW w B n (i + 1) (B + 16 + 3 * i + 1) = mV w B 2 i := by
      unfold upW
      rw [if_neg (by omega)]
      rfl
    rw [e1]
    replace hb : (if mV w B 2 i ≤ c then i + 1 else bhF (mV w B) c i) = bhF (mV w B) c n := hb
    (repeat (first | refine r_fw rfl rfl rfl rfl ?_ | refine rM_get rfl rfl ?_)); try dsimp only
    try simp only [na0, na1, na2, na3, na4, na5, na6, na7, na8, na16, na88, na148, nm3, nI_add]
    refine r_br rfl rfl (fun hc => ?_) (fun hc => ?_)
    · rw [if_pos hc] at hb
      rw [← hb]
      exact ins_end hB hn24 (by omega) w hn
    · rw [if_neg hc] at hb
      refine r_step rfl rfl rfl ?_
      refine r_step rfl rfl rfl ?_
      refine ins3_loop hB (by omega) (fun z => ?_) 3 0 _ (by omega) (upW_s w B n i (by omega))
      refine r_step rfl rfl rfl ?_
      refine r_step rfl rfl rfl ?_
      rw [pk_m1]
      exact ih z (by omega) hb
/-- a counter comes behind all that have no more -/
def putW (w : Nat → Int32) (B n : Nat) (t c l : Int32) : Nat → Int32 := insW w B n (bhF (mV w B) c n) t c l
theorem m_inserts (t c l : Int32) (hn : M 1 (B + 2) = nI n) (hn24 : n < 24) (hB : B + 1148 ≤ 35588) : hRun 184 0 [.ref b, .int (nI B), .int t, .int c, .int l, hU, hU] [] (hpM h b M x) none (hpM h b (s1 M 1 (putW (M 1) B n t c l)) x) := by
  refine r_step rfl rfl rfl ?_
  refine r_step rfl rfl rfl ?_
  refine rM_call rfl rfl rfl rfl rfl (m_many hB) ?_
  rw [hn]
  refine r_step rfl rfl rfl ?_
  have := ins_loop (h := h) (b := b) (M := M) (x := x) (t := t) (c := c) (l := l) hB hn24 (M 1) hn n hU (by omega) rfl
  rw [upW_n, s1_id] at this
  exact this
/-- one taken out: all in one -/
def takW (w : Nat → Int32) (B n a : Nat) : Nat → Int32 := fun q => if q = B + 2 then nI (n - 1) else if B + 16 + 3 * a ≤ q ∧ q < B + 16 + 3 * (n - 1) then w (q + 3) else w q
theorem txW_at (B : Nat) : ∀ d i (w : Nat → Int32) q, txW B d i w q = if B + 16 + 3 * i ≤ q ∧ q < B + 16 + 3 * (i + d) then w (q + 3) else w q
  | 0, i, w, q => by
    rw [if_neg (by omega)]
    rfl
  | d + 1, i, w, q => by
    rw [txW, txW_at B d (i + 1)]
    simp only [t3F, upd]
    repeat' split
    all_goals first | rfl | omega | (congr 1; omega)
theorem takeW_eq (w : Nat → Int32) {B n a : Nat} (ha : a < n) : takeW w B n a = takW w B n a := by
  funext q
  unfold takeW takW
  rw [txW_at]
  simp only [upd]
  repeat' split
  all_goals first | rfl | omega | (congr 1; omega)
theorem m_takes {a : Nat} (hn : M 1 (B + 2) = nI n) (hn24 : n ≤ 24) (ha : a < n) (hB : B + 1148 ≤ 35588) : hRun 183 0 [.ref b, .int (nI B), .int (nI a), hU, hU] [] (hpM h b M x) none (hpM h b (s1 M 1 (takW (M 1) B n a)) x) := by
  rw [← takeW_eq _ ha]
  exact m_takesOut hn hn24 ha hB
/-- what has gone, shifted -/
def upG (w : Nat → Int32) (B m k : Nat) : Nat → Int32 := fun q => if B + 88 + k < q ∧ q < B + 88 + m then w (q - 3) else w q
theorem goes_loop {t : Int32} {m : Nat} (hB : B + 1148 ≤ 35588) (hm3 : 3 ≤ m) (hm : m ≤ 60) (w : Nat → Int32) {r : Option Value} {h' : hH} {v : Int32} (K : hRun 185 48 [.ref b, .int (nI B), .int t, .int v, .int (nI 2)] [] (hpM h b (s1 M 1 (upG w B m 2)) x) r h') : ∀ d k, k = d + 2 → k < m → hRun 185 25 [.ref b, .int (nI B), .int t, .int v, .int (nI k)] [] (hpM h b (s1 M 1 (upG w B m k)) x) r h' := by
  intro d
  induction d with
  | zero =>
    intro k hk hkm
    subst hk
    (repeat (first | refine r_fw rfl rfl rfl rfl ?_ | refine rM_get rfl rfl ?_)); try dsimp only
    try simp only [na0, na1, na2, na3, na4, na5, na6, na7, na8, na16, na88, na148, nm3, nI_add]
    refine r_brT rfl rfl ?_ ?_
    · exact nI_lt (b := 3) (by omega) (by omega)
    exact K
  | succ d ih =>
    intro k hk hkm
    (repeat (first | refine r_fw rfl rfl rfl rfl ?_ | refine rM_get rfl rfl ?_)); try dsimp only
    try simp only [na0, na1, na2, na3, na4, na5, na6, na7, na8, na16, na88, na148, nm3, nI_add]
    refine r_brF rfl rfl ?_ ?_
    · exact nI_nlt (b := 3) (by omega) (by omega)
    (repeat (first | refine r_fw rfl rfl rfl rfl ?_ | refine rM_get rfl rfl ?_)); try dsimp only
    try simp only [na0, na1, na2, na3, na4, na5, na6, na7, na8, na16, na88, na148, nm3, nI_add]
    rw [show nI (B + 88 + k) - 3 = nI (B + 88 + k - 3) from pk_sub (b := 3) (by omega)]
    refine rM_ild rfl rfl (show B + 88 + k - 3 < 35588 by omega) ?_
    refine rM_ist rfl rfl (show B + 88 + k < 35588 by omega) ?_
    rw [s1_s1, s1_at]
    have e : upd (upG w B m k) (B + 88 + k) (upG w B m k (B + 88 + k - 3)) = upG w B m (k - 1) := by
      funext q
      simp only [upd, upG]
      repeat' split
      all_goals first | rfl | omega | (congr 1; omega)
    rw [e]
    (repeat (first | refine r_fw rfl rfl rfl rfl ?_ | refine rM_get rfl rfl ?_)); try dsimp only
    try simp only [na0, na1, na2, na3, na4, na5, na6, na7, na8, na16, na88, na148, nm3, nI_add]
    refine r_step rfl rfl rfl ?_
    have e3 : nI k + -1 = nI (k - 1) := by
      have := pk_m1 (k - 1)
      rwa [show k - 1 + 1 = k by omega] at this
    rw [e3]
    exact ih (k - 1) (by omega) (by omega)
/-- the greater one, as the reference has it -/
def grI (u v : Int32) : Int32 := if u ≤ v then v else u
/-- the first goes for a thing: without its being taken out -/
def gonW (w : Nat → Int32) (B u : Nat) (t : Int32) : Nat → Int32 := upd (upd (upd (upd (upd (upd (upG w B (3 * u) 2) (B + 88) (w (B + 16))) (B + 89) (w (B + 17))) (B + 90) t) (B + 8) (nI u)) (B + 6) (w (B + 6) + 1)) (B + 4) (grI (w (B + 4)) (w (B + 17)))
theorem upG_n {w : Nat → Int32} {B m q : Nat} (hq : q < B + 88) : upG w B m 2 q = w q := by
  unfold upG
  rw [if_neg (by omega)]
/-- how many that have gone are told -/
def tldF (u : Nat) : Nat := if u < 20 then u + 1 else 20
theorem goes_end {v : Nat} (t : Int32) {y : Value} (w : Nat → Int32) (hn : w (B + 2) = nI n) (hn24 : n ≤ 24) (h1 : 1 ≤ n) (hB : B + 1148 ≤ 35588) : hRun 185 48 [.ref b, .int (nI B), .int t, .int (nI v), y] [] (hpM h b (s1 M 1 (upG w B (3 * v) 2)) x) none (hpM h b (s1 M 1 (takW (gonW w B v t) B n 0)) x) := by
  (repeat (first | refine r_fw rfl rfl rfl rfl ?_ | refine rM_get rfl rfl ?_)); try dsimp only
  try simp only [na0, na1, na2, na3, na4, na5, na6, na7, na8, na16, na88, na148, nm3, nI_add]
  refine rM_call rfl rfl rfl rfl rfl (m_of (i := 0) (w := 0) (by omega) (by omega) hB) ?_
  rw [s1_at, upG_n (by omega)]
  (repeat (first | refine r_fw rfl rfl rfl rfl ?_ | refine rM_get rfl rfl ?_)); try dsimp only
  try simp only [na0, na1, na2, na3, na4, na5, na6, na7, na8, na16, na88, na148, nm3, nI_add]
  refine rM_ist rfl rfl (show B + 88 < 35588 by omega) ?_
  rw [s1_s1, s1_at]
  (repeat (first | refine r_fw rfl rfl rfl rfl ?_ | refine rM_get rfl rfl ?_)); try dsimp only
  try simp only [na0, na1, na2, na3, na4, na5, na6, na7, na8, na16, na88, na148, nm3, nI_add]
  refine rM_call rfl rfl rfl rfl rfl (m_of (i := 0) (w := 1) (by omega) (by omega) hB) ?_
  rw [s1_at, pk_un (by omega), upG_n (by omega)]
  (repeat (first | refine r_fw rfl rfl rfl rfl ?_ | refine rM_get rfl rfl ?_)); try dsimp only
  try simp only [na0, na1, na2, na3, na4, na5, na6, na7, na8, na16, na88, na148, nm3, nI_add]
  refine rM_ist rfl rfl (show B + 89 < 35588 by omega) ?_
  rw [s1_s1, s1_at]
  (repeat (first | refine r_fw rfl rfl rfl rfl ?_ | refine rM_get rfl rfl ?_)); try dsimp only
  try simp only [na0, na1, na2, na3, na4, na5, na6, na7, na8, na16, na88, na148, nm3, nI_add]
  refine rM_ist rfl rfl (show B + 90 < 35588 by omega) ?_
  rw [s1_s1, s1_at]
  (repeat (first | refine r_fw rfl rfl rfl rfl ?_ | refine rM_get rfl rfl ?_)); try dsimp only
  try simp only [na0, na1, na2, na3, na4, na5, na6, na7, na8, na16, na88, na148, nm3, nI_add]
  refine rM_ist rfl rfl (show B + 8 < 35588 by omega) ?_
  rw [s1_s1, s1_at]
  (repeat (first | refine r_fw rfl rfl rfl rfl ?_ | refine rM_get rfl rfl ?_)); try dsimp only
  try simp only [na0, na1, na2, na3, na4, na5, na6, na7, na8, na16, na88, na148, nm3, nI_add]
  refine rM_ild rfl rfl (show B + 6 < 35588 by omega) ?_
  rw [s1_at, pk_un (by omega), pk_un (by omega), pk_un (by omega), pk_un (by omega), upG_n (by omega)]
  (repeat (first | refine r_fw rfl rfl rfl rfl ?_ | refine rM_get rfl rfl ?_)); try dsimp only
  try simp only [na0, na1, na2, na3, na4, na5, na6, na7, na8, na16, na88, na148, nm3, nI_add]
  refine rM_ist rfl rfl (show B + 6 < 35588 by omega) ?_
  rw [s1_s1, s1_at]
  (repeat (first | refine r_fw rfl rfl rfl rfl ?_ | refine rM_get rfl rfl ?_)); try dsimp only
  try simp only [na0, na1, na2, na3, na4, na5, na6, na7, na8, na16, na88, na148, nm3, nI_add]
  refine rM_ild rfl rfl (show B + 4 < 35588 by omega) ?_
  rw [s1_at, pk_un (by omega), pk_un (by omega), pk_un (by omega), pk_un (by omega), pk_un (by omega), upG_n (by omega)]
  (repeat (first | refine r_fw rfl rfl rfl rfl ?_ | refine rM_get rfl rfl ?_)); try dsimp only
  try simp only [na0, na1, na2, na3, na4, na5, na6, na7, na8, na16, na88, na148, nm3, nI_add]
  refine rM_call rfl rfl rfl rfl rfl (m_of (i := 0) (w := 1) (by omega) (by omega) hB) ?_
  rw [s1_at, pk_un (by omega), pk_un (by omega), pk_un (by omega), pk_un (by omega), pk_un (by omega), upG_n (by omega)]
  refine r_callS rfl rfl rfl rfl (m_greater _ _) ?_
  refine rM_ist rfl rfl (show B + 4 < 35588 by omega) ?_
  rw [s1_s1, s1_at]
  change hRun 185 _ _ _ (hpM h b (s1 M 1 (gonW w B v t)) x) _ _
  (repeat (first | refine r_fw rfl rfl rfl rfl ?_ | refine rM_get rfl rfl ?_)); try dsimp only
  try simp only [na0, na1, na2, na3, na4, na5, na6, na7, na8, na16, na88, na148, nm3, nI_add]
  refine rM_call rfl rfl rfl rfl rfl (m_takes (a := 0) (n := n) ?_ hn24 (by omega) hB) ?_
  · rw [s1_at]
    unfold gonW
    rw [pk_un (by omega), pk_un (by omega), pk_un (by omega), pk_un (by omega), pk_un (by omega), pk_un (by omega), upG_n (by omega)]
    exact hn
  rw [s1_s1, s1_at]
  exact r_ret rfl rfl rfl rfl
theorem m_goes {u : Nat} (t : Int32) (hn : M 1 (B + 2) = nI n) (hn24 : n ≤ 24) (h1 : 1 ≤ n) (hu : M 1 (B + 8) = nI u) (hu2 : u ≤ 20) (hB : B + 1148 ≤ 35588) : hRun 185 0 [.ref b, .int (nI B), .int t, hU, hU] [] (hpM h b M x) none (hpM h b (s1 M 1 (takW (gonW (M 1) B (tldF u) t) B n 0)) x) := by
  have hT : 1 ≤ tldF u ∧ tldF u ≤ 20 := by
    unfold tldF
    split <;> omega
  have go : hRun 185 18 [.ref b, .int (nI B), .int t, hU, hU] [.int (nI (tldF u))] (hpM h b M x) none (hpM h b (s1 M 1 (takW (gonW (M 1) B (tldF u) t) B n 0)) x) := by
    generalize tldF u = v at hT
    refine r_step rfl rfl rfl ?_
    refine r_step rfl rfl rfl ?_
    refine r_step rfl rfl rfl ?_
    refine r_step rfl rfl rfl ?_
    refine r_step rfl rfl rfl ?_
    refine r_step rfl rfl rfl ?_
    refine r_step rfl rfl rfl ?_
    dsimp only
    rw [nm3, show nI (3 * v) - 1 = nI (3 * v - 1) from pk_sub (b := 1) (by omega)]
    have e0 : s1 M 1 (upG (M 1) B (3 * v) (3 * v - 1)) = M := by
      have : upG (M 1) B (3 * v) (3 * v - 1) = M 1 := by
        funext q
        unfold upG
        rw [if_neg (by omega)]
      rw [this, s1_id]
    suffices H : hRun 185 25 [.ref b, .int (nI B), .int t, .int (nI v), .int (nI (3 * v - 1))] [] (hpM h b (s1 M 1 (upG (M 1) B (3 * v) (3 * v - 1))) x) none (hpM h b (s1 M 1 (takW (gonW (M 1) B v t) B n 0)) x) by
      rw [e0] at H
      exact H
    exact goes_loop (m := 3 * v) hB (by omega) (by omega) _ (goes_end t (M 1) hn hn24 h1 hB) (3 * v - 3) (3 * v - 1) (by omega) (by omega)
  (repeat (first | refine r_fw rfl rfl rfl rfl ?_ | refine rM_get rfl rfl ?_)); try dsimp only
  try simp only [na0, na1, na2, na3, na4, na5, na6, na7, na8, na16, na88, na148, nm3, nI_add]
  refine rM_ild rfl rfl (show B + 8 < 35588 by omega) ?_
  rw [hu]
  (repeat (first | refine r_fw rfl rfl rfl rfl ?_ | refine rM_get rfl rfl ?_)); try dsimp only
  try simp only [na0, na1, na2, na3, na4, na5, na6, na7, na8, na16, na88, na148, nm3, nI_add]
  by_cases hc : u < 20
  · have e : tldF u = u + 1 := if_pos hc
    rw [e] at go ⊢
    refine r_brF rfl rfl ?_ ?_
    · exact nle (b := 20) hc (by omega)
    (repeat (first | refine r_fw rfl rfl rfl rfl ?_ | refine rM_get rfl rfl ?_))
    dsimp only
    rw [na8]
    refine rM_ild rfl rfl (show B + 8 < 35588 by omega) ?_
    rw [hu]
    refine r_step rfl rfl rfl ?_
    refine r_step rfl rfl rfl ?_
    dsimp only
    rw [na1]
    refine r_step rfl rfl rfl ?_
    exact go
  · have e : tldF u = 20 := if_neg hc
    rw [e] at go ⊢
    refine r_brT rfl rfl ?_ ?_
    · exact nI_le (a := 20) (by omega) (by omega)
    refine r_step rfl rfl rfl ?_
    exact go
end MIN
