/-! read: bytes and numbers -/
theorem nu1 (F : Nat → Int32) (i : Nat) : nuF F i 1 0 = F i := by
  rw [nuF, nuF, show (0 : Int32) <<< (8 &&& 31) = 0 by decide, Int32.zero_or]
theorem nu2 (F : Nat → Int32) (i : Nat) : nuF F i 2 0 = (F i <<< (8 &&& 31)) ||| F (i + 1) := by
  rw [nuF, nuF, nuF, show (0 : Int32) <<< (8 &&& 31) = 0 by decide, Int32.zero_or]
theorem sh_b {x s : Int32} {n : Nat} (h : (s.toBitVec.smod 32).toNat = n) : (x <<< s).toBitVec = x.toBitVec <<< n := by
  rw [Int32.toBitVec_shiftLeft, BitVec.shiftLeft_eq', h]
theorem nu4 (F : Nat → Int32) (i : Nat) : nuF F i 4 0 = (((F i <<< (24 &&& 31)) ||| (F (i + 1) <<< (16 &&& 31))) ||| (F (i + 2) <<< (8 &&& 31))) ||| F (i + 3) := by
  rw [nuF, nuF, nuF, nuF, nuF, show (0 : Int32) <<< (8 &&& 31) = 0 by decide, Int32.zero_or]
  apply Int32.toBitVec_inj.mp
  have e8 : (((8 &&& 31 : Int32)).toBitVec.smod 32).toNat = 8 := by decide
  have e16 : (((16 &&& 31 : Int32)).toBitVec.smod 32).toNat = 16 := by decide
  have e24 : (((24 &&& 31 : Int32)).toBitVec.smod 32).toNat = 24 := by decide
  simp only [Int32.toBitVec_or, sh_b e8, sh_b e16, sh_b e24, BitVec.shiftLeft_or_distrib, ← BitVec.shiftLeft_add]
theorem by_255 {b : Nat} (h : b < 256) : (nI b).toInt8.toInt32 &&& 255 = nI b := by
  have : ∀ b : Fin 256, (nI b.1).toInt8.toInt32 &&& 255 = nI b.1 := by decide +kernel
  exact this ⟨b, h⟩
theorem at14 (k : Nat) : (14 : Int32) + 10 * nI k = nI (14 + 10 * k) := by
  rw [show (10 : Int32) * nI k = nI (10 * k) from pk_mul 10 k]
  exact nI_add 14 _
/-- what lies on the tape -/
def TpC (w : hWo) (N : Nat) (F : Nat → Int32) : Prop := w.1 33 0 0 = nI N ∧ N ≤ 300 ∧ (fun j => if j < N then w.1 33 1 j else 0) = F
def TpM (M : hT2) (N : Nat) (F : Nat → Int32) : Prop := N ≤ 300 ∧ ∀ j, j < N → M 10 j &&& 255 = F j
def rT (F : Nat → Int32) (k : Nat) : Int32 := nuF F (14 + 10 * k) 2 0
def rC (F : Nat → Int32) (k : Nat) : Int32 := nuF F (14 + 10 * k + 2) 4 0
def rL (F : Nat → Int32) (k : Nat) : Int32 := nuF F (14 + 10 * k + 6) 4 0
def wFl (w : hWo) (a b : Int32) : hWo := wS w 34 (s2 (s2 (w.1 34) 0 0 a) 0 1 b)
theorem TpC_o {w : hWo} {N q : Nat} {F : Nat → Int32} {T : hT2} (h : TpC w N F) (hq : q ≠ 33) : TpC (wS w q T) N F := by
  unfold TpC
  rw [wS_ne (fun z => hq z.symm)]
  exact h
section RDC
variable {mi k : Nat} {L st : List Value} {E : hEn} {w : hWo} {h' : hH} {r : Option Value} {N : Nat} {F : Nat → Int32}
theorem wT_num {ii len pc i n : Nat} {z : Int32} {zl : Int64} {ts : List Nat} (he : hI mi k = some (.invokevirtual ii, len, pc, 12, 3, z, zl, ts)) (hT : TpC w N F) (h1 : i < 100000) (h2 : n ≤ 300) (hs : decide (hCats st ≤ 8) = true) (K : hRun mi (k + 1) L (.int (nuF F i n 0) :: st) (hW E w) r h') : hRun mi k L (.int (nI n) :: .int (nI i) :: .ref 57 :: st) (hW E w) r h' := by
  obtain ⟨a, b, c⟩ := hT
  have C := c_onum (h := hW E w) (b := 57) (i := i) (n := n) a b h1 h2
  rw [c] at C
  refine wT_call he rfl rfl rfl (decide_eq_true ⟨of_decide_eq_true hs, rfl, Nat.le_of_ble_eq_true rfl⟩) C ?_
  rw [wS_id]
  exact K
theorem wT_num1 {ii len pc i : Nat} {z : Int32} {zl : Int64} {ts : List Nat} (he : hI mi k = some (.invokevirtual ii, len, pc, 12, 3, z, zl, ts)) (hT : TpC w N F) (h1 : i < 100000) (hs : decide (hCats st ≤ 8) = true) (K : hRun mi (k + 1) L (.int (F i) :: st) (hW E w) r h') : hRun mi k L (.int (nI 1) :: .int (nI i) :: .ref 57 :: st) (hW E w) r h' := wT_num (n := 1) he hT h1 (by omega) hs (by rw [nu1]; exact K)
theorem wR_set {i len pc f : Nat} {z v : Int32} {zl : Int64} {ts : List Nat} (hf : f = 0 ∨ f = 1) (he : hI mi k = some (.putfield i, len, pc, 3, f, z, zl, ts)) (K : hRun mi (k + 1) L st (hW E (wS w 34 (s2 (w.1 34) 0 f v))) r h') : hRun mi k L (.int v :: .ref 59 :: st) (hW E w) r h' := by
  have e : hpG yR (hW E w) 59 (w.1 34) = hW E w := by rw [hW_R, wS_id]
  rw [← e]
  rcases hf with rfl | rfl
  · refine rG_set (j := 0) he rfl rfl rfl rfl ?_
    rw [hW_R]
    exact K
  · refine rG_set (j := 1) he rfl rfl rfl rfl ?_
    rw [hW_R]
    exact K
theorem x_flawed (a b : Int32) : hRun 16 0 [.ref 59, .int a, .int b] [] (hW E w) (some (.int 0)) (hW E (wFl w a b)) := by
  refine r_step rfl rfl rfl ?_
  refine r_step rfl rfl rfl ?_
  refine wR_set (Or.inl rfl) rfl ?_
  refine r_step rfl rfl rfl ?_
  refine r_step rfl rfl rfl ?_
  refine wR_set (Or.inr rfl) rfl ?_
  rw [wS_at, wS_wS]
  refine r_step rfl rfl rfl ?_
  (refine r_rtE rfl rfl ?_ ?_ ?_ <;> rfl)
theorem x_thingOf {j : Nat} (hT : TpC w N F) (hj : j < 1000) : hRun 20 0 [.ref 57, .int (nI j)] [] (hW E w) (some (.int (rT F j))) (hW E w) := by
  refine r_step rfl rfl rfl ?_
  refine r_step rfl rfl rfl ?_
  refine r_step rfl rfl rfl ?_
  refine r_step rfl rfl rfl ?_
  refine r_step rfl rfl rfl ?_
  refine r_step rfl rfl rfl ?_
  try dsimp only
  rw [at14]
  refine r_step rfl rfl rfl ?_
  refine wT_num (n := 2) rfl hT (by omega) (by omega) rfl ?_
  (refine r_rtE rfl rfl ?_ ?_ ?_ <;> rfl)
/-- does a thing come anew -/
def nwF (F : Nat → Int32) (t : Int32) : Nat → Nat → Int32
  | 0, _ => rgI t 0 999
  | d + 1, j => if rT F j = t then 0 else nwF F t d (j + 1)
theorem isNew_loop {m : Nat} {t : Int32} (hT : TpC w N F) (hm : m < 1000) : ∀ d j, j + d = m → hRun 19 6 [.ref 57, .int (nI m), .int t, .int (nI j)] [] (hW E w) (some (.int (nwF F t d j))) (hW E w) := by
  intro d
  induction d with
  | zero =>
    intro j hj
    rw [show j = m by omega]
    refine r_step rfl rfl rfl ?_
    refine r_step rfl rfl rfl ?_
    refine r_brT rfl rfl ?_ ?_
    · exact Int32.le_refl _
    refine r_step rfl rfl rfl ?_
    refine r_callS rfl rfl rfl rfl (g_isThing _) ?_
    rw [nwF]
    rcases rg_01 t 0 999 with z | z
    · rw [z]
      (refine r_rtE rfl rfl ?_ ?_ ?_ <;> rfl)
    · rw [z]
      (refine r_rtE rfl rfl ?_ ?_ ?_ <;> rfl)
  | succ d ih =>
    intro j hj
    refine r_step rfl rfl rfl ?_
    refine r_step rfl rfl rfl ?_
    refine r_brF rfl rfl ?_ ?_
    · exact nle (by omega) (by omega)
    refine r_step rfl rfl rfl ?_
    refine r_step rfl rfl rfl ?_
    refine r_callS rfl rfl rfl rfl (x_thingOf hT (by omega)) ?_
    refine r_step rfl rfl rfl ?_
    rw [nwF]
    by_cases q : rT F j = t
    · rw [if_pos q]
      refine r_brT rfl rfl ?_ ?_
      · exact q
      refine r_step rfl rfl rfl ?_
      (refine r_rtE rfl rfl ?_ ?_ ?_ <;> rfl)
    · rw [if_neg q]
      refine r_brF rfl rfl ?_ ?_
      · exact q
      refine r_step rfl rfl rfl ?_
      try dsimp only
      rw [nI_1]
      refine r_step rfl rfl rfl ?_
      exact ih (j + 1) (by omega)
theorem x_isNew {m : Nat} (hT : TpC w N F) (hm : m < 1000) : hRun 19 0 [.ref 57, .int (nI m), hU, hU] [] (hW E w) (some (.int (nwF F (rT F m) m 0))) (hW E w) := by
  refine r_step rfl rfl rfl ?_
  refine r_step rfl rfl rfl ?_
  refine r_callS rfl rfl rfl rfl (x_thingOf hT hm) ?_
  refine r_step rfl rfl rfl ?_
  refine r_step rfl rfl rfl ?_
  refine r_step rfl rfl rfl ?_
  exact isNew_loop hT hm m 0 (by omega)
end RDC
/-- the fault told, if none was before -/
def mF (M : hT2) (a b : Int32) : hT2 := s2 (s2 M 0 5 a) 0 6 b
def mfl (M : hT2) (a b : Int32) : hT2 := if M 0 5 = 0 then mF M a b else M
theorem mF_row (M : hT2) (a b : Int32) {j : Nat} (h : j ≠ 0) : mF M a b j = M j := by
  unfold mF
  rw [s2_row h, s2_row h]
theorem mfl_row (M : hT2) (a b : Int32) {j : Nat} (h : j ≠ 0) : mfl M a b j = M j := by
  unfold mfl
  split
  · exact mF_row M a b h
  · rfl
theorem mF_5 (M : hT2) (a b : Int32) : mF M a b 0 5 = a := by
  unfold mF
  rw [s2_at, if_neg (by omega), s2_at, if_pos ⟨rfl, rfl⟩]
theorem mfl_n {M : hT2} {a b : Int32} (h : ¬ M 0 5 = 0) : mfl M a b = M := if_neg h
theorem mfl_0 {M : hT2} {a b : Int32} (h : M 0 5 = 0) : mfl M a b = mF M a b := if_pos h
theorem TpM_r {M M' : hT2} {N : Nat} {F : Nat → Int32} (h : TpM M N F) (e : M' 10 = M 10) : TpM M' N F := by
  unfold TpM
  rw [e]
  exact h
section RDM
variable {h : hH} {M : hT2} {x : Int64} {N : Nat} {F : Nat → Int32}
theorem k_fail (a b : Int32) : hRun 272 0 [.ref 281, .int a, .int b] [] (hpM h 281 M x) none (hpM h 281 (mfl M a b) x) := by
  refine r_step rfl rfl rfl ?_
  refine rM_get rfl rfl ?_
  by_cases q : M 0 5 = 0
  · rw [mfl_0 q]
    refine r_brT rfl rfl ?_ ?_
    · exact q
    refine r_step rfl rfl rfl ?_
    refine r_step rfl rfl rfl ?_
    refine rM_set rfl rfl ?_
    refine r_step rfl rfl rfl ?_
    refine r_step rfl rfl rfl ?_
    refine rM_set rfl rfl ?_
    (refine r_rtE rfl rfl ?_ ?_ ?_ <;> rfl)
  · rw [mfl_n q]
    refine r_brF rfl rfl ?_ ?_
    · exact q
    (refine r_rtE rfl rfl ?_ ?_ ?_ <;> rfl)
theorem k_byte {p : Nat} (hT : TpM M N F) (hp : p < N) : hRun 271 0 [.ref 281, .int (nI p)] [] (hpM h 281 M x) (some (.int (F p))) (hpM h 281 M x) := by
  have h1 := hT.1
  have h2 := hT.2 p hp
  refine r_step rfl rfl rfl ?_
  refine rM_get rfl rfl ?_
  refine r_step rfl rfl rfl ?_
  refine rM_bld (j := 10) rfl (Or.inl rfl) (show p < 300 by omega) ?_
  refine r_step rfl rfl rfl ?_
  refine r_step rfl rfl rfl ?_
  try dsimp only
  rw [h2]
  (refine r_rtE rfl rfl ?_ ?_ ?_ <;> rfl)
theorem k_four {p : Nat} (hT : TpM M N F) (hp : p + 3 < N) : hRun 273 0 [.ref 281, .int (nI p)] [] (hpM h 281 M x) (some (.int (nuF F p 4 0))) (hpM h 281 M x) := by
  rw [nu4]
  refine r_step rfl rfl rfl ?_
  refine r_step rfl rfl rfl ?_
  refine rM_call rfl rfl rfl rfl rfl (k_byte hT (show p < N by omega)) ?_
  refine r_step rfl rfl rfl ?_
  refine r_step rfl rfl rfl ?_
  refine r_step rfl rfl rfl ?_
  refine r_step rfl rfl rfl ?_
  refine r_step rfl rfl rfl ?_
  refine r_step rfl rfl rfl ?_
  try dsimp only
  rw [nI_1]
  refine rM_call rfl rfl rfl rfl rfl (k_byte hT (show p + 1 < N by omega)) ?_
  refine r_step rfl rfl rfl ?_
  refine r_step rfl rfl rfl ?_
  refine r_step rfl rfl rfl ?_
  refine r_step rfl rfl rfl ?_
  refine r_step rfl rfl rfl ?_
  refine r_step rfl rfl rfl ?_
  refine r_step rfl rfl rfl ?_
  try dsimp only
  rw [na2]
  refine rM_call rfl rfl rfl rfl rfl (k_byte hT (show p + 2 < N by omega)) ?_
  refine r_step rfl rfl rfl ?_
  refine r_step rfl rfl rfl ?_
  refine r_step rfl rfl rfl ?_
  refine r_step rfl rfl rfl ?_
  refine r_step rfl rfl rfl ?_
  refine r_step rfl rfl rfl ?_
  refine r_step rfl rfl rfl ?_
  try dsimp only
  rw [na3]
  refine rM_call rfl rfl rfl rfl rfl (k_byte hT (show p + 3 < N by omega)) ?_
  refine r_step rfl rfl rfl ?_
  (refine r_rtE rfl rfl ?_ ?_ ?_ <;> rfl)
end RDM
/-! the head -/
def hdF (F : Nat → Int32) : Int32 × Int32 := if rgI (F 0) 1 24 = 0 then (2, 0) else if ¬ F 1 ≤ F 0 then (3, 1) else if rgI (nuF F 2 4 0) 0 1000000000 = 0 then (4, 2) else if rgI (nuF F 6 4 0) 0 (nuF F 2 4 0).toInt = 0 then (4, 6) else if rgI (nuF F 10 4 0) 0 1000000000 = 0 then (4, 10) else (0, -1)
theorem rg_c {x c : Int32} (h : 0 ≤ c.toInt) : (rgI x 0 c.toInt = 0 ↔ x < 0 ∨ c < x) := by
  unfold rgI
  rw [Int32.lt_iff_toInt_lt, Int32.lt_iff_toInt_lt, Int32.toInt_zero]
  by_cases q : 0 ≤ x.toInt ∧ x.toInt ≤ c.toInt
  · rw [if_pos q]
    constructor
    · intro z; exact absurd z (by decide)
    · intro z; omega
  · rw [if_neg q]
    constructor
    · intro _; omega
    · intro _; rfl
theorem rg_c1 (x c : Int32) : (rgI x 0 c.toInt = 0 ↔ x < 0 ∨ c < x) := by
  unfold rgI
  rw [Int32.lt_iff_toInt_lt, Int32.lt_iff_toInt_lt, Int32.toInt_zero]
  by_cases q : 0 ≤ x.toInt ∧ x.toInt ≤ c.toInt
  · rw [if_pos q]
    constructor
    · intro z; exact absurd z (by decide)
    · intro z; omega
  · rw [if_neg q]
    constructor
    · intro _; omega
    · intro _; rfl
section RDH
variable {E : hEn} {w : hWo} {N : Nat} {F : Nat → Int32}
theorem x_size_t {m : Nat} (hT : TpC w N F) (h1 : F 1 = nI m) (hm : m < 256) (hN : N = 15 + 10 * m) : hRun 15 0 [.ref 59, .ref 57, hU] [] (hW E w) (some (.int 1)) (hW E w) := by
  refine r_step rfl rfl rfl ?_
  refine r_step rfl rfl rfl ?_
  refine r_step rfl rfl rfl ?_
  refine r_step rfl rfl rfl ?_
  refine r_step rfl rfl rfl ?_
  refine wT_num1 (i := 1) rfl hT (by omega) rfl ?_
  rw [h1]
  refine r_step rfl rfl rfl ?_
  refine r_step rfl rfl rfl ?_
  refine r_step rfl rfl rfl ?_
  refine r_step rfl rfl rfl ?_
  try dsimp only
  rw [at14, nI_1]
  refine r_step rfl rfl rfl ?_
  refine r_step rfl rfl rfl ?_
  refine r_getE rfl rfl rfl hT.1 ?_
  refine r_step rfl rfl rfl ?_
  refine r_brT rfl rfl ?_ ?_
  · rw [hN, show 15 + 10 * m = 14 + 10 * m + 1 by omega]
  refine r_step rfl rfl rfl ?_
  refine r_step rfl rfl rfl ?_
  (refine r_rtE rfl rfl ?_ ?_ ?_ <;> rfl)
theorem x_size_f {m : Nat} (hT : TpC w N F) (h1 : F 1 = nI m) (hm : m < 256) (hN : ¬ N = 15 + 10 * m) : hRun 15 0 [.ref 59, .ref 57, hU] [] (hW E w) (some (.int 0)) (hW E (wFl w 1 (nI N))) := by
  have hN3 := hT.2.1
  refine r_step rfl rfl rfl ?_
  refine r_step rfl rfl rfl ?_
  refine r_step rfl rfl rfl ?_
  refine r_step rfl rfl rfl ?_
  refine r_step rfl rfl rfl ?_
  refine wT_num1 (i := 1) rfl hT (by omega) rfl ?_
  rw [h1]
  refine r_step rfl rfl rfl ?_
  refine r_step rfl rfl rfl ?_
  refine r_step rfl rfl rfl ?_
  refine r_step rfl rfl rfl ?_
  try dsimp only
  rw [at14, nI_1]
  refine r_step rfl rfl rfl ?_
  refine r_step rfl rfl rfl ?_
  refine r_getE rfl rfl rfl hT.1 ?_
  refine r_step rfl rfl rfl ?_
  refine r_brF rfl rfl ?_ ?_
  · exact fun z => by have := (nI_eq (by omega) (by omega)).mp z; omega
  refine r_step rfl rfl rfl ?_
  refine r_step rfl rfl rfl ?_
  refine r_step rfl rfl rfl ?_
  refine r_getE rfl rfl rfl hT.1 ?_
  refine rF_call rfl rfl rfl rfl rfl rfl (x_flawed _ _) ?_
  refine r_brT rfl rfl ?_ ?_
  · rfl
  refine r_step rfl rfl rfl ?_
  (refine r_rtE rfl rfl ?_ ?_ ?_ <;> rfl)
theorem x_head (hT : TpC w N F) : hRun 17 0 [.ref 59, .ref 57, hU, hU, hU] [] (hW E w) (some (.int (if (hdF F).1 = 0 then 1 else 0))) (hW E (if (hdF F).1 = 0 then w else wFl w (hdF F).1 (hdF F).2)) := by
  have r2 := rg_c1 (nuF F 2 4 0) 1000000000
  have r6 := rg_c1 (nuF F 6 4 0) (nuF F 2 4 0)
  have r10 := rg_c1 (nuF F 10 4 0) 1000000000
  rw [show (1000000000 : Int32).toInt = 1000000000 by decide] at r2 r10
  refine r_step rfl rfl rfl ?_
  refine r_step rfl rfl rfl ?_
  refine r_step rfl rfl rfl ?_
  refine wT_num (i := 2) (n := 4) rfl hT (by omega) (by omega) rfl ?_
  refine r_step rfl rfl rfl ?_
  refine r_step rfl rfl rfl ?_
  refine r_step rfl rfl rfl ?_
  refine r_step rfl rfl rfl ?_
  refine wT_num (i := 6) (n := 4) rfl hT (by omega) (by omega) rfl ?_
  refine r_step rfl rfl rfl ?_
  refine r_step rfl rfl rfl ?_
  refine r_step rfl rfl rfl ?_
  refine r_step rfl rfl rfl ?_
  refine wT_num (i := 10) (n := 4) rfl hT (by omega) (by omega) rfl ?_
  refine r_step rfl rfl rfl ?_
  refine r_step rfl rfl rfl ?_
  refine r_step rfl rfl rfl ?_
  refine r_step rfl rfl rfl ?_
  refine wT_num1 (i := 0) rfl hT (by omega) rfl ?_
  refine r_callS rfl rfl rfl rfl (g_isRoom _) ?_
  unfold hdF
  by_cases q1 : rgI (F 0) 1 24 = 0
  · rw [if_pos q1, if_neg (by decide), if_neg (by decide)]
    refine r_brT rfl rfl ?_ ?_
    · exact q1
    refine r_step rfl rfl rfl ?_
    refine r_step rfl rfl rfl ?_
    refine r_step rfl rfl rfl ?_
    refine rF_call rfl rfl rfl rfl rfl rfl (x_flawed _ _) ?_
    (refine r_rtE rfl rfl ?_ ?_ ?_ <;> rfl)
  rw [if_neg q1]
  refine r_brF rfl rfl ?_ ?_
  · exact q1
  refine r_step rfl rfl rfl ?_
  refine r_step rfl rfl rfl ?_
  refine r_step rfl rfl rfl ?_
  refine wT_num1 (i := 1) rfl hT (by omega) rfl ?_
  refine r_step rfl rfl rfl ?_
  refine r_step rfl rfl rfl ?_
  refine r_step rfl rfl rfl ?_
  refine wT_num1 (i := 0) rfl hT (by omega) rfl ?_
  by_cases q2 : ¬ F 1 ≤ F 0
  · rw [if_pos q2, if_neg (by decide), if_neg (by decide)]
    refine r_brF rfl rfl ?_ ?_
    · exact q2
    refine r_step rfl rfl rfl ?_
    refine r_step rfl rfl rfl ?_
    refine r_step rfl rfl rfl ?_
    refine rF_call rfl rfl rfl rfl rfl rfl (x_flawed _ _) ?_
    (refine r_rtE rfl rfl ?_ ?_ ?_ <;> rfl)
  rw [if_neg q2]
  refine r_brT rfl rfl ?_ ?_
  · exact Decidable.not_not.mp q2
  by_cases q3 : rgI (nuF F 2 4 0) 0 1000000000 = 0
  · rw [if_pos q3, if_neg (by decide), if_neg (by decide)]
    refine r_step rfl rfl rfl ?_
    by_cases z : nuF F 2 4 0 < 0
    · refine r_brT rfl rfl ?_ ?_
      · exact z
      refine r_step rfl rfl rfl ?_
      refine r_step rfl rfl rfl ?_
      refine r_step rfl rfl rfl ?_
      refine rF_call rfl rfl rfl rfl rfl rfl (x_flawed _ _) ?_
      (refine r_rtE rfl rfl ?_ ?_ ?_ <;> rfl)
    · refine r_brF rfl rfl ?_ ?_
      · exact z
      refine r_step rfl rfl rfl ?_
      refine r_step rfl rfl rfl ?_
      refine r_brF rfl rfl ?_ ?_
      · exact Int32.not_le.mpr ((r2.mp q3).resolve_left z)
      refine r_step rfl rfl rfl ?_
      refine r_step rfl rfl rfl ?_
      refine r_step rfl rfl rfl ?_
      refine rF_call rfl rfl rfl rfl rfl rfl (x_flawed _ _) ?_
      (refine r_rtE rfl rfl ?_ ?_ ?_ <;> rfl)
  rw [if_neg q3]
  have q3' : ¬ nuF F 2 4 0 < 0 ∧ nuF F 2 4 0 ≤ 1000000000 := ⟨fun z => q3 (r2.mpr (Or.inl z)), Int32.not_lt.mp (fun z => q3 (r2.mpr (Or.inr z)))⟩
  refine r_step rfl rfl rfl ?_
  refine r_brF rfl rfl ?_ ?_
  · exact q3'.1
  refine r_step rfl rfl rfl ?_
  refine r_step rfl rfl rfl ?_
  refine r_brT rfl rfl ?_ ?_
  · exact q3'.2
  by_cases q4 : rgI (nuF F 6 4 0) 0 (nuF F 2 4 0).toInt = 0
  · rw [if_pos q4, if_neg (by decide), if_neg (by decide)]
    refine r_step rfl rfl rfl ?_
    by_cases z : nuF F 6 4 0 < 0
    · refine r_brT rfl rfl ?_ ?_
      · exact z
      refine r_step rfl rfl rfl ?_
      refine r_step rfl rfl rfl ?_
      refine r_step rfl rfl rfl ?_
      refine rF_call rfl rfl rfl rfl rfl rfl (x_flawed _ _) ?_
      (refine r_rtE rfl rfl ?_ ?_ ?_ <;> rfl)
    · refine r_brF rfl rfl ?_ ?_
      · exact z
      refine r_step rfl rfl rfl ?_
      refine r_step rfl rfl rfl ?_
      refine r_brF rfl rfl ?_ ?_
      · exact Int32.not_le.mpr ((r6.mp q4).resolve_left z)
      refine r_step rfl rfl rfl ?_
      refine r_step rfl rfl rfl ?_
      refine r_step rfl rfl rfl ?_
      refine rF_call rfl rfl rfl rfl rfl rfl (x_flawed _ _) ?_
      (refine r_rtE rfl rfl ?_ ?_ ?_ <;> rfl)
  rw [if_neg q4]
  refine r_step rfl rfl rfl ?_
  refine r_brF rfl rfl ?_ ?_
  · exact fun z => q4 (r6.mpr (Or.inl z))
  refine r_step rfl rfl rfl ?_
  refine r_step rfl rfl rfl ?_
  refine r_brT rfl rfl ?_ ?_
  · exact Int32.not_lt.mp (fun z => q4 (r6.mpr (Or.inr z)))
  by_cases q5 : rgI (nuF F 10 4 0) 0 1000000000 = 0
  · rw [if_pos q5, if_neg (by decide), if_neg (by decide)]
    refine r_step rfl rfl rfl ?_
    by_cases z : nuF F 10 4 0 < 0
    · refine r_brT rfl rfl ?_ ?_
      · exact z
      refine r_step rfl rfl rfl ?_
      refine r_step rfl rfl rfl ?_
      refine r_step rfl rfl rfl ?_
      refine rF_call rfl rfl rfl rfl rfl rfl (x_flawed _ _) ?_
      refine r_brT rfl rfl ?_ ?_
      · rfl
      refine r_step rfl rfl rfl ?_
      (refine r_rtE rfl rfl ?_ ?_ ?_ <;> rfl)
    · refine r_brF rfl rfl ?_ ?_
      · exact z
      refine r_step rfl rfl rfl ?_
      refine r_step rfl rfl rfl ?_
      refine r_brF rfl rfl ?_ ?_
      · exact Int32.not_le.mpr ((r10.mp q5).resolve_left z)
      refine r_step rfl rfl rfl ?_
      refine r_step rfl rfl rfl ?_
      refine r_step rfl rfl rfl ?_
      refine rF_call rfl rfl rfl rfl rfl rfl (x_flawed _ _) ?_
      refine r_brT rfl rfl ?_ ?_
      · rfl
      refine r_step rfl rfl rfl ?_
      (refine r_rtE rfl rfl ?_ ?_ ?_ <;> rfl)
  rw [if_neg q5, if_pos rfl, if_pos rfl]
  refine r_step rfl rfl rfl ?_
  refine r_brF rfl rfl ?_ ?_
  · exact fun z => q5 (r10.mpr (Or.inl z))
  refine r_step rfl rfl rfl ?_
  refine r_step rfl rfl rfl ?_
  refine r_brT rfl rfl ?_ ?_
  · exact Int32.not_lt.mp (fun z => q5 (r10.mpr (Or.inr z)))
  refine r_step rfl rfl rfl ?_
  refine r_step rfl rfl rfl ?_
  (refine r_rtE rfl rfl ?_ ?_ ?_ <;> rfl)
end RDH
section RKH
variable {h : hH} {M : hT2} {x : Int64} {N : Nat} {F : Nat → Int32} {r : Option Value} {h' : hH} {sz z2 z3 : Value}
theorem hd_2 (hT : TpM M N F) (hN : 15 ≤ N) (K : hRun 270 32 [.ref 281, sz, z2, z3] [] (hpM h 281 (if rgI (F 0) 1 24 = 0 then mfl M 2 0 else M) x) r h') : hRun 270 20 [.ref 281, sz, z2, z3] [] (hpM h 281 M x) r h' := by
  refine r_step rfl rfl rfl ?_
  refine r_step rfl rfl rfl ?_
  refine rM_call rfl rfl rfl rfl rfl (k_byte (p := 0) hT (by omega)) ?_
  refine r_step rfl rfl rfl ?_
  refine r_step rfl rfl rfl ?_
  refine r_step rfl rfl rfl ?_
  refine r_callS rfl rfl rfl rfl (k_isIn _ _ _ (lo := 1) (hi := 24) (by decide) (by decide)) ?_
  by_cases q : rgI (F 0) 1 24 = 0
  · rw [if_pos q] at K
    refine r_brT rfl rfl ?_ ?_
    · exact q
    refine r_step rfl rfl rfl ?_
    refine r_step rfl rfl rfl ?_
    refine r_step rfl rfl rfl ?_
    refine rM_call rfl rfl rfl rfl rfl (k_fail _ _) ?_
    exact K
  · rw [if_neg q] at K
    refine r_brF rfl rfl ?_ ?_
    · exact q
    exact K
theorem hd_3 (hT : TpM M N F) (hN : 15 ≤ N) (K : hRun 270 43 [.ref 281, sz, z2, z3] [] (hpM h 281 (if ¬ F 1 ≤ F 0 then mfl M 3 1 else M) x) r h') : hRun 270 32 [.ref 281, sz, z2, z3] [] (hpM h 281 M x) r h' := by
  refine r_step rfl rfl rfl ?_
  refine r_step rfl rfl rfl ?_
  refine rM_call rfl rfl rfl rfl rfl (k_byte (p := 1) hT (by omega)) ?_
  refine r_step rfl rfl rfl ?_
  refine r_step rfl rfl rfl ?_
  refine rM_call rfl rfl rfl rfl rfl (k_byte (p := 0) hT (by omega)) ?_
  by_cases q : F 1 ≤ F 0
  · rw [if_neg (fun z => z q)] at K
    refine r_brT rfl rfl ?_ ?_
    · exact q
    exact K
  · rw [if_pos q] at K
    refine r_brF rfl rfl ?_ ?_
    · exact q
    refine r_step rfl rfl rfl ?_
    refine r_step rfl rfl rfl ?_
    refine r_step rfl rfl rfl ?_
    refine rM_call rfl rfl rfl rfl rfl (k_fail _ _) ?_
    exact K
theorem hd_4 (hT : TpM M N F) (hN : 15 ≤ N) (K : hRun 270 55 [.ref 281, sz, z2, z3] [] (hpM h 281 (if rgI (nuF F 2 4 0) 0 1000000000 = 0 then mfl M 4 2 else M) x) r h') : hRun 270 43 [.ref 281, sz, z2, z3] [] (hpM h 281 M x) r h' := by
  refine r_step rfl rfl rfl ?_
  refine r_step rfl rfl rfl ?_
  refine rM_call rfl rfl rfl rfl rfl (k_four (p := 2) hT (by omega)) ?_
  refine r_step rfl rfl rfl ?_
  refine r_step rfl rfl rfl ?_
  refine r_step rfl rfl rfl ?_
  refine r_callS rfl rfl rfl rfl (k_isIn _ _ _ (lo := 0) (hi := 1000000000) (by decide) (by decide)) ?_
  by_cases q : rgI (nuF F 2 4 0) 0 1000000000 = 0
  · rw [if_pos q] at K
    refine r_brT rfl rfl ?_ ?_
    · exact q
    refine r_step rfl rfl rfl ?_
    refine r_step rfl rfl rfl ?_
    refine r_step rfl rfl rfl ?_
    refine rM_call rfl rfl rfl rfl rfl (k_fail _ _) ?_
    exact K
  · rw [if_neg q] at K
    refine r_brF rfl rfl ?_ ?_
    · exact q
    exact K
theorem hd_5 (hT : TpM M N F) (hN : 15 ≤ N) (K : hRun 270 70 [.ref 281, sz, z2, z3] [] (hpM h 281 (if rgI (nuF F 6 4 0) 0 (nuF F 2 4 0).toInt = 0 then mfl M 4 6 else M) x) r h') : hRun 270 55 [.ref 281, sz, z2, z3] [] (hpM h 281 M x) r h' := by
  refine r_step rfl rfl rfl ?_
  refine r_step rfl rfl rfl ?_
  refine rM_call rfl rfl rfl rfl rfl (k_four (p := 6) hT (by omega)) ?_
  refine r_step rfl rfl rfl ?_
  refine r_step rfl rfl rfl ?_
  refine r_step rfl rfl rfl ?_
  refine r_step rfl rfl rfl ?_
  refine rM_call rfl rfl rfl rfl rfl (k_four (p := 2) hT (by omega)) ?_
  refine r_step rfl rfl rfl ?_
  refine r_callS rfl rfl rfl rfl (k_isIn _ _ _ (lo := 0) (hi := (nuF F 2 4 0).toInt) (by decide) (Int32.toInt_toInt64 _)) ?_
  by_cases q : rgI (nuF F 6 4 0) 0 (nuF F 2 4 0).toInt = 0
  · rw [if_pos q] at K
    refine r_brT rfl rfl ?_ ?_
    · exact q
    refine r_step rfl rfl rfl ?_
    refine r_step rfl rfl rfl ?_
    refine r_step rfl rfl rfl ?_
    refine rM_call rfl rfl rfl rfl rfl (k_fail _ _) ?_
    exact K
  · rw [if_neg q] at K
    refine r_brF rfl rfl ?_ ?_
    · exact q
    exact K
theorem hd_6 (hT : TpM M N F) (hN : 15 ≤ N) (K : hRun 270 82 [.ref 281, sz, z2, z3] [] (hpM h 281 (if rgI (nuF F 10 4 0) 0 1000000000 = 0 then mfl M 4 10 else M) x) r h') : hRun 270 70 [.ref 281, sz, z2, z3] [] (hpM h 281 M x) r h' := by
  refine r_step rfl rfl rfl ?_
  refine r_step rfl rfl rfl ?_
  refine rM_call rfl rfl rfl rfl rfl (k_four (p := 10) hT (by omega)) ?_
  refine r_step rfl rfl rfl ?_
  refine r_step rfl rfl rfl ?_
  refine r_step rfl rfl rfl ?_
  refine r_callS rfl rfl rfl rfl (k_isIn _ _ _ (lo := 0) (hi := 1000000000) (by decide) (by decide)) ?_
  by_cases q : rgI (nuF F 10 4 0) 0 1000000000 = 0
  · rw [if_pos q] at K
    refine r_brT rfl rfl ?_ ?_
    · exact q
    refine r_step rfl rfl rfl ?_
    refine r_step rfl rfl rfl ?_
    refine r_step rfl rfl rfl ?_
    refine rM_call rfl rfl rfl rfl rfl (k_fail _ _) ?_
    exact K
  · rw [if_neg q] at K
    refine r_brF rfl rfl ?_ ?_
    · exact q
    exact K
theorem hd_all (hT : TpM M N F) (hN : 15 ≤ N) (h0 : M 0 5 = 0) (K : hRun 270 82 [.ref 281, sz, z2, z3] [] (hpM h 281 (if (hdF F).1 = 0 then M else mF M (hdF F).1 (hdF F).2) x) r h') : hRun 270 20 [.ref 281, sz, z2, z3] [] (hpM h 281 M x) r h' := by
  have g : ∀ (P : Prop) [Decidable P] (X : hT2) (a b : Int32), X 10 = M 10 → (if P then mfl X a b else X) 10 = M 10 := by
    intro P _ X a b e
    split
    · rw [mfl_row _ _ _ (by omega)]
      exact e
    · exact e
  have s : ∀ (P : Prop) [Decidable P] (X : hT2) (a b : Int32), ¬ X 0 5 = 0 → (if P then mfl X a b else X) = X := by
    intro P _ X a b e
    split
    · exact mfl_n e
    · rfl
  have e1 := g (rgI (F 0) 1 24 = 0) M 2 0 rfl
  refine hd_2 hT hN ?_
  refine hd_3 (TpM_r hT e1) hN ?_
  have e2 := g (¬ F 1 ≤ F 0) _ 3 1 e1
  refine hd_4 (TpM_r hT e2) hN ?_
  have e3 := g (rgI (nuF F 2 4 0) 0 1000000000 = 0) _ 4 2 e2
  refine hd_5 (TpM_r hT e3) hN ?_
  have e4 := g (rgI (nuF F 6 4 0) 0 (nuF F 2 4 0).toInt = 0) _ 4 6 e3
  refine hd_6 (TpM_r hT e4) hN ?_
  clear e1 e2 e3 e4 g
  unfold hdF at K
  have n5 : ∀ a b : Int32, ¬ a = 0 → ¬ (mF M a b) 0 5 = 0 := fun a b h => by rw [mF_5]; exact h
  by_cases q1 : rgI (F 0) 1 24 = 0
  · rw [if_pos q1, if_neg (by decide)] at K
    rw [if_pos q1, mfl_0 h0, s _ _ _ _ (n5 2 0 (by decide)), s _ _ _ _ (n5 2 0 (by decide)), s _ _ _ _ (n5 2 0 (by decide)), s _ _ _ _ (n5 2 0 (by decide))]
    exact K
  · rw [if_neg q1] at K
    rw [if_neg q1]
    by_cases q2 : ¬ F 1 ≤ F 0
    · rw [if_pos q2, if_neg (by decide)] at K
      rw [if_pos q2, mfl_0 h0, s _ _ _ _ (n5 3 1 (by decide)), s _ _ _ _ (n5 3 1 (by decide)), s _ _ _ _ (n5 3 1 (by decide))]
      exact K
    · rw [if_neg q2] at K
      rw [if_neg q2]
      by_cases q3 : rgI (nuF F 2 4 0) 0 1000000000 = 0
      · rw [if_pos q3, if_neg (by decide)] at K
        rw [if_pos q3, mfl_0 h0, s _ _ _ _ (n5 4 2 (by decide)), s _ _ _ _ (n5 4 2 (by decide))]
        exact K
      · rw [if_neg q3] at K
        rw [if_neg q3]
        by_cases q4 : rgI (nuF F 6 4 0) 0 (nuF F 2 4 0).toInt = 0
        · rw [if_pos q4, if_neg (by decide)] at K
          rw [if_pos q4, mfl_0 h0, s _ _ _ _ (n5 4 6 (by decide))]
          exact K
        · rw [if_neg q4] at K
          rw [if_neg q4]
          by_cases q5 : rgI (nuF F 10 4 0) 0 1000000000 = 0
          · rw [if_pos q5, if_neg (by decide)] at K
            rw [if_pos q5, mfl_0 h0]
            exact K
          · rw [if_neg q5, if_pos rfl] at K
            rw [if_neg q5]
            exact K
end RKH
