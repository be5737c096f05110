/-! octets: put, puts, octet1, octet4; feed, end -/
/-- the byte of a number at a place -/
def byN (x : Int32) (i : Nat) : Nat := x.toBitVec.toNat / 2 ^ (8 * i) % 256
def byL (x : Int32) : Nat → List Nat
  | 0 => []
  | i + 1 => byN x i :: byL x i
theorem byL_len (x : Int32) : ∀ n, (byL x n).length = n
  | 0 => rfl
  | n + 1 => by rw [byL, List.length_cons, byL_len x n]
theorem byN_lt (x : Int32) (i : Nat) : byN x i < 256 := Nat.mod_lt _ (by omega)
theorem byL_lt (x : Int32) : ∀ n b, b ∈ byL x n → b < 256
  | 0, b, h => by cases h
  | n + 1, b, h => by
    rw [byL] at h
    rcases List.mem_cons.mp h with h | h
    · rw [h]; exact byN_lt x n
    · exact byL_lt x n b h
theorem by_ushr (x : Int32) {i : Nat} (hi : i < 4) : (x.toUInt32 >>> ((8 * nI i).toUInt32 &&& Int32.toUInt32 31)).toInt32 &&& 255 = nI (byN x i) := by
  have k : (((8 * nI i).toUInt32 &&& Int32.toUInt32 31).toBitVec % 32).toNat = 8 * i := by
    have : i = 0 ∨ i = 1 ∨ i = 2 ∨ i = 3 := by omega
    rcases this with rfl | rfl | rfl | rfl <;> decide
  rw [pk_and _ 8 (by decide), pk_ushr x _ (8 * i) k]
  rfl
theorem by_shr (x : Int32) {i : Nat} (hi : i < 4) : (x >>> (nI (8 * i) &&& 31)).toBitVec.toNat % 256 = byN x i := by
  have h1 := pk_shr x (nI (8 * i) &&& 31) (8 * i) (by
    have : i = 0 ∨ i = 1 ∨ i = 2 ∨ i = 3 := by omega
    rcases this with rfl | rfl | rfl | rfl <;> decide)
  rw [Int.shiftRight_eq_div_pow] at h1
  generalize x >>> (nI (8 * i) &&& 31) = y at h1
  unfold byN
  have ex : x.toInt = (x.toBitVec.toNat : Int) ∨ x.toInt = (x.toBitVec.toNat : Int) - 4294967296 := by
    show x.toBitVec.toInt = _ ∨ x.toBitVec.toInt = _
    rw [BitVec.toInt_eq_toNat_cond]
    split
    · exact Or.inl rfl
    · exact Or.inr rfl
  have ey : y.toInt = (y.toBitVec.toNat : Int) ∨ y.toInt = (y.toBitVec.toNat : Int) - 4294967296 := by
    show y.toBitVec.toInt = _ ∨ y.toBitVec.toInt = _
    rw [BitVec.toInt_eq_toNat_cond]
    split
    · exact Or.inl rfl
    · exact Or.inr rfl
  generalize x.toBitVec.toNat = X at *
  generalize y.toBitVec.toNat = Y at *
  generalize x.toInt = u at *
  generalize y.toInt = z at *
  have : i = 0 ∨ i = 1 ∨ i = 2 ∨ i = 3 := by omega
  rcases this with rfl | rfl | rfl | rfl
  · have e : (((2 ^ (8 * 0) : Nat) : Int)) = 1 := by decide
    have e2 : 2 ^ (8 * 0) = 1 := by decide
    rw [e] at h1
    rw [e2]
    omega
  · have e : (((2 ^ (8 * 1) : Nat) : Int)) = 256 := by decide
    have e2 : 2 ^ (8 * 1) = 256 := by decide
    rw [e] at h1
    rw [e2]
    omega
  · have e : (((2 ^ (8 * 2) : Nat) : Int)) = 65536 := by decide
    have e2 : 2 ^ (8 * 2) = 65536 := by decide
    rw [e] at h1
    rw [e2]
    omega
  · have e : (((2 ^ (8 * 3) : Nat) : Int)) = 16777216 := by decide
    have e2 : 2 ^ (8 * 3) = 16777216 := by decide
    rw [e] at h1
    rw [e2]
    omega
theorem by_and (x : Int32) {i : Nat} (hi : i < 4) : (x >>> (nI (8 * i) &&& 31)) &&& 255 = nI (byN x i) := by
  rw [pk_and _ 8 (by decide)]
  exact congrArg nI (by_shr x hi)
theorem by_and0 (x : Int32) : x &&& 255 = nI (byN x 0) := by
  rw [pk_and _ 8 (by decide)]
  unfold byN
  rw [show 2 ^ (8 * 0) = 1 by decide, Nat.div_one]
theorem by_i8 (z : Int32) : z.toInt8 = (nI (z.toBitVec.toNat % 256)).toInt8 := by
  refine Int8.toBitVec_inj.mp ?_
  rw [Int32.toBitVec_toInt8, Int32.toBitVec_toInt8]
  refine BitVec.eq_of_toNat_eq ?_
  rw [BitVec.signExtend_eq_setWidth_of_le _ (by omega), BitVec.signExtend_eq_setWidth_of_le _ (by omega), BitVec.toNat_setWidth, BitVec.toNat_setWidth]
  have : (nI (z.toBitVec.toNat % 256)).toBitVec.toNat = z.toBitVec.toNat % 256 := by
    have h : z.toBitVec.toNat % 256 < 256 := Nat.mod_lt _ (by omega)
    show (BitVec.ofNat 32 _).toNat = _
    rw [BitVec.toNat_ofNat]
    exact Nat.mod_eq_of_lt (by omega)
  rw [this]
  exact (Nat.mod_mod _ _).symm
theorem by_b8 (x : Int32) {i : Nat} (hi : i < 4) : (x >>> (nI (8 * i) &&& 31)).toInt8.toInt32.toInt8.toInt32 = (nI (byN x i)).toInt8.toInt32 := by
  rw [by_i8 (x >>> (nI (8 * i) &&& 31)), by_shr x hi, Int8.toInt8_toInt32]
/-- octets put behind -/
def apO : hT2 → Nat → List Nat → hT2
  | S, _, [] => S
  | S, m, b :: L => apO (s2 (s1 S 1 (upd (S 1) m (nI b))) 0 0 (nI (m + 1))) (m + 1) L
theorem apO_app : ∀ (L K : List Nat) S m, apO (apO S m L) (m + L.length) K = apO S m (L ++ K)
  | [], K, S, m => rfl
  | b :: L, K, S, m => by
    rw [apO, List.cons_append, apO, ← apO_app L K _ (m + 1), List.length_cons, show m + 1 + L.length = m + (L.length + 1) by omega]
theorem apO_n : ∀ (L : List Nat) S m, S 0 0 = nI m → apO S m L 0 0 = nI (m + L.length)
  | [], S, m, h => h
  | b :: L, S, m, h => by
    rw [apO, apO_n L _ (m + 1) (by rw [s2_at, if_pos ⟨rfl, rfl⟩]), List.length_cons, show m + 1 + L.length = m + (L.length + 1) by omega]
section CPU
variable {h : hH} {b : Nat} {x : Int32}
theorem put_loop {nn : Int32} : ∀ i S m, i ≤ 4 → S 0 0 = nI m → m + i ≤ 300 → hRun 10 4 [.ref b, .int x, .int nn, .int (nI i - 1)] [] (hpG yO h b S) none (hpG yO h b (apO S m (byL x i))) := by
  intro i
  induction i with
  | zero =>
    intro S m hi hS hm
    (repeat (first | refine r_fw rfl rfl rfl rfl ?_ | refine rG_get rfl rfl rfl ?_)); try dsimp only
    refine r_brT rfl rfl ?_ ?_
    · decide
    (refine r_rtE rfl rfl ?_ ?_ ?_ <;> rfl)
  | succ i ih =>
    intro S m hi hS hm
    rw [nI_pred]
    (repeat (first | refine r_fw rfl rfl rfl rfl ?_ | refine rG_get rfl rfl rfl ?_)); try dsimp only
    refine r_brF rfl rfl ?_ ?_
    · exact nI_nlt (b := 0) (by omega) (by omega)
    (repeat (first | refine r_fw rfl rfl rfl rfl ?_ | refine rG_get rfl rfl rfl ?_)); try dsimp only
    refine rG_len rfl rfl ?_
    rw [hS]
    refine r_brF rfl rfl ?_ ?_
    · exact nle (b := 300) (by omega) (by omega)
    (repeat (first | refine r_fw rfl rfl rfl rfl ?_ | refine rG_get rfl rfl rfl ?_)); try dsimp only
    rw [hS, by_ushr x (by omega)]
    refine rG_ist rfl rfl rfl (show m < 300 by omega) ?_
    (repeat (first | refine r_fw rfl rfl rfl rfl ?_ | refine rG_get rfl rfl rfl ?_)); try dsimp only
    rw [show (s1 S 1 (upd (S 1) m (nI (byN x i)))) 0 0 = nI m from hS]
    refine rG_set (j := 0) rfl rfl rfl rfl rfl ?_
    (repeat (first | refine r_fw rfl rfl rfl rfl ?_ | refine rG_get rfl rfl rfl ?_)); try dsimp only
    refine r_step rfl rfl rfl ?_
    rw [nI_1, show nI i + -1 = nI i - 1 from (Int32.sub_eq_add_neg _ _).symm, show apO S m (byL x (i + 1)) = apO (s2 (s1 S 1 (upd (S 1) m (nI (byN x i)))) 0 0 (nI (m + 1))) (m + 1) (byL x i) by rw [byL, apO]]
    refine ih _ (m + 1) (by omega) ?_ (by omega)
    rw [s2_at, if_pos ⟨rfl, rfl⟩]
theorem c_oput {S : hT2} {n m : Nat} (hn : n ≤ 4) (hS : S 0 0 = nI m) (hm : m + n ≤ 300) : hRun 10 0 [.ref b, .int x, .int (nI n), hU] [] (hpG yO h b S) none (hpG yO h b (apO S m (byL x n))) := by
  refine r_step rfl rfl rfl ?_
  refine r_step rfl rfl rfl ?_
  refine r_step rfl rfl rfl ?_
  refine r_step rfl rfl rfl ?_
  exact put_loop n S m hn hS hm
end CPU
section RBY
variable {mi k : Nat} {L st : List Value} {h h' : hH} {r : Option Value} {b : Nat} {M : hT2} {x : Int64}
theorem r_bld {len pc x y a p n t : Nat} {z : Int32} {zl : Int64} {ts : List Nat} {f : Nat → Int32} {st : List Value} (he : hI mi k = some (.baload, len, pc, x, y, z, zl, ts)) (ha : h.2.2 a = .inr (t, n, .inl f)) (ht : t = 1 ∨ t = 2) (hp : p < n) (hn : n < 2 ^ 31) (K : hRun mi (k + 1) L (.int (f p) :: st) h r h') : hRun mi k L (.int (nI p) :: .ref a :: st) h r h' := by
  refine r_step he rfl ?_ K
  have h1 := nI_in hp hn
  simp only [hStep, hBld, ha, if_pos ht, if_pos h1]
  rw [nI_clamp (by omega)]
theorem r_bst {len pc x y a p n : Nat} {z : Int32} {zl : Int64} {ts : List Nat} {f : Nat → Int32} {v : Int32} {st : List Value} (he : hI mi k = some (.bastore, len, pc, x, y, z, zl, ts)) (ha : h.2.2 a = .inr (1, n, .inl f)) (hp : p < n) (hn : n < 2 ^ 31) (K : hRun mi (k + 1) L st (hSt h a (.inr (1, n, .inl (upd f p v.toInt8.toInt32)))) r h') : hRun mi k L (.int v :: .int (nI p) :: .ref a :: st) h r h' := by
  refine r_step he rfl ?_ K
  have h1 := nI_in hp hn
  simp only [hStep, hBst, ha, if_pos h1]
  rw [nI_clamp (by omega)]
  rfl
theorem r_zst {len pc x y a p n : Nat} {z : Int32} {zl : Int64} {ts : List Nat} {f : Nat → Int32} {st : List Value} (he : hI mi k = some (.bastore, len, pc, x, y, z, zl, ts)) (ha : h.2.2 a = .inr (2, n, .inl f)) (hp : p < n) (hn : n < 2 ^ 31) (K : hRun mi (k + 1) L st (hSt h a (.inr (2, n, .inl (upd f p 1)))) r h') : hRun mi k L (.int 1 :: .int (nI p) :: .ref a :: st) h r h' := by
  refine r_step he rfl ?_ K
  have h1 := nI_in hp hn
  simp only [hStep, hBst, ha, if_pos h1]
  rw [nI_clamp (by omega)]
  rfl
theorem rM_bst {len pc w y p : Nat} {z : Int32} {zl : Int64} {ts : List Nat} {v : Int32} {st : List Value} (he : hI mi k = some (.bastore, len, pc, w, y, z, zl, ts)) (hp : p < 300) (K : hRun mi (k + 1) L st (hpM h b (s1 M 10 (upd (M 10) p v.toInt8.toInt32)) x) r h') : hRun mi k L (.int v :: .int (nI p) :: .ref (b + 10) :: st) (hpM h b M x) r h' := by
  refine r_bst he (hpM_j (j := 10) (by omega) (by omega)) hp (by decide) ?_
  rw [show hSt (hpM h b M x) (b + 10) (.inr (1, lM 10, .inl (upd (M 10) p v.toInt8.toInt32))) = _ from hpM_st (j := 10) (by omega) (by omega)]
  exact K
theorem rM_zst {len pc w y p : Nat} {z : Int32} {zl : Int64} {ts : List Nat} {st : List Value} (he : hI mi k = some (.bastore, len, pc, w, y, z, zl, ts)) (hp : p < 2) (K : hRun mi (k + 1) L st (hpM h b (s1 M 11 (upd (M 11) p 1)) x) r h') : hRun mi k L (.int 1 :: .int (nI p) :: .ref (b + 11) :: st) (hpM h b M x) r h' := by
  refine r_zst he (hpM_j (j := 11) (by omega) (by omega)) hp (by decide) ?_
  rw [show hSt (hpM h b M x) (b + 11) (.inr (2, lM 11, .inl (upd (M 11) p 1))) = _ from hpM_st (j := 11) (by omega) (by omega)]
  exact K
theorem rM_bld {len pc w y p j : Nat} {z : Int32} {zl : Int64} {ts : List Nat} {st : List Value} (he : hI mi k = some (.baload, len, pc, w, y, z, zl, ts)) (hj : j = 10 ∨ j = 11) (hp : p < lM j) (K : hRun mi (k + 1) L (.int (M j p) :: st) (hpM h b M x) r h') : hRun mi k L (.int (nI p) :: .ref (b + j) :: st) (hpM h b M x) r h' := by
  refine r_bld he (hpM_j (j := j) (by omega) (by omega)) ?_ hp (lM_lt j) K
  rcases hj with rfl | rfl
  · exact Or.inl rfl
  · exact Or.inr rfl
end RBY
def apM : hT2 → Nat → List Nat → hT2
  | M, _, [] => M
  | M, m, b :: L => apM (s2 (s1 M 9 (upd (M 9) m (nI b))) 0 3 (nI (m + 1))) (m + 1) L
def apT : hT2 → Nat → List Nat → hT2
  | M, _, [] => M
  | M, m, b :: L => apT (s2 (s1 M 10 (upd (M 10) m (nI b).toInt8.toInt32)) 0 4 (nI (m + 1))) (m + 1) L
theorem apM_app : ∀ (L K : List Nat) S m, apM (apM S m L) (m + L.length) K = apM S m (L ++ K)
  | [], K, S, m => rfl
  | b :: L, K, S, m => by
    rw [apM, List.cons_append, apM, ← apM_app L K _ (m + 1), List.length_cons, show m + 1 + L.length = m + (L.length + 1) by omega]
theorem apT_app : ∀ (L K : List Nat) S m, apT (apT S m L) (m + L.length) K = apT S m (L ++ K)
  | [], K, S, m => rfl
  | b :: L, K, S, m => by
    rw [apT, List.cons_append, apT, ← apT_app L K _ (m + 1), List.length_cons, show m + 1 + L.length = m + (L.length + 1) by omega]
theorem apM_n : ∀ (L : List Nat) S m, S 0 3 = nI m → apM S m L 0 3 = nI (m + L.length)
  | [], S, m, h => h
  | b :: L, S, m, h => by
    rw [apM, apM_n L _ (m + 1) (by rw [s2_at, if_pos ⟨rfl, rfl⟩]), List.length_cons, show m + 1 + L.length = m + (L.length + 1) by omega]
theorem apT_n : ∀ (L : List Nat) S m, S 0 4 = nI m → apT S m L 0 4 = nI (m + L.length)
  | [], S, m, h => h
  | b :: L, S, m, h => by
    rw [apT, apT_n L _ (m + 1) (by rw [s2_at, if_pos ⟨rfl, rfl⟩]), List.length_cons, show m + 1 + L.length = m + (L.length + 1) by omega]
theorem apM_o : ∀ (L : List Nat) M m j, j ≠ 0 → j ≠ 9 → apM M m L j = M j
  | [], M, m, j, h, k => rfl
  | b :: L, M, m, j, h, k => by rw [apM, apM_o L _ _ j h k, s2_row h, s1_row, if_neg k]
theorem apM_0 : ∀ (L : List Nat) M m j, j ≠ 3 → apM M m L 0 j = M 0 j
  | [], M, m, j, h => rfl
  | b :: L, M, m, j, h => by rw [apM, apM_0 L _ _ j h, s2_at, if_neg (fun z => h z.2), s1_row, if_neg (by omega)]
theorem apT_o : ∀ (L : List Nat) M m j, j ≠ 0 → j ≠ 10 → apT M m L j = M j
  | [], M, m, j, h, k => rfl
  | b :: L, M, m, j, h, k => by rw [apT, apT_o L _ _ j h k, s2_row h, s1_row, if_neg k]
theorem apT_0 : ∀ (L : List Nat) M m j, j ≠ 4 → apT M m L 0 j = M 0 j
  | [], M, m, j, h => rfl
  | b :: L, M, m, j, h => by rw [apT, apT_0 L _ _ j h, s2_at, if_neg (fun z => h z.2), s1_row, if_neg (by omega)]
/-- the same octets on both sides -/
theorem ap_rel : ∀ (L : List Nat) (S M : hT2) m, (∀ i, i < m → S 1 i = M 9 i) → ∀ i, i < m + L.length → apO S m L 1 i = apM M m L 9 i
  | [], S, M, m, h, i, hi => h i hi
  | b :: L, S, M, m, h, i, hi => by
    rw [apO, apM]
    refine ap_rel L _ _ (m + 1) (fun j hj => ?_) i (by rw [List.length_cons] at hi; omega)
    rw [s2_row (by omega), s1_at, s2_row (by omega), s1_at]
    unfold upd
    by_cases c : j = m
    · rw [if_pos c, if_pos c]
    · rw [if_neg c, if_neg c]
      exact h j (by omega)
theorem at_rel : ∀ (L : List Nat) (S M : hT2) m, (∀ b, b ∈ L → b < 256) → (∀ i, i < m → ∃ b, b < 256 ∧ S 1 i = nI b ∧ M 10 i = (nI b).toInt8.toInt32) → ∀ i, i < m + L.length → ∃ b, b < 256 ∧ apO S m L 1 i = nI b ∧ apT M m L 10 i = (nI b).toInt8.toInt32
  | [], S, M, m, _, h, i, hi => h i hi
  | b :: L, S, M, m, hL, h, i, hi => by
    rw [apO, apT]
    refine at_rel L _ _ (m + 1) (fun c hc => hL c (List.mem_cons_of_mem _ hc)) (fun j hj => ?_) i (by rw [List.length_cons] at hi; omega)
    rw [s2_row (by omega), s1_at, s2_row (by omega), s1_at]
    unfold upd
    by_cases c : j = m
    · rw [if_pos c, if_pos c]
      exact ⟨b, hL b (List.mem_cons_self ..), rfl, rfl⟩
    · rw [if_neg c, if_neg c]
      exact h j (by omega)
section MPU
variable {h : hH} {b : Nat} {x : Int64} {y : Int32}
theorem puts_loop : ∀ i M m, i ≤ 4 → M 0 4 = nI m → m + i ≤ 300 → hRun 267 2 [.ref b, .int y, .int (nI (8 * i) - 8)] [] (hpM h b M x) none (hpM h b (apT M m (byL y i)) x) := by
  intro i
  induction i with
  | zero =>
    intro M m hi hM hm
    (repeat (first | refine r_fw rfl rfl rfl rfl ?_ | refine rM_get rfl rfl ?_)); try dsimp only
    try simp only [na0, na1, na2, na3, na4, na5, na6, na7, na8, na16, na88, na148, nm3, nI_add]
    refine r_brT rfl rfl ?_ ?_
    · decide
    (refine r_rtE rfl rfl ?_ ?_ ?_ <;> rfl)
  | succ i ih =>
    intro M m hi hM hm
    have e8 : nI (8 * (i + 1)) - 8 = nI (8 * i) := by
      have : i = 0 ∨ i = 1 ∨ i = 2 ∨ i = 3 := by omega
      rcases this with rfl | rfl | rfl | rfl <;> decide
    have e9 : nI (8 * i) + -8 = nI (8 * i) - 8 := (Int32.sub_eq_add_neg _ _).symm
    rw [e8]
    (repeat (first | refine r_fw rfl rfl rfl rfl ?_ | refine rM_get rfl rfl ?_)); try dsimp only
    try simp only [na0, na1, na2, na3, na4, na5, na6, na7, na8, na16, na88, na148, nm3, nI_add]
    refine r_brF rfl rfl ?_ ?_
    · exact nI_nlt (b := 0) (by omega) (by omega)
    (repeat (first | refine r_fw rfl rfl rfl rfl ?_ | refine rM_get rfl rfl ?_)); try dsimp only
    try simp only [na0, na1, na2, na3, na4, na5, na6, na7, na8, na16, na88, na148, nm3, nI_add]
    rw [hM]
    refine rM_bst rfl (show m < 300 by omega) ?_
    rw [by_b8 y (by omega)]
    (repeat (first | refine r_fw rfl rfl rfl rfl ?_ | refine rM_get rfl rfl ?_)); try dsimp only
    try simp only [na0, na1, na2, na3, na4, na5, na6, na7, na8, na16, na88, na148, nm3, nI_add]
    rw [show (s1 M 10 (upd (M 10) m (nI (byN y i)).toInt8.toInt32)) 0 4 = nI m from hM, nI_1]
    refine rM_set rfl rfl ?_
    (repeat (first | refine r_fw rfl rfl rfl rfl ?_ | refine rM_get rfl rfl ?_)); try dsimp only
    try simp only [na0, na1, na2, na3, na4, na5, na6, na7, na8, na16, na88, na148, nm3, nI_add]
    refine r_step rfl rfl rfl ?_
    dsimp only
    rw [e9, show apT M m (byL y (i + 1)) = apT (s2 (s1 M 10 (upd (M 10) m (nI (byN y i)).toInt8.toInt32)) 0 4 (nI (m + 1))) (m + 1) (byL y i) by rw [byL, apT]]
    refine ih _ (m + 1) (by omega) ?_ (by omega)
    rw [s2_at, if_pos ⟨rfl, rfl⟩]
theorem m_puts {M : hT2} {m : Nat} (hM : M 0 4 = nI m) (hm : m + 4 ≤ 300) : hRun 267 0 [.ref b, .int y, hU] [] (hpM h b M x) none (hpM h b (apT M m (byL y 4)) x) := by
  refine r_step rfl rfl rfl ?_
  refine r_step rfl rfl rfl ?_
  exact puts_loop 4 M m (by omega) hM hm
theorem m_octet1 {M : hT2} {m c : Nat} (hM : M 0 3 = nI m) (hm : m < 256) (hy : y &&& 255 = nI c) : hRun 263 0 [.ref b, .int y] [] (hpM h b M x) none (hpM h b (apM M m [c]) x) := by
  (repeat (first | refine r_fw rfl rfl rfl rfl ?_ | refine rM_get rfl rfl ?_)); try dsimp only
  try simp only [na0, na1, na2, na3, na4, na5, na6, na7, na8, na16, na88, na148, nm3, nI_add]
  rw [hM, hy]
  refine rM_ist (j := 9) rfl rfl (show m < 256 by omega) ?_
  (repeat (first | refine r_fw rfl rfl rfl rfl ?_ | refine rM_get rfl rfl ?_)); try dsimp only
  try simp only [na0, na1, na2, na3, na4, na5, na6, na7, na8, na16, na88, na148, nm3, nI_add]
  rw [show (s1 M 9 (upd (M 9) m (nI c))) 0 3 = nI m from hM, nI_1]
  refine rM_set rfl rfl ?_
  (refine r_rtE rfl rfl ?_ ?_ ?_ <;> rfl)
theorem oct4_loop : ∀ i M m, i ≤ 4 → M 0 3 = nI m → m + i ≤ 256 → hRun 264 2 [.ref b, .int y, .int (nI (8 * i) - 8)] [] (hpM h b M x) none (hpM h b (apM M m (byL y i)) x) := by
  intro i
  induction i with
  | zero =>
    intro M m hi hM hm
    (repeat (first | refine r_fw rfl rfl rfl rfl ?_ | refine rM_get rfl rfl ?_)); try dsimp only
    try simp only [na0, na1, na2, na3, na4, na5, na6, na7, na8, na16, na88, na148, nm3, nI_add]
    refine r_brT rfl rfl ?_ ?_
    · decide
    (refine r_rtE rfl rfl ?_ ?_ ?_ <;> rfl)
  | succ i ih =>
    intro M m hi hM hm
    have e8 : nI (8 * (i + 1)) - 8 = nI (8 * i) := by
      have : i = 0 ∨ i = 1 ∨ i = 2 ∨ i = 3 := by omega
      rcases this with rfl | rfl | rfl | rfl <;> decide
    have e9 : nI (8 * i) + -8 = nI (8 * i) - 8 := (Int32.sub_eq_add_neg _ _).symm
    rw [e8]
    (repeat (first | refine r_fw rfl rfl rfl rfl ?_ | refine rM_get rfl rfl ?_)); try dsimp only
    try simp only [na0, na1, na2, na3, na4, na5, na6, na7, na8, na16, na88, na148, nm3, nI_add]
    refine r_brF rfl rfl ?_ ?_
    · exact nI_nlt (b := 0) (by omega) (by omega)
    (repeat (first | refine r_fw rfl rfl rfl rfl ?_ | refine rM_get rfl rfl ?_)); try dsimp only
    try simp only [na0, na1, na2, na3, na4, na5, na6, na7, na8, na16, na88, na148, nm3, nI_add]
    refine rM_call rfl rfl rfl rfl rfl (m_octet1 hM (by omega) (by_and y (show i < 4 by omega))) ?_
    (repeat (first | refine r_fw rfl rfl rfl rfl ?_ | refine rM_get rfl rfl ?_)); try dsimp only
    try simp only [na0, na1, na2, na3, na4, na5, na6, na7, na8, na16, na88, na148, nm3, nI_add]
    refine r_step rfl rfl rfl ?_
    dsimp only
    rw [e9, show apM M m (byL y (i + 1)) = apM (apM M m [byN y i]) (m + 1) (byL y i) by rw [byL, apM, apM, apM]]
    exact ih (apM M m [byN y i]) (m + 1) (by omega) (apM_n [byN y i] M m hM) (by omega)
theorem m_octet4 {M : hT2} {m : Nat} (hM : M 0 3 = nI m) (hm : m + 4 ≤ 256) : hRun 264 0 [.ref b, .int y, hU] [] (hpM h b M x) none (hpM h b (apM M m (byL y 4)) x) := by
  refine r_step rfl rfl rfl ?_
  refine r_step rfl rfl rfl ?_
  exact oct4_loop 4 M m (by omega) hM hm
end MPU
section WOT
variable {mi k : Nat} {L st : List Value} {E : hEn} {w : hWo} {h' : hH} {r : Option Value}
theorem wO_call {i len pc x y : Nat} {z : Int32} {zl : Int64} {ts : List Nat} {Q : hR} {r1 : Option Value} {T : hT2} {as : List Value} (he : hI mi k = some (.invokevirtual i, len, pc, x, y, z, zl, ts)) (hQ : hmR x = some Q) (h5 : Q.2.2.2.2.2.1 = 2) (ha : (st.take y).reverse = .ref 55 :: as) (hs : decide (hCats (st.drop y) ≤ 8 ∧ (st.take y).length = y ∧ (hFl (st.take y).reverse).length ≤ Q.2.2.1) = true) (C : hRun x 0 (hEnt (.ref 55 :: as) Q.2.2.1) [] (hpG yO (hW E w) 55 (w.1 32)) r1 (hpG yO (hW E w) 55 T)) (K : hRun mi (k + 1) L (r1.toList ++ st.drop y) (hW E (wS w 32 T)) r h') : hRun mi k L st (hW E w) r h' := by
  have e : hpG yO (hW E w) 55 (w.1 32) = hW E w := by rw [hW_O, wS_id]
  rw [← e]
  refine rG_call he hQ h5 ha hs C ?_
  rw [hW_O]
  exact K
theorem wT_call {i len pc x y : Nat} {z : Int32} {zl : Int64} {ts : List Nat} {Q : hR} {r1 : Option Value} {T : hT2} {as : List Value} (he : hI mi k = some (.invokevirtual i, len, pc, x, y, z, zl, ts)) (hQ : hmR x = some Q) (h5 : Q.2.2.2.2.2.1 = 2) (ha : (st.take y).reverse = .ref 57 :: as) (hs : decide (hCats (st.drop y) ≤ 8 ∧ (st.take y).length = y ∧ (hFl (st.take y).reverse).length ≤ Q.2.2.1) = true) (C : hRun x 0 (hEnt (.ref 57 :: as) Q.2.2.1) [] (hpG yO (hW E w) 57 (w.1 33)) r1 (hpG yO (hW E w) 57 T)) (K : hRun mi (k + 1) L (r1.toList ++ st.drop y) (hW E (wS w 33 T)) r h') : hRun mi k L st (hW E w) r h' := by
  have e : hpG yO (hW E w) 57 (w.1 33) = hW E w := by rw [hW_T, wS_id]
  rw [← e]
  refine rG_call he hQ h5 ha hs C ?_
  rw [hW_T]
  exact K
theorem wO_set {i len pc : Nat} {z v : Int32} {zl : Int64} {ts : List Nat} {st : List Value} (he : hI mi k = some (.putfield i, len, pc, 2, 1, z, zl, ts)) (K : hRun mi (k + 1) L st (hW E (wS w 32 (s2 (w.1 32) 0 0 v))) r h') : hRun mi k L (.int v :: .ref 55 :: st) (hW E w) r h' := by
  have e : hpG yO (hW E w) 55 (w.1 32) = hW E w := by rw [hW_O, wS_id]
  rw [← e]
  refine rG_set (j := 0) he rfl rfl rfl rfl ?_
  rw [hW_O]
  exact K
theorem wT_set {i len pc : Nat} {z v : Int32} {zl : Int64} {ts : List Nat} {st : List Value} (he : hI mi k = some (.putfield i, len, pc, 2, 1, z, zl, ts)) (K : hRun mi (k + 1) L st (hW E (wS w 33 (s2 (w.1 33) 0 0 v))) r h') : hRun mi k L (.int v :: .ref 57 :: st) (hW E w) r h' := by
  have e : hpG yO (hW E w) 57 (w.1 33) = hW E w := by rw [hW_T, wS_id]
  rw [← e]
  refine rG_set (j := 0) he rfl rfl rfl rfl ?_
  rw [hW_T]
  exact K
end WOT
