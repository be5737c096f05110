/-! write -/
def nuF (f : Nat → Int32) : Nat → Nat → Int32 → Int32
  | _, 0, a => a
  | i, d + 1, a => nuF f (i + 1) d ((a <<< (8 &&& 31)) ||| f i)
def ckS (a v : Int32) : Int32 := (3 * a + v) - (3 * a + v) / 251 * 251
def ckF (f : Nat → Int32) : Nat → Nat → Int32 → Int32
  | 0, _, a => a
  | d + 1, i, a => ckF f d (i + 1) (ckS a (f i))
theorem ckF_c {f g : Nat → Int32} : ∀ d i a, (∀ j, i ≤ j → j < i + d → f j = g j) → ckF f d i a = ckF g d i a
  | 0, _, _, _ => rfl
  | d + 1, i, a, h => by
    rw [ckF, ckF, h i (Nat.le_refl _) (by omega)]
    exact ckF_c d (i + 1) _ (fun j h1 h2 => h j (by omega) (by omega))
section CNU
variable {h : hH} {b N : Nat} {S : hT2}
theorem onum_loop {i0 n0 : Nat} (hS : S 0 0 = nI N) (hN : N ≤ 300) (h1 : i0 < 100000) (h2 : n0 ≤ 300) : ∀ d i a, i + d = i0 + n0 → hRun 12 4 [.ref b, .int (nI i0), .int (nI n0), .int a, .int (nI i)] [] (hpG yO h b S) (some (.int (nuF (fun j => if j < N then S 1 j else 0) i d a))) (hpG yO h b S) := by
  intro d
  induction d with
  | zero =>
    intro i a hi
    (repeat (first | refine r_fw rfl rfl rfl rfl ?_ | refine rG_get rfl rfl rfl ?_)); try dsimp only
    rw [nI_add, show i0 + n0 = i by omega]
    refine r_brT rfl rfl ?_ ?_
    · exact Int32.le_refl _
    (repeat (first | refine r_fw rfl rfl rfl rfl ?_ | refine rG_get rfl rfl rfl ?_)); try dsimp only
    (refine r_rtE rfl rfl ?_ ?_ ?_ <;> rfl)
  | succ d ih =>
    intro i a hi
    (repeat (first | refine r_fw rfl rfl rfl rfl ?_ | refine rG_get rfl rfl rfl ?_)); try dsimp only
    rw [nI_add]
    refine r_brF rfl rfl ?_ ?_
    · exact nle (by omega) (by omega)
    (repeat (first | refine r_fw rfl rfl rfl rfl ?_ | refine rG_get rfl rfl rfl ?_)); try dsimp only
    refine r_brF rfl rfl ?_ ?_
    · exact nI_nlt (b := 0) (by omega) (by omega)
    (repeat (first | refine r_fw rfl rfl rfl rfl ?_ | refine rG_get rfl rfl rfl ?_)); try dsimp only
    rw [hS]
    by_cases c : i < N
    · have e : nuF (fun j => if j < N then S 1 j else 0) i (d + 1) a = nuF (fun j => if j < N then S 1 j else 0) (i + 1) d ((a <<< (8 &&& 31)) ||| S 1 i) := by
        rw [nuF]
        try dsimp only
        rw [if_pos c]
      rw [e]
      refine r_brF rfl rfl ?_ ?_
      · exact nle c (by omega)
      (repeat (first | refine r_fw rfl rfl rfl rfl ?_ | refine rG_get rfl rfl rfl ?_)); try dsimp only
      refine rG_ild rfl rfl (show i < 300 by omega) ?_
      refine r_step rfl rfl rfl ?_
      (repeat (first | refine r_fw rfl rfl rfl rfl ?_ | refine rG_get rfl rfl rfl ?_)); try dsimp only
      rw [nI_1]
      refine r_step rfl rfl rfl ?_
      exact ih (i + 1) _ (by omega)
    · have e : nuF (fun j => if j < N then S 1 j else 0) i (d + 1) a = nuF (fun j => if j < N then S 1 j else 0) (i + 1) d ((a <<< (8 &&& 31)) ||| 0) := by
        rw [nuF]
        try dsimp only
        rw [if_neg c]
      rw [e]
      refine r_brT rfl rfl ?_ ?_
      · exact nI_le (by omega) (by omega)
      (repeat (first | refine r_fw rfl rfl rfl rfl ?_ | refine rG_get rfl rfl rfl ?_)); try dsimp only
      rw [nI_1]
      refine r_step rfl rfl rfl ?_
      exact ih (i + 1) _ (by omega)
theorem c_onum {i n : Nat} (hS : S 0 0 = nI N) (hN : N ≤ 300) (h1 : i < 100000) (h2 : n ≤ 300) : hRun 12 0 [.ref b, .int (nI i), .int (nI n), hU, hU] [] (hpG yO h b S) (some (.int (nuF (fun j => if j < N then S 1 j else 0) i n 0))) (hpG yO h b S) := by
  refine r_step rfl rfl rfl ?_
  refine r_step rfl rfl rfl ?_
  refine r_step rfl rfl rfl ?_
  refine r_step rfl rfl rfl ?_
  exact onum_loop hS hN h1 h2 n i 0 rfl
theorem c_onum1 {i : Nat} (hS : S 0 0 = nI N) (hN : N ≤ 300) (hi : i < N) : hRun 12 0 [.ref b, .int (nI i), .int (nI 1), hU, hU] [] (hpG yO h b S) (some (.int (S 1 i))) (hpG yO h b S) := by
  have := c_onum (h := h) (b := b) (n := 1) hS hN (show i < 100000 by omega) (by omega)
  have e : nuF (fun j => if j < N then S 1 j else 0) i 1 0 = S 1 i := by
    rw [nuF, nuF]
    try dsimp only
    rw [if_pos hi, show (0 : Int32) <<< (8 &&& 31) = 0 by decide, Int32.zero_or]
  rw [e] at this
  exact this
theorem check_loop (hS : S 0 0 = nI N) (hN : N ≤ 300) {n : Nat} (hn : n ≤ N) : ∀ d i a, i + d = n → hRun 11 4 [.ref b, .int (nI n), .int a, .int (nI i)] [] (hpG yO h b S) (some (.int (ckF (S 1) d i a))) (hpG yO h b S) := by
  intro d
  induction d with
  | zero =>
    intro i a hi
    (repeat (first | refine r_fw rfl rfl rfl rfl ?_ | refine rG_get rfl rfl rfl ?_)); try dsimp only
    rw [show n = i by omega]
    refine r_brT rfl rfl ?_ ?_
    · exact Int32.le_refl _
    (repeat (first | refine r_fw rfl rfl rfl rfl ?_ | refine rG_get rfl rfl rfl ?_)); try dsimp only
    (refine r_rtE rfl rfl ?_ ?_ ?_ <;> rfl)
  | succ d ih =>
    intro i a hi
    (repeat (first | refine r_fw rfl rfl rfl rfl ?_ | refine rG_get rfl rfl rfl ?_)); try dsimp only
    refine r_brF rfl rfl ?_ ?_
    · exact nle (by omega) (by omega)
    (repeat (first | refine r_fw rfl rfl rfl rfl ?_ | refine rG_get rfl rfl rfl ?_)); try dsimp only
    refine rG_call rfl rfl rfl rfl rfl (c_onum1 hS hN (by omega)) ?_
    refine r_step rfl rfl rfl ?_
    refine r_step rfl rfl rfl ?_
    refine r_step rfl rfl rfl ?_
    refine r_step rfl rfl rfl ?_
    refine r_step rfl rfl rfl ?_
    dsimp only
    rw [nI_1]
    refine r_step rfl rfl rfl ?_
    exact ih (i + 1) _ (by omega)
theorem c_check (hS : S 0 0 = nI N) (hN : N ≤ 300) {n : Nat} (hn : n ≤ N) : hRun 11 0 [.ref b, .int (nI n), hU, hU] [] (hpG yO h b S) (some (.int (ckF (S 1) n 0 7))) (hpG yO h b S) := by
  refine r_step rfl rfl rfl ?_
  refine r_step rfl rfl rfl ?_
  refine r_step rfl rfl rfl ?_
  refine r_step rfl rfl rfl ?_
  exact check_loop hS hN hn n 0 7 (by omega)
end CNU
def wrF (C : List aK) : Nat → Nat → List Nat → List Nat
  | 0, _, L => L
  | d + 1, k, L => wrF C d (k + 1) (((L ++ byL (nI (gC C k).1) 2) ++ byL (nI (gC C k).2.1) 4) ++ byL (nI (gC C k).2.2) 4)
theorem wrF_len (C : List aK) : ∀ d k L, (wrF C d k L).length = L.length + 10 * d
  | 0, _, L => rfl
  | d + 1, k, L => by
    rw [wrF, wrF_len C d (k + 1)]
    simp only [List.length_append, byL_len]
    omega
section XWR
variable {E : hEn} {w : hWo}
theorem write_loop {p n : Nat} {C : List aK} {S : hT2} {LF : List Nat} {sv : Int32} {r : Option Value} {h' : hH} (hp : p < 31) (hn : n ≤ 24) (hS : S 0 0 = nI 0) (h5 : w.1 p 0 5 = nI n) (hC : ∀ k, k < n → w.1 p 1 k = nI (gC C k).1 ∧ w.1 p 2 k = nI (gC C k).2.1 ∧ w.1 p 3 k = nI (gC C k).2.2) (K : hRun 149 74 [.ref 2, .int sv, .ref (bs p), .int (nI n)] [] (hW E (wS w 32 (apO S 0 LF))) r h') : ∀ d k L, k + d = n → L.length = 14 + 10 * k → wrF C d k L = LF → hRun 149 44 [.ref 2, .int sv, .ref (bs p), .int (nI k)] [] (hW E (wS w 32 (apO S 0 L))) r h' := by
  have g : ∀ X j i, (wS w 32 X).1 p j i = w.1 p j i := fun X j i => by rw [wS_ne (by omega)]
  intro d
  induction d with
  | zero =>
    intro k L hk hL e
    rw [show k = n by omega]
    rw [wrF] at e
    subst e
    refine r_step rfl rfl rfl ?_
    refine r_step rfl rfl rfl ?_
    refine wS_getE (q := p) (by omega) rfl rfl ((g _ _ _).trans h5) ?_
    refine r_brT rfl rfl ?_ ?_
    · exact Int32.le_refl _
    exact K
  | succ d ih =>
    intro k L hk hL e
    obtain ⟨c1, c2, c3⟩ := hC k (by omega)
    refine r_step rfl rfl rfl ?_
    refine r_step rfl rfl rfl ?_
    refine wS_getE (q := p) (by omega) rfl rfl ((g _ _ _).trans h5) ?_
    refine r_brF rfl rfl ?_ ?_
    · exact nle (by omega) (by omega)
    refine r_step rfl rfl rfl ?_
    refine r_get rfl rfl rfl ?_
    refine r_step rfl rfl rfl ?_
    refine wS_get (q := p) (by omega) rfl rfl ?_
    refine r_step rfl rfl rfl ?_
    refine wS_ildE (q := p) (j := 1) (by omega) rfl rfl (show k < 24 by omega) ((g _ _ _).trans c1) ?_
    refine r_step rfl rfl rfl ?_
    refine wO_ap (n := 2) hS (by omega) (by first | omega | (simp only [List.length_append, byL_len, List.length_nil, List.length_cons]; omega)) rfl ?_
    refine r_step rfl rfl rfl ?_
    refine r_get rfl rfl rfl ?_
    refine r_step rfl rfl rfl ?_
    refine wS_get (q := p) (by omega) rfl rfl ?_
    refine r_step rfl rfl rfl ?_
    refine wS_ildE (q := p) (j := 2) (by omega) rfl rfl (show k < 24 by omega) ((g _ _ _).trans c2) ?_
    refine r_step rfl rfl rfl ?_
    refine wO_ap (n := 4) hS (by omega) (by first | omega | (simp only [List.length_append, byL_len, List.length_nil, List.length_cons]; omega)) rfl ?_
    refine r_step rfl rfl rfl ?_
    refine r_get rfl rfl rfl ?_
    refine r_step rfl rfl rfl ?_
    refine wS_get (q := p) (by omega) rfl rfl ?_
    refine r_step rfl rfl rfl ?_
    refine wS_ildE (q := p) (j := 3) (by omega) rfl rfl (show k < 24 by omega) ((g _ _ _).trans c3) ?_
    refine r_step rfl rfl rfl ?_
    refine wO_ap (n := 4) hS (by omega) (by first | omega | (simp only [List.length_append, byL_len, List.length_nil, List.length_cons]; omega)) rfl ?_
    refine r_step rfl rfl rfl ?_
    dsimp only
    rw [nI_1]
    refine r_step rfl rfl rfl ?_
    exact ih (k + 1) _ (by omega) (by first | omega | (simp only [List.length_append, byL_len, List.length_nil, List.length_cons]; omega)) e
end XWR
section KWR
variable {h : hH} {M : hT2} {x : Int64}
theorem kwrite_loop {n B : Nat} {C : List aK} {LF : List Nat} {sv : Int32} {r : Option Value} {h' : hH} {z4 : Value} (hn : n ≤ 24) (hB : B + 1148 ≤ 35588) (hM : M 0 3 = nI 0) (h5 : M 1 (B + 2) = nI n) (hC : ∀ k, k < n → M 1 (B + 16 + 3 * k + 0) = nI (gC C k).1 ∧ M 1 (B + 16 + 3 * k + 1) = nI (gC C k).2.1 ∧ M 1 (B + 16 + 3 * k + 2) = nI (gC C k).2.2) (K : hRun 262 91 [.ref 281, .int sv, .int (nI B), .int (nI n), z4] [] (hpM h 281 (apM M 0 LF) x) r h') : ∀ d k L, k + d = n → L.length = 14 + 10 * k → wrF C d k L = LF → hRun 262 54 [.ref 281, .int sv, .int (nI B), .int (nI k), z4] [] (hpM h 281 (apM M 0 L) x) r h' := by
  have g : ∀ L, apM M 0 L 1 = M 1 := fun L => apM_o L M 0 1 (by omega) (by omega)
  intro d
  induction d with
  | zero =>
    intro k L hk hL e
    rw [show k = n by omega]
    rw [wrF] at e
    subst e
    (repeat (first | refine r_fw rfl rfl rfl rfl ?_ | refine rM_get rfl rfl ?_)); try dsimp only
    try simp only [na0, na1, na2, na3, na4, na5, na6, na7, na8, na16, na88, na148, nm3, nI_add]
    refine rM_call rfl rfl rfl rfl rfl (m_manyE hB ((congrFun (g _) _).trans h5)) ?_
    refine r_brT rfl rfl ?_ ?_
    · exact Int32.le_refl _
    exact K
  | succ d ih =>
    intro k L hk hL e
    obtain ⟨c1, c2, c3⟩ := hC k (by omega)
    (repeat (first | refine r_fw rfl rfl rfl rfl ?_ | refine rM_get rfl rfl ?_)); try dsimp only
    try simp only [na0, na1, na2, na3, na4, na5, na6, na7, na8, na16, na88, na148, nm3, nI_add]
    refine rM_call rfl rfl rfl rfl rfl (m_manyE hB ((congrFun (g _) _).trans h5)) ?_
    refine r_brF rfl rfl ?_ ?_
    · exact nle (by omega) (by omega)
    (repeat (first | refine r_fw rfl rfl rfl rfl ?_ | refine rM_get rfl rfl ?_)); try dsimp only
    try simp only [na0, na1, na2, na3, na4, na5, na6, na7, na8, na16, na88, na148, nm3, nI_add]
    refine rM_call rfl rfl rfl rfl rfl (m_ofE (u := 0) (by omega) (by omega) hB ((congrFun (g _) _).trans c1)) ?_
    refine r_step rfl rfl rfl ?_
    refine r_step rfl rfl rfl ?_
    refine rM_call rfl rfl rfl rfl rfl (m_o1a hM (by first | omega | (simp only [List.length_append, byL_len, List.length_nil, List.length_cons]; omega)) (by_and (nI (gC C k).1) (i := 1) (by omega))) ?_
    (repeat (first | refine r_fw rfl rfl rfl rfl ?_ | refine rM_get rfl rfl ?_)); try dsimp only
    try simp only [na0, na1, na2, na3, na4, na5, na6, na7, na8, na16, na88, na148, nm3, nI_add]
    refine rM_call rfl rfl rfl rfl rfl (m_ofE (u := 0) (by omega) (by omega) hB ((congrFun (g _) _).trans c1)) ?_
    refine rM_call rfl rfl rfl rfl rfl (m_o1a hM (by first | omega | (simp only [List.length_append, byL_len, List.length_nil, List.length_cons]; omega)) (by_and0 (nI (gC C k).1))) ?_
    rw [List.append_assoc]
    (repeat (first | refine r_fw rfl rfl rfl rfl ?_ | refine rM_get rfl rfl ?_)); try dsimp only
    try simp only [na0, na1, na2, na3, na4, na5, na6, na7, na8, na16, na88, na148, nm3, nI_add]
    refine rM_call rfl rfl rfl rfl rfl (m_ofE (u := 1) (by omega) (by omega) hB ((congrFun (g _) _).trans c2)) ?_
    refine rM_call rfl rfl rfl rfl rfl (m_o4a hM (by first | omega | (simp only [List.length_append, byL_len, List.length_nil, List.length_cons]; omega))) ?_
    (repeat (first | refine r_fw rfl rfl rfl rfl ?_ | refine rM_get rfl rfl ?_)); try dsimp only
    try simp only [na0, na1, na2, na3, na4, na5, na6, na7, na8, na16, na88, na148, nm3, nI_add]
    refine rM_call rfl rfl rfl rfl rfl (m_ofE (u := 2) (by omega) (by omega) hB ((congrFun (g _) _).trans c3)) ?_
    refine rM_call rfl rfl rfl rfl rfl (m_o4a hM (by first | omega | (simp only [List.length_append, byL_len, List.length_nil, List.length_cons]; omega))) ?_
    (repeat (first | refine r_fw rfl rfl rfl rfl ?_ | refine rM_get rfl rfl ?_)); try dsimp only
    try simp only [na0, na1, na2, na3, na4, na5, na6, na7, na8, na16, na88, na148, nm3, nI_add]
    refine r_step rfl rfl rfl ?_
    exact ih (k + 1) _ (by omega) (by first | omega | (simp only [List.length_append, byL_len, List.length_nil, List.length_cons]; omega)) e
theorem kcheck_loop {n : Nat} {sv : Int32} {Bv : Int32} {M : hT2} {r : Option Value} {h' : hH} (hn : n ≤ 256) (hM : M 0 3 = nI n) {c : Int32} (K : hRun 262 112 [.ref 281, .int sv, .int Bv, .int c, .int (nI n)] [] (hpM h 281 M x) r h') : ∀ d i a, i + d = n → ckF (M 9) d i a = c → hRun 262 95 [.ref 281, .int sv, .int Bv, .int a, .int (nI i)] [] (hpM h 281 M x) r h' := by
  intro d
  induction d with
  | zero =>
    intro i a hi e
    rw [ckF] at e
    subst e
    rw [show i = n by omega]
    (repeat (first | refine r_fw rfl rfl rfl rfl ?_ | refine rM_get rfl rfl ?_)); try dsimp only
    try simp only [na0, na1, na2, na3, na4, na5, na6, na7, na8, na16, na88, na148, nm3, nI_add]
    rw [hM]
    refine r_brT rfl rfl ?_ ?_
    · exact Int32.le_refl _
    exact K
  | succ d ih =>
    intro i a hi e
    (repeat (first | refine r_fw rfl rfl rfl rfl ?_ | refine rM_get rfl rfl ?_)); try dsimp only
    try simp only [na0, na1, na2, na3, na4, na5, na6, na7, na8, na16, na88, na148, nm3, nI_add]
    rw [hM]
    refine r_brF rfl rfl ?_ ?_
    · exact nle (by omega) (by omega)
    (repeat (first | refine r_fw rfl rfl rfl rfl ?_ | refine rM_get rfl rfl ?_)); try dsimp only
    try simp only [na0, na1, na2, na3, na4, na5, na6, na7, na8, na16, na88, na148, nm3, nI_add]
    refine rM_ild (j := 9) rfl rfl (show i < 256 by omega) ?_
    refine r_step rfl rfl rfl ?_
    refine r_step rfl rfl rfl ?_
    refine r_step rfl rfl rfl ?_
    refine r_step rfl rfl rfl ?_
    refine r_step rfl rfl rfl ?_
    dsimp only
    rw [nI_1]
    refine r_step rfl rfl rfl ?_
    exact ih (i + 1) _ (by omega) e
end KWR
section CE2
variable {J : Nat} {E : hEn} {w : hWo}
theorem A_write (I : Iv J w.1 w.2.2.2) (s : Int32) : Ans J 149 262 [.ref 2, .int s, hU, hU] [.ref 281, .int s, hU, hU, hU] E w := by
  obtain ⟨M, hMd⟩ : ∃ M, M = s2 (w.1 36) 0 0 0 := ⟨_, rfl⟩
  rcases stand I hMd s with ⟨p, A, hp, rfl, hG, hS, hM⟩ | ⟨hno, hnm⟩
  · have hS0 := hS.1
    have hM0 := hM.1
    have hBp : 1148 * p + 1148 ≤ 35588 := by omega
    have h24 : A.2.1.length ≤ 24 := Nat.le_trans hG.1.2.2 hG.1.2.1
    have hn := hS.2.1.2.1
    have hm : M 1 (1148 * p + 2) = nI A.2.1.length := hM.2.1.2.1
    obtain ⟨n, hnl⟩ : ∃ n, n = A.2.1.length := ⟨_, rfl⟩
    rw [← hnl] at hn hm h24
    have eMj : ∀ j, j ≠ 0 → M j = w.1 36 j := fun j hj => by rw [hMd, s2_row hj]
    have eM0 : ∀ j, j ≠ 0 → M 0 j = w.1 36 0 j := fun j hj => by rw [hMd, s2_at, if_neg (by omega)]
    obtain ⟨S0, hS0⟩ : ∃ S0, S0 = s2 (w.1 32) 0 0 0 := ⟨_, rfl⟩
    obtain ⟨M0, hM0'⟩ : ∃ M0, M0 = s2 M 0 3 0 := ⟨_, rfl⟩
    have hs0 : S0 0 0 = nI 0 := by rw [hS0, s2_at, if_pos ⟨rfl, rfl⟩]; rfl
    have hm0 : M0 0 3 = nI 0 := by rw [hM0', s2_at, if_pos ⟨rfl, rfl⟩]; rfl
    have hM01 : ∀ j, j ≠ 0 → M0 j = M j := fun j hj => by rw [hM0', s2_row hj]
    have g : ∀ X j i, (wS w 32 X).1 p j i = w.1 p j i := fun X j i => by rw [wS_ne (by omega)]
    have k : ∀ L, apM M0 0 L 1 = M 1 := fun L => by rw [apM_o L M0 0 1 (by omega) (by omega), hM01 1 (by omega)]
    have s1' : w.1 p 0 1 = nI (A.1 1) := hS.2.1.1 1 (by omega) (by omega) (by omega)
    have s2' : w.1 p 0 2 = nI (A.1 2) := hS.2.1.1 2 (by omega) (by omega) (by omega)
    have s3' : w.1 p 0 3 = nI (A.1 3) := hS.2.1.1 3 (by omega) (by omega) (by omega)
    have s4' : w.1 p 0 4 = nI (A.1 4) := hS.2.1.1 4 (by omega) (by omega) (by omega)
    have m1' : M 1 (1148 * p + 1) = nI (A.1 1) := hM.2.1.1 1 (by omega) (by omega) (by omega)
    have m2' : M 1 (1148 * p + 3) = nI (A.1 2) := hM.2.1.1 2 (by omega) (by omega) (by omega)
    have m3' : M 1 (1148 * p + 4) = nI (A.1 3) := hM.2.1.1 3 (by omega) (by omega) (by omega)
    have m4' : M 1 (1148 * p + 5) = nI (A.1 4) := hM.2.1.1 4 (by omega) (by omega) (by omega)
    obtain ⟨LH, hLH⟩ : ∃ LH, LH = (((([] ++ byL (nI (A.1 1)) 1) ++ byL (nI n) 1) ++ byL (nI (A.1 2)) 4) ++ byL (nI (A.1 3)) 4) ++ byL (nI (A.1 4)) 4 := ⟨_, rfl⟩
    have hLl : LH.length = 14 := by
      rw [hLH]
      simp only [List.length_append, byL_len, List.length_nil]
    obtain ⟨LF, hLF⟩ : ∃ LF, LF = wrF A.2.1 n 0 LH := ⟨_, rfl⟩
    have hFl : LF.length = 14 + 10 * n := by rw [hLF, wrF_len, hLl]
    have hrel : ∀ L i, i < L.length → apO S0 0 L 1 i = apM M0 0 L 9 i := fun L i hi => ap_rel L S0 M0 0 (fun _ h => absurd h (by omega)) i (by omega)
    obtain ⟨c, hc⟩ : ∃ c, c = ckF (apO S0 0 LF 1) LF.length 0 7 := ⟨_, rfl⟩
    have hcM : ckF (apM M0 0 LF 9) LF.length 0 7 = c := by
      rw [hc]
      exact (ckF_c _ _ _ (fun j _ h2 => hrel LF j (by omega))).symm
    have hN1 : (LF ++ byL c 1).length = LF.length + 1 := by rw [List.length_append, byL_len]
    have es := apO_n (LF ++ byL c 1) S0 0 hs0
    have et := apM_n (LF ++ byL c 1) M0 0 hm0
    rw [hN1, Nat.zero_add] at es et
    refine Ans_i (v := nI (LF.length + 1)) (u := nI (LF.length + 1)) (x' := w.2.2.1) (M' := apM M0 0 (LF ++ byL c 1)) (w1 := wS w 32 (apO S0 0 (LF ++ byL c 1))) hMd rfl rfl rfl rfl (wS_ne (by omega)) rfl ?_ ?_ ?_ rfl
    · have eV : ∀ q, q ≠ 36 → (wM (wS w 32 (apO S0 0 (LF ++ byL c 1))) (apM M0 0 (LF ++ byL c 1)) w.2.2.1).1 q = (wS w 32 (apO S0 0 (LF ++ byL c 1))).1 q := fun q hq => if_neg hq
      have e36 : (wM (wS w 32 (apO S0 0 (LF ++ byL c 1))) (apM M0 0 (LF ++ byL c 1)) w.2.2.1).1 36 = apM M0 0 (LF ++ byL c 1) := rfl
      obtain ⟨o, bb, o1, o2, o3, o4⟩ := I.2.2.2.2.1
      obtain ⟨⟨r1, r2⟩, ⟨r3, r4⟩, r5, r6⟩ := I.2.2.2.2.2
      have eM0' : ∀ j, j ≠ 0 → j ≠ 3 → M0 0 j = w.1 36 0 j := fun j hj h3 => by rw [hM0', s2_at, if_neg (by omega), eM0 j hj]
      refine Iv_oct I (fun q a _ => ?_) ?_ ?_ ?_ ?_ ⟨LF.length + 1, by omega, ?_, ?_, fun j hj => ?_⟩ ⟨o, bb, o1, ?_, ?_, fun j hj => ?_⟩ ⟨⟨?_, ?_⟩, ⟨?_, ?_⟩, ?_, ?_⟩
      · rw [eV q (by omega), wS_ne (by omega)]
      · rw [eV 35 (by omega), wS_ne (by omega)]
      · rw [e36, apM_o _ _ _ _ (by omega) (by omega), hM01 1 (by omega), eMj 1 (by omega)]
      · rw [e36, apM_o _ _ _ _ (by omega) (by omega), hM01 7 (by omega), eMj 7 (by omega)]
      · rw [e36, apM_o _ _ _ _ (by omega) (by omega), hM01 8 (by omega), eMj 8 (by omega)]
      · rw [eV 32 (by omega), wS_at]; exact es
      · rw [e36]; exact et
      · rw [eV 32 (by omega), wS_at, e36]; exact hrel _ j (by omega)
      · rw [eV 33 (by omega), wS_ne (by omega)]; exact o2
      · rw [e36, apM_0 _ _ _ _ (by omega), eM0' 4 (by omega) (by omega)]; exact o3
      · rw [eV 33 (by omega), wS_ne (by omega), e36, apM_o _ _ _ _ (by omega) (by omega), hM01 10 (by omega), eMj 10 (by omega)]; exact o4 j hj
      · rw [eV 34 (by omega), wS_ne (by omega), e36, apM_0 _ _ _ _ (by omega), eM0' 5 (by omega) (by omega)]; exact r1
      · rw [eV 34 (by omega), wS_ne (by omega), e36, apM_0 _ _ _ _ (by omega), eM0' 6 (by omega) (by omega)]; exact r2
      · rw [eV 35 (by omega), wS_ne (by omega), e36, apM_o _ _ _ _ (by omega) (by omega), hM01 11 (by omega), eMj 11 (by omega)]; exact r3
      · rw [eV 35 (by omega), wS_ne (by omega), e36, apM_o _ _ _ _ (by omega) (by omega), hM01 11 (by omega), eMj 11 (by omega)]; exact r4
      · rw [e36, apM_o _ _ _ _ (by omega) (by omega), hM01 11 (by omega), eMj 11 (by omega)]; exact r5
      · rw [e36, apM_o _ _ _ _ (by omega) (by omega), hM01 11 (by omega), eMj 11 (by omega)]; exact r6
    · have fin : hRun 149 74 [.ref 2, .int (nI p), .ref (bs p), .int (nI n)] [] (hW E (wS w 32 (apO S0 0 LF))) (some (.int (nI (LF.length + 1)))) (hW E (wS w 32 (apO S0 0 (LF ++ byL c 1)))) := by
        have e0 := apO_n LF S0 0 hs0
        rw [Nat.zero_add] at e0
        have e0' : (wS w 32 (apO S0 0 LF)).1 32 0 0 = nI LF.length := by rw [wS_at]; exact e0
        have ck := c_check (h := hW E (wS w 32 (apO S0 0 LF))) (b := 55) (N := LF.length) (n := LF.length) e0' (by omega) (Nat.le_refl _)
        rw [wS_at, ← hc] at ck
        have ck2 : hpG yO (hW E (wS w 32 (apO S0 0 LF))) 55 (apO S0 0 LF) = hpG yO (hW E (wS w 32 (apO S0 0 LF))) 55 ((wS w 32 (apO S0 0 LF)).1 32) := by rw [wS_at]
        rw [ck2] at ck
        refine r_step rfl rfl rfl ?_
        refine r_get rfl rfl rfl ?_
        refine r_step rfl rfl rfl ?_
        refine r_get rfl rfl rfl ?_
        refine r_step rfl rfl rfl ?_
        refine r_get rfl rfl rfl ?_
        refine r_getE rfl rfl rfl e0' ?_
        refine wO_call rfl rfl rfl rfl rfl ck ?_
        rw [wS_id]
        refine r_step rfl rfl rfl ?_
        refine wO_ap (n := 1) hs0 (by omega) (by omega) rfl ?_
        refine r_step rfl rfl rfl ?_
        refine r_get rfl rfl rfl ?_
        refine r_getE rfl rfl rfl (show (wS w 32 (apO S0 0 (LF ++ byL c 1))).1 32 0 0 = nI (LF.length + 1) by rw [wS_at]; exact es) ?_
        (refine r_rtE rfl rfl ?_ ?_ ?_ <;> rfl)
      have lp := write_loop (E := E) (w := w) (p := p) (n := n) (C := A.2.1) (S := S0) (LF := LF) (sv := nI p) (by omega) h24 hs0 hn (fun k hk => hS.2.1.2.2.1 k (by omega)) fin n 0 LH (by omega) hLl hLF.symm
      (repeat (first | refine r_fy rfl rfl rfl rfl ?_ | (refine r_rtE rfl rfl ?_ ?_ ?_ <;> rfl) | refine r_get rfl rfl rfl ?_ | refine wS_getE (by omega) rfl rfl (by with_reducible assumption) ?_ | refine wS_get (by omega) rfl rfl ?_ | refine r_brT rfl rfl (by with_reducible first | assumption | rfl | exact nz10 | exact nI_pos (by omega) | exact nI_lt (by omega) (by omega) | exact nI_nlt (by omega) (by omega) | exact nI_le (by omega) (by omega) | exact nI_ge (by omega) (by omega)) ?_ | refine r_brF rfl rfl (by with_reducible first | assumption | rfl | exact nz10 | exact nI_pos (by omega) | exact nI_lt (by omega) (by omega) | exact nI_nlt (by omega) (by omega) | exact nI_le (by omega) (by omega) | exact nI_ge (by omega) (by omega)) ?_ | refine wH_call rfl rfl rfl rfl rfl (x_standing_t (by with_reducible assumption) (by with_reducible assumption)) ?_ | refine wH_call rfl rfl rfl rfl rfl (x_standing_f (by with_reducible assumption)) ?_ | refine r_callS rfl rfl rfl rfl (p_isSummary (by with_reducible assumption)) ?_ | refine r_callS rfl rfl rfl rfl (p_isThing (by with_reducible assumption)) ?_ | refine r_callS rfl rfl rfl rfl (p_isRoom (by with_reducible assumption)) ?_ | refine r_callS rfl rfl rfl rfl (p_isTop (by with_reducible assumption)) ?_ | refine r_callS rfl rfl rfl rfl (p_isWeight (by with_reducible assumption)) ?_ | refine r_callS rfl rfl rfl rfl (p_isShare (by with_reducible assumption)) ?_ | refine r_callS rfl rfl rfl rfl (p_isWindow (by with_reducible assumption)) ?_ | refine r_callS rfl rfl rfl rfl (p_isImage (by with_reducible assumption)) ?_ | refine r_tswd rfl (by with_reducible assumption) ?_ | refine wS_ild (by omega) rfl rfl (by first | assumption | omega | (simp only [lS]; omega)) ?_)); try dsimp only
      refine wO_set rfl ?_
      rw [← hS0]
      change hRun 149 _ _ _ (hW E (wS w 32 (apO S0 0 []))) _ _
      refine r_step rfl rfl rfl ?_
      refine r_get rfl rfl rfl ?_
      refine r_step rfl rfl rfl ?_
      refine wS_getE (q := p) (by omega) rfl rfl ((g _ _ _).trans s1') ?_
      refine r_step rfl rfl rfl ?_
      refine wO_ap (n := 1) hs0 (by omega) (by first | omega | (simp only [List.length_append, byL_len, List.length_nil, List.length_cons]; omega)) rfl ?_
      refine r_step rfl rfl rfl ?_
      refine r_get rfl rfl rfl ?_
      refine r_step rfl rfl rfl ?_
      refine wS_getE (q := p) (by omega) rfl rfl ((g _ _ _).trans hn) ?_
      refine r_step rfl rfl rfl ?_
      refine wO_ap (n := 1) hs0 (by omega) (by first | omega | (simp only [List.length_append, byL_len, List.length_nil, List.length_cons]; omega)) rfl ?_
      refine r_step rfl rfl rfl ?_
      refine r_get rfl rfl rfl ?_
      refine r_step rfl rfl rfl ?_
      refine wS_getE (q := p) (by omega) rfl rfl ((g _ _ _).trans s2') ?_
      refine r_step rfl rfl rfl ?_
      refine wO_ap (n := 4) hs0 (by omega) (by first | omega | (simp only [List.length_append, byL_len, List.length_nil, List.length_cons]; omega)) rfl ?_
      refine r_step rfl rfl rfl ?_
      refine r_get rfl rfl rfl ?_
      refine r_step rfl rfl rfl ?_
      refine wS_getE (q := p) (by omega) rfl rfl ((g _ _ _).trans s3') ?_
      refine r_step rfl rfl rfl ?_
      refine wO_ap (n := 4) hs0 (by omega) (by first | omega | (simp only [List.length_append, byL_len, List.length_nil, List.length_cons]; omega)) rfl ?_
      refine r_step rfl rfl rfl ?_
      refine r_get rfl rfl rfl ?_
      refine r_step rfl rfl rfl ?_
      refine wS_getE (q := p) (by omega) rfl rfl ((g _ _ _).trans s4') ?_
      refine r_step rfl rfl rfl ?_
      refine wO_ap (n := 4) hs0 (by omega) (by first | omega | (simp only [List.length_append, byL_len, List.length_nil, List.length_cons]; omega)) rfl ?_
      rw [← hLH]
      refine r_step rfl rfl rfl ?_
      refine r_step rfl rfl rfl ?_
      exact lp
    · have fin : hRun 262 91 [.ref 281, .int (nI p), .int (nI (1148 * p)), .int (nI n), hU] [] (hpM (hW E (wS w 32 (apO S0 0 (LF ++ byL c 1)))) 281 (apM M0 0 LF) w.2.2.1) (some (.int (nI (LF.length + 1)))) (hpM (hW E (wS w 32 (apO S0 0 (LF ++ byL c 1)))) 281 (apM M0 0 (LF ++ byL c 1)) w.2.2.1) := by
        have e0 := apM_n LF M0 0 hm0
        rw [Nat.zero_add] at e0
        refine r_step rfl rfl rfl ?_
        refine r_step rfl rfl rfl ?_
        refine r_step rfl rfl rfl ?_
        refine r_step rfl rfl rfl ?_
        refine kcheck_loop (n := LF.length) (by omega) e0 ?_ LF.length 0 7 (by omega) hcM
        (repeat (first | refine r_fw rfl rfl rfl rfl ?_ | refine rM_get rfl rfl ?_)); try dsimp only
        try simp only [na0, na1, na2, na3, na4, na5, na6, na7, na8, na16, na88, na148, nm3, nI_add]
        refine rM_call rfl rfl rfl rfl rfl (m_o1a hm0 (by omega) (by_and0 c)) ?_
        refine r_step rfl rfl rfl ?_
        refine rM_getE rfl rfl et ?_
        (refine r_rtE rfl rfl ?_ ?_ ?_ <;> rfl)
      have lp := kwrite_loop (h := hW E (wS w 32 (apO S0 0 (LF ++ byL c 1)))) (x := w.2.2.1) (M := M0) (n := n) (B := 1148 * p) (C := A.2.1) (LF := LF) (sv := nI p) (z4 := hU) h24 hBp hm0 (by rw [hM01 1 (by omega)]; exact hm) (fun k hk => by rw [hM01 1 (by omega)]; exact RM_k hM (by omega)) fin n 0 LH (by omega) hLl hLF.symm
      (repeat (first | refine r_fy rfl rfl rfl rfl ?_ | (refine r_rtE rfl rfl ?_ ?_ ?_ <;> rfl) | refine rM_get rfl rfl ?_ | refine r_brT rfl rfl (by with_reducible first | assumption | rfl | exact nz10 | exact nI_pos (by omega) | exact nI_lt (by omega) (by omega) | exact nI_nlt (by omega) (by omega) | exact nI_le (by omega) (by omega) | exact nI_ge (by omega) (by omega)) ?_ | refine r_brF rfl rfl (by with_reducible first | assumption | rfl | exact nz10 | exact nI_pos (by omega) | exact nI_lt (by omega) (by omega) | exact nI_nlt (by omega) (by omega) | exact nI_le (by omega) (by omega) | exact nI_ge (by omega) (by omega)) ?_ | refine rM_call rfl rfl rfl rfl rfl (k_isThere_t (by with_reducible assumption) (by with_reducible assumption)) ?_ | refine rM_call rfl rfl rfl rfl rfl (k_isThere_f (by with_reducible assumption)) ?_ | refine rM_call rfl rfl rfl rfl rfl (m_manyE (by omega) (by with_reducible assumption)) ?_ | refine rM_call rfl rfl rfl rfl rfl (q_isSummary (by with_reducible assumption)) ?_ | (refine r_callS rfl rfl rfl rfl (m_bank _) ?_; rw [nm1148]) | refine r_callS rfl rfl rfl rfl (q_isThing (by with_reducible assumption)) ?_ | refine r_callS rfl rfl rfl rfl (q_isTop (by with_reducible assumption)) ?_ | refine r_callS rfl rfl rfl rfl (q_isPart (by with_reducible assumption)) ?_ | refine r_callS rfl rfl rfl rfl (q_isIn (by with_reducible assumption) (by decide) (by first | exact lx_m1 (by omega) | decide)) ?_ | refine r_tswd rfl (by with_reducible assumption) ?_ | (simp only [Option.toList, List.drop, List.cons_append, List.nil_append, na0, na1, na2, na3, na4, na5, na6, na7, na8, na16, na88, na148, nm3, nI_add]; refine rM_ildE (j := 1) rfl rfl (show _ < 35588 by omega) (by with_reducible assumption) ?_) | (simp only [Option.toList, List.drop, List.cons_append, List.nil_append, na0, na1, na2, na3, na4, na5, na6, na7, na8, na16, na88, na148, nm3, nI_add]; refine rM_ild (j := 1) rfl rfl (show _ < 35588 by omega) ?_))); try simp only [Option.toList, List.drop, List.cons_append, List.nil_append, na0, na1, na2, na3, na4, na5, na6, na7, na8, na16, na88, na148, nm3, nI_add]
      refine rM_set rfl rfl ?_
      change hRun 262 _ _ _ (hpM _ 281 (s2 M 0 3 0) _) _ _
      rw [← hM0']
      change hRun 262 _ _ _ (hpM _ 281 (apM M0 0 []) _) _ _
      (repeat (first | refine r_fw rfl rfl rfl rfl ?_ | refine rM_get rfl rfl ?_)); try dsimp only
      try simp only [na0, na1, na2, na3, na4, na5, na6, na7, na8, na16, na88, na148, nm3, nI_add]
      refine rM_ildE (j := 1) rfl rfl (show 1148 * p + 1 < 35588 by omega) ((congrFun (k _) _).trans m1') ?_
      refine rM_call rfl rfl rfl rfl rfl (m_o1a hm0 (by first | omega | (simp only [List.length_append, byL_len, List.length_nil, List.length_cons]; omega)) (by_and0 _)) ?_
      change hRun 262 _ _ _ (hpM _ 281 (apM M0 0 ([] ++ byL (nI (A.1 1)) 1)) _) _ _
      (repeat (first | refine r_fw rfl rfl rfl rfl ?_ | refine rM_get rfl rfl ?_)); try dsimp only
      try simp only [na0, na1, na2, na3, na4, na5, na6, na7, na8, na16, na88, na148, nm3, nI_add]
      refine rM_call rfl rfl rfl rfl rfl (m_manyE hBp ((congrFun (k _) _).trans hm)) ?_
      refine rM_call rfl rfl rfl rfl rfl (m_o1a hm0 (by first | omega | (simp only [List.length_append, byL_len, List.length_nil, List.length_cons]; omega)) (by_and0 _)) ?_
      change hRun 262 _ _ _ (hpM _ 281 (apM M0 0 (([] ++ byL (nI (A.1 1)) 1) ++ byL (nI n) 1)) _) _ _
      (repeat (first | refine r_fw rfl rfl rfl rfl ?_ | refine rM_get rfl rfl ?_)); try dsimp only
      try simp only [na0, na1, na2, na3, na4, na5, na6, na7, na8, na16, na88, na148, nm3, nI_add]
      refine rM_ildE (j := 1) rfl rfl (show 1148 * p + 3 < 35588 by omega) ((congrFun (k _) _).trans m2') ?_
      refine rM_call rfl rfl rfl rfl rfl (m_o4a hm0 (by first | omega | (simp only [List.length_append, byL_len, List.length_nil, List.length_cons]; omega))) ?_
      (repeat (first | refine r_fw rfl rfl rfl rfl ?_ | refine rM_get rfl rfl ?_)); try dsimp only
      try simp only [na0, na1, na2, na3, na4, na5, na6, na7, na8, na16, na88, na148, nm3, nI_add]
      refine rM_ildE (j := 1) rfl rfl (show 1148 * p + 4 < 35588 by omega) ((congrFun (k _) _).trans m3') ?_
      refine rM_call rfl rfl rfl rfl rfl (m_o4a hm0 (by first | omega | (simp only [List.length_append, byL_len, List.length_nil, List.length_cons]; omega))) ?_
      (repeat (first | refine r_fw rfl rfl rfl rfl ?_ | refine rM_get rfl rfl ?_)); try dsimp only
      try simp only [na0, na1, na2, na3, na4, na5, na6, na7, na8, na16, na88, na148, nm3, nI_add]
      refine rM_ildE (j := 1) rfl rfl (show 1148 * p + 5 < 35588 by omega) ((congrFun (k _) _).trans m4') ?_
      refine rM_call rfl rfl rfl rfl rfl (m_o4a hm0 (by first | omega | (simp only [List.length_append, byL_len, List.length_nil, List.length_cons]; omega))) ?_
      rw [← hLH]
      refine r_step rfl rfl rfl ?_
      refine r_step rfl rfl rfl ?_
      exact lp
  · refine Ans_3 (v := -2) (u := -2) hMd I rfl rfl rfl rfl ?_ ?_ rfl
    · (repeat (first | refine r_fy rfl rfl rfl rfl ?_ | (refine r_rtE rfl rfl ?_ ?_ ?_ <;> rfl) | refine r_get rfl rfl rfl ?_ | refine wS_getE (by omega) rfl rfl (by with_reducible assumption) ?_ | refine wS_get (by omega) rfl rfl ?_ | refine r_brT rfl rfl (by with_reducible first | assumption | rfl | exact nz10 | exact nI_pos (by omega) | exact nI_lt (by omega) (by omega) | exact nI_nlt (by omega) (by omega) | exact nI_le (by omega) (by omega) | exact nI_ge (by omega) (by omega)) ?_ | refine r_brF rfl rfl (by with_reducible first | assumption | rfl | exact nz10 | exact nI_pos (by omega) | exact nI_lt (by omega) (by omega) | exact nI_nlt (by omega) (by omega) | exact nI_le (by omega) (by omega) | exact nI_ge (by omega) (by omega)) ?_ | refine wH_call rfl rfl rfl rfl rfl (x_standing_t (by with_reducible assumption) (by with_reducible assumption)) ?_ | refine wH_call rfl rfl rfl rfl rfl (x_standing_f (by with_reducible assumption)) ?_ | refine r_callS rfl rfl rfl rfl (p_isSummary (by with_reducible assumption)) ?_ | refine r_callS rfl rfl rfl rfl (p_isThing (by with_reducible assumption)) ?_ | refine r_callS rfl rfl rfl rfl (p_isRoom (by with_reducible assumption)) ?_ | refine r_callS rfl rfl rfl rfl (p_isTop (by with_reducible assumption)) ?_ | refine r_callS rfl rfl rfl rfl (p_isWeight (by with_reducible assumption)) ?_ | refine r_callS rfl rfl rfl rfl (p_isShare (by with_reducible assumption)) ?_ | refine r_callS rfl rfl rfl rfl (p_isWindow (by with_reducible assumption)) ?_ | refine r_callS rfl rfl rfl rfl (p_isImage (by with_reducible assumption)) ?_ | refine r_tswd rfl (by with_reducible assumption) ?_ | refine wS_ild (by omega) rfl rfl (by first | assumption | omega | (simp only [lS]; omega)) ?_)); try dsimp only
    · (repeat (first | refine r_fy rfl rfl rfl rfl ?_ | (refine r_rtE rfl rfl ?_ ?_ ?_ <;> rfl) | refine rM_get rfl rfl ?_ | refine r_brT rfl rfl (by with_reducible first | assumption | rfl | exact nz10 | exact nI_pos (by omega) | exact nI_lt (by omega) (by omega) | exact nI_nlt (by omega) (by omega) | exact nI_le (by omega) (by omega) | exact nI_ge (by omega) (by omega)) ?_ | refine r_brF rfl rfl (by with_reducible first | assumption | rfl | exact nz10 | exact nI_pos (by omega) | exact nI_lt (by omega) (by omega) | exact nI_nlt (by omega) (by omega) | exact nI_le (by omega) (by omega) | exact nI_ge (by omega) (by omega)) ?_ | refine rM_call rfl rfl rfl rfl rfl (k_isThere_t (by with_reducible assumption) (by with_reducible assumption)) ?_ | refine rM_call rfl rfl rfl rfl rfl (k_isThere_f (by with_reducible assumption)) ?_ | refine rM_call rfl rfl rfl rfl rfl (m_manyE (by omega) (by with_reducible assumption)) ?_ | refine rM_call rfl rfl rfl rfl rfl (q_isSummary (by with_reducible assumption)) ?_ | (refine r_callS rfl rfl rfl rfl (m_bank _) ?_; rw [nm1148]) | refine r_callS rfl rfl rfl rfl (q_isThing (by with_reducible assumption)) ?_ | refine r_callS rfl rfl rfl rfl (q_isTop (by with_reducible assumption)) ?_ | refine r_callS rfl rfl rfl rfl (q_isPart (by with_reducible assumption)) ?_ | refine r_callS rfl rfl rfl rfl (q_isIn (by with_reducible assumption) (by decide) (by first | exact lx_m1 (by omega) | decide)) ?_ | refine r_tswd rfl (by with_reducible assumption) ?_ | (simp only [Option.toList, List.drop, List.cons_append, List.nil_append, na0, na1, na2, na3, na4, na5, na6, na7, na8, na16, na88, na148, nm3, nI_add]; refine rM_ildE (j := 1) rfl rfl (show _ < 35588 by omega) (by with_reducible assumption) ?_) | (simp only [Option.toList, List.drop, List.cons_append, List.nil_append, na0, na1, na2, na3, na4, na5, na6, na7, na8, na16, na88, na148, nm3, nI_add]; refine rM_ild (j := 1) rfl rfl (show _ < 35588 by omega) ?_))); try simp only [Option.toList, List.drop, List.cons_append, List.nil_append, na0, na1, na2, na3, na4, na5, na6, na7, na8, na16, na88, na148, nm3, nI_add]
end CE2
