/-! read: the counters of the reference -/
theorem RM_tr {A : aS} {v : Nat → Int32} {B t l : Nat} (h : RM A v B) (h24 : A.2.1.length ≤ 24) (h20 : A.2.2.2.length ≤ 20) : RM (A.1, A.2.1, uN A.2.2.1 t l, A.2.2.2) (upd v (B + 148 + t) (nI l)) B := by
  obtain ⟨h0, h1, h2, h3, h4, h5⟩ := RM_to h
  have m : ∀ j, 1 ≤ j → j ≤ 7 → j ≠ 5 → mj j < 148 := by
    intro j a b c
    have : j = 1 ∨ j = 2 ∨ j = 3 ∨ j = 4 ∨ j = 6 ∨ j = 7 := by omega
    rcases this with rfl | rfl | rfl | rfl | rfl | rfl <;> decide
  refine RM_of ?_ (fun i a b c => ?_) ?_ (fun p hp => ?_) (fun s hs => ?_) ⟨?_, fun k hk => ?_⟩
  · rw [pk_un (by omega)]; exact h0
  · have := m i a b c
    rw [pk_un (by omega)]; exact h1 i a b c
  · rw [pk_un (by omega)]; exact h2
  · have hp : p < A.2.1.length := hp
    rw [pk_un (by omega), pk_un (by omega), pk_un (by omega)]; exact h3 p hp
  · show upd v (B + 148 + t) (nI l) (B + 148 + s) = nI (uN A.2.2.1 t l s)
    rw [uN_at]
    unfold upd
    by_cases e : s = t
    · rw [if_pos (by omega), if_pos e]
    · rw [if_neg (by omega), if_neg e]; exact h4 s hs
  · rw [pk_un (by omega)]; exact h5.1
  · have hk : k < A.2.2.2.length := hk
    rw [pk_un (by omega), pk_un (by omega), pk_un (by omega)]; exact h5.2 k hk
theorem RS_tr {A : aS} {S : hT2} {t l : Nat} (h : RS A S) : RS (A.1, A.2.1, uN A.2.2.1 t l, A.2.2.2) (s1 S 4 (upd (S 4) t (nI l))) := by
  obtain ⟨h0, ⟨h1, h2, h3, h4⟩, h5⟩ := h
  refine ⟨?_, ⟨fun i a b c => ?_, ?_, ?_, fun s hs => ?_⟩, fun k hk => ?_⟩
  · rw [s1_row, if_neg (by omega)]; exact h0
  · rw [s1_row, if_neg (by omega)]; exact h1 i a b c
  · rw [s1_row, if_neg (by omega)]; exact h2
  · exact Rc_cong h3 (fun r p r1 r2 _ => by rw [s1_row, if_neg (by omega)])
  · rw [s1_at]
    show upd (S 4) t (nI l) s = nI (uN A.2.2.1 t l s)
    rw [uN_at]
    unfold upd
    by_cases e : s = t
    · rw [if_pos e, if_pos e]
    · rw [if_neg e, if_neg e]; exact h4 s hs
  · rw [s1_row, if_neg (by omega), s1_row, if_neg (by omega), s1_row, if_neg (by omega)]
    exact h5 k hk
theorem lw_fo {A : aS} {S : hT2} (h : Rp A S) : fo (fun p a => a + S 3 p) A.2.1.length 0 0 = nI (lwS A.2.1) := by
  have := fo_ad (C := A.2.1) (g := fun c => c.2.2) (f := fun p a => a + S 3 p) ?_ A.2.1.length 0 0 (by omega)
  · rw [List.drop_zero, Nat.zero_add] at this
    exact this
  · intro q hq x
    try dsimp only
    rw [(h.2.2.1 q hq).2.2, nI_add]
section RKC
variable {h : hH} {M : hT2} {x : Int64} {N : Nat} {F : Nat → Int32} {r : Option Value} {h' : hH} {k tt : Nat} {D : List aK} {U : Nat → Nat} {NN : Nat → Nat}
/-- what is known while counters are read -/
def Kn (M : hT2) (N : Nat) (F : Nat → Int32) (tt k : Nat) (D : List aK) (U NN : Nat → Nat) : Prop := TpM M N F ∧ RM (NN, D, U, []) (M 1) 34440 ∧ NN 2 = tt ∧ tt ≤ 1000000000 ∧ IR F tt k D U ∧ k < 24 ∧ 24 + 10 * k < N
theorem Kn_r {M M' : hT2} (hK : Kn M N F tt k D U NN) (e1 : M' 1 = M 1) (e10 : M' 10 = M 10) : Kn M' N F tt k D U NN := by
  obtain ⟨a, b, c⟩ := hK
  exact ⟨TpM_r a e10, by rw [e1]; exact b, c⟩
theorem one_5 (hK : Kn M N F tt k D U NN) (K : hRun 274 41 [.ref 281, .int (nI (14 + 10 * k)), .int (rT F k), .int (rC F k), .int (rL F k), .int (nI k)] [] (hpM h 281 (if rgI (rT F k) 0 999 = 0 ∨ fiA D (cN (rT F k)) < D.length then mfl M 5 (nI (14 + 10 * k)) else M) x) r h') : hRun 274 0 [.ref 281, .int (nI (14 + 10 * k)), hU, hU, hU, hU] [] (hpM h 281 M x) r h' := by
  obtain ⟨hT, hM, hN2, htt, hI, hk, hN⟩ := hK
  have hlen : D.length = k := hI.1
  have hm : M 1 (34440 + 2) = nI k := by rw [← hlen]; exact hM.2.1.2.1
  refine r_step rfl rfl rfl ?_
  refine r_step rfl rfl rfl ?_
  refine rM_call rfl rfl rfl rfl rfl (k_byte (p := 14 + 10 * k) hT (by omega)) ?_
  refine r_step rfl rfl rfl ?_
  refine r_step rfl rfl rfl ?_
  refine r_step rfl rfl rfl ?_
  refine r_step rfl rfl rfl ?_
  refine r_step rfl rfl rfl ?_
  refine r_step rfl rfl rfl ?_
  try dsimp only
  rw [nI_1]
  refine rM_call rfl rfl rfl rfl rfl (k_byte (p := 14 + 10 * k + 1) hT (by omega)) ?_
  refine r_step rfl rfl rfl ?_
  try dsimp only
  rw [show (F (14 + 10 * k) <<< (8 &&& 31)) ||| F (14 + 10 * k + 1) = rT F k from (nu2 F _).symm]
  refine r_step rfl rfl rfl ?_
  refine r_step rfl rfl rfl ?_
  refine r_step rfl rfl rfl ?_
  refine r_step rfl rfl rfl ?_
  refine r_step rfl rfl rfl ?_
  try dsimp only
  rw [na2]
  refine rM_call rfl rfl rfl rfl rfl (k_four (p := 14 + 10 * k + 2) hT (by omega)) ?_
  rw [show nuF F (14 + 10 * k + 2) 4 0 = rC F k from rfl]
  refine r_step rfl rfl rfl ?_
  refine r_step rfl rfl rfl ?_
  refine r_step rfl rfl rfl ?_
  refine r_step rfl rfl rfl ?_
  refine r_step rfl rfl rfl ?_
  try dsimp only
  rw [na6]
  refine rM_call rfl rfl rfl rfl rfl (k_four (p := 14 + 10 * k + 6) hT (by omega)) ?_
  rw [show nuF F (14 + 10 * k + 6) 4 0 = rL F k from rfl]
  refine r_step rfl rfl rfl ?_
  refine r_step rfl rfl rfl ?_
  refine r_step rfl rfl rfl ?_
  refine rM_call rfl rfl rfl rfl rfl (m_manyE (B := 34440) (by omega) hm) ?_
  refine r_step rfl rfl rfl ?_
  refine r_step rfl rfl rfl ?_
  refine r_callS rfl rfl rfl rfl (k_isThing _) ?_
  by_cases q : rgI (rT F k) 0 999 = 0
  · rw [if_pos (Or.inl q)] at K
    refine r_brT rfl rfl ?_ ?_
    · exact q
    refine r_step rfl rfl rfl ?_
    refine r_step rfl rfl rfl ?_
    refine r_step rfl rfl rfl ?_
    refine rM_call rfl rfl rfl rfl rfl (k_fail _ _) ?_
    exact K
  · obtain ⟨t, et, -, ht⟩ := rg_1 (lo := 0) (hi := 999) ((rg_01 (rT F k) 0 999).resolve_left q)
    have kt : cN (rT F k) = t := by unfold cN; rw [et, nI_clamp (by omega)]
    have pm := m_placeOf (h := h) (b := 281) (M := M) (x := x) (B := 34440) (nI t) hM.2.1.2.1 (by show D.length ≤ 24; omega) (by omega)
    refine r_brF rfl rfl ?_ ?_
    · exact q
    refine r_step rfl rfl rfl ?_
    refine r_step rfl rfl rfl ?_
    refine r_step rfl rfl rfl ?_
    rw [et]
    refine rM_call rfl rfl rfl rfl rfl pm ?_
    refine r_step rfl rfl rfl ?_
    rw [kt] at K
    rcases fn_A (t := t) hM.2.1.2.2.1 (fun c hc => (hI.2.1.1 c hc).1) (by omega) (by show D.length ≤ 24; omega) with ⟨a1, a2⟩ | ⟨a1, a2⟩
    · rw [if_pos (Or.inr a1)] at K
      rw [show fnF (fun q => M 1 (34440 + 16 + 3 * q)) (nI t) (List.length (NN, D, U, ([] : List aK)).2.1) 0 = nI (fiA D t) from a2]
      have : fiA D t < D.length := a1
      refine r_brF rfl rfl ?_ ?_
      · exact nI_m1 (by omega)
      refine r_step rfl rfl rfl ?_
      refine r_step rfl rfl rfl ?_
      refine r_step rfl rfl rfl ?_
      refine rM_call rfl rfl rfl rfl rfl (k_fail _ _) ?_
      rw [← et]
      exact K
    · rw [if_neg (fun z => by
        rcases z with z | z
        · exact q z
        · have : fiA D t = D.length := a1
          omega)] at K
      rw [show fnF (fun q => M 1 (34440 + 16 + 3 * q)) (nI t) (List.length (NN, D, U, ([] : List aK)).2.1) 0 = -1 from a2]
      refine r_brT rfl rfl ?_ ?_
      · rfl
      rw [← et]
      exact K
theorem one_6 {t : Int32} (hK : Kn M N F tt k D U NN) (K : hRun 274 65 [.ref 281, .int (nI (14 + 10 * k)), .int t, .int (rC F k), .int (rL F k), .int (nI k)] [] (hpM h 281 (if rC F k < nI (ahD D) ∨ nI tt < rC F k then mfl M 6 (nI (14 + 10 * k)) else M) x) r h') : hRun 274 41 [.ref 281, .int (nI (14 + 10 * k)), .int t, .int (rC F k), .int (rL F k), .int (nI k)] [] (hpM h 281 M x) r h' := by
  obtain ⟨hT, hM, hN2, htt, hI, hk, hN⟩ := hK
  have hlen : D.length = k := hI.1
  have ha1 := ahD_1 hI.2.1
  have hab := ahD_b hI.2.1 htt
  have m3 : M 1 34443 = nI tt := by rw [← hN2]; exact hM.2.1.1 2 (by omega) (by omega) (by omega)
  refine r_step rfl rfl rfl ?_
  refine r_step rfl rfl rfl ?_
  by_cases z1 : rC F k < 1
  · have z : rC F k < nI (ahD D) := by
      rw [Int32.lt_iff_toInt_lt] at z1 ⊢
      rw [nI_toInt (by omega)]
      have : (1 : Int32).toInt = 1 := by decide
      omega
    rw [if_pos (Or.inl z)] at K
    refine r_brT rfl rfl ?_ ?_
    · exact z1
    refine r_step rfl rfl rfl ?_
    refine r_step rfl rfl rfl ?_
    refine r_step rfl rfl rfl ?_
    refine rM_call rfl rfl rfl rfl rfl (k_fail _ _) ?_
    exact K
  refine r_brF rfl rfl ?_ ?_
  · exact z1
  refine r_step rfl rfl rfl ?_
  refine r_step rfl rfl rfl ?_
  refine rM_get rfl rfl ?_
  refine r_step rfl rfl rfl ?_
  refine rM_ildE (j := 1) (p := 34443) rfl rfl (by decide) m3 ?_
  by_cases z2 : nI tt < rC F k
  · rw [if_pos (Or.inr z2)] at K
    refine r_brT rfl rfl ?_ ?_
    · exact z2
    refine r_step rfl rfl rfl ?_
    refine r_step rfl rfl rfl ?_
    refine r_step rfl rfl rfl ?_
    refine rM_call rfl rfl rfl rfl rfl (k_fail _ _) ?_
    exact K
  refine r_brF rfl rfl ?_ ?_
  · exact z2
  refine r_step rfl rfl rfl ?_
  by_cases z3 : k = 0
  · have e : ahD D = 1 := if_pos (by omega)
    rw [if_neg (fun z => by
      rcases z with z | z
      · rw [e] at z
        exact z1 z
      · exact z2 z)] at K
    refine r_brT rfl rfl ?_ ?_
    · rw [z3]; decide
    exact K
  · have e : ahD D = (gC D (k - 1)).2.1 := by
      unfold ahD
      rw [if_neg (by omega), hlen]
    have r2 := (RM_k hM (i := k - 1) (show k - 1 < D.length by omega)).2.1
    rw [show (gC (NN, D, U, ([] : List aK)).2.1 (k - 1)).2.1 = ahD D from e.symm] at r2
    refine r_brF rfl rfl ?_ ?_
    · exact nle (a := 0) (by omega) (by omega)
    refine r_step rfl rfl rfl ?_
    refine r_step rfl rfl rfl ?_
    refine r_step rfl rfl rfl ?_
    refine r_step rfl rfl rfl ?_
    refine r_step rfl rfl rfl ?_
    refine r_step rfl rfl rfl ?_
    try dsimp only
    rw [show nI k - 1 = nI (k - 1) from pk_sub (b := 1) (by omega)]
    refine r_step rfl rfl rfl ?_
    refine rM_call rfl rfl rfl rfl rfl (m_ofE (B := 34440) (i := k - 1) (u := 1) (by omega) (by omega) (by omega) r2) ?_
    by_cases z4 : nI (ahD D) ≤ rC F k
    · rw [if_neg (fun z => by
        rcases z with z | z
        · exact Int32.not_lt.mpr z4 z
        · exact z2 z)] at K
      refine r_brT rfl rfl ?_ ?_
      · exact z4
      exact K
    · rw [if_pos (Or.inl (Int32.not_le.mp z4))] at K
      refine r_brF rfl rfl ?_ ?_
      · exact z4
      refine r_step rfl rfl rfl ?_
      refine r_step rfl rfl rfl ?_
      refine r_step rfl rfl rfl ?_
      refine rM_call rfl rfl rfl rfl rfl (k_fail _ _) ?_
      exact K
theorem one_7 {a t i : Int32} (K : hRun 274 76 [.ref 281, .int a, .int t, .int (rC F k), .int (rL F k), .int i] [] (hpM h 281 (if rgI (rL F k) 0 (rC F k).toInt = 0 then mfl M 7 a else M) x) r h') : hRun 274 65 [.ref 281, .int a, .int t, .int (rC F k), .int (rL F k), .int i] [] (hpM h 281 M x) r h' := by
  refine r_step rfl rfl rfl ?_
  refine r_step rfl rfl rfl ?_
  refine r_step rfl rfl rfl ?_
  refine r_step rfl rfl rfl ?_
  refine r_step rfl rfl rfl ?_
  refine r_callS rfl rfl rfl rfl (k_isIn _ _ _ (lo := 0) (hi := (rC F k).toInt) (by decide) (Int32.toInt_toInt64 _)) ?_
  by_cases q : rgI (rL F k) 0 (rC F k).toInt = 0
  · rw [if_pos q] at K
    refine r_brT rfl rfl ?_ ?_
    · exact q
    refine r_step rfl rfl rfl ?_
    refine r_step rfl rfl rfl ?_
    refine r_step rfl rfl rfl ?_
    refine rM_call rfl rfl rfl rfl rfl (k_fail _ _) ?_
    exact K
  · rw [if_neg q] at K
    refine r_brF rfl rfl ?_ ?_
    · exact q
    exact K
theorem one_8 {a t c i : Int32} (hK : Kn M N F tt k D U NN) (K : hRun 274 94 [.ref 281, .int a, .int t, .int c, .int (rL F k), .int i] [] (hpM h 281 (if (nI tt).toInt64 < (nI (lwS D)).toInt64 + (rL F k).toInt64 then mfl M 8 a else M) x) r h') : hRun 274 76 [.ref 281, .int a, .int t, .int c, .int (rL F k), .int i] [] (hpM h 281 M x) r h' := by
  obtain ⟨hT, hM, hN2, htt, hI, hk, hN⟩ := hK
  have hlen : D.length = k := hI.1
  have m3 : M 1 34443 = nI tt := by rw [← hN2]; exact hM.2.1.1 2 (by omega) (by omega) (by omega)
  have ml := m_lows (h := h) (b := 281) (M := M) (x := x) (B := 34440) hM.2.1.2.1 (by show D.length ≤ 24; omega) (by omega)
  rw [lw_fo hM.2.1] at ml
  refine r_step rfl rfl rfl ?_
  refine r_step rfl rfl rfl ?_
  refine rM_call rfl rfl rfl rfl rfl ml ?_
  refine r_step rfl rfl rfl ?_
  refine r_step rfl rfl rfl ?_
  refine r_step rfl rfl rfl ?_
  refine r_step rfl rfl rfl ?_
  refine r_step rfl rfl rfl ?_
  refine rM_get rfl rfl ?_
  refine r_step rfl rfl rfl ?_
  refine rM_ildE (j := 1) (p := 34443) rfl rfl (by decide) m3 ?_
  refine r_step rfl rfl rfl ?_
  refine r_step rfl rfl rfl ?_
  by_cases q : (nI tt).toInt64 < (nI (lwS D)).toInt64 + (rL F k).toInt64
  · rw [if_pos q] at K
    refine r_brF rfl rfl ?_ ?_
    · exact Int32.not_le.mpr (lcmp_gt.mpr q)
    refine r_step rfl rfl rfl ?_
    refine r_step rfl rfl rfl ?_
    refine r_step rfl rfl rfl ?_
    refine rM_call rfl rfl rfl rfl rfl (k_fail _ _) ?_
    exact K
  · rw [if_neg q] at K
    refine r_brT rfl rfl ?_ ?_
    · exact Int32.not_lt.mp (fun z => q (lcmp_gt.mp z))
    exact K
/-- one counter read -/
theorem k_one (hK : Kn M N F tt k D U NN) (h0 : M 0 5 = 0) : ∃ v, hRun 274 0 [.ref 281, .int (nI (14 + 10 * k)), hU, hU, hU, hU] [] (hpM h 281 M x) none (hpM h 281 (if rdK F tt k D = 0 then s1 M 1 v else mF M (rdK F tt k D) (nI (14 + 10 * k))) x) ∧ (∀ i, Ot 34440 i → v i = M 1 i) ∧ (rdK F tt k D = 0 → RM (NN, rdN F k D, uN U (cN (rT F k)) (cN (rL F k)), []) v 34440) := by
  have g : ∀ (P : Prop) [Decidable P] (X : hT2) (a b : Int32), X 1 = M 1 ∧ X 10 = M 10 → (if P then mfl X a b else X) 1 = M 1 ∧ (if P then mfl X a b else X) 10 = M 10 := by
    intro P _ X a b e
    split
    · rw [mfl_row _ _ _ (by omega), mfl_row _ _ _ (by omega)]
      exact e
    · exact e
  have s : ∀ (P : Prop) [Decidable P] (X : hT2) (a b : Int32), ¬ X 0 5 = 0 → (if P then mfl X a b else X) = X := by
    intro P _ X a b e
    split
    · exact mfl_n e
    · rfl
  have n5 : ∀ a b : Int32, ¬ a = 0 → ¬ (mF M a b) 0 5 = 0 := fun a b h => by rw [mF_5]; exact h
  have e1 := g (rgI (rT F k) 0 999 = 0 ∨ fiA D (cN (rT F k)) < D.length) M 5 (nI (14 + 10 * k)) ⟨rfl, rfl⟩
  have e2 := g (rC F k < nI (ahD D) ∨ nI tt < rC F k) _ 6 (nI (14 + 10 * k)) e1
  have e3 := g (rgI (rL F k) 0 (rC F k).toInt = 0) _ 7 (nI (14 + 10 * k)) e2
  have pre : ∀ X, (if (nI tt).toInt64 < (nI (lwS D)).toInt64 + (rL F k).toInt64 then mfl (if rgI (rL F k) 0 (rC F k).toInt = 0 then mfl (if rC F k < nI (ahD D) ∨ nI tt < rC F k then mfl (if rgI (rT F k) 0 999 = 0 ∨ fiA D (cN (rT F k)) < D.length then mfl M 5 (nI (14 + 10 * k)) else M) 6 (nI (14 + 10 * k)) else (if rgI (rT F k) 0 999 = 0 ∨ fiA D (cN (rT F k)) < D.length then mfl M 5 (nI (14 + 10 * k)) else M)) 7 (nI (14 + 10 * k)) else (if rC F k < nI (ahD D) ∨ nI tt < rC F k then mfl (if rgI (rT F k) 0 999 = 0 ∨ fiA D (cN (rT F k)) < D.length then mfl M 5 (nI (14 + 10 * k)) else M) 6 (nI (14 + 10 * k)) else (if rgI (rT F k) 0 999 = 0 ∨ fiA D (cN (rT F k)) < D.length then mfl M 5 (nI (14 + 10 * k)) else M))) 8 (nI (14 + 10 * k)) else (if rgI (rL F k) 0 (rC F k).toInt = 0 then mfl (if rC F k < nI (ahD D) ∨ nI tt < rC F k then mfl (if rgI (rT F k) 0 999 = 0 ∨ fiA D (cN (rT F k)) < D.length then mfl M 5 (nI (14 + 10 * k)) else M) 6 (nI (14 + 10 * k)) else (if rgI (rT F k) 0 999 = 0 ∨ fiA D (cN (rT F k)) < D.length then mfl M 5 (nI (14 + 10 * k)) else M)) 7 (nI (14 + 10 * k)) else (if rC F k < nI (ahD D) ∨ nI tt < rC F k then mfl (if rgI (rT F k) 0 999 = 0 ∨ fiA D (cN (rT F k)) < D.length then mfl M 5 (nI (14 + 10 * k)) else M) 6 (nI (14 + 10 * k)) else (if rgI (rT F k) 0 999 = 0 ∨ fiA D (cN (rT F k)) < D.length then mfl M 5 (nI (14 + 10 * k)) else M)))) = X → ∀ h2, hRun 274 94 [.ref 281, .int (nI (14 + 10 * k)), .int (rT F k), .int (rC F k), .int (rL F k), .int (nI k)] [] (hpM h 281 X x) none h2 → hRun 274 0 [.ref 281, .int (nI (14 + 10 * k)), hU, hU, hU, hU] [] (hpM h 281 M x) none h2 := by
    intro X hX h2 K
    refine one_5 hK ?_
    refine one_6 (Kn_r hK e1.1 e1.2) ?_
    refine one_7 ?_
    refine one_8 (Kn_r hK e3.1 e3.2) ?_
    rw [hX]
    exact K
  have bad : ∀ a : Int32, ¬ a = 0 → rdK F tt k D = a → hRun 274 94 [.ref 281, .int (nI (14 + 10 * k)), .int (rT F k), .int (rC F k), .int (rL F k), .int (nI k)] [] (hpM h 281 (mF M a (nI (14 + 10 * k))) x) none (hpM h 281 (if rdK F tt k D = 0 then s1 M 1 (M 1) else mF M (rdK F tt k D) (nI (14 + 10 * k))) x) := by
    intro a ha e
    rw [e, if_neg ha]
    refine r_step rfl rfl rfl ?_
    refine rM_get rfl rfl ?_
    refine r_brF rfl rfl ?_ ?_
    · exact n5 a _ ha
    (refine r_rtE rfl rfl ?_ ?_ ?_ <;> rfl)
  by_cases c5 : rgI (rT F k) 0 999 = 0 ∨ fiA D (cN (rT F k)) < D.length
  · have e : rdK F tt k D = 5 := if_pos c5
    refine ⟨M 1, pre (mF M 5 (nI (14 + 10 * k))) ?_ _ (bad 5 (by decide) e), fun _ _ => rfl, fun z => absurd z (by rw [e]; decide)⟩
    rw [if_pos c5, mfl_0 h0, s _ _ _ _ (n5 5 _ (by decide)), s _ _ _ _ (n5 5 _ (by decide)), s _ _ _ _ (n5 5 _ (by decide))]
  by_cases c6 : rC F k < nI (ahD D) ∨ nI tt < rC F k
  · have e : rdK F tt k D = 6 := (if_neg c5).trans (if_pos c6)
    refine ⟨M 1, pre (mF M 6 (nI (14 + 10 * k))) ?_ _ (bad 6 (by decide) e), fun _ _ => rfl, fun z => absurd z (by rw [e]; decide)⟩
    rw [if_neg c5, if_pos c6, mfl_0 h0, s _ _ _ _ (n5 6 _ (by decide)), s _ _ _ _ (n5 6 _ (by decide))]
  by_cases c7 : rgI (rL F k) 0 (rC F k).toInt = 0
  · have e : rdK F tt k D = 7 := (if_neg c5).trans ((if_neg c6).trans (if_pos c7))
    refine ⟨M 1, pre (mF M 7 (nI (14 + 10 * k))) ?_ _ (bad 7 (by decide) e), fun _ _ => rfl, fun z => absurd z (by rw [e]; decide)⟩
    rw [if_neg c5, if_neg c6, if_pos c7, mfl_0 h0, s _ _ _ _ (n5 7 _ (by decide))]
  obtain ⟨hT, hM, hN2, htt, hI, hk, hN⟩ := id hK
  have hlen : D.length = k := hI.1
  have hlw := hI.2.1.2.2.2
  have h7' : ¬ (rL F k < 0 ∨ rC F k < rL F k) := fun z => c7 ((rg_c1 _ _).mpr z)
  obtain ⟨l, hl, el⟩ := nI_of (fun z => h7' (Or.inl z))
  have kl : cN (rL F k) = l := by unfold cN; rw [el, nI_clamp hl]
  have hlt : l ≤ tt := by
    have a : rL F k ≤ rC F k := Int32.not_lt.mp (fun z => h7' (Or.inr z))
    have b : rC F k ≤ nI tt := Int32.not_lt.mp (fun z => c6 (Or.inr z))
    have := Int32.le_trans a b
    rw [el] at this
    exact (nI_leI hl (by omega)).mp this
  have h8 : (nI tt).toInt64 < (nI (lwS D)).toInt64 + (rL F k).toInt64 ↔ tt < lwS D + cN (rL F k) := by
    rw [kl, el, nI_l (show tt < 2 ^ 31 by omega), nI_l (show lwS D < 2 ^ 31 by omega), nI_l hl, lN_add, lN_lt (by omega) (by omega)]
  by_cases c8 : tt < lwS D + cN (rL F k)
  · have e : rdK F tt k D = 8 := (if_neg c5).trans ((if_neg c6).trans ((if_neg c7).trans (if_pos c8)))
    refine ⟨M 1, pre (mF M 8 (nI (14 + 10 * k))) ?_ _ (bad 8 (by decide) e), fun _ _ => rfl, fun z => absurd z (by rw [e]; decide)⟩
    rw [if_neg c5, if_neg c6, if_neg c7, if_pos (h8.mpr c8), mfl_0 h0]
  have e : rdK F tt k D = 0 := (if_neg c5).trans ((if_neg c6).trans ((if_neg c7).trans (if_neg c8)))
  obtain ⟨t, c, l', et, ec, el', ht, hf, q1, q2, q3, q4, q5, q6, q7, q8, q9⟩ := IR_s hI htt e
  have hP := RM_put (t := t) (c := c) (l := l') hM (by show D.length < 24; omega) (fun y hy => by have := (hI.2.1.1 y hy).2.2.1; omega) (by omega)
  have hTr := RM_tr (t := t) (l := l') hP (by show (puA D (t, c, l')).length ≤ 24; rw [puA_len]; omega) (by show 0 ≤ 20; omega)
  have hm : M 1 (34440 + 2) = nI k := by rw [← hlen]; exact hM.2.1.2.1
  have mi := m_inserts (h := h) (b := 281) (M := M) (x := x) (B := 34440) (n := k) (nI t) (nI c) (nI l') hm hk (by omega)
  refine ⟨upd (putW (M 1) 34440 k (nI t) (nI c) (nI l')) (34440 + 148 + t) (nI l'), pre M ?_ _ ?_, fun i hi => ?_, fun _ => ?_⟩
  · rw [if_neg c5, if_neg c6, if_neg c7, if_neg (fun z => c8 (h8.mp z))]
  · rw [if_pos e, et, ec, el']
    refine r_step rfl rfl rfl ?_
    refine rM_get rfl rfl ?_
    refine r_brT rfl rfl ?_ ?_
    · exact h0
    refine r_step rfl rfl rfl ?_
    refine r_step rfl rfl rfl ?_
    refine r_step rfl rfl rfl ?_
    refine r_step rfl rfl rfl ?_
    refine r_step rfl rfl rfl ?_
    refine rM_call rfl rfl rfl rfl rfl mi ?_
    refine r_step rfl rfl rfl ?_
    refine rM_get rfl rfl ?_
    refine r_step rfl rfl rfl ?_
    refine r_step rfl rfl rfl ?_
    refine r_step rfl rfl rfl ?_
    try dsimp only
    rw [show (34588 : Int32) + nI t = nI (34440 + 148 + t) from nI_add 34588 t]
    refine r_step rfl rfl rfl ?_
    refine rM_ist (j := 1) rfl rfl (show 34440 + 148 + t < 35588 by omega) ?_
    rw [s1_s1, s1_at]
    (refine r_rtE rfl rfl ?_ ?_ ?_ <;> rfl)
  · unfold Ot at hi
    rw [pk_un (by omega)]
    unfold putW
    have hbb := bh_A (C := D) (S := mV (M 1) 34440) (c := c) hM.2.1.2.2.1 (fun y hy => by have := (hI.2.1.1 y hy).2.2.1; omega) (by omega) k (by omega)
    have hble := bhA_le D c k
    rw [insW_n (by rw [hbb]; omega) (by omega) (by omega)]
  · rw [q6, q7]
    have := hTr
    rw [show (NN, D, U, ([] : List aK)).2.1.length = k from hlen] at this
    exact this
end RKC
