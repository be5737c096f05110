/-! need -/
section NEE
variable {E : hEn}
/-- the class's end -/
theorem nee_ct {w : hWo} {p t k X Y rh l : Nat} {Q : aS} (hS : RS Q (w.1 6)) (hG : Gd X Y Q) (hX : X < 2 ^ 30) (ht : t < 1000) (hk1 : 1 ≤ k) (hk : k ≤ 24) (hr : clW (Q.1 3) (ctsR Q.2.1 t) k = rh) (hl : loA Q t = l) : hRun 118 44 [.ref 2, .int (nI p), .int (nI t), .int (nI k), .ref (bs p), hU] [.int (nI k), .int (nI t), .ref (bs 6)] (hW E w) (some (.int (if nI rh - nI l + 2 ≤ 1000000 then nI rh - nI l + 2 else -1))) (hW E w) := by
  have q24 := Nat.le_trans hG.1.2.2 hG.1.2.1
  have hb := Gd_b hG hX
  have h3 := hG.2.1
  have er : rvF (w.1 6) (nI t) Q.2.1.length (nI k) = nI rh := by
    have := rv_cl (C := Q.2.1) (S := w.1 6) (t := t) (ab := Q.1 3) hS.2.1.2.2.1 (hS.2.1.1 3 (by omega) (by omega) (by omega)) (fun c hc => ⟨(hb c hc).1, by have := hb c hc; omega⟩) ht (by omega) Q.2.1.length k (Nat.le_refl _) (by omega) hk1
    rw [List.take_length, hr] at this
    exact this
  have c1 := c_rivalHigh (h := hW E w) (b := bs 6) (nI t) (nI k) hS.2.1.2.1 q24
  rw [er] at c1
  have c2 := c_lowOf (h := hW E w) (b := bs 6) (nI t) hS.2.1.2.1 q24
  rw [lo_A hS.2.1 hG hX ht, hl] at c2
  refine wS_read (q := 6) (by omega) rfl rfl rfl rfl rfl c1 ?_
  refine r_step rfl rfl rfl ?_
  refine r_get rfl rfl rfl ?_
  refine r_step rfl rfl rfl ?_
  refine wS_read (q := 6) (by omega) rfl rfl rfl rfl rfl c2 ?_
  refine r_step rfl rfl rfl ?_
  refine r_step rfl rfl rfl ?_
  refine r_step rfl rfl rfl ?_
  refine r_step rfl rfl rfl ?_
  refine r_step rfl rfl rfl ?_
  refine r_step rfl rfl rfl ?_
  try dsimp only
  by_cases q : nI rh - nI l + 2 ≤ 1000000
  · rw [if_pos q]
    refine r_brT rfl rfl ?_ ?_
    · exact q
    refine r_step rfl rfl rfl ?_
    (refine r_rtE rfl rfl ?_ ?_ ?_ <;> rfl)
  · rw [if_neg q]
    refine r_brF rfl rfl ?_ ?_
    · exact q
    refine r_step rfl rfl rfl ?_
    refine r_step rfl rfl rfl ?_
    (refine r_rtE rfl rfl ?_ ?_ ?_ <;> rfl)
/-- the reference's end -/
theorem nee_mt {h : hH} {M : hT2} {x : Int64} {a b c d e f g i : Value} (z : Int32) (W : Int32) : hRun 229 86 [a, b, c, d, e, f, g, i, .int z, hU] [.int W] (hpM h 281 M x) (some (.int (if W ≤ 1000000 then W else -1))) (hpM h 281 M x) := by
  refine r_step rfl rfl rfl ?_
  refine r_step rfl rfl rfl ?_
  refine r_step rfl rfl rfl ?_
  by_cases q : W ≤ 1000000
  · rw [if_pos q]
    refine r_brT rfl rfl ?_ ?_
    · exact q
    refine r_step rfl rfl rfl ?_
    (refine r_rtE rfl rfl ?_ ?_ ?_ <;> rfl)
  · rw [if_neg q]
    refine r_brF rfl rfl ?_ ?_
    · exact q
    refine r_step rfl rfl rfl ?_
    refine r_step rfl rfl rfl ?_
    (refine r_rtE rfl rfl ?_ ?_ ?_ <;> rfl)
/-- the paper: what comes -/
theorem nee_pr {w : hWo} {p t k J : Nat} {A : aS} (hJ : J ≤ 600) (hp : p < 6) (hG : Gd 1000000000 (100 * J) A) (hS : RS A (w.1 p)) (ht : t < 1000) : ∃ w3, Wk 6 w w3 ∧ RS (coA (uN A.1 4 0, A.2) t 1).2 (w3.1 6) ∧ Gd 1000000001 (100 * J + 1) (coA (uN A.1 4 0, A.2) t 1).2 ∧ ∀ r h', hRun 118 44 [.ref 2, .int (nI p), .int (nI t), .int (nI k), .ref (bs p), hU] [.int (nI k), .int (nI t), .ref (bs 6)] (hW E w3) r h' → hRun 118 26 [.ref 2, .int (nI p), .int (nI t), .int (nI k), .ref (bs p), hU] [] (hW E w) r h' := by
  have h24 := Nat.le_trans hG.1.2.2 hG.1.2.1
  obtain ⟨T, t1, t2⟩ := x_become (E := E) (w := w) (q := 6) (c := p) (by omega) (by omega) (by omega) hS.1
  have hS1 : RS A T := RS_bec hS h24 t1
  have hS2 : RS (uN A.1 4 0, A.2) ((wS (wS w 6 T) 6 (s2 T 0 4 (nI 0))).1 6) := by
    rw [wS_at]
    exact RS_num hS1 (by omega)
  have hG2 : Gd 1000000000 (100 * J) (uN A.1 4 0, A.2) := by
    obtain ⟨a, b, c, d⟩ := hG
    exact ⟨a, ⟨b.1, b.2.1, Nat.zero_le _⟩, c, d⟩
  have hR := RS_co hS2 hG2 (t := t) (x := 1) (by omega) ht (by omega)
  refine ⟨wS (wS (wS w 6 T) 6 (s2 T 0 4 (nI 0))) 6 (arF ((wS (wS w 6 T) 6 (s2 T 0 4 (nI 0))).1 6) A.2.1.length (A.1 7) t (nI 1)).2.1, ?_, ?_, Gd_co hG2 ht (by omega), fun r h' K => ?_⟩
  · exact Wk_S (Wk_S (Wk_S Wk_0 (Or.inl rfl) (by omega)) (Or.inl rfl) (by omega)) (Or.inl rfl) (by omega)
  · rw [wS_at]
    exact hR.1
  · (repeat (first | refine r_fy rfl rfl rfl rfl ?_ | (refine r_rtE rfl rfl ?_ ?_ ?_ <;> rfl) | refine wS_getE (by omega) rfl rfl (by with_reducible assumption) ?_ | refine wS_get (by omega) rfl rfl ?_ | refine r_get rfl rfl rfl ?_ | refine r_brT rfl rfl (by with_reducible first | assumption | rfl | exact nz10 | exact nI_pos (by omega) | exact nI_lt (by omega) (by omega) | exact nI_nlt (by omega) (by omega) | exact nI_le (by omega) (by omega) | exact nI_ge (by omega) (by omega)) ?_ | refine r_brF rfl rfl (by with_reducible first | assumption | rfl | exact nz10 | exact nI_pos (by omega) | exact nI_lt (by omega) (by omega) | exact nI_nlt (by omega) (by omega) | exact nI_le (by omega) (by omega) | exact nI_ge (by omega) (by omega)) ?_ | refine wH_call rfl rfl rfl rfl rfl (x_standing_t (by with_reducible assumption) (by with_reducible assumption)) ?_ | refine wH_call rfl rfl rfl rfl rfl (x_standing_f (by with_reducible assumption)) ?_ | refine r_callS rfl rfl rfl rfl (p_isSummary (by with_reducible assumption)) ?_ | refine r_callS rfl rfl rfl rfl (p_isThing (by with_reducible assumption)) ?_ | refine r_callS rfl rfl rfl rfl (p_isRoom (by with_reducible assumption)) ?_ | refine r_callS rfl rfl rfl rfl (p_isTop (by with_reducible assumption)) ?_ | refine r_callS rfl rfl rfl rfl (p_isWeight (by with_reducible assumption)) ?_ | refine r_callS rfl rfl rfl rfl (p_isShare (by with_reducible assumption)) ?_ | refine r_callS rfl rfl rfl rfl (p_isWindow (by with_reducible assumption)) ?_ | refine r_callS rfl rfl rfl rfl (p_isImage (by with_reducible assumption)) ?_ | refine r_tswd rfl (by with_reducible assumption) ?_ | refine wS_ildE (by omega) rfl rfl (by first | assumption | omega | (simp only [lS]; omega)) (by with_reducible assumption) ?_ | refine wS_ild (by omega) rfl rfl (by first | assumption | omega | (simp only [lS]; omega)) ?_)); try dsimp only
    refine wS_call (by omega) rfl rfl rfl rfl rfl t2 ?_
    (repeat (first | refine r_fy rfl rfl rfl rfl ?_ | (refine r_rtE rfl rfl ?_ ?_ ?_ <;> rfl) | refine wS_getE (by omega) rfl rfl (by with_reducible assumption) ?_ | refine wS_get (by omega) rfl rfl ?_ | refine r_get rfl rfl rfl ?_ | refine r_brT rfl rfl (by with_reducible first | assumption | rfl | exact nz10 | exact nI_pos (by omega) | exact nI_lt (by omega) (by omega) | exact nI_nlt (by omega) (by omega) | exact nI_le (by omega) (by omega) | exact nI_ge (by omega) (by omega)) ?_ | refine r_brF rfl rfl (by with_reducible first | assumption | rfl | exact nz10 | exact nI_pos (by omega) | exact nI_lt (by omega) (by omega) | exact nI_nlt (by omega) (by omega) | exact nI_le (by omega) (by omega) | exact nI_ge (by omega) (by omega)) ?_ | refine wH_call rfl rfl rfl rfl rfl (x_standing_t (by with_reducible assumption) (by with_reducible assumption)) ?_ | refine wH_call rfl rfl rfl rfl rfl (x_standing_f (by with_reducible assumption)) ?_ | refine r_callS rfl rfl rfl rfl (p_isSummary (by with_reducible assumption)) ?_ | refine r_callS rfl rfl rfl rfl (p_isThing (by with_reducible assumption)) ?_ | refine r_callS rfl rfl rfl rfl (p_isRoom (by with_reducible assumption)) ?_ | refine r_callS rfl rfl rfl rfl (p_isTop (by with_reducible assumption)) ?_ | refine r_callS rfl rfl rfl rfl (p_isWeight (by with_reducible assumption)) ?_ | refine r_callS rfl rfl rfl rfl (p_isShare (by with_reducible assumption)) ?_ | refine r_callS rfl rfl rfl rfl (p_isWindow (by with_reducible assumption)) ?_ | refine r_callS rfl rfl rfl rfl (p_isImage (by with_reducible assumption)) ?_ | refine r_tswd rfl (by with_reducible assumption) ?_ | refine wS_ildE (by omega) rfl rfl (by first | assumption | omega | (simp only [lS]; omega)) (by with_reducible assumption) ?_ | refine wS_ild (by omega) rfl rfl (by first | assumption | omega | (simp only [lS]; omega)) ?_)); try dsimp only
    refine wS_set (q := 6) (by omega) rfl rfl rfl ?_
    (repeat (first | refine r_fy rfl rfl rfl rfl ?_ | (refine r_rtE rfl rfl ?_ ?_ ?_ <;> rfl) | refine wS_getE (by omega) rfl rfl (by with_reducible assumption) ?_ | refine wS_get (by omega) rfl rfl ?_ | refine r_get rfl rfl rfl ?_ | refine r_brT rfl rfl (by with_reducible first | assumption | rfl | exact nz10 | exact nI_pos (by omega) | exact nI_lt (by omega) (by omega) | exact nI_nlt (by omega) (by omega) | exact nI_le (by omega) (by omega) | exact nI_ge (by omega) (by omega)) ?_ | refine r_brF rfl rfl (by with_reducible first | assumption | rfl | exact nz10 | exact nI_pos (by omega) | exact nI_lt (by omega) (by omega) | exact nI_nlt (by omega) (by omega) | exact nI_le (by omega) (by omega) | exact nI_ge (by omega) (by omega)) ?_ | refine wH_call rfl rfl rfl rfl rfl (x_standing_t (by with_reducible assumption) (by with_reducible assumption)) ?_ | refine wH_call rfl rfl rfl rfl rfl (x_standing_f (by with_reducible assumption)) ?_ | refine r_callS rfl rfl rfl rfl (p_isSummary (by with_reducible assumption)) ?_ | refine r_callS rfl rfl rfl rfl (p_isThing (by with_reducible assumption)) ?_ | refine r_callS rfl rfl rfl rfl (p_isRoom (by with_reducible assumption)) ?_ | refine r_callS rfl rfl rfl rfl (p_isTop (by with_reducible assumption)) ?_ | refine r_callS rfl rfl rfl rfl (p_isWeight (by with_reducible assumption)) ?_ | refine r_callS rfl rfl rfl rfl (p_isShare (by with_reducible assumption)) ?_ | refine r_callS rfl rfl rfl rfl (p_isWindow (by with_reducible assumption)) ?_ | refine r_callS rfl rfl rfl rfl (p_isImage (by with_reducible assumption)) ?_ | refine r_tswd rfl (by with_reducible assumption) ?_ | refine wS_ildE (by omega) rfl rfl (by first | assumption | omega | (simp only [lS]; omega)) (by with_reducible assumption) ?_ | refine wS_ild (by omega) rfl rfl (by first | assumption | omega | (simp only [lS]; omega)) ?_)); try dsimp only
    refine wS_call (by omega) rfl rfl rfl rfl rfl (x_arrive (X := 1000000000) (Y := 100 * J) (A := (uN A.1 4 0, A.2)) (x := 1) (by omega) (by omega) hG2 (by omega) hS2 ht (by omega)) ?_
    (repeat (first | refine r_fy rfl rfl rfl rfl ?_ | (refine r_rtE rfl rfl ?_ ?_ ?_ <;> rfl) | refine wS_getE (by omega) rfl rfl (by with_reducible assumption) ?_ | refine wS_get (by omega) rfl rfl ?_ | refine r_get rfl rfl rfl ?_ | refine r_brT rfl rfl (by with_reducible first | assumption | rfl | exact nz10 | exact nI_pos (by omega) | exact nI_lt (by omega) (by omega) | exact nI_nlt (by omega) (by omega) | exact nI_le (by omega) (by omega) | exact nI_ge (by omega) (by omega)) ?_ | refine r_brF rfl rfl (by with_reducible first | assumption | rfl | exact nz10 | exact nI_pos (by omega) | exact nI_lt (by omega) (by omega) | exact nI_nlt (by omega) (by omega) | exact nI_le (by omega) (by omega) | exact nI_ge (by omega) (by omega)) ?_ | refine wH_call rfl rfl rfl rfl rfl (x_standing_t (by with_reducible assumption) (by with_reducible assumption)) ?_ | refine wH_call rfl rfl rfl rfl rfl (x_standing_f (by with_reducible assumption)) ?_ | refine r_callS rfl rfl rfl rfl (p_isSummary (by with_reducible assumption)) ?_ | refine r_callS rfl rfl rfl rfl (p_isThing (by with_reducible assumption)) ?_ | refine r_callS rfl rfl rfl rfl (p_isRoom (by with_reducible assumption)) ?_ | refine r_callS rfl rfl rfl rfl (p_isTop (by with_reducible assumption)) ?_ | refine r_callS rfl rfl rfl rfl (p_isWeight (by with_reducible assumption)) ?_ | refine r_callS rfl rfl rfl rfl (p_isShare (by with_reducible assumption)) ?_ | refine r_callS rfl rfl rfl rfl (p_isWindow (by with_reducible assumption)) ?_ | refine r_callS rfl rfl rfl rfl (p_isImage (by with_reducible assumption)) ?_ | refine r_tswd rfl (by with_reducible assumption) ?_ | refine wS_ildE (by omega) rfl rfl (by first | assumption | omega | (simp only [lS]; omega)) (by with_reducible assumption) ?_ | refine wS_ild (by omega) rfl rfl (by first | assumption | omega | (simp only [lS]; omega)) ?_)); try dsimp only
    exact K
end NEE
section CF1
variable {J : Nat} {E : hEn} {w : hWo}
set_option maxHeartbeats 4000000 in
theorem A_need (hJ : J ≤ 600) (I : Iv J w.1 w.2.2.2) (s t k : Int32) : Ans J 118 229 [.ref 2, .int s, .int t, .int k, hU, hU] [.ref 281, .int s, .int t, .int k, hU, hU, hU, hU, hU, hU] E w := by
  obtain ⟨M, hMd⟩ : ∃ M, M = s2 (w.1 36) 0 0 0 := ⟨_, rfl⟩
  rcases stand I hMd s with ⟨p, A, hp, rfl, hG, hS, hM⟩ | ⟨hno, hnm⟩
  · have hS0 := hS.1
    have hM0 := hM.1
    have hBp : 1148 * p + 1148 ≤ 35588 := by omega
    have h24 : A.2.1.length ≤ 24 := Nat.le_trans hG.1.2.2 hG.1.2.1
    have hn := hS.2.1.2.1
    have hm : M 1 (1148 * p + 2) = nI A.2.1.length := hM.2.1.2.1
    rcases rg_01 t 0 999 with ht | ht
    · refine Ans_3 (v := -2) (u := -2) hMd I rfl rfl rfl rfl ?_ ?_ rfl
      · (repeat (first | refine r_fy rfl rfl rfl rfl ?_ | (refine r_rtE rfl rfl ?_ ?_ ?_ <;> rfl) | refine r_get rfl rfl rfl ?_ | refine wS_getE (by omega) rfl rfl (by with_reducible assumption) ?_ | refine wS_get (by omega) rfl rfl ?_ | refine r_brT rfl rfl (by with_reducible first | assumption | rfl | exact nz10 | exact nI_pos (by omega) | exact nI_lt (by omega) (by omega) | exact nI_nlt (by omega) (by omega) | exact nI_le (by omega) (by omega) | exact nI_ge (by omega) (by omega)) ?_ | refine r_brF rfl rfl (by with_reducible first | assumption | rfl | exact nz10 | exact nI_pos (by omega) | exact nI_lt (by omega) (by omega) | exact nI_nlt (by omega) (by omega) | exact nI_le (by omega) (by omega) | exact nI_ge (by omega) (by omega)) ?_ | refine wH_call rfl rfl rfl rfl rfl (x_standing_t (by with_reducible assumption) (by with_reducible assumption)) ?_ | refine wH_call rfl rfl rfl rfl rfl (x_standing_f (by with_reducible assumption)) ?_ | refine r_callS rfl rfl rfl rfl (p_isSummary (by with_reducible assumption)) ?_ | refine r_callS rfl rfl rfl rfl (p_isThing (by with_reducible assumption)) ?_ | refine r_callS rfl rfl rfl rfl (p_isRoom (by with_reducible assumption)) ?_ | refine r_callS rfl rfl rfl rfl (p_isTop (by with_reducible assumption)) ?_ | refine r_callS rfl rfl rfl rfl (p_isWeight (by with_reducible assumption)) ?_ | refine r_callS rfl rfl rfl rfl (p_isShare (by with_reducible assumption)) ?_ | refine r_callS rfl rfl rfl rfl (p_isWindow (by with_reducible assumption)) ?_ | refine r_callS rfl rfl rfl rfl (p_isImage (by with_reducible assumption)) ?_ | refine r_tswd rfl (by with_reducible assumption) ?_ | refine wS_ild (by omega) rfl rfl (by first | assumption | omega | (simp only [lS]; omega)) ?_)); try dsimp only
      · (repeat (first | refine r_fy rfl rfl rfl rfl ?_ | (refine r_rtE rfl rfl ?_ ?_ ?_ <;> rfl) | refine rM_get rfl rfl ?_ | refine r_brT rfl rfl (by with_reducible first | assumption | rfl | exact nz10 | exact nI_pos (by omega) | exact nI_lt (by omega) (by omega) | exact nI_nlt (by omega) (by omega) | exact nI_le (by omega) (by omega) | exact nI_ge (by omega) (by omega)) ?_ | refine r_brF rfl rfl (by with_reducible first | assumption | rfl | exact nz10 | exact nI_pos (by omega) | exact nI_lt (by omega) (by omega) | exact nI_nlt (by omega) (by omega) | exact nI_le (by omega) (by omega) | exact nI_ge (by omega) (by omega)) ?_ | refine rM_call rfl rfl rfl rfl rfl (k_isThere_t (by with_reducible assumption) (by with_reducible assumption)) ?_ | refine rM_call rfl rfl rfl rfl rfl (k_isThere_f (by with_reducible assumption)) ?_ | refine rM_call rfl rfl rfl rfl rfl (m_manyE (by omega) (by with_reducible assumption)) ?_ | refine rM_call rfl rfl rfl rfl rfl (q_isSummary (by with_reducible assumption)) ?_ | (refine r_callS rfl rfl rfl rfl (m_bank _) ?_; rw [nm1148]) | refine r_callS rfl rfl rfl rfl (q_isThing (by with_reducible assumption)) ?_ | refine r_callS rfl rfl rfl rfl (q_isTop (by with_reducible assumption)) ?_ | refine r_callS rfl rfl rfl rfl (q_isPart (by with_reducible assumption)) ?_ | refine r_callS rfl rfl rfl rfl (q_isIn (by with_reducible assumption) (by decide) (by first | exact lx_m1 (by omega) | decide)) ?_ | refine r_tswd rfl (by with_reducible assumption) ?_ | (simp only [Option.toList, List.drop, List.cons_append, List.nil_append, na0, na1, na2, na3, na4, na5, na6, na7, na8, na16, na88, na148, nm3, nI_add]; refine rM_ildE (j := 1) rfl rfl (show _ < 35588 by omega) (by with_reducible assumption) ?_) | (simp only [Option.toList, List.drop, List.cons_append, List.nil_append, na0, na1, na2, na3, na4, na5, na6, na7, na8, na16, na88, na148, nm3, nI_add]; refine rM_ild (j := 1) rfl rfl (show _ < 35588 by omega) ?_))); try simp only [Option.toList, List.drop, List.cons_append, List.nil_append, na0, na1, na2, na3, na4, na5, na6, na7, na8, na16, na88, na148, nm3, nI_add]
    · rcases rg_01 k 1 24 with hk | hk
      · refine Ans_3 (v := -2) (u := -2) hMd I rfl rfl rfl rfl ?_ ?_ rfl
        · (repeat (first | refine r_fy rfl rfl rfl rfl ?_ | (refine r_rtE rfl rfl ?_ ?_ ?_ <;> rfl) | refine r_get rfl rfl rfl ?_ | refine wS_getE (by omega) rfl rfl (by with_reducible assumption) ?_ | refine wS_get (by omega) rfl rfl ?_ | refine r_brT rfl rfl (by with_reducible first | assumption | rfl | exact nz10 | exact nI_pos (by omega) | exact nI_lt (by omega) (by omega) | exact nI_nlt (by omega) (by omega) | exact nI_le (by omega) (by omega) | exact nI_ge (by omega) (by omega)) ?_ | refine r_brF rfl rfl (by with_reducible first | assumption | rfl | exact nz10 | exact nI_pos (by omega) | exact nI_lt (by omega) (by omega) | exact nI_nlt (by omega) (by omega) | exact nI_le (by omega) (by omega) | exact nI_ge (by omega) (by omega)) ?_ | refine wH_call rfl rfl rfl rfl rfl (x_standing_t (by with_reducible assumption) (by with_reducible assumption)) ?_ | refine wH_call rfl rfl rfl rfl rfl (x_standing_f (by with_reducible assumption)) ?_ | refine r_callS rfl rfl rfl rfl (p_isSummary (by with_reducible assumption)) ?_ | refine r_callS rfl rfl rfl rfl (p_isThing (by with_reducible assumption)) ?_ | refine r_callS rfl rfl rfl rfl (p_isRoom (by with_reducible assumption)) ?_ | refine r_callS rfl rfl rfl rfl (p_isTop (by with_reducible assumption)) ?_ | refine r_callS rfl rfl rfl rfl (p_isWeight (by with_reducible assumption)) ?_ | refine r_callS rfl rfl rfl rfl (p_isShare (by with_reducible assumption)) ?_ | refine r_callS rfl rfl rfl rfl (p_isWindow (by with_reducible assumption)) ?_ | refine r_callS rfl rfl rfl rfl (p_isImage (by with_reducible assumption)) ?_ | refine r_tswd rfl (by with_reducible assumption) ?_ | refine wS_ild (by omega) rfl rfl (by first | assumption | omega | (simp only [lS]; omega)) ?_)); try dsimp only
        · (repeat (first | refine r_fy rfl rfl rfl rfl ?_ | (refine r_rtE rfl rfl ?_ ?_ ?_ <;> rfl) | refine rM_get rfl rfl ?_ | refine r_brT rfl rfl (by with_reducible first | assumption | rfl | exact nz10 | exact nI_pos (by omega) | exact nI_lt (by omega) (by omega) | exact nI_nlt (by omega) (by omega) | exact nI_le (by omega) (by omega) | exact nI_ge (by omega) (by omega)) ?_ | refine r_brF rfl rfl (by with_reducible first | assumption | rfl | exact nz10 | exact nI_pos (by omega) | exact nI_lt (by omega) (by omega) | exact nI_nlt (by omega) (by omega) | exact nI_le (by omega) (by omega) | exact nI_ge (by omega) (by omega)) ?_ | refine rM_call rfl rfl rfl rfl rfl (k_isThere_t (by with_reducible assumption) (by with_reducible assumption)) ?_ | refine rM_call rfl rfl rfl rfl rfl (k_isThere_f (by with_reducible assumption)) ?_ | refine rM_call rfl rfl rfl rfl rfl (m_manyE (by omega) (by with_reducible assumption)) ?_ | refine rM_call rfl rfl rfl rfl rfl (q_isSummary (by with_reducible assumption)) ?_ | (refine r_callS rfl rfl rfl rfl (m_bank _) ?_; rw [nm1148]) | refine r_callS rfl rfl rfl rfl (q_isThing (by with_reducible assumption)) ?_ | refine r_callS rfl rfl rfl rfl (q_isTop (by with_reducible assumption)) ?_ | refine r_callS rfl rfl rfl rfl (q_isPart (by with_reducible assumption)) ?_ | refine r_callS rfl rfl rfl rfl (q_isIn (by with_reducible assumption) (by decide) (by first | exact lx_m1 (by omega) | decide)) ?_ | refine r_tswd rfl (by with_reducible assumption) ?_ | (simp only [Option.toList, List.drop, List.cons_append, List.nil_append, na0, na1, na2, na3, na4, na5, na6, na7, na8, na16, na88, na148, nm3, nI_add]; refine rM_ildE (j := 1) rfl rfl (show _ < 35588 by omega) (by with_reducible assumption) ?_) | (simp only [Option.toList, List.drop, List.cons_append, List.nil_append, na0, na1, na2, na3, na4, na5, na6, na7, na8, na16, na88, na148, nm3, nI_add]; refine rM_ild (j := 1) rfl rfl (show _ < 35588 by omega) ?_))); try simp only [Option.toList, List.drop, List.cons_append, List.nil_append, na0, na1, na2, na3, na4, na5, na6, na7, na8, na16, na88, na148, nm3, nI_add]
      · obtain ⟨t, rfl, -, hT⟩ := rg_1 (lo := 0) (hi := 999) ht
        obtain ⟨k, rfl, hk1, hk2⟩ := rg_1 (lo := 1) (hi := 24) hk
        have hb := Gd_b hG (by omega)
        have hN : Nd A.2.1 := hG.2.2.2.1.2.1
        have hg := hG.2.1
        have hb2 : ∀ c, c ∈ A.2.1 → c.1 < 1000 ∧ c.2.1 < 2 ^ 31 := fun c hc => ⟨(hb c hc).1, by have := hb c hc; omega⟩
        have m4 : M 1 (1148 * p + 4) = nI (A.1 3) := hM.2.1.1 3 (by omega) (by omega) (by omega)
        have m1 : M 1 (1148 * p + 1) = nI (A.1 1) := hM.2.1.1 1 (by omega) (by omega) (by omega)
        have hm10 : ¬ (-1 : Int32) = 0 := by decide
        obtain ⟨w3, hW3, hS3, hG3, pre⟩ := nee_pr (E := E) (w := w) (p := p) (t := t) (k := k) hJ hp hG hS (by omega)
        have fM := fun (h : hH) => k_pf (h := h) (b := 281) (M := M) (x := w.2.2.1) (t := t) hM hG (by omega) hBp (by omega)
        have fC := c_find (h := hW E w) (b := bs p) (nI t) hn h24
        have hA : ∀ q, q < A.2.1.length → afF (mV (M 1) (1148 * p)) A.2.1.length (nI q) A.2.1.length 0 = nI (pfA A.2.1 q) ∧ pfA A.2.1 q < A.2.1.length := fun q hq => ⟨af_A hM.2.1.2.2.1 hN hb2 h24 hq, (pfA_at hN hq).1⟩
        have rl := fun (P : aK → Bool) (at_ gone : Int32) (ab : Nat) (hab : ab < 2 ^ 31) (hP : ∀ j, j < A.2.1.length → (P (gC A.2.1 j) = true ↔ ¬ nI j = at_ ∧ ¬ nI j = gone)) => rl_re (C := A.2.1) (V := mV (M 1) (1148 * p)) (k := k) (ab := ab) (P := P) (at_ := at_) (gone := gone) hM.2.1.2.2.1 hN hb2 (by omega) hab hP A.2.1.length 0 0 (by omega) (by omega)
        rcases fn_A (t := t) hS.2.1.2.2.1 (fun c hc => (hb c hc).1) (by omega) h24 with ⟨g1, g2⟩ | ⟨g1, g2⟩
        · obtain ⟨n1, n2, n3⟩ := nee_1 (A := A) (t := t) g1
          obtain ⟨x1, x2⟩ := cts_eq hN hG3.2.2.2.1.2.2.1 n3
          have lq := lo_me hG3 n2
          have la : loA A t = (gC A.2.1 (fiA A.2.1 t)).2.2 := if_pos g1
          obtain ⟨l, hl⟩ : ∃ l, l = (gC A.2.1 (fiA A.2.1 t)).2.2 := ⟨_, rfl⟩
          have hl30 : l < 2 ^ 30 := by rw [hl]; exact (hb _ (gC_mem g1)).2.2
          obtain ⟨rh, hrh⟩ : ∃ rh, rh = clW (A.1 3) (ctsR (coA (uN A.1 4 0, A.2) t 1).2.2.1 t) k := ⟨_, rfl⟩
          have hc := clW_ct (ab := A.1 3) (x := l) _ k x2 hk1
          rw [cts_ct (A := A) (x := l) rfl (show (ctsR (coA (uN A.1 4 0, A.2) t 1).2.2.1 t).Perm _ from by rw [x1]; exact ((flA_perm A.2.1).filter _).map _), ← hrh] at hc
          have r1 := rl (neT t) (nI (fiA A.2.1 t)) (-1) (A.1 3) (by omega) (fun j hj => by
            have e1 : ¬ nI j = -1 := nI_m1 (by omega)
            have e2 : nI j = nI (fiA A.2.1 t) ↔ j = fiA A.2.1 t := nI_eq (by omega) (by omega)
            have e3 : (gC A.2.1 j).1 = t ↔ j = fiA A.2.1 t := by
              constructor
              · intro z
                rw [← z]
                exact (fiA_of hN hj).symm
              · intro z
                rw [z]
                exact fiA_at g1
            simp [neT, e1, e2, e3])
          rw [List.drop_zero, ← x1, ← cl_re _ 0 x2 (by omega), Nat.sub_zero, ← hrh] at r1
          have c6 : ¬ nI (fiA A.2.1 t) = -1 := nI_m1 (by omega)
          have o1 : oFr A t l < k ↔ rh < l := by
            have := oCt_le A t l
            rw [hc]
            unfold oFr
            rw [if_pos g1]
            by_cases q : A.1 3 < l
            · rw [if_pos q]
              omega
            · rw [if_neg q]
              omega
          have hof : oFr A t l ≤ 1024 := by
            have := oCt_le A t l
            unfold oFr
            split <;> omega
          have aC := c_asOftenPerhaps (h := hW E w) (b := bs p) (nI t) hn h24
          rw [lo_A hS.2.1 hG (by omega) (by omega), la, ← hl, of_A hS.2.1 hG (by omega) (by omega) (by omega)] at aC
          have rm := (RM_k hM g1).2.2
          rw [← hl] at rm
          rw [g2] at fC
          have preM : ∀ (h : hH) r h', hRun 229 86 [.ref 281, .int (nI p), .int (nI t), .int (nI k), .int (nI (1148 * p)), .int (nI (fiA A.2.1 t)), .int (-1), .int (nI (A.1 3)), .int (nI rh + 1), hU] [.int (if 0 ≤ nI rh + 1 - nI l then nI rh + 1 - nI l else 0)] (hpM h 281 M w.2.2.1) r h' → hRun 229 3 [.ref 281, .int (nI p), .int (nI t), .int (nI k), hU, hU, hU, hU, hU, hU] [] (hpM h 281 M w.2.2.1) r h' := by
            intro h r h' K
            have f1 := fM h
            rw [if_pos g1] at f1
            clear fM rl pre
            (repeat (first | refine r_fy rfl rfl rfl rfl ?_ | (refine r_rtE rfl rfl ?_ ?_ ?_ <;> rfl) | refine rM_get rfl rfl ?_ | refine r_brT rfl rfl (by with_reducible first | assumption | rfl | exact nz10 | exact nI_pos (by omega) | exact nI_lt (by omega) (by omega) | exact nI_nlt (by omega) (by omega) | exact nI_le (by omega) (by omega) | exact nI_ge (by omega) (by omega)) ?_ | refine r_brF rfl rfl (by with_reducible first | assumption | rfl | exact nz10 | exact nI_pos (by omega) | exact nI_lt (by omega) (by omega) | exact nI_nlt (by omega) (by omega) | exact nI_le (by omega) (by omega) | exact nI_ge (by omega) (by omega)) ?_ | refine rM_call rfl rfl rfl rfl rfl (k_isThere_t (by with_reducible assumption) (by with_reducible assumption)) ?_ | refine rM_call rfl rfl rfl rfl rfl (k_isThere_f (by with_reducible assumption)) ?_ | refine rM_call rfl rfl rfl rfl rfl (m_manyE (by omega) (by with_reducible assumption)) ?_ | refine rM_call rfl rfl rfl rfl rfl (q_isSummary (by with_reducible assumption)) ?_ | (refine r_callS rfl rfl rfl rfl (m_bank _) ?_; rw [nm1148]) | refine r_callS rfl rfl rfl rfl (q_isThing (by with_reducible assumption)) ?_ | refine r_callS rfl rfl rfl rfl (q_isTop (by with_reducible assumption)) ?_ | refine r_callS rfl rfl rfl rfl (q_isPart (by with_reducible assumption)) ?_ | refine r_callS rfl rfl rfl rfl (q_isIn (by with_reducible assumption) (by decide) (by first | exact lx_m1 (by omega) | decide)) ?_ | refine r_tswd rfl (by with_reducible assumption) ?_ | (simp only [Option.toList, List.drop, List.cons_append, List.nil_append, na0, na1, na2, na3, na4, na5, na6, na7, na8, na16, na88, na148, nm3, nI_add]; refine rM_ildE (j := 1) rfl rfl (show _ < 35588 by omega) (by with_reducible assumption) ?_) | (simp only [Option.toList, List.drop, List.cons_append, List.nil_append, na0, na1, na2, na3, na4, na5, na6, na7, na8, na16, na88, na148, nm3, nI_add]; refine rM_ild (j := 1) rfl rfl (show _ < 35588 by omega) ?_))); try simp only [Option.toList, List.drop, List.cons_append, List.nil_append, na0, na1, na2, na3, na4, na5, na6, na7, na8, na16, na88, na148, nm3, nI_add]
            refine rM_call rfl rfl rfl rfl rfl f1 ?_
            (repeat (first | refine r_fy rfl rfl rfl rfl ?_ | (refine r_rtE rfl rfl ?_ ?_ ?_ <;> rfl) | refine rM_get rfl rfl ?_ | refine r_brT rfl rfl (by with_reducible first | assumption | rfl | exact nz10 | exact nI_pos (by omega) | exact nI_lt (by omega) (by omega) | exact nI_nlt (by omega) (by omega) | exact nI_le (by omega) (by omega) | exact nI_ge (by omega) (by omega)) ?_ | refine r_brF rfl rfl (by with_reducible first | assumption | rfl | exact nz10 | exact nI_pos (by omega) | exact nI_lt (by omega) (by omega) | exact nI_nlt (by omega) (by omega) | exact nI_le (by omega) (by omega) | exact nI_ge (by omega) (by omega)) ?_ | refine rM_call rfl rfl rfl rfl rfl (k_isThere_t (by with_reducible assumption) (by with_reducible assumption)) ?_ | refine rM_call rfl rfl rfl rfl rfl (k_isThere_f (by with_reducible assumption)) ?_ | refine rM_call rfl rfl rfl rfl rfl (m_manyE (by omega) (by with_reducible assumption)) ?_ | refine rM_call rfl rfl rfl rfl rfl (q_isSummary (by with_reducible assumption)) ?_ | (refine r_callS rfl rfl rfl rfl (m_bank _) ?_; rw [nm1148]) | refine r_callS rfl rfl rfl rfl (q_isThing (by with_reducible assumption)) ?_ | refine r_callS rfl rfl rfl rfl (q_isTop (by with_reducible assumption)) ?_ | refine r_callS rfl rfl rfl rfl (q_isPart (by with_reducible assumption)) ?_ | refine r_callS rfl rfl rfl rfl (q_isIn (by with_reducible assumption) (by decide) (by first | exact lx_m1 (by omega) | decide)) ?_ | refine r_tswd rfl (by with_reducible assumption) ?_ | (simp only [Option.toList, List.drop, List.cons_append, List.nil_append, na0, na1, na2, na3, na4, na5, na6, na7, na8, na16, na88, na148, nm3, nI_add]; refine rM_ildE (j := 1) rfl rfl (show _ < 35588 by omega) (by with_reducible assumption) ?_) | (simp only [Option.toList, List.drop, List.cons_append, List.nil_append, na0, na1, na2, na3, na4, na5, na6, na7, na8, na16, na88, na148, nm3, nI_add]; refine rM_ild (j := 1) rfl rfl (show _ < 35588 by omega) ?_))); try simp only [Option.toList, List.drop, List.cons_append, List.nil_append, na0, na1, na2, na3, na4, na5, na6, na7, na8, na16, na88, na148, nm3, nI_add]
            refine rM_call rfl rfl rfl rfl rfl (m_rival (pf := pfA A.2.1) _ _ _ _ hA hm h24 hBp) ?_
            rw [show rlF (mV (M 1) (1148 * p)) (pfA A.2.1) (nI (fiA A.2.1 t)) (-1) (nI k) (nI (A.1 3)) A.2.1.length 0 0 = nI rh from r1]
            refine r_step rfl rfl rfl ?_
            refine r_step rfl rfl rfl ?_
            refine r_step rfl rfl rfl ?_
            refine r_step rfl rfl rfl ?_
            refine r_step rfl rfl rfl ?_
            refine r_brF rfl rfl ?_ ?_
            · exact c6
            refine r_step rfl rfl rfl ?_
            refine r_step rfl rfl rfl ?_
            refine r_step rfl rfl rfl ?_
            refine r_step rfl rfl rfl ?_
            refine r_step rfl rfl rfl ?_
            refine r_step rfl rfl rfl ?_
            refine rM_call rfl rfl rfl rfl rfl (m_ofE (u := 2) (by omega) (by omega) hBp rm) ?_
            refine r_step rfl rfl rfl ?_
            refine r_callS rfl rfl rfl rfl (m_greater _ _) ?_
            exact K
          by_cases ea : oFr A t l < k
          · have hlt := o1.mp ea
            have e0 : (if 0 ≤ nI rh + 1 - nI l then nI rh + 1 - nI l else 0) = (0 : Int32) := by
              by_cases q : rh + 1 = l
              · rw [nI_1, q, Int32.sub_self]
                split <;> rfl
              · rw [if_neg]
                rw [nI_1, Int32.le_iff_toInt_le, pk_sub_toInt (by omega) hl30, Int32.toInt_zero]
                omega
            refine Ans_3 (v := 0) (u := 0) hMd I rfl rfl rfl rfl ?_ ?_ rfl
            · clear fM rl pre preM
              (repeat (first | refine r_fy rfl rfl rfl rfl ?_ | (refine r_rtE rfl rfl ?_ ?_ ?_ <;> rfl) | refine r_get rfl rfl rfl ?_ | refine wS_getE (by omega) rfl rfl (by with_reducible assumption) ?_ | refine wS_get (by omega) rfl rfl ?_ | refine r_brT rfl rfl (by with_reducible first | assumption | rfl | exact nz10 | exact nI_pos (by omega) | exact nI_lt (by omega) (by omega) | exact nI_nlt (by omega) (by omega) | exact nI_le (by omega) (by omega) | exact nI_ge (by omega) (by omega)) ?_ | refine r_brF rfl rfl (by with_reducible first | assumption | rfl | exact nz10 | exact nI_pos (by omega) | exact nI_lt (by omega) (by omega) | exact nI_nlt (by omega) (by omega) | exact nI_le (by omega) (by omega) | exact nI_ge (by omega) (by omega)) ?_ | refine wH_call rfl rfl rfl rfl rfl (x_standing_t (by with_reducible assumption) (by with_reducible assumption)) ?_ | refine wH_call rfl rfl rfl rfl rfl (x_standing_f (by with_reducible assumption)) ?_ | refine r_callS rfl rfl rfl rfl (p_isSummary (by with_reducible assumption)) ?_ | refine r_callS rfl rfl rfl rfl (p_isThing (by with_reducible assumption)) ?_ | refine r_callS rfl rfl rfl rfl (p_isRoom (by with_reducible assumption)) ?_ | refine r_callS rfl rfl rfl rfl (p_isTop (by with_reducible assumption)) ?_ | refine r_callS rfl rfl rfl rfl (p_isWeight (by with_reducible assumption)) ?_ | refine r_callS rfl rfl rfl rfl (p_isShare (by with_reducible assumption)) ?_ | refine r_callS rfl rfl rfl rfl (p_isWindow (by with_reducible assumption)) ?_ | refine r_callS rfl rfl rfl rfl (p_isImage (by with_reducible assumption)) ?_ | refine r_tswd rfl (by with_reducible assumption) ?_ | refine wS_ild (by omega) rfl rfl (by first | assumption | omega | (simp only [lS]; omega)) ?_)); try dsimp only
              refine wS_read (by omega) rfl rfl rfl rfl rfl fC ?_
              (repeat (first | refine r_fy rfl rfl rfl rfl ?_ | (refine r_rtE rfl rfl ?_ ?_ ?_ <;> rfl) | refine r_get rfl rfl rfl ?_ | refine wS_getE (by omega) rfl rfl (by with_reducible assumption) ?_ | refine wS_get (by omega) rfl rfl ?_ | refine r_brT rfl rfl (by with_reducible first | assumption | rfl | exact nz10 | exact nI_pos (by omega) | exact nI_lt (by omega) (by omega) | exact nI_nlt (by omega) (by omega) | exact nI_le (by omega) (by omega) | exact nI_ge (by omega) (by omega)) ?_ | refine r_brF rfl rfl (by with_reducible first | assumption | rfl | exact nz10 | exact nI_pos (by omega) | exact nI_lt (by omega) (by omega) | exact nI_nlt (by omega) (by omega) | exact nI_le (by omega) (by omega) | exact nI_ge (by omega) (by omega)) ?_ | refine wH_call rfl rfl rfl rfl rfl (x_standing_t (by with_reducible assumption) (by with_reducible assumption)) ?_ | refine wH_call rfl rfl rfl rfl rfl (x_standing_f (by with_reducible assumption)) ?_ | refine r_callS rfl rfl rfl rfl (p_isSummary (by with_reducible assumption)) ?_ | refine r_callS rfl rfl rfl rfl (p_isThing (by with_reducible assumption)) ?_ | refine r_callS rfl rfl rfl rfl (p_isRoom (by with_reducible assumption)) ?_ | refine r_callS rfl rfl rfl rfl (p_isTop (by with_reducible assumption)) ?_ | refine r_callS rfl rfl rfl rfl (p_isWeight (by with_reducible assumption)) ?_ | refine r_callS rfl rfl rfl rfl (p_isShare (by with_reducible assumption)) ?_ | refine r_callS rfl rfl rfl rfl (p_isWindow (by with_reducible assumption)) ?_ | refine r_callS rfl rfl rfl rfl (p_isImage (by with_reducible assumption)) ?_ | refine r_tswd rfl (by with_reducible assumption) ?_ | refine wS_ild (by omega) rfl rfl (by first | assumption | omega | (simp only [lS]; omega)) ?_)); try dsimp only
              refine wS_read (by omega) rfl rfl rfl rfl rfl aC ?_
              refine r_step rfl rfl rfl ?_
              refine r_brF rfl rfl ?_ ?_
              · exact nle ea (by omega)
              refine r_step rfl rfl rfl ?_
              (refine r_rtE rfl rfl ?_ ?_ ?_ <;> rfl)
            · refine preM _ _ _ ?_
              rw [e0]
              have := nee_mt (h := hW E w) (M := M) (x := w.2.2.1) (a := .ref 281) (b := .int (nI p)) (c := .int (nI t)) (d := .int (nI k)) (e := .int (nI (1148 * p))) (f := .int (nI (fiA A.2.1 t))) (g := .int (-1)) (i := .int (nI (A.1 3))) (nI rh + 1) 0
              rw [if_pos (by decide)] at this
              exact this
          · have hle : l ≤ rh := by omega
            have hrb : rh < 1000000001 := by
              rw [hrh]
              refine clW_b (by omega) _ _ (fun c hc => ?_)
              rw [x1] at hc
              obtain ⟨y, hy, rfl⟩ := List.mem_map.mp hc
              have := (hG.2.2.2.1.1 y (flA_mem (List.mem_filter.mp hy).1)).2.2.1
              omega
            have e0 : (if 0 ≤ nI rh + 1 - nI l then nI rh + 1 - nI l else 0) = nI rh - nI (l + 1) + 2 := by
              rw [if_pos]
              · rw [← nI_1 l]
                grind
              · rw [nI_1, Int32.le_iff_toInt_le, pk_sub_toInt (by omega) hl30, Int32.toInt_zero]
                omega
            refine Ans_l (v := if nI rh - nI (l + 1) + 2 ≤ 1000000 then nI rh - nI (l + 1) + 2 else -1) (u := if nI rh - nI (l + 1) + 2 ≤ 1000000 then nI rh - nI (l + 1) + 2 else -1) (w1 := w3) hMd I rfl rfl rfl rfl hW3 ?_ ?_ rfl
            · have ct := nee_ct (E := E) (w := w3) (p := p) (t := t) (k := k) (rh := rh) (l := l + 1) hS3 hG3 (by omega) (by omega) hk1 hk2 (by rw [n1, hrh]) (by rw [hl]; exact lq)
              clear fM rl preM
              (repeat (first | refine r_fy rfl rfl rfl rfl ?_ | (refine r_rtE rfl rfl ?_ ?_ ?_ <;> rfl) | refine r_get rfl rfl rfl ?_ | refine wS_getE (by omega) rfl rfl (by with_reducible assumption) ?_ | refine wS_get (by omega) rfl rfl ?_ | refine r_brT rfl rfl (by with_reducible first | assumption | rfl | exact nz10 | exact nI_pos (by omega) | exact nI_lt (by omega) (by omega) | exact nI_nlt (by omega) (by omega) | exact nI_le (by omega) (by omega) | exact nI_ge (by omega) (by omega)) ?_ | refine r_brF rfl rfl (by with_reducible first | assumption | rfl | exact nz10 | exact nI_pos (by omega) | exact nI_lt (by omega) (by omega) | exact nI_nlt (by omega) (by omega) | exact nI_le (by omega) (by omega) | exact nI_ge (by omega) (by omega)) ?_ | refine wH_call rfl rfl rfl rfl rfl (x_standing_t (by with_reducible assumption) (by with_reducible assumption)) ?_ | refine wH_call rfl rfl rfl rfl rfl (x_standing_f (by with_reducible assumption)) ?_ | refine r_callS rfl rfl rfl rfl (p_isSummary (by with_reducible assumption)) ?_ | refine r_callS rfl rfl rfl rfl (p_isThing (by with_reducible assumption)) ?_ | refine r_callS rfl rfl rfl rfl (p_isRoom (by with_reducible assumption)) ?_ | refine r_callS rfl rfl rfl rfl (p_isTop (by with_reducible assumption)) ?_ | refine r_callS rfl rfl rfl rfl (p_isWeight (by with_reducible assumption)) ?_ | refine r_callS rfl rfl rfl rfl (p_isShare (by with_reducible assumption)) ?_ | refine r_callS rfl rfl rfl rfl (p_isWindow (by with_reducible assumption)) ?_ | refine r_callS rfl rfl rfl rfl (p_isImage (by with_reducible assumption)) ?_ | refine r_tswd rfl (by with_reducible assumption) ?_ | refine wS_ild (by omega) rfl rfl (by first | assumption | omega | (simp only [lS]; omega)) ?_)); try dsimp only
              refine wS_read (by omega) rfl rfl rfl rfl rfl fC ?_
              (repeat (first | refine r_fy rfl rfl rfl rfl ?_ | (refine r_rtE rfl rfl ?_ ?_ ?_ <;> rfl) | refine r_get rfl rfl rfl ?_ | refine wS_getE (by omega) rfl rfl (by with_reducible assumption) ?_ | refine wS_get (by omega) rfl rfl ?_ | refine r_brT rfl rfl (by with_reducible first | assumption | rfl | exact nz10 | exact nI_pos (by omega) | exact nI_lt (by omega) (by omega) | exact nI_nlt (by omega) (by omega) | exact nI_le (by omega) (by omega) | exact nI_ge (by omega) (by omega)) ?_ | refine r_brF rfl rfl (by with_reducible first | assumption | rfl | exact nz10 | exact nI_pos (by omega) | exact nI_lt (by omega) (by omega) | exact nI_nlt (by omega) (by omega) | exact nI_le (by omega) (by omega) | exact nI_ge (by omega) (by omega)) ?_ | refine wH_call rfl rfl rfl rfl rfl (x_standing_t (by with_reducible assumption) (by with_reducible assumption)) ?_ | refine wH_call rfl rfl rfl rfl rfl (x_standing_f (by with_reducible assumption)) ?_ | refine r_callS rfl rfl rfl rfl (p_isSummary (by with_reducible assumption)) ?_ | refine r_callS rfl rfl rfl rfl (p_isThing (by with_reducible assumption)) ?_ | refine r_callS rfl rfl rfl rfl (p_isRoom (by with_reducible assumption)) ?_ | refine r_callS rfl rfl rfl rfl (p_isTop (by with_reducible assumption)) ?_ | refine r_callS rfl rfl rfl rfl (p_isWeight (by with_reducible assumption)) ?_ | refine r_callS rfl rfl rfl rfl (p_isShare (by with_reducible assumption)) ?_ | refine r_callS rfl rfl rfl rfl (p_isWindow (by with_reducible assumption)) ?_ | refine r_callS rfl rfl rfl rfl (p_isImage (by with_reducible assumption)) ?_ | refine r_tswd rfl (by with_reducible assumption) ?_ | refine wS_ild (by omega) rfl rfl (by first | assumption | omega | (simp only [lS]; omega)) ?_)); try dsimp only
              refine wS_read (by omega) rfl rfl rfl rfl rfl aC ?_
              refine r_step rfl rfl rfl ?_
              refine r_brT rfl rfl ?_ ?_
              · exact nI_le (by omega) (by omega)
              exact pre _ _ ct
            · refine preM _ _ _ ?_
              rw [e0]
              exact nee_mt _ _
        · have g3 : ¬ fiA A.2.1 t < A.2.1.length := by omega
          rw [g2] at fC
          have hne : ∀ j, j < A.2.1.length → (gC A.2.1 j).1 ≠ t := fun j hj => fiA_ne (by omega)
          have mid : ∀ (ab : Nat) (gone : Int32) (P : aK → Bool), (coA (uN A.1 4 0, A.2) t 1).2.1 3 = ab → ab < 2 ^ 31 → (∃ c', (t, c', 1) ∈ (coA (uN A.1 4 0, A.2) t 1).2.2.1) → ((coA (uN A.1 4 0, A.2) t 1).2.2.1.filter (neT t)).Perm (A.2.1.filter P) → (∀ j, j < A.2.1.length → (P (gC A.2.1 j) = true ↔ ¬ nI j = -1 ∧ ¬ nI j = gone)) → (∀ (h : hH) r h', hRun 229 68 [.ref 281, .int (nI p), .int (nI t), .int (nI k), .int (nI (1148 * p)), .int (-1), .int gone, .int (nI ab), hU, hU] [.int (nI ab), .int (nI k), .int gone, .int (-1), .int (nI (1148 * p)), .ref 281] (hpM h 281 M w.2.2.1) r h' → hRun 229 3 [.ref 281, .int (nI p), .int (nI t), .int (nI k), hU, hU, hU, hU, hU, hU] [] (hpM h 281 M w.2.2.1) r h') → Ans J 118 229 [.ref 2, .int (nI p), .int (nI t), .int (nI k), hU, hU] [.ref 281, .int (nI p), .int (nI t), .int (nI k), hU, hU, hU, hU, hU, hU] E w := by
            intro ab gone P n1 hab ⟨c', n2⟩ n3 hP preM
            obtain ⟨x1, x2⟩ := cts_eq hN hG3.2.2.2.1.2.2.1 n3
            have lq := lo_me hG3 n2
            obtain ⟨rh, hrh⟩ : ∃ rh, rh = clW ab (ctsR (coA (uN A.1 4 0, A.2) t 1).2.2.1 t) k := ⟨_, rfl⟩
            have r1 := rl P (-1) gone ab hab hP
            rw [List.drop_zero, ← x1, ← cl_re _ 0 x2 (by omega), Nat.sub_zero, ← hrh] at r1
            have e0 : nI rh + 1 = nI rh - nI 1 + 2 := by
              rw [show nI 1 = 1 from rfl]
              grind
            refine Ans_l (v := if nI rh - nI 1 + 2 ≤ 1000000 then nI rh - nI 1 + 2 else -1) (u := if nI rh - nI 1 + 2 ≤ 1000000 then nI rh - nI 1 + 2 else -1) (w1 := w3) hMd I rfl rfl rfl rfl hW3 ?_ ?_ rfl
            · have ct := nee_ct (E := E) (w := w3) (p := p) (t := t) (k := k) (rh := rh) (l := 1) hS3 hG3 (by omega) (by omega) hk1 hk2 (by rw [n1, hrh]) lq
              clear fM rl preM
              (repeat (first | refine r_fy rfl rfl rfl rfl ?_ | (refine r_rtE rfl rfl ?_ ?_ ?_ <;> rfl) | refine r_get rfl rfl rfl ?_ | refine wS_getE (by omega) rfl rfl (by with_reducible assumption) ?_ | refine wS_get (by omega) rfl rfl ?_ | refine r_brT rfl rfl (by with_reducible first | assumption | rfl | exact nz10 | exact nI_pos (by omega) | exact nI_lt (by omega) (by omega) | exact nI_nlt (by omega) (by omega) | exact nI_le (by omega) (by omega) | exact nI_ge (by omega) (by omega)) ?_ | refine r_brF rfl rfl (by with_reducible first | assumption | rfl | exact nz10 | exact nI_pos (by omega) | exact nI_lt (by omega) (by omega) | exact nI_nlt (by omega) (by omega) | exact nI_le (by omega) (by omega) | exact nI_ge (by omega) (by omega)) ?_ | refine wH_call rfl rfl rfl rfl rfl (x_standing_t (by with_reducible assumption) (by with_reducible assumption)) ?_ | refine wH_call rfl rfl rfl rfl rfl (x_standing_f (by with_reducible assumption)) ?_ | refine r_callS rfl rfl rfl rfl (p_isSummary (by with_reducible assumption)) ?_ | refine r_callS rfl rfl rfl rfl (p_isThing (by with_reducible assumption)) ?_ | refine r_callS rfl rfl rfl rfl (p_isRoom (by with_reducible assumption)) ?_ | refine r_callS rfl rfl rfl rfl (p_isTop (by with_reducible assumption)) ?_ | refine r_callS rfl rfl rfl rfl (p_isWeight (by with_reducible assumption)) ?_ | refine r_callS rfl rfl rfl rfl (p_isShare (by with_reducible assumption)) ?_ | refine r_callS rfl rfl rfl rfl (p_isWindow (by with_reducible assumption)) ?_ | refine r_callS rfl rfl rfl rfl (p_isImage (by with_reducible assumption)) ?_ | refine r_tswd rfl (by with_reducible assumption) ?_ | refine wS_ild (by omega) rfl rfl (by first | assumption | omega | (simp only [lS]; omega)) ?_)); try dsimp only
              refine wS_read (by omega) rfl rfl rfl rfl rfl fC ?_
              refine r_step rfl rfl rfl ?_
              refine r_brT rfl rfl ?_ ?_
              · rfl
              exact pre _ _ ct
            · refine preM _ _ _ ?_
              refine rM_call rfl rfl rfl rfl rfl (m_rival (pf := pfA A.2.1) _ _ _ _ hA hm h24 hBp) ?_
              rw [show rlF (mV (M 1) (1148 * p)) (pfA A.2.1) (-1) gone (nI k) (nI ab) A.2.1.length 0 0 = nI rh from r1]
              refine r_step rfl rfl rfl ?_
              refine r_step rfl rfl rfl ?_
              refine r_step rfl rfl rfl ?_
              refine r_step rfl rfl rfl ?_
              refine r_step rfl rfl rfl ?_
              refine r_brT rfl rfl ?_ ?_
              · rfl
              refine r_step rfl rfl rfl ?_
              refine r_step rfl rfl rfl ?_
              try dsimp only
              rw [e0]
              exact nee_mt _ _
          by_cases d : A.2.1.length < A.1 1
          · obtain ⟨n1, n2, n3⟩ := nee_2 (A := A) (t := t) g3 d
            have hrr := hG.1
            have d1 : ¬ nI A.2.1.length = nI (A.1 1) := fun z => by have := (nI_eq (by omega) (by omega)).mp z; omega
            refine mid (A.1 3) (-1) (neT t) n1 (by omega) ⟨_, n2⟩ n3 (fun j hj => ?_) ?_
            · have e1 : ¬ nI j = -1 := nI_m1 (by omega)
              simp [neT, e1, hne j hj]
            · intro h r h' K
              have f1 := fM h
              rw [if_neg g3] at f1
              clear fM rl pre mid
              (repeat (first | refine r_fy rfl rfl rfl rfl ?_ | (refine r_rtE rfl rfl ?_ ?_ ?_ <;> rfl) | refine rM_get rfl rfl ?_ | refine r_brT rfl rfl (by with_reducible first | assumption | rfl | exact nz10 | exact nI_pos (by omega) | exact nI_lt (by omega) (by omega) | exact nI_nlt (by omega) (by omega) | exact nI_le (by omega) (by omega) | exact nI_ge (by omega) (by omega)) ?_ | refine r_brF rfl rfl (by with_reducible first | assumption | rfl | exact nz10 | exact nI_pos (by omega) | exact nI_lt (by omega) (by omega) | exact nI_nlt (by omega) (by omega) | exact nI_le (by omega) (by omega) | exact nI_ge (by omega) (by omega)) ?_ | refine rM_call rfl rfl rfl rfl rfl (k_isThere_t (by with_reducible assumption) (by with_reducible assumption)) ?_ | refine rM_call rfl rfl rfl rfl rfl (k_isThere_f (by with_reducible assumption)) ?_ | refine rM_call rfl rfl rfl rfl rfl (m_manyE (by omega) (by with_reducible assumption)) ?_ | refine rM_call rfl rfl rfl rfl rfl (q_isSummary (by with_reducible assumption)) ?_ | (refine r_callS rfl rfl rfl rfl (m_bank _) ?_; rw [nm1148]) | refine r_callS rfl rfl rfl rfl (q_isThing (by with_reducible assumption)) ?_ | refine r_callS rfl rfl rfl rfl (q_isTop (by with_reducible assumption)) ?_ | refine r_callS rfl rfl rfl rfl (q_isPart (by with_reducible assumption)) ?_ | refine r_callS rfl rfl rfl rfl (q_isIn (by with_reducible assumption) (by decide) (by first | exact lx_m1 (by omega) | decide)) ?_ | refine r_tswd rfl (by with_reducible assumption) ?_ | (simp only [Option.toList, List.drop, List.cons_append, List.nil_append, na0, na1, na2, na3, na4, na5, na6, na7, na8, na16, na88, na148, nm3, nI_add]; refine rM_ildE (j := 1) rfl rfl (show _ < 35588 by omega) (by with_reducible assumption) ?_) | (simp only [Option.toList, List.drop, List.cons_append, List.nil_append, na0, na1, na2, na3, na4, na5, na6, na7, na8, na16, na88, na148, nm3, nI_add]; refine rM_ild (j := 1) rfl rfl (show _ < 35588 by omega) ?_))); try simp only [Option.toList, List.drop, List.cons_append, List.nil_append, na0, na1, na2, na3, na4, na5, na6, na7, na8, na16, na88, na148, nm3, nI_add]
              refine rM_call rfl rfl rfl rfl rfl f1 ?_
              (repeat (first | refine r_fy rfl rfl rfl rfl ?_ | (refine r_rtE rfl rfl ?_ ?_ ?_ <;> rfl) | refine rM_get rfl rfl ?_ | refine r_brT rfl rfl (by with_reducible first | assumption | rfl | exact nz10 | exact nI_pos (by omega) | exact nI_lt (by omega) (by omega) | exact nI_nlt (by omega) (by omega) | exact nI_le (by omega) (by omega) | exact nI_ge (by omega) (by omega)) ?_ | refine r_brF rfl rfl (by with_reducible first | assumption | rfl | exact nz10 | exact nI_pos (by omega) | exact nI_lt (by omega) (by omega) | exact nI_nlt (by omega) (by omega) | exact nI_le (by omega) (by omega) | exact nI_ge (by omega) (by omega)) ?_ | refine rM_call rfl rfl rfl rfl rfl (k_isThere_t (by with_reducible assumption) (by with_reducible assumption)) ?_ | refine rM_call rfl rfl rfl rfl rfl (k_isThere_f (by with_reducible assumption)) ?_ | refine rM_call rfl rfl rfl rfl rfl (m_manyE (by omega) (by with_reducible assumption)) ?_ | refine rM_call rfl rfl rfl rfl rfl (q_isSummary (by with_reducible assumption)) ?_ | (refine r_callS rfl rfl rfl rfl (m_bank _) ?_; rw [nm1148]) | refine r_callS rfl rfl rfl rfl (q_isThing (by with_reducible assumption)) ?_ | refine r_callS rfl rfl rfl rfl (q_isTop (by with_reducible assumption)) ?_ | refine r_callS rfl rfl rfl rfl (q_isPart (by with_reducible assumption)) ?_ | refine r_callS rfl rfl rfl rfl (q_isIn (by with_reducible assumption) (by decide) (by first | exact lx_m1 (by omega) | decide)) ?_ | refine r_tswd rfl (by with_reducible assumption) ?_ | (simp only [Option.toList, List.drop, List.cons_append, List.nil_append, na0, na1, na2, na3, na4, na5, na6, na7, na8, na16, na88, na148, nm3, nI_add]; refine rM_ildE (j := 1) rfl rfl (show _ < 35588 by omega) (by with_reducible assumption) ?_) | (simp only [Option.toList, List.drop, List.cons_append, List.nil_append, na0, na1, na2, na3, na4, na5, na6, na7, na8, na16, na88, na148, nm3, nI_add]; refine rM_ild (j := 1) rfl rfl (show _ < 35588 by omega) ?_))); try simp only [Option.toList, List.drop, List.cons_append, List.nil_append, na0, na1, na2, na3, na4, na5, na6, na7, na8, na16, na88, na148, nm3, nI_add]
              exact K
          · obtain ⟨n1, n2, n3⟩ := nee_3 (A := A) (t := t) hG g3 d
            have h0 : 0 < A.2.1.length := by have := hG.1; omega
            have d1 : nI A.2.1.length = nI (A.1 1) := by rw [show A.2.1.length = A.1 1 by have := hG.1; omega]
            have b0 := hb _ (gC_mem h0)
            have rm := (RM_k hM h0).2.1
            have emx : (if nI (A.1 3) ≤ nI (gC A.2.1 0).2.1 then nI (gC A.2.1 0).2.1 else nI (A.1 3)) = nI (max (A.1 3) (gC A.2.1 0).2.1) := by
              by_cases q : A.1 3 ≤ (gC A.2.1 0).2.1
              · rw [if_pos (nI_le q (by omega)), show max (A.1 3) (gC A.2.1 0).2.1 = (gC A.2.1 0).2.1 by omega]
              · rw [if_neg (nle (by omega) (by omega)), show max (A.1 3) (gC A.2.1 0).2.1 = A.1 3 by omega]
            refine mid (max (A.1 3) (gC A.2.1 0).2.1) 0 (fun x => neT t x && neT (gC A.2.1 0).1 x) n1 (by omega) ⟨_, n2⟩ n3 (fun j hj => ?_) ?_
            · have e1 : ¬ nI j = -1 := nI_m1 (by omega)
              have e2 : nI j = 0 ↔ j = 0 := nI_eq (b := 0) (by omega) (by omega)
              have e3 : (gC A.2.1 j).1 = (gC A.2.1 0).1 ↔ j = 0 := ⟨fun z => Nd_inj hN hj h0 z, fun z => by rw [z]⟩
              simp [neT, e1, e2, e3, hne j hj]
            · intro h r h' K
              have f1 := fM h
              rw [if_neg g3] at f1
              clear fM rl pre mid
              (repeat (first | refine r_fy rfl rfl rfl rfl ?_ | (refine r_rtE rfl rfl ?_ ?_ ?_ <;> rfl) | refine rM_get rfl rfl ?_ | refine r_brT rfl rfl (by with_reducible first | assumption | rfl | exact nz10 | exact nI_pos (by omega) | exact nI_lt (by omega) (by omega) | exact nI_nlt (by omega) (by omega) | exact nI_le (by omega) (by omega) | exact nI_ge (by omega) (by omega)) ?_ | refine r_brF rfl rfl (by with_reducible first | assumption | rfl | exact nz10 | exact nI_pos (by omega) | exact nI_lt (by omega) (by omega) | exact nI_nlt (by omega) (by omega) | exact nI_le (by omega) (by omega) | exact nI_ge (by omega) (by omega)) ?_ | refine rM_call rfl rfl rfl rfl rfl (k_isThere_t (by with_reducible assumption) (by with_reducible assumption)) ?_ | refine rM_call rfl rfl rfl rfl rfl (k_isThere_f (by with_reducible assumption)) ?_ | refine rM_call rfl rfl rfl rfl rfl (m_manyE (by omega) (by with_reducible assumption)) ?_ | refine rM_call rfl rfl rfl rfl rfl (q_isSummary (by with_reducible assumption)) ?_ | (refine r_callS rfl rfl rfl rfl (m_bank _) ?_; rw [nm1148]) | refine r_callS rfl rfl rfl rfl (q_isThing (by with_reducible assumption)) ?_ | refine r_callS rfl rfl rfl rfl (q_isTop (by with_reducible assumption)) ?_ | refine r_callS rfl rfl rfl rfl (q_isPart (by with_reducible assumption)) ?_ | refine r_callS rfl rfl rfl rfl (q_isIn (by with_reducible assumption) (by decide) (by first | exact lx_m1 (by omega) | decide)) ?_ | refine r_tswd rfl (by with_reducible assumption) ?_ | (simp only [Option.toList, List.drop, List.cons_append, List.nil_append, na0, na1, na2, na3, na4, na5, na6, na7, na8, na16, na88, na148, nm3, nI_add]; refine rM_ildE (j := 1) rfl rfl (show _ < 35588 by omega) (by with_reducible assumption) ?_) | (simp only [Option.toList, List.drop, List.cons_append, List.nil_append, na0, na1, na2, na3, na4, na5, na6, na7, na8, na16, na88, na148, nm3, nI_add]; refine rM_ild (j := 1) rfl rfl (show _ < 35588 by omega) ?_))); try simp only [Option.toList, List.drop, List.cons_append, List.nil_append, na0, na1, na2, na3, na4, na5, na6, na7, na8, na16, na88, na148, nm3, nI_add]
              refine rM_call rfl rfl rfl rfl rfl f1 ?_
              (repeat (first | refine r_fy rfl rfl rfl rfl ?_ | (refine r_rtE rfl rfl ?_ ?_ ?_ <;> rfl) | refine rM_get rfl rfl ?_ | refine r_brT rfl rfl (by with_reducible first | assumption | rfl | exact nz10 | exact nI_pos (by omega) | exact nI_lt (by omega) (by omega) | exact nI_nlt (by omega) (by omega) | exact nI_le (by omega) (by omega) | exact nI_ge (by omega) (by omega)) ?_ | refine r_brF rfl rfl (by with_reducible first | assumption | rfl | exact nz10 | exact nI_pos (by omega) | exact nI_lt (by omega) (by omega) | exact nI_nlt (by omega) (by omega) | exact nI_le (by omega) (by omega) | exact nI_ge (by omega) (by omega)) ?_ | refine rM_call rfl rfl rfl rfl rfl (k_isThere_t (by with_reducible assumption) (by with_reducible assumption)) ?_ | refine rM_call rfl rfl rfl rfl rfl (k_isThere_f (by with_reducible assumption)) ?_ | refine rM_call rfl rfl rfl rfl rfl (m_manyE (by omega) (by with_reducible assumption)) ?_ | refine rM_call rfl rfl rfl rfl rfl (q_isSummary (by with_reducible assumption)) ?_ | (refine r_callS rfl rfl rfl rfl (m_bank _) ?_; rw [nm1148]) | refine r_callS rfl rfl rfl rfl (q_isThing (by with_reducible assumption)) ?_ | refine r_callS rfl rfl rfl rfl (q_isTop (by with_reducible assumption)) ?_ | refine r_callS rfl rfl rfl rfl (q_isPart (by with_reducible assumption)) ?_ | refine r_callS rfl rfl rfl rfl (q_isIn (by with_reducible assumption) (by decide) (by first | exact lx_m1 (by omega) | decide)) ?_ | refine r_tswd rfl (by with_reducible assumption) ?_ | (simp only [Option.toList, List.drop, List.cons_append, List.nil_append, na0, na1, na2, na3, na4, na5, na6, na7, na8, na16, na88, na148, nm3, nI_add]; refine rM_ildE (j := 1) rfl rfl (show _ < 35588 by omega) (by with_reducible assumption) ?_) | (simp only [Option.toList, List.drop, List.cons_append, List.nil_append, na0, na1, na2, na3, na4, na5, na6, na7, na8, na16, na88, na148, nm3, nI_add]; refine rM_ild (j := 1) rfl rfl (show _ < 35588 by omega) ?_))); try simp only [Option.toList, List.drop, List.cons_append, List.nil_append, na0, na1, na2, na3, na4, na5, na6, na7, na8, na16, na88, na148, nm3, nI_add]
              refine rM_call rfl rfl rfl rfl rfl (m_ofE (i := 0) (u := 1) (by omega) (by omega) hBp rm) ?_
              refine r_callS rfl rfl rfl rfl (m_greater _ _) ?_
              rw [emx]
              (repeat (first | refine r_fy rfl rfl rfl rfl ?_ | (refine r_rtE rfl rfl ?_ ?_ ?_ <;> rfl) | refine rM_get rfl rfl ?_ | refine r_brT rfl rfl (by with_reducible first | assumption | rfl | exact nz10 | exact nI_pos (by omega) | exact nI_lt (by omega) (by omega) | exact nI_nlt (by omega) (by omega) | exact nI_le (by omega) (by omega) | exact nI_ge (by omega) (by omega)) ?_ | refine r_brF rfl rfl (by with_reducible first | assumption | rfl | exact nz10 | exact nI_pos (by omega) | exact nI_lt (by omega) (by omega) | exact nI_nlt (by omega) (by omega) | exact nI_le (by omega) (by omega) | exact nI_ge (by omega) (by omega)) ?_ | refine rM_call rfl rfl rfl rfl rfl (k_isThere_t (by with_reducible assumption) (by with_reducible assumption)) ?_ | refine rM_call rfl rfl rfl rfl rfl (k_isThere_f (by with_reducible assumption)) ?_ | refine rM_call rfl rfl rfl rfl rfl (m_manyE (by omega) (by with_reducible assumption)) ?_ | refine rM_call rfl rfl rfl rfl rfl (q_isSummary (by with_reducible assumption)) ?_ | (refine r_callS rfl rfl rfl rfl (m_bank _) ?_; rw [nm1148]) | refine r_callS rfl rfl rfl rfl (q_isThing (by with_reducible assumption)) ?_ | refine r_callS rfl rfl rfl rfl (q_isTop (by with_reducible assumption)) ?_ | refine r_callS rfl rfl rfl rfl (q_isPart (by with_reducible assumption)) ?_ | refine r_callS rfl rfl rfl rfl (q_isIn (by with_reducible assumption) (by decide) (by first | exact lx_m1 (by omega) | decide)) ?_ | refine r_tswd rfl (by with_reducible assumption) ?_ | (simp only [Option.toList, List.drop, List.cons_append, List.nil_append, na0, na1, na2, na3, na4, na5, na6, na7, na8, na16, na88, na148, nm3, nI_add]; refine rM_ildE (j := 1) rfl rfl (show _ < 35588 by omega) (by with_reducible assumption) ?_) | (simp only [Option.toList, List.drop, List.cons_append, List.nil_append, na0, na1, na2, na3, na4, na5, na6, na7, na8, na16, na88, na148, nm3, nI_add]; refine rM_ild (j := 1) rfl rfl (show _ < 35588 by omega) ?_))); try simp only [Option.toList, List.drop, List.cons_append, List.nil_append, na0, na1, na2, na3, na4, na5, na6, na7, na8, na16, na88, na148, nm3, nI_add]
              exact K
  · refine Ans_3 (v := -2) (u := -2) hMd I rfl rfl rfl rfl ?_ ?_ rfl
    · (repeat (first | refine r_fy rfl rfl rfl rfl ?_ | (refine r_rtE rfl rfl ?_ ?_ ?_ <;> rfl) | refine r_get rfl rfl rfl ?_ | refine wS_getE (by omega) rfl rfl (by with_reducible assumption) ?_ | refine wS_get (by omega) rfl rfl ?_ | refine r_brT rfl rfl (by with_reducible first | assumption | rfl | exact nz10 | exact nI_pos (by omega) | exact nI_lt (by omega) (by omega) | exact nI_nlt (by omega) (by omega) | exact nI_le (by omega) (by omega) | exact nI_ge (by omega) (by omega)) ?_ | refine r_brF rfl rfl (by with_reducible first | assumption | rfl | exact nz10 | exact nI_pos (by omega) | exact nI_lt (by omega) (by omega) | exact nI_nlt (by omega) (by omega) | exact nI_le (by omega) (by omega) | exact nI_ge (by omega) (by omega)) ?_ | refine wH_call rfl rfl rfl rfl rfl (x_standing_t (by with_reducible assumption) (by with_reducible assumption)) ?_ | refine wH_call rfl rfl rfl rfl rfl (x_standing_f (by with_reducible assumption)) ?_ | refine r_callS rfl rfl rfl rfl (p_isSummary (by with_reducible assumption)) ?_ | refine r_callS rfl rfl rfl rfl (p_isThing (by with_reducible assumption)) ?_ | refine r_callS rfl rfl rfl rfl (p_isRoom (by with_reducible assumption)) ?_ | refine r_callS rfl rfl rfl rfl (p_isTop (by with_reducible assumption)) ?_ | refine r_callS rfl rfl rfl rfl (p_isWeight (by with_reducible assumption)) ?_ | refine r_callS rfl rfl rfl rfl (p_isShare (by with_reducible assumption)) ?_ | refine r_callS rfl rfl rfl rfl (p_isWindow (by with_reducible assumption)) ?_ | refine r_callS rfl rfl rfl rfl (p_isImage (by with_reducible assumption)) ?_ | refine r_tswd rfl (by with_reducible assumption) ?_ | refine wS_ild (by omega) rfl rfl (by first | assumption | omega | (simp only [lS]; omega)) ?_)); try dsimp only
    · (repeat (first | refine r_fy rfl rfl rfl rfl ?_ | (refine r_rtE rfl rfl ?_ ?_ ?_ <;> rfl) | refine rM_get rfl rfl ?_ | refine r_brT rfl rfl (by with_reducible first | assumption | rfl | exact nz10 | exact nI_pos (by omega) | exact nI_lt (by omega) (by omega) | exact nI_nlt (by omega) (by omega) | exact nI_le (by omega) (by omega) | exact nI_ge (by omega) (by omega)) ?_ | refine r_brF rfl rfl (by with_reducible first | assumption | rfl | exact nz10 | exact nI_pos (by omega) | exact nI_lt (by omega) (by omega) | exact nI_nlt (by omega) (by omega) | exact nI_le (by omega) (by omega) | exact nI_ge (by omega) (by omega)) ?_ | refine rM_call rfl rfl rfl rfl rfl (k_isThere_t (by with_reducible assumption) (by with_reducible assumption)) ?_ | refine rM_call rfl rfl rfl rfl rfl (k_isThere_f (by with_reducible assumption)) ?_ | refine rM_call rfl rfl rfl rfl rfl (m_manyE (by omega) (by with_reducible assumption)) ?_ | refine rM_call rfl rfl rfl rfl rfl (q_isSummary (by with_reducible assumption)) ?_ | (refine r_callS rfl rfl rfl rfl (m_bank _) ?_; rw [nm1148]) | refine r_callS rfl rfl rfl rfl (q_isThing (by with_reducible assumption)) ?_ | refine r_callS rfl rfl rfl rfl (q_isTop (by with_reducible assumption)) ?_ | refine r_callS rfl rfl rfl rfl (q_isPart (by with_reducible assumption)) ?_ | refine r_callS rfl rfl rfl rfl (q_isIn (by with_reducible assumption) (by decide) (by first | exact lx_m1 (by omega) | decide)) ?_ | refine r_tswd rfl (by with_reducible assumption) ?_ | (simp only [Option.toList, List.drop, List.cons_append, List.nil_append, na0, na1, na2, na3, na4, na5, na6, na7, na8, na16, na88, na148, nm3, nI_add]; refine rM_ildE (j := 1) rfl rfl (show _ < 35588 by omega) (by with_reducible assumption) ?_) | (simp only [Option.toList, List.drop, List.cons_append, List.nil_append, na0, na1, na2, na3, na4, na5, na6, na7, na8, na16, na88, na148, nm3, nI_add]; refine rM_ild (j := 1) rfl rfl (show _ < 35588 by omega) ?_))); try simp only [Option.toList, List.drop, List.cons_append, List.nil_append, na0, na1, na2, na3, na4, na5, na6, na7, na8, na16, na88, na148, nm3, nI_add]
end CF1
