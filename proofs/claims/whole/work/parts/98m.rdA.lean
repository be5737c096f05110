/-! read -/
section CF2
variable {J : Nat} {E : hEn} {w : hWo}
set_option maxHeartbeats 4000000 in
theorem A_read (I : Iv J w.1 w.2.2.2) (s : Int32) : Ans J 153 269 [.ref 2, .int s, hU] [.ref 281, .int s, hU] E w := by
  obtain ⟨M, hMd⟩ : ∃ M, M = s2 (w.1 36) 0 0 0 := ⟨_, rfl⟩
  rcases rg_01 s 0 5 with hs | hs
  · refine Ans_3 (v := -2) (u := -2) hMd I rfl rfl rfl rfl ?_ ?_ rfl
    · (repeat (first | refine r_fy rfl rfl rfl rfl ?_ | (refine r_rtE rfl rfl ?_ ?_ ?_ <;> rfl) | refine r_get rfl rfl rfl ?_ | refine wS_getE (by omega) rfl rfl (by with_reducible assumption) ?_ | refine wS_get (by omega) rfl rfl ?_ | refine r_brT rfl rfl (by with_reducible first | assumption | rfl | exact nz10 | exact nI_pos (by omega) | exact nI_lt (by omega) (by omega) | exact nI_nlt (by omega) (by omega) | exact nI_le (by omega) (by omega) | exact nI_ge (by omega) (by omega)) ?_ | refine r_brF rfl rfl (by with_reducible first | assumption | rfl | exact nz10 | exact nI_pos (by omega) | exact nI_lt (by omega) (by omega) | exact nI_nlt (by omega) (by omega) | exact nI_le (by omega) (by omega) | exact nI_ge (by omega) (by omega)) ?_ | refine wH_call rfl rfl rfl rfl rfl (x_standing_t (by with_reducible assumption) (by with_reducible assumption)) ?_ | refine wH_call rfl rfl rfl rfl rfl (x_standing_f (by with_reducible assumption)) ?_ | refine r_callS rfl rfl rfl rfl (p_isSummary (by with_reducible assumption)) ?_ | refine r_callS rfl rfl rfl rfl (p_isThing (by with_reducible assumption)) ?_ | refine r_callS rfl rfl rfl rfl (p_isRoom (by with_reducible assumption)) ?_ | refine r_callS rfl rfl rfl rfl (p_isTop (by with_reducible assumption)) ?_ | refine r_callS rfl rfl rfl rfl (p_isWeight (by with_reducible assumption)) ?_ | refine r_callS rfl rfl rfl rfl (p_isShare (by with_reducible assumption)) ?_ | refine r_callS rfl rfl rfl rfl (p_isWindow (by with_reducible assumption)) ?_ | refine r_callS rfl rfl rfl rfl (p_isImage (by with_reducible assumption)) ?_ | refine r_tswd rfl (by with_reducible assumption) ?_ | refine wS_ild (by omega) rfl rfl (by first | assumption | omega | (simp only [lS]; omega)) ?_)); try dsimp only
    · (repeat (first | refine r_fy rfl rfl rfl rfl ?_ | (refine r_rtE rfl rfl ?_ ?_ ?_ <;> rfl) | refine rM_get rfl rfl ?_ | refine r_brT rfl rfl (by with_reducible first | assumption | rfl | exact nz10 | exact nI_pos (by omega) | exact nI_lt (by omega) (by omega) | exact nI_nlt (by omega) (by omega) | exact nI_le (by omega) (by omega) | exact nI_ge (by omega) (by omega)) ?_ | refine r_brF rfl rfl (by with_reducible first | assumption | rfl | exact nz10 | exact nI_pos (by omega) | exact nI_lt (by omega) (by omega) | exact nI_nlt (by omega) (by omega) | exact nI_le (by omega) (by omega) | exact nI_ge (by omega) (by omega)) ?_ | refine rM_call rfl rfl rfl rfl rfl (k_isThere_t (by with_reducible assumption) (by with_reducible assumption)) ?_ | refine rM_call rfl rfl rfl rfl rfl (k_isThere_f (by with_reducible assumption)) ?_ | refine rM_call rfl rfl rfl rfl rfl (m_manyE (by omega) (by with_reducible assumption)) ?_ | refine rM_call rfl rfl rfl rfl rfl (q_isSummary (by with_reducible assumption)) ?_ | (refine r_callS rfl rfl rfl rfl (m_bank _) ?_; rw [nm1148]) | refine r_callS rfl rfl rfl rfl (q_isThing (by with_reducible assumption)) ?_ | refine r_callS rfl rfl rfl rfl (q_isTop (by with_reducible assumption)) ?_ | refine r_callS rfl rfl rfl rfl (q_isPart (by with_reducible assumption)) ?_ | refine r_callS rfl rfl rfl rfl (q_isIn (by with_reducible assumption) (by decide) (by first | exact lx_m1 (by omega) | decide)) ?_ | refine r_tswd rfl (by with_reducible assumption) ?_ | (simp only [Option.toList, List.drop, List.cons_append, List.nil_append, na0, na1, na2, na3, na4, na5, na6, na7, na8, na16, na88, na148, nm3, nI_add]; refine rM_ildE (j := 1) rfl rfl (show _ < 35588 by omega) (by with_reducible assumption) ?_) | (simp only [Option.toList, List.drop, List.cons_append, List.nil_append, na0, na1, na2, na3, na4, na5, na6, na7, na8, na16, na88, na148, nm3, nI_add]; refine rM_ild (j := 1) rfl rfl (show _ < 35588 by omega) ?_))); try simp only [Option.toList, List.drop, List.cons_append, List.nil_append, na0, na1, na2, na3, na4, na5, na6, na7, na8, na16, na88, na148, nm3, nI_add]
  obtain ⟨p, rfl, -, hp5⟩ := rg_1 (lo := 0) (hi := 5) hs
  have hp : p < 6 := by omega
  have hBp : 1148 * p + 1148 ≤ 35588 := by omega
  obtain ⟨n, bb, hn, h1, h2, h3⟩ := I.2.2.2.2.1
  have hm4 : M 0 4 = nI n := by rw [hMd, s2_at, if_neg (by omega)]; exact h2
  have eMj : ∀ j, j ≠ 0 → M j = w.1 36 j := fun j hj => by rw [hMd, s2_row hj]
  have eM0 : ∀ j, j ≠ 0 → M 0 j = w.1 36 0 j := fun j hj => by rw [hMd, s2_at, if_neg (by omega)]
  obtain ⟨F, hF⟩ : ∃ F : Nat → Int32, (fun j => if j < n then w.1 33 1 j else 0) = F := ⟨_, rfl⟩
  have hT : TpC w n F := ⟨h1, hn, hF⟩
  have hFb : ∀ j, F j = nI (if j < n then bb j else 0) := fun j => by
    rw [← hF]
    dsimp only
    by_cases q : j < n
    · rw [if_pos q, if_pos q]; exact (h3 j q).2.1
    · rw [if_neg q, if_neg q]; rfl
  have hbl : ∀ j, (if j < n then bb j else 0) < 256 := fun j => by
    by_cases q : j < n
    · rw [if_pos q]; exact (h3 j q).1
    · rw [if_neg q]; omega
  obtain ⟨b0, hb0⟩ : ∃ b0, b0 = if 0 < n then bb 0 else 0 := ⟨_, rfl⟩
  obtain ⟨m, hm⟩ : ∃ m, m = if 1 < n then bb 1 else 0 := ⟨_, rfl⟩
  have f0 := hFb 0
  have f1 := hFb 1
  have l0 := hbl 0
  have l1 := hbl 1
  rw [← hb0] at f0 l0
  rw [← hm] at f1 l1
  obtain ⟨M0, hM0⟩ : ∃ M0, M0 = mF (s2 M 0 4 0) 0 (-1) := ⟨_, rfl⟩
  have hM0j : ∀ j, j ≠ 0 → M0 j = w.1 36 j := fun j hj => by rw [hM0, mF_row _ _ _ hj, s2_row hj, eMj j hj]
  have hTM : TpM M0 n F := ⟨hn, fun j hj => by
    rw [hM0j 10 (by omega), (h3 j hj).2.2, by_255 (h3 j hj).1, hFb j, if_pos hj]⟩
  have h05 : M0 0 5 = 0 := by rw [hM0, mF_5]
  have h06 : M0 0 6 = -1 := by rw [hM0]; unfold mF; rw [s2_at, if_pos ⟨rfl, rfl⟩]
  obtain ⟨o, o1, o2, o3, o4⟩ := I.2.2.2.1
  obtain ⟨⟨r1, r2⟩, ⟨r3, r4⟩, r5, r6⟩ := I.2.2.2.2.2
  have xs := x_sound (E := E) hT f0 l0 f1 l1
  have kr := fun h : hH => k_reads (h := h) (M := M0) (x := w.2.2.1) hTM h05 h06 (fun _ => f0) l0 (fun _ => f1) l1
  obtain ⟨V, hV⟩ : ∃ V, V = vdF F n m (cN (nuF F 2 4 0)) := ⟨_, rfl⟩
  rw [← hV] at xs kr
  have preM : ∀ (h : hH) (v : Nat → Int32) r h', hRun 270 0 [.ref 281, .int (nI n), hU, hU] [] (hpM h 281 M0 w.2.2.1) none (hpM h 281 (mF (s1 M0 1 v) V.1 V.2) w.2.2.1) → hRun 269 24 [.ref 281, .int (nI p), .int (nI n)] [] (hpM h 281 (mF (s1 M0 1 v) V.1 V.2) w.2.2.1) r h' → hRun 269 3 [.ref 281, .int (nI p), hU] [] (hpM h 281 M w.2.2.1) r h' := by
    intro h v r h' K1 K
    refine r_step rfl rfl rfl ?_
    refine r_step rfl rfl rfl ?_
    refine rM_call rfl rfl rfl rfl rfl (k_isSummary _) ?_
    rw [hs]
    refine r_brF rfl rfl ?_ ?_
    · decide
    refine r_step rfl rfl rfl ?_
    refine rM_getE rfl rfl hm4 ?_
    refine r_step rfl rfl rfl ?_
    refine r_step rfl rfl rfl ?_
    refine r_step rfl rfl rfl ?_
    refine rM_set rfl rfl ?_
    refine r_step rfl rfl rfl ?_
    refine r_step rfl rfl rfl ?_
    refine rM_set rfl rfl ?_
    refine r_step rfl rfl rfl ?_
    refine r_step rfl rfl rfl ?_
    refine rM_set rfl rfl ?_
    change hRun 269 _ _ _ (hpM h 281 (mF (s2 M 0 4 0) 0 (-1)) _) _ _
    rw [← hM0]
    refine r_step rfl rfl rfl ?_
    refine r_step rfl rfl rfl ?_
    refine rM_call rfl rfl rfl rfl rfl K1 ?_
    exact K
  by_cases q : V.1 = 0
  · obtain ⟨v, j1, j2, j3⟩ := kr (hW E w)
    obtain ⟨tt, ab, ha, hbr, hmb, e2, e6, e10, t2, a2, b2, hN, hrd, -⟩ := j3 q
    obtain ⟨T, x1, x2⟩ := x_load (E := E) (w := wFl w V.1 V.2) (q := p) (N := n) (F := F) (tt := tt) (m := m) (b0 := b0) (ab := ab) (ha := ha) (by omega) (TpC_f hT) f0 f1 (by omega) t2 e2 e6 e10 hrd
    clear j1 j2 j3 v
    obtain ⟨w1, hw1⟩ : ∃ w1, w1 = wS (wS (wFl w V.1 V.2) p T) 33 (s2 (w.1 33) 0 0 0) := ⟨_, rfl⟩
    obtain ⟨v, j1, j2, j3⟩ := kr (hW E w1)
    obtain ⟨tt', ab', ha', -, -, e2', e6', e10', t2', a2', b2', -, -, hRM⟩ := j3 q
    have et : tt' = tt := (nI_eq (by omega) (by omega)).mp (e2'.symm.trans e2)
    have ea : ab' = ab := (nI_eq (by omega) (by omega)).mp (e6'.symm.trans e6)
    have eh : ha' = ha := (nI_eq (by omega) (by omega)).mp (e10'.symm.trans e10)
    subst et
    subst ea
    subst eh
    have hIR := rd_gd t2 m 0 [] (fun _ => 0) (IR_0 (F := F)) hrd
    rw [Nat.zero_add] at hIR
    have hGd := rd_Gd (Y := 100 * (J + 1)) hbr hmb t2 a2 b2 hIR
    obtain ⟨A, hA⟩ : ∃ A : aS, A = (bD b0 tt' ab' ha', (rdS F tt' m 0 [] (fun _ => 0)).2.2.1, (rdS F tt' m 0 [] (fun _ => 0)).2.2.2, []) := ⟨_, rfl⟩
    have hAl : A.2.1.length = m := by rw [hA]; exact hIR.1
    rw [← hA] at hGd x2 hRM
    obtain ⟨v2, hv2⟩ : ∃ v2, v2 = cpW (1148 * p) 34440 1148 0 v := ⟨_, rfl⟩
    have hRM2 : RM A v2 (1148 * p) := by rw [hv2]; exact RM_cp (by omega) hGd hRM
    obtain ⟨M', hM'⟩ : ∃ M', M' = s1 (mF (s1 M0 1 v) V.1 V.2) 1 v2 := ⟨_, rfl⟩
    have m'1 : M' 1 = v2 := by rw [hM', s1_at]
    have m'j : ∀ j, j ≠ 0 → j ≠ 1 → M' j = w.1 36 j := fun j a b => by rw [hM', s1_row, if_neg b, mF_row _ _ _ a, s1_row, if_neg b, hM0j j a]
    have m'0 : ∀ j, M' 0 j = mF (s1 M0 1 v) V.1 V.2 0 j := fun j => by rw [hM', s1_row, if_neg (by omega)]
    have w1c : ∀ c, c ≠ 33 → c ≠ 34 → c ≠ p → w1.1 c = w.1 c := fun c a b d => by rw [hw1, wS_ne a, wS_ne d, wFl_at b]
    have w1p : w1.1 p = T := by rw [hw1, wS_ne (by omega), wS_at]
    have w133 : w1.1 33 = s2 (w.1 33) 0 0 0 := by rw [hw1, wS_at]
    have w134 : w1.1 34 = s2 (s2 (w.1 34) 0 0 V.1) 0 1 V.2 := by rw [hw1, wS_ne (by omega), wS_ne (by omega)]; unfold wFl; rw [wS_at]
    have m'f : ∀ j, j ≠ 0 → j ≠ 4 → j ≠ 5 → j ≠ 6 → M' 0 j = w.1 36 0 j := fun j a b c d => by
      rw [m'0]
      unfold mF
      rw [s2_at, if_neg (by omega), s2_at, if_neg (by omega), s1_row, if_neg (by omega), hM0]
      unfold mF
      rw [s2_at, if_neg (by omega), s2_at, if_neg (by omega), s2_at, if_neg (by omega), eM0 j a]
    have m'4 : M' 0 4 = 0 := by
      rw [m'0]
      unfold mF
      rw [s2_at, if_neg (by omega), s2_at, if_neg (by omega), s1_row, if_neg (by omega), hM0]
      unfold mF
      rw [s2_at, if_neg (by omega), s2_at, if_neg (by omega), s2_at, if_pos ⟨rfl, rfl⟩]
    have m'5 : M' 0 5 = V.1 := by rw [m'0, mF_5]
    have m'6 : M' 0 6 = V.2 := by rw [m'0]; unfold mF; rw [s2_at, if_pos ⟨rfl, rfl⟩]
    refine Ans_i (v := nI m) (u := nI m) (x' := w.2.2.1) (M' := M') (w1 := w1) hMd rfl rfl rfl rfl (w1c 36 (by omega) (by omega) (by omega)) (by rw [hw1]; rfl) ?_ ?_ ?_ rfl
    · have eV : ∀ c, c ≠ 36 → (wM w1 M' w.2.2.1).1 c = w1.1 c := fun c hc => if_neg hc
      have e36 : (wM w1 M' w.2.2.1).1 36 = M' := rfl
      rw [show w1.2.2.2 = w.2.2.2 by rw [hw1]; rfl]
      refine Iv_rd (q0 := p) I (Or.inl hp) (fun c a b d => ?_) ?_ (fun i a b => ?_) ?_ ?_ (fun _ => Or.inr ⟨A, hGd, ?_, ?_⟩) ⟨o, o1, ?_, ?_, fun j hj => ?_⟩ ⟨0, bb, by omega, ?_, ?_, fun j hj => absurd hj (by omega)⟩ ⟨⟨?_, ?_⟩, ⟨?_, ?_⟩, ?_, ?_⟩
      · rw [eV c (by omega), w1c c (by omega) (by omega) (d hp)]
      · rw [eV 35 (by omega), w1c 35 (by omega) (by omega) (by omega)]
      · rw [e36, m'1, hv2, cpW_o (by omega) _ (show Ot (1148 * p) i by unfold Ot; omega), j2 i (by unfold Ot; omega), hM0j 1 (by omega)]
      · rw [e36, m'j 7 (by omega) (by omega)]
      · rw [e36, m'j 8 (by omega) (by omega)]
      · rw [eV p (by omega), w1p]; exact x2
      · rw [e36, m'1]; exact hRM2
      · rw [eV 32 (by omega), w1c 32 (by omega) (by omega) (by omega)]; exact o2
      · rw [e36, m'f 3 (by omega) (by omega) (by omega) (by omega)]; exact o3
      · rw [eV 32 (by omega), w1c 32 (by omega) (by omega) (by omega), e36, m'j 9 (by omega) (by omega)]; exact o4 j hj
      · rw [eV 33 (by omega), w133, s2_at, if_pos ⟨rfl, rfl⟩]; rfl
      · rw [e36, m'4]; rfl
      · rw [eV 34 (by omega), w134, e36, m'5, s2_at, if_neg (by omega), s2_at, if_pos ⟨rfl, rfl⟩]
      · rw [eV 34 (by omega), w134, e36, m'6, s2_at, if_pos ⟨rfl, rfl⟩]
      · rw [eV 35 (by omega), w1c 35 (by omega) (by omega) (by omega), e36, m'j 11 (by omega) (by omega)]; exact r3
      · rw [eV 35 (by omega), w1c 35 (by omega) (by omega) (by omega), e36, m'j 11 (by omega) (by omega)]; exact r4
      · rw [e36, m'j 11 (by omega) (by omega)]; exact r5
      · rw [e36, m'j 11 (by omega) (by omega)]; exact r6
    · clear preM j1
      rw [if_pos q] at xs
      have g5 : w1.1 p 0 5 = nI m := by rw [w1p, ← hAl]; exact x2.2.1.2.1
      refine r_step rfl rfl rfl ?_
      refine r_callS rfl rfl rfl rfl (p_isSummary hs) ?_
      refine r_brF rfl rfl ?_ ?_
      · decide
      refine r_step rfl rfl rfl ?_
      refine r_get rfl rfl rfl ?_
      refine r_step rfl rfl rfl ?_
      refine r_get rfl rfl rfl ?_
      refine rF_call rfl rfl rfl rfl rfl rfl xs ?_
      refine r_step rfl rfl rfl ?_
      refine r_step rfl rfl rfl ?_
      refine r_brF rfl rfl ?_ ?_
      · decide
      refine r_step rfl rfl rfl ?_
      refine r_get rfl rfl rfl ?_
      refine r_step rfl rfl rfl ?_
      refine r_get rfl rfl rfl ?_
      refine r_step rfl rfl rfl ?_
      refine r_get rfl rfl rfl ?_
      refine r_get rfl rfl rfl ?_
      refine r_step rfl rfl rfl ?_
      refine w4_ld hp rfl ?_
      refine rF_call rfl rfl rfl rfl rfl rfl x1 ?_
      refine r_step rfl rfl rfl ?_
      refine r_get rfl rfl rfl ?_
      refine r_step rfl rfl rfl ?_
      refine wT_set rfl ?_
      rw [show (wS (wFl w V.1 V.2) p T).1 33 = w.1 33 by rw [wS_ne (by omega), wFl_at (by omega)], ← hw1]
      refine r_step rfl rfl rfl ?_
      refine r_brF rfl rfl ?_ ?_
      · decide
      refine r_step rfl rfl rfl ?_
      refine r_get rfl rfl rfl ?_
      refine r_get rfl rfl rfl ?_
      refine r_step rfl rfl rfl ?_
      refine w4_ld hp rfl ?_
      refine wS_getE (q := p) (by omega) rfl rfl g5 ?_
      refine r_step rfl rfl rfl ?_
      (refine r_rtE rfl rfl ?_ ?_ ?_ <;> rfl)
    · refine preM _ v _ _ j1 ?_
      have hm2 : M' 1 (1148 * p + 2) = nI m := by rw [m'1, ← hAl]; exact hRM2.2.1.2.1
      refine r_step rfl rfl rfl ?_
      refine rM_getE rfl rfl (mF_5 _ _ _) ?_
      refine r_brT rfl rfl ?_ ?_
      · exact q
      refine r_step rfl rfl rfl ?_
      refine r_step rfl rfl rfl ?_
      refine r_callS rfl rfl rfl rfl (m_bank _) ?_
      rw [nm1148]
      refine r_step rfl rfl rfl ?_
      refine rM_call rfl rfl rfl rfl rfl (m_copies (T := 1148 * p) (F := 34440) hBp (by omega)) ?_
      rw [show (mF (s1 M0 1 v) V.1 V.2) 1 = v by rw [mF_row _ _ _ (by omega), s1_at], ← hv2, ← hM']
      refine r_step rfl rfl rfl ?_
      refine r_step rfl rfl rfl ?_
      refine r_callS rfl rfl rfl rfl (m_bank _) ?_
      rw [nm1148]
      refine rM_call rfl rfl rfl rfl rfl (m_manyE hBp hm2) ?_
      (refine r_rtE rfl rfl ?_ ?_ ?_ <;> rfl)
  · obtain ⟨w1, hw1⟩ : ∃ w1, w1 = wS (wFl w V.1 V.2) 33 (s2 (w.1 33) 0 0 0) := ⟨_, rfl⟩
    obtain ⟨v, j1, j2, -⟩ := kr (hW E w1)
    obtain ⟨M', hM'⟩ : ∃ M', M' = mF (s1 M0 1 v) V.1 V.2 := ⟨_, rfl⟩
    have m'1 : M' 1 = v := by rw [hM', mF_row _ _ _ (by omega), s1_at]
    have m'j : ∀ j, j ≠ 0 → j ≠ 1 → M' j = w.1 36 j := fun j a b => by rw [hM', mF_row _ _ _ a, s1_row, if_neg b, hM0j j a]
    have w1c : ∀ c, c ≠ 33 → c ≠ 34 → w1.1 c = w.1 c := fun c a b => by rw [hw1, wS_ne a, wFl_at b]
    have w133 : w1.1 33 = s2 (w.1 33) 0 0 0 := by rw [hw1, wS_at]
    have w134 : w1.1 34 = s2 (s2 (w.1 34) 0 0 V.1) 0 1 V.2 := by rw [hw1, wS_ne (by omega)]; unfold wFl; rw [wS_at]
    have m'f : ∀ j, j ≠ 0 → j ≠ 4 → j ≠ 5 → j ≠ 6 → M' 0 j = w.1 36 0 j := fun j a b c d => by
      rw [hM']
      unfold mF
      rw [s2_at, if_neg (by omega), s2_at, if_neg (by omega), s1_row, if_neg (by omega), hM0]
      unfold mF
      rw [s2_at, if_neg (by omega), s2_at, if_neg (by omega), s2_at, if_neg (by omega), eM0 j a]
    have m'4 : M' 0 4 = 0 := by
      rw [hM']
      unfold mF
      rw [s2_at, if_neg (by omega), s2_at, if_neg (by omega), s1_row, if_neg (by omega), hM0]
      unfold mF
      rw [s2_at, if_neg (by omega), s2_at, if_neg (by omega), s2_at, if_pos ⟨rfl, rfl⟩]
    have m'5 : M' 0 5 = V.1 := by rw [hM', mF_5]
    have m'6 : M' 0 6 = V.2 := by rw [hM']; unfold mF; rw [s2_at, if_pos ⟨rfl, rfl⟩]
    refine Ans_i (v := -1) (u := -1) (x' := w.2.2.1) (M' := M') (w1 := w1) hMd rfl rfl rfl rfl (w1c 36 (by omega) (by omega)) (by rw [hw1]; rfl) ?_ ?_ ?_ rfl
    · have eV : ∀ c, c ≠ 36 → (wM w1 M' w.2.2.1).1 c = w1.1 c := fun c hc => if_neg hc
      have e36 : (wM w1 M' w.2.2.1).1 36 = M' := rfl
      rw [show w1.2.2.2 = w.2.2.2 by rw [hw1]; rfl]
      refine Iv_rd (q0 := 30) I (Or.inr rfl) (fun c a b d => ?_) ?_ (fun i a b => ?_) ?_ ?_ (fun z => absurd z (by omega)) ⟨o, o1, ?_, ?_, fun j hj => ?_⟩ ⟨0, bb, by omega, ?_, ?_, fun j hj => absurd hj (by omega)⟩ ⟨⟨?_, ?_⟩, ⟨?_, ?_⟩, ?_, ?_⟩
      · rw [eV c (by omega), w1c c (by omega) (by omega)]
      · rw [eV 35 (by omega), w1c 35 (by omega) (by omega)]
      · rw [e36, m'1, j2 i (by unfold Ot; omega), hM0j 1 (by omega)]
      · rw [e36, m'j 7 (by omega) (by omega)]
      · rw [e36, m'j 8 (by omega) (by omega)]
      · rw [eV 32 (by omega), w1c 32 (by omega) (by omega)]; exact o2
      · rw [e36, m'f 3 (by omega) (by omega) (by omega) (by omega)]; exact o3
      · rw [eV 32 (by omega), w1c 32 (by omega) (by omega), e36, m'j 9 (by omega) (by omega)]; exact o4 j hj
      · rw [eV 33 (by omega), w133, s2_at, if_pos ⟨rfl, rfl⟩]; rfl
      · rw [e36, m'4]; rfl
      · rw [eV 34 (by omega), w134, e36, m'5, s2_at, if_neg (by omega), s2_at, if_pos ⟨rfl, rfl⟩]
      · rw [eV 34 (by omega), w134, e36, m'6, s2_at, if_pos ⟨rfl, rfl⟩]
      · rw [eV 35 (by omega), w1c 35 (by omega) (by omega), e36, m'j 11 (by omega) (by omega)]; exact r3
      · rw [eV 35 (by omega), w1c 35 (by omega) (by omega), e36, m'j 11 (by omega) (by omega)]; exact r4
      · rw [e36, m'j 11 (by omega) (by omega)]; exact r5
      · rw [e36, m'j 11 (by omega) (by omega)]; exact r6
    · clear preM j1
      rw [if_neg q] at xs
      refine r_step rfl rfl rfl ?_
      refine r_callS rfl rfl rfl rfl (p_isSummary hs) ?_
      refine r_brF rfl rfl ?_ ?_
      · decide
      refine r_step rfl rfl rfl ?_
      refine r_get rfl rfl rfl ?_
      refine r_step rfl rfl rfl ?_
      refine r_get rfl rfl rfl ?_
      refine rF_call rfl rfl rfl rfl rfl rfl xs ?_
      refine r_step rfl rfl rfl ?_
      refine r_step rfl rfl rfl ?_
      refine r_brT rfl rfl ?_ ?_
      · rfl
      refine r_step rfl rfl rfl ?_
      refine r_get rfl rfl rfl ?_
      refine r_step rfl rfl rfl ?_
      refine wT_set rfl ?_
      rw [show (wFl w V.1 V.2).1 33 = w.1 33 from wFl_at (by omega), ← hw1]
      refine r_step rfl rfl rfl ?_
      refine r_brT rfl rfl ?_ ?_
      · rfl
      refine r_step rfl rfl rfl ?_
      (refine r_rtE rfl rfl ?_ ?_ ?_ <;> rfl)
    · refine preM _ v _ _ j1 ?_
      refine r_step rfl rfl rfl ?_
      refine rM_getE rfl rfl (mF_5 _ _ _) ?_
      refine r_brF rfl rfl ?_ ?_
      · exact q
      rw [hM']
      refine r_step rfl rfl rfl ?_
      (refine r_rtE rfl rfl ?_ ?_ ?_ <;> rfl)
end CF2
