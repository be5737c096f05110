/-! keep, back: the calls -/
theorem cq_at (q : Nat) : cq q = q ∧ q < 6 ∨ cq q = q + 1 ∧ 6 ≤ q := by
  unfold cq
  by_cases h : q < 6
  · rw [if_pos h]; exact Or.inl ⟨rfl, h⟩
  · rw [if_neg h]; exact Or.inr ⟨rfl, by omega⟩
/-- six banks and their summaries were copied -/
theorem Iv_six {J tb sb : Nat} {W V : Nat → hT2} {P : Nat → Nat → Nat} (I : Iv J W P) (ht : tb + 6 ≤ 18) (hs : sb + 6 ≤ 18) (hd : tb + 6 ≤ sb ∨ sb + 6 ≤ tb) (h1 : ∀ c, c < 35 → (∀ s, s < 6 → c ≠ cq (tb + s)) → V c = W c) (h2 : V 35 1 = W 35 1) (hc : ∀ s, s < 6 → Cpy (W (cq (sb + s))) (V (cq (tb + s)))) (m1 : ∀ s, s < 6 → ∀ j, j < 1148 → V 36 1 (1148 * (tb + s) + j) = W 36 1 (1148 * (sb + s) + j)) (m2 : ∀ j, (j < 1148 * tb ∨ 1148 * (tb + 6) ≤ j) → V 36 1 j = W 36 1 j) (m3 : ∀ j, 7 ≤ j → j ≤ 10 → V 36 j = W 36 j) (m4 : ∀ j, 3 ≤ j → V 36 0 j = W 36 0 j) (hr : Ir V) : Iv (J + 1) V P := by
  have h1' : ∀ c, c < 35 → 19 ≤ c → V c = W c := fun c a b => h1 c a (fun s hs z => by have := cq_at (tb + s); omega)
  refine ⟨fun q hq => ?_, fun v hv => ?_, I.2.2.1, ?_, ?_, hr⟩
  · by_cases e : tb ≤ q ∧ q < tb + 6
    · obtain ⟨s, rfl⟩ : ∃ s, q = tb + s := ⟨q - tb, by omega⟩
      exact Rq_cpy (I.1 (sb + s) (by omega)) (by omega) (hc s (by omega)) (m1 s (by omega))
    · have a := cq_at q
      refine Rq_same (I.1 q hq) (by omega) (h1 _ (by omega) (fun s hs z => ?_)) (fun i hi => m2 _ (by omega))
      have b := cq_at (tb + s)
      omega
  · exact Rw_same hv I.2.2.1 (I.2.1 v hv) (by omega) h2 (m3 7 (by omega) (by omega)) (m3 8 (by omega) (by omega)) (fun c a b => h1' c (by omega) (by omega)) (fun i a b => m2 i (by omega))
  · obtain ⟨o, o1, o2, o3, o4⟩ := I.2.2.2.1
    refine ⟨o, o1, ?_, ?_, fun j hj => ?_⟩
    · rw [h1' 32 (by omega) (by omega)]; exact o2
    · rw [m4 3 (by omega)]; exact o3
    · rw [h1' 32 (by omega) (by omega), m3 9 (by omega) (by omega)]; exact o4 j hj
  · obtain ⟨o, bb, o1, o2, o3, o4⟩ := I.2.2.2.2.1
    refine ⟨o, bb, o1, ?_, ?_, fun j hj => ?_⟩
    · rw [h1' 33 (by omega) (by omega)]; exact o2
    · rw [m4 4 (by omega)]; exact o3
    · rw [h1' 33 (by omega) (by omega), m3 10 (by omega) (by omega)]; exact o4 j hj
theorem Rq_fl {Y B : Nat} {S : hT2} {v : Nat → Int32} (h : Rq Y S v B) : S 0 0 = 0 ∨ S 0 0 = 1 := by
  rcases h with ⟨h1, _⟩ | ⟨A, _, h1, _⟩
  · exact Or.inl h1
  · exact Or.inr h1.1
section CE3
variable {J : Nat} {E : hEn} {w : hWo}
theorem A_keep (I : Iv J w.1 w.2.2.2) (s : Int32) : Ans J 155 276 [.ref 2, .int s] [.ref 281, .int s, hU] E w := by
  obtain ⟨M, hMd⟩ : ∃ M, M = s2 (w.1 36) 0 0 0 := ⟨_, rfl⟩
  rcases rg_01 s 0 1 with hs | hs
  · refine Ans_3 (v := -2) (u := -2) hMd I rfl rfl rfl rfl ?_ ?_ rfl
    · (repeat (first | refine r_fy rfl rfl rfl rfl ?_ | (refine r_rtE rfl rfl ?_ ?_ ?_ <;> rfl) | refine r_get rfl rfl rfl ?_ | refine wS_getE (by omega) rfl rfl (by with_reducible assumption) ?_ | refine wS_get (by omega) rfl rfl ?_ | refine r_brT rfl rfl (by with_reducible first | assumption | rfl | exact nz10 | exact nI_pos (by omega) | exact nI_lt (by omega) (by omega) | exact nI_nlt (by omega) (by omega) | exact nI_le (by omega) (by omega) | exact nI_ge (by omega) (by omega)) ?_ | refine r_brF rfl rfl (by with_reducible first | assumption | rfl | exact nz10 | exact nI_pos (by omega) | exact nI_lt (by omega) (by omega) | exact nI_nlt (by omega) (by omega) | exact nI_le (by omega) (by omega) | exact nI_ge (by omega) (by omega)) ?_ | refine wH_call rfl rfl rfl rfl rfl (x_standing_t (by with_reducible assumption) (by with_reducible assumption)) ?_ | refine wH_call rfl rfl rfl rfl rfl (x_standing_f (by with_reducible assumption)) ?_ | refine r_callS rfl rfl rfl rfl (p_isSummary (by with_reducible assumption)) ?_ | refine r_callS rfl rfl rfl rfl (p_isThing (by with_reducible assumption)) ?_ | refine r_callS rfl rfl rfl rfl (p_isRoom (by with_reducible assumption)) ?_ | refine r_callS rfl rfl rfl rfl (p_isTop (by with_reducible assumption)) ?_ | refine r_callS rfl rfl rfl rfl (p_isWeight (by with_reducible assumption)) ?_ | refine r_callS rfl rfl rfl rfl (p_isShare (by with_reducible assumption)) ?_ | refine r_callS rfl rfl rfl rfl (p_isWindow (by with_reducible assumption)) ?_ | refine r_callS rfl rfl rfl rfl (p_isImage (by with_reducible assumption)) ?_ | refine r_tswd rfl (by with_reducible assumption) ?_ | refine wS_ild (by omega) rfl rfl (by first | assumption | omega | (simp only [lS]; omega)) ?_)); try dsimp only
    · (repeat (first | refine r_fy rfl rfl rfl rfl ?_ | (refine r_rtE rfl rfl ?_ ?_ ?_ <;> rfl) | refine rM_get rfl rfl ?_ | refine r_brT rfl rfl (by with_reducible first | assumption | rfl | exact nz10 | exact nI_pos (by omega) | exact nI_lt (by omega) (by omega) | exact nI_nlt (by omega) (by omega) | exact nI_le (by omega) (by omega) | exact nI_ge (by omega) (by omega)) ?_ | refine r_brF rfl rfl (by with_reducible first | assumption | rfl | exact nz10 | exact nI_pos (by omega) | exact nI_lt (by omega) (by omega) | exact nI_nlt (by omega) (by omega) | exact nI_le (by omega) (by omega) | exact nI_ge (by omega) (by omega)) ?_ | refine rM_call rfl rfl rfl rfl rfl (k_isThere_t (by with_reducible assumption) (by with_reducible assumption)) ?_ | refine rM_call rfl rfl rfl rfl rfl (k_isThere_f (by with_reducible assumption)) ?_ | refine rM_call rfl rfl rfl rfl rfl (m_manyE (by omega) (by with_reducible assumption)) ?_ | refine rM_call rfl rfl rfl rfl rfl (q_isSummary (by with_reducible assumption)) ?_ | (refine r_callS rfl rfl rfl rfl (m_bank _) ?_; rw [nm1148]) | refine r_callS rfl rfl rfl rfl (q_isThing (by with_reducible assumption)) ?_ | refine r_callS rfl rfl rfl rfl (q_isTop (by with_reducible assumption)) ?_ | refine r_callS rfl rfl rfl rfl (q_isPart (by with_reducible assumption)) ?_ | refine r_callS rfl rfl rfl rfl (q_isIn (by with_reducible assumption) (by decide) (by first | exact lx_m1 (by omega) | decide)) ?_ | refine r_tswd rfl (by with_reducible assumption) ?_ | (simp only [Option.toList, List.drop, List.cons_append, List.nil_append, na0, na1, na2, na3, na4, na5, na6, na7, na8, na16, na88, na148, nm3, nI_add]; refine rM_ildE (j := 1) rfl rfl (show _ < 35588 by omega) (by with_reducible assumption) ?_) | (simp only [Option.toList, List.drop, List.cons_append, List.nil_append, na0, na1, na2, na3, na4, na5, na6, na7, na8, na16, na88, na148, nm3, nI_add]; refine rM_ild (j := 1) rfl rfl (show _ < 35588 by omega) ?_))); try simp only [Option.toList, List.drop, List.cons_append, List.nil_append, na0, na1, na2, na3, na4, na5, na6, na7, na8, na16, na88, na148, nm3, nI_add]
  · obtain ⟨i, rfl, -, hi1⟩ := rg_1 (lo := 0) (hi := 1) hs
    have hi : i < 2 := by omega
    have eMj : ∀ j, j ≠ 0 → M j = w.1 36 j := fun j hj => by rw [hMd, s2_row hj]
    have eM0 : ∀ j, j ≠ 0 → M 0 j = w.1 36 0 j := fun j hj => by rw [hMd, s2_at, if_neg (by omega)]
    have c1 : ∀ s, s < 6 → cq (6 + 6 * i + s) = 7 + 6 * i + s := fun s hs => by have := cq_at (6 + 6 * i + s); omega
    have c2 : ∀ s, s < 6 → cq s = s := fun s hs => by have := cq_at s; omega
    have hfl : ∀ s, s < 6 → w.1 s 0 0 = 0 ∨ w.1 s 0 0 = 1 := fun s hs => by
      have := Rq_fl (I.1 s (by omega))
      rw [c2 s hs] at this
      exact this
    obtain ⟨w1, j1, j2, -, j4, j5⟩ := shelf_loop (E := E) (T := 81 + 50 * i) (RT := 82 + 50 * i) (S := 3) (RS' := 4) (tc := fun s => 7 + 6 * i + s) (sc := fun s => s) (fun w => ⟨_, im_c hi w⟩) (fun w => im_r hi w) (fun w => ⟨_, rfl⟩) (fun w => rfl) (fun s hs => by omega) (fun s t a b => by omega) (fun s t a b => by omega) 6 0 w (by omega) hfl
    have e35 : w1.1 35 = w.1 35 := j2 35 (fun s hs => by omega)
    have e36 : w1.1 36 = w.1 36 := j2 36 (fun s hs => by omega)
    obtain ⟨w2, hw2⟩ : ∃ w2, w2 = wS w1 35 (s2 (w1.1 35) 0 (1 + i) 1) := ⟨_, rfl⟩
    have q1 : ∀ c, c ≠ 35 → w2.1 c = w1.1 c := fun c hc => by rw [hw2, wS_ne hc]
    have q35 : w2.1 35 = s2 (w.1 35) 0 (1 + i) 1 := by rw [hw2, wS_at, e35]
    have q2 : w2.2 = w.2 := by rw [hw2]; exact j4
    obtain ⟨v', hv'⟩ : ∃ v', v' = cpS (6 + 6 * i) 0 6 0 (M 1) := ⟨_, rfl⟩
    obtain ⟨a1, a2⟩ := cpS_f (tb := 6 + 6 * i) (sb := 0) (by omega) 6 0 (M 1) (by omega)
    rw [← hv'] at a1 a2
    have hI : Iv (J + 1) (wM w2 (s1 (s1 M 1 v') 11 (upd (M 11) i 1)) w.2.2.1).1 w2.2.2.2 := by
      have eV : ∀ c, c ≠ 36 → (wM w2 (s1 (s1 M 1 v') 11 (upd (M 11) i 1)) w.2.2.1).1 c = w2.1 c := fun c hc => if_neg hc
      have eX : (wM w2 (s1 (s1 M 1 v') 11 (upd (M 11) i 1)) w.2.2.1).1 36 = s1 (s1 M 1 v') 11 (upd (M 11) i 1) := rfl
      obtain ⟨⟨r1, r2⟩, ⟨r3, r4⟩, r5, r6⟩ := I.2.2.2.2.2
      have e11 : M 11 = w.1 36 11 := eMj 11 (by omega)
      rw [q2]
      refine Iv_six (tb := 6 + 6 * i) (sb := 0) I (by omega) (by omega) (by omega) (fun c a b => ?_) ?_ (fun s hs => ?_) (fun s hs j hj => ?_) (fun j hj => ?_) (fun j b1 b2 => ?_) (fun j b1 => ?_) ⟨⟨?_, ?_⟩, ⟨?_, ?_⟩, ?_, ?_⟩
      · rw [eV c (by omega), q1 c (by omega)]
        exact j2 c (fun s hs => by have := b s hs; rw [c1 s hs] at this; exact this)
      · rw [eV 35 (by omega), q35, s2_row (by omega)]
      · rw [c1 s hs, Nat.zero_add, c2 s hs, eV _ (by omega), q1 _ (by omega)]
        exact j5 s (Nat.zero_le _) hs
      · rw [eX, s1_row, if_neg (by omega), s1_at, a1 s (Nat.zero_le _) hs j hj, eMj 1 (by omega)]
      · rw [eX, s1_row, if_neg (by omega), s1_at, a2 j (by omega), eMj 1 (by omega)]
      · rw [eX, s1_row, if_neg (by omega), s1_row, if_neg (by omega), eMj j (by omega)]
      · rw [eX, s1_row, if_neg (by omega), s1_row, if_neg (by omega), eM0 j (by omega)]
      · rw [eV 34 (by omega), q1 34 (by omega), j2 34 (fun s hs => by omega), eX, s1_row, if_neg (by omega), s1_row, if_neg (by omega), eM0 5 (by omega)]; exact r1
      · rw [eV 34 (by omega), q1 34 (by omega), j2 34 (fun s hs => by omega), eX, s1_row, if_neg (by omega), s1_row, if_neg (by omega), eM0 6 (by omega)]; exact r2
      · rw [eV 35 (by omega), q35, eX, s1_at, s2_at, e11]
        unfold upd
        by_cases e : i = 0
        · rw [if_pos (by omega), if_pos (by omega)]
        · rw [if_neg (by omega), if_neg (by omega)]; exact r3
      · rw [eV 35 (by omega), q35, eX, s1_at, s2_at, e11]
        unfold upd
        by_cases e : i = 1
        · rw [if_pos (by omega), if_pos (by omega)]
        · rw [if_neg (by omega), if_neg (by omega)]; exact r4
      · rw [eX, s1_at, e11]
        unfold upd
        split
        · exact Or.inr rfl
        · exact r5
      · rw [eX, s1_at, e11]
        unfold upd
        split
        · exact Or.inr rfl
        · exact r6
    have C : hRun 155 0 [.ref 2, .int (nI i)] [] (hW E w) (some (.int (fo (fun p a => if w2.1 p 0 0 = 0 then a else a + 1) 6 0 0))) (hW E w2) := by
      have bec : hRun 25 0 [.ref (81 + 50 * i), .ref 3, hU] [] (hW E w) none (hW E w1) := by
        refine r_step rfl rfl rfl ?_
        refine r_step rfl rfl rfl ?_
        refine r_step rfl rfl rfl ?_
        refine r_step rfl rfl rfl ?_
        exact j1
      (repeat (first | refine r_fy rfl rfl rfl rfl ?_ | (refine r_rtE rfl rfl ?_ ?_ ?_ <;> rfl) | refine r_get rfl rfl rfl ?_ | refine wS_getE (by omega) rfl rfl (by with_reducible assumption) ?_ | refine wS_get (by omega) rfl rfl ?_ | refine r_brT rfl rfl (by with_reducible first | assumption | rfl | exact nz10 | exact nI_pos (by omega) | exact nI_lt (by omega) (by omega) | exact nI_nlt (by omega) (by omega) | exact nI_le (by omega) (by omega) | exact nI_ge (by omega) (by omega)) ?_ | refine r_brF rfl rfl (by with_reducible first | assumption | rfl | exact nz10 | exact nI_pos (by omega) | exact nI_lt (by omega) (by omega) | exact nI_nlt (by omega) (by omega) | exact nI_le (by omega) (by omega) | exact nI_ge (by omega) (by omega)) ?_ | refine wH_call rfl rfl rfl rfl rfl (x_standing_t (by with_reducible assumption) (by with_reducible assumption)) ?_ | refine wH_call rfl rfl rfl rfl rfl (x_standing_f (by with_reducible assumption)) ?_ | refine r_callS rfl rfl rfl rfl (p_isSummary (by with_reducible assumption)) ?_ | refine r_callS rfl rfl rfl rfl (p_isThing (by with_reducible assumption)) ?_ | refine r_callS rfl rfl rfl rfl (p_isRoom (by with_reducible assumption)) ?_ | refine r_callS rfl rfl rfl rfl (p_isTop (by with_reducible assumption)) ?_ | refine r_callS rfl rfl rfl rfl (p_isWeight (by with_reducible assumption)) ?_ | refine r_callS rfl rfl rfl rfl (p_isShare (by with_reducible assumption)) ?_ | refine r_callS rfl rfl rfl rfl (p_isWindow (by with_reducible assumption)) ?_ | refine r_callS rfl rfl rfl rfl (p_isImage (by with_reducible assumption)) ?_ | refine r_tswd rfl (by with_reducible assumption) ?_ | refine wS_ild (by omega) rfl rfl (by first | assumption | omega | (simp only [lS]; omega)) ?_)); try dsimp only
      refine w53_ld hi rfl ?_
      refine r_step rfl rfl rfl ?_
      refine r_get rfl rfl rfl ?_
      refine rF_call rfl rfl rfl rfl (im_c hi w) rfl bec ?_
      refine r_step rfl rfl rfl ?_
      refine r_get rfl rfl rfl ?_
      refine r_step rfl rfl rfl ?_
      refine w53_ld hi rfl ?_
      refine r_step rfl rfl rfl ?_
      refine r_put rfl (im_c hi w1) rfl rfl ?_
      change hRun 155 _ _ _ (hSt (hW E w1) (81 + 50 * i) (.inl (4, [.ref (82 + 50 * i), .int 1]))) _ _
      rw [im_st hi, ← hw2]
      refine r_step rfl rfl rfl ?_
      refine r_get rfl rfl rfl ?_
      refine rF_call rfl rfl rfl rfl rfl rfl x_number ?_
      (refine r_rtE rfl rfl ?_ ?_ ?_ <;> rfl)
    have D : hRun 276 3 [.ref 281, .int (nI i), hU] [] (hpM (hW E w2) 281 M w.2.2.1) (some (.int (fo (fun p a => a + (s1 (s1 M 1 v') 11 (upd (M 11) i 1)) 1 (1148 * p)) 6 0 0))) (hpM (hW E w2) 281 (s1 (s1 M 1 v') 11 (upd (M 11) i 1)) w.2.2.1) := by
      have lp := kkeep_loop (h := hW E w2) (M := M) (x := w.2.2.1) (r := some (.int (fo (fun p a => a + (s1 (s1 M 1 v') 11 (upd (M 11) i 1)) 1 (1148 * p)) 6 0 0))) (h' := hpM (hW E w2) 281 (s1 (s1 M 1 v') 11 (upd (M 11) i 1)) w.2.2.1) (VF := v') hi ?_ 6 0 (M 1) (by omega) hv'.symm
      · rw [s1_id] at lp
        (repeat (first | refine r_fy rfl rfl rfl rfl ?_ | (refine r_rtE rfl rfl ?_ ?_ ?_ <;> rfl) | refine rM_get rfl rfl ?_ | refine r_brT rfl rfl (by with_reducible first | assumption | rfl | exact nz10 | exact nI_pos (by omega) | exact nI_lt (by omega) (by omega) | exact nI_nlt (by omega) (by omega) | exact nI_le (by omega) (by omega) | exact nI_ge (by omega) (by omega)) ?_ | refine r_brF rfl rfl (by with_reducible first | assumption | rfl | exact nz10 | exact nI_pos (by omega) | exact nI_lt (by omega) (by omega) | exact nI_nlt (by omega) (by omega) | exact nI_le (by omega) (by omega) | exact nI_ge (by omega) (by omega)) ?_ | refine rM_call rfl rfl rfl rfl rfl (k_isThere_t (by with_reducible assumption) (by with_reducible assumption)) ?_ | refine rM_call rfl rfl rfl rfl rfl (k_isThere_f (by with_reducible assumption)) ?_ | refine rM_call rfl rfl rfl rfl rfl (m_manyE (by omega) (by with_reducible assumption)) ?_ | refine rM_call rfl rfl rfl rfl rfl (q_isSummary (by with_reducible assumption)) ?_ | (refine r_callS rfl rfl rfl rfl (m_bank _) ?_; rw [nm1148]) | refine r_callS rfl rfl rfl rfl (q_isThing (by with_reducible assumption)) ?_ | refine r_callS rfl rfl rfl rfl (q_isTop (by with_reducible assumption)) ?_ | refine r_callS rfl rfl rfl rfl (q_isPart (by with_reducible assumption)) ?_ | refine r_callS rfl rfl rfl rfl (q_isIn (by with_reducible assumption) (by decide) (by first | exact lx_m1 (by omega) | decide)) ?_ | refine r_tswd rfl (by with_reducible assumption) ?_ | (simp only [Option.toList, List.drop, List.cons_append, List.nil_append, na0, na1, na2, na3, na4, na5, na6, na7, na8, na16, na88, na148, nm3, nI_add]; refine rM_ildE (j := 1) rfl rfl (show _ < 35588 by omega) (by with_reducible assumption) ?_) | (simp only [Option.toList, List.drop, List.cons_append, List.nil_append, na0, na1, na2, na3, na4, na5, na6, na7, na8, na16, na88, na148, nm3, nI_add]; refine rM_ild (j := 1) rfl rfl (show _ < 35588 by omega) ?_))); try simp only [Option.toList, List.drop, List.cons_append, List.nil_append, na0, na1, na2, na3, na4, na5, na6, na7, na8, na16, na88, na148, nm3, nI_add]
        exact lp
      · (repeat (first | refine r_fw rfl rfl rfl rfl ?_ | refine rM_get rfl rfl ?_)); try dsimp only
        try simp only [na0, na1, na2, na3, na4, na5, na6, na7, na8, na16, na88, na148, nm3, nI_add]
        refine rM_zst rfl hi ?_
        rw [show (s1 M 1 v') 11 = M 11 by rw [s1_row, if_neg (by omega)]]
        (repeat (first | refine r_fw rfl rfl rfl rfl ?_ | refine rM_get rfl rfl ?_)); try dsimp only
        try simp only [na0, na1, na2, na3, na4, na5, na6, na7, na8, na16, na88, na148, nm3, nI_add]
        refine rM_call rfl rfl rfl rfl rfl m_howMany ?_
        (refine r_rtE rfl rfl ?_ ?_ ?_ <;> rfl)
    refine Ans_i (v := fo (fun p a => if w2.1 p 0 0 = 0 then a else a + 1) 6 0 0) (u := fo (fun p a => a + (s1 (s1 M 1 v') 11 (upd (M 11) i 1)) 1 (1148 * p)) 6 0 0) (x' := w.2.2.1) (M' := s1 (s1 M 1 v') 11 (upd (M 11) i 1)) (w1 := w2) hMd rfl rfl rfl rfl ?_ ?_ hI C D ?_
    · rw [q1 36 (by omega), e36]
    · rw [q2]
    · have hN := Nz_of hI
      refine (Nz_fo (fun q hq => ?_)).symm
      have := hN q hq
      rw [show (wM w2 (s1 (s1 M 1 v') 11 (upd (M 11) i 1)) w.2.2.1).1 q = w2.1 q from if_neg (by omega)] at this
      exact this
theorem A_back (I : Iv J w.1 w.2.2.2) (s : Int32) : Ans J 157 277 [.ref 2, .int s] [.ref 281, .int s, hU] E w := by
  obtain ⟨M, hMd⟩ : ∃ M, M = s2 (w.1 36) 0 0 0 := ⟨_, rfl⟩
  rcases rg_01 s 0 1 with hs | hs
  · refine Ans_3 (v := -2) (u := -2) hMd I rfl rfl rfl rfl ?_ ?_ rfl
    · (repeat (first | refine r_fy rfl rfl rfl rfl ?_ | (refine r_rtE rfl rfl ?_ ?_ ?_ <;> rfl) | refine r_get rfl rfl rfl ?_ | refine wS_getE (by omega) rfl rfl (by with_reducible assumption) ?_ | refine wS_get (by omega) rfl rfl ?_ | refine r_brT rfl rfl (by with_reducible first | assumption | rfl | exact nz10 | exact nI_pos (by omega) | exact nI_lt (by omega) (by omega) | exact nI_nlt (by omega) (by omega) | exact nI_le (by omega) (by omega) | exact nI_ge (by omega) (by omega)) ?_ | refine r_brF rfl rfl (by with_reducible first | assumption | rfl | exact nz10 | exact nI_pos (by omega) | exact nI_lt (by omega) (by omega) | exact nI_nlt (by omega) (by omega) | exact nI_le (by omega) (by omega) | exact nI_ge (by omega) (by omega)) ?_ | refine wH_call rfl rfl rfl rfl rfl (x_standing_t (by with_reducible assumption) (by with_reducible assumption)) ?_ | refine wH_call rfl rfl rfl rfl rfl (x_standing_f (by with_reducible assumption)) ?_ | refine r_callS rfl rfl rfl rfl (p_isSummary (by with_reducible assumption)) ?_ | refine r_callS rfl rfl rfl rfl (p_isThing (by with_reducible assumption)) ?_ | refine r_callS rfl rfl rfl rfl (p_isRoom (by with_reducible assumption)) ?_ | refine r_callS rfl rfl rfl rfl (p_isTop (by with_reducible assumption)) ?_ | refine r_callS rfl rfl rfl rfl (p_isWeight (by with_reducible assumption)) ?_ | refine r_callS rfl rfl rfl rfl (p_isShare (by with_reducible assumption)) ?_ | refine r_callS rfl rfl rfl rfl (p_isWindow (by with_reducible assumption)) ?_ | refine r_callS rfl rfl rfl rfl (p_isImage (by with_reducible assumption)) ?_ | refine r_tswd rfl (by with_reducible assumption) ?_ | refine wS_ild (by omega) rfl rfl (by first | assumption | omega | (simp only [lS]; omega)) ?_)); try dsimp only
    · (repeat (first | refine r_fy rfl rfl rfl rfl ?_ | (refine r_rtE rfl rfl ?_ ?_ ?_ <;> rfl) | refine rM_get rfl rfl ?_ | refine r_brT rfl rfl (by with_reducible first | assumption | rfl | exact nz10 | exact nI_pos (by omega) | exact nI_lt (by omega) (by omega) | exact nI_nlt (by omega) (by omega) | exact nI_le (by omega) (by omega) | exact nI_ge (by omega) (by omega)) ?_ | refine r_brF rfl rfl (by with_reducible first | assumption | rfl | exact nz10 | exact nI_pos (by omega) | exact nI_lt (by omega) (by omega) | exact nI_nlt (by omega) (by omega) | exact nI_le (by omega) (by omega) | exact nI_ge (by omega) (by omega)) ?_ | refine rM_call rfl rfl rfl rfl rfl (k_isThere_t (by with_reducible assumption) (by with_reducible assumption)) ?_ | refine rM_call rfl rfl rfl rfl rfl (k_isThere_f (by with_reducible assumption)) ?_ | refine rM_call rfl rfl rfl rfl rfl (m_manyE (by omega) (by with_reducible assumption)) ?_ | refine rM_call rfl rfl rfl rfl rfl (q_isSummary (by with_reducible assumption)) ?_ | (refine r_callS rfl rfl rfl rfl (m_bank _) ?_; rw [nm1148]) | refine r_callS rfl rfl rfl rfl (q_isThing (by with_reducible assumption)) ?_ | refine r_callS rfl rfl rfl rfl (q_isTop (by with_reducible assumption)) ?_ | refine r_callS rfl rfl rfl rfl (q_isPart (by with_reducible assumption)) ?_ | refine r_callS rfl rfl rfl rfl (q_isIn (by with_reducible assumption) (by decide) (by first | exact lx_m1 (by omega) | decide)) ?_ | refine r_tswd rfl (by with_reducible assumption) ?_ | (simp only [Option.toList, List.drop, List.cons_append, List.nil_append, na0, na1, na2, na3, na4, na5, na6, na7, na8, na16, na88, na148, nm3, nI_add]; refine rM_ildE (j := 1) rfl rfl (show _ < 35588 by omega) (by with_reducible assumption) ?_) | (simp only [Option.toList, List.drop, List.cons_append, List.nil_append, na0, na1, na2, na3, na4, na5, na6, na7, na8, na16, na88, na148, nm3, nI_add]; refine rM_ild (j := 1) rfl rfl (show _ < 35588 by omega) ?_))); try simp only [Option.toList, List.drop, List.cons_append, List.nil_append, na0, na1, na2, na3, na4, na5, na6, na7, na8, na16, na88, na148, nm3, nI_add]
  · obtain ⟨i, rfl, -, hi1⟩ := rg_1 (lo := 0) (hi := 1) hs
    have hi : i < 2 := by omega
    have eMj : ∀ j, j ≠ 0 → M j = w.1 36 j := fun j hj => by rw [hMd, s2_row hj]
    have eM0 : ∀ j, j ≠ 0 → M 0 j = w.1 36 0 j := fun j hj => by rw [hMd, s2_at, if_neg (by omega)]
    have hfi : (w.1 35 0 (1 + i) = 0 ∧ M 11 i = 0) ∨ (w.1 35 0 (1 + i) = 1 ∧ M 11 i = 1) := by
      obtain ⟨-, ⟨r3, r4⟩, r5, r6⟩ := I.2.2.2.2.2
      rw [eMj 11 (by omega)]
      have : i = 0 ∨ i = 1 := by omega
      rcases this with rfl | rfl
      · rw [show 1 + 0 = 1 from rfl, r3]
        rcases r5 with r | r
        · exact Or.inl ⟨r, r⟩
        · exact Or.inr ⟨r, r⟩
      · rw [show 1 + 1 = 2 from rfl, r4]
        rcases r6 with r | r
        · exact Or.inl ⟨r, r⟩
        · exact Or.inr ⟨r, r⟩
    rcases hfi with ⟨f1, f2⟩ | ⟨f1, f2⟩
    · refine Ans_3 (v := -3) (u := -3) hMd I rfl rfl rfl rfl ?_ ?_ rfl
      · (repeat (first | refine r_fy rfl rfl rfl rfl ?_ | (refine r_rtE rfl rfl ?_ ?_ ?_ <;> rfl) | refine r_get rfl rfl rfl ?_ | refine wS_getE (by omega) rfl rfl (by with_reducible assumption) ?_ | refine wS_get (by omega) rfl rfl ?_ | refine r_brT rfl rfl (by with_reducible first | assumption | rfl | exact nz10 | exact nI_pos (by omega) | exact nI_lt (by omega) (by omega) | exact nI_nlt (by omega) (by omega) | exact nI_le (by omega) (by omega) | exact nI_ge (by omega) (by omega)) ?_ | refine r_brF rfl rfl (by with_reducible first | assumption | rfl | exact nz10 | exact nI_pos (by omega) | exact nI_lt (by omega) (by omega) | exact nI_nlt (by omega) (by omega) | exact nI_le (by omega) (by omega) | exact nI_ge (by omega) (by omega)) ?_ | refine wH_call rfl rfl rfl rfl rfl (x_standing_t (by with_reducible assumption) (by with_reducible assumption)) ?_ | refine wH_call rfl rfl rfl rfl rfl (x_standing_f (by with_reducible assumption)) ?_ | refine r_callS rfl rfl rfl rfl (p_isSummary (by with_reducible assumption)) ?_ | refine r_callS rfl rfl rfl rfl (p_isThing (by with_reducible assumption)) ?_ | refine r_callS rfl rfl rfl rfl (p_isRoom (by with_reducible assumption)) ?_ | refine r_callS rfl rfl rfl rfl (p_isTop (by with_reducible assumption)) ?_ | refine r_callS rfl rfl rfl rfl (p_isWeight (by with_reducible assumption)) ?_ | refine r_callS rfl rfl rfl rfl (p_isShare (by with_reducible assumption)) ?_ | refine r_callS rfl rfl rfl rfl (p_isWindow (by with_reducible assumption)) ?_ | refine r_callS rfl rfl rfl rfl (p_isImage (by with_reducible assumption)) ?_ | refine r_tswd rfl (by with_reducible assumption) ?_ | refine wS_ild (by omega) rfl rfl (by first | assumption | omega | (simp only [lS]; omega)) ?_)); try dsimp only
        refine w53_ld hi rfl ?_
        refine r_getE rfl (im_c hi w) rfl f1 ?_
        (repeat (first | refine r_fy rfl rfl rfl rfl ?_ | (refine r_rtE rfl rfl ?_ ?_ ?_ <;> rfl) | refine r_get rfl rfl rfl ?_ | refine wS_getE (by omega) rfl rfl (by with_reducible assumption) ?_ | refine wS_get (by omega) rfl rfl ?_ | refine r_brT rfl rfl (by with_reducible first | assumption | rfl | exact nz10 | exact nI_pos (by omega) | exact nI_lt (by omega) (by omega) | exact nI_nlt (by omega) (by omega) | exact nI_le (by omega) (by omega) | exact nI_ge (by omega) (by omega)) ?_ | refine r_brF rfl rfl (by with_reducible first | assumption | rfl | exact nz10 | exact nI_pos (by omega) | exact nI_lt (by omega) (by omega) | exact nI_nlt (by omega) (by omega) | exact nI_le (by omega) (by omega) | exact nI_ge (by omega) (by omega)) ?_ | refine wH_call rfl rfl rfl rfl rfl (x_standing_t (by with_reducible assumption) (by with_reducible assumption)) ?_ | refine wH_call rfl rfl rfl rfl rfl (x_standing_f (by with_reducible assumption)) ?_ | refine r_callS rfl rfl rfl rfl (p_isSummary (by with_reducible assumption)) ?_ | refine r_callS rfl rfl rfl rfl (p_isThing (by with_reducible assumption)) ?_ | refine r_callS rfl rfl rfl rfl (p_isRoom (by with_reducible assumption)) ?_ | refine r_callS rfl rfl rfl rfl (p_isTop (by with_reducible assumption)) ?_ | refine r_callS rfl rfl rfl rfl (p_isWeight (by with_reducible assumption)) ?_ | refine r_callS rfl rfl rfl rfl (p_isShare (by with_reducible assumption)) ?_ | refine r_callS rfl rfl rfl rfl (p_isWindow (by with_reducible assumption)) ?_ | refine r_callS rfl rfl rfl rfl (p_isImage (by with_reducible assumption)) ?_ | refine r_tswd rfl (by with_reducible assumption) ?_ | refine wS_ild (by omega) rfl rfl (by first | assumption | omega | (simp only [lS]; omega)) ?_)); try dsimp only
      · (repeat (first | refine r_fy rfl rfl rfl rfl ?_ | (refine r_rtE rfl rfl ?_ ?_ ?_ <;> rfl) | refine rM_get rfl rfl ?_ | refine r_brT rfl rfl (by with_reducible first | assumption | rfl | exact nz10 | exact nI_pos (by omega) | exact nI_lt (by omega) (by omega) | exact nI_nlt (by omega) (by omega) | exact nI_le (by omega) (by omega) | exact nI_ge (by omega) (by omega)) ?_ | refine r_brF rfl rfl (by with_reducible first | assumption | rfl | exact nz10 | exact nI_pos (by omega) | exact nI_lt (by omega) (by omega) | exact nI_nlt (by omega) (by omega) | exact nI_le (by omega) (by omega) | exact nI_ge (by omega) (by omega)) ?_ | refine rM_call rfl rfl rfl rfl rfl (k_isThere_t (by with_reducible assumption) (by with_reducible assumption)) ?_ | refine rM_call rfl rfl rfl rfl rfl (k_isThere_f (by with_reducible assumption)) ?_ | refine rM_call rfl rfl rfl rfl rfl (m_manyE (by omega) (by with_reducible assumption)) ?_ | refine rM_call rfl rfl rfl rfl rfl (q_isSummary (by with_reducible assumption)) ?_ | (refine r_callS rfl rfl rfl rfl (m_bank _) ?_; rw [nm1148]) | refine r_callS rfl rfl rfl rfl (q_isThing (by with_reducible assumption)) ?_ | refine r_callS rfl rfl rfl rfl (q_isTop (by with_reducible assumption)) ?_ | refine r_callS rfl rfl rfl rfl (q_isPart (by with_reducible assumption)) ?_ | refine r_callS rfl rfl rfl rfl (q_isIn (by with_reducible assumption) (by decide) (by first | exact lx_m1 (by omega) | decide)) ?_ | refine r_tswd rfl (by with_reducible assumption) ?_ | (simp only [Option.toList, List.drop, List.cons_append, List.nil_append, na0, na1, na2, na3, na4, na5, na6, na7, na8, na16, na88, na148, nm3, nI_add]; refine rM_ildE (j := 1) rfl rfl (show _ < 35588 by omega) (by with_reducible assumption) ?_) | (simp only [Option.toList, List.drop, List.cons_append, List.nil_append, na0, na1, na2, na3, na4, na5, na6, na7, na8, na16, na88, na148, nm3, nI_add]; refine rM_ild (j := 1) rfl rfl (show _ < 35588 by omega) ?_))); try simp only [Option.toList, List.drop, List.cons_append, List.nil_append, na0, na1, na2, na3, na4, na5, na6, na7, na8, na16, na88, na148, nm3, nI_add]
        refine rM_bld (j := 11) rfl (Or.inr rfl) (show i < 2 from hi) ?_
        rw [f2]
        (repeat (first | refine r_fy rfl rfl rfl rfl ?_ | (refine r_rtE rfl rfl ?_ ?_ ?_ <;> rfl) | refine rM_get rfl rfl ?_ | refine r_brT rfl rfl (by with_reducible first | assumption | rfl | exact nz10 | exact nI_pos (by omega) | exact nI_lt (by omega) (by omega) | exact nI_nlt (by omega) (by omega) | exact nI_le (by omega) (by omega) | exact nI_ge (by omega) (by omega)) ?_ | refine r_brF rfl rfl (by with_reducible first | assumption | rfl | exact nz10 | exact nI_pos (by omega) | exact nI_lt (by omega) (by omega) | exact nI_nlt (by omega) (by omega) | exact nI_le (by omega) (by omega) | exact nI_ge (by omega) (by omega)) ?_ | refine rM_call rfl rfl rfl rfl rfl (k_isThere_t (by with_reducible assumption) (by with_reducible assumption)) ?_ | refine rM_call rfl rfl rfl rfl rfl (k_isThere_f (by with_reducible assumption)) ?_ | refine rM_call rfl rfl rfl rfl rfl (m_manyE (by omega) (by with_reducible assumption)) ?_ | refine rM_call rfl rfl rfl rfl rfl (q_isSummary (by with_reducible assumption)) ?_ | (refine r_callS rfl rfl rfl rfl (m_bank _) ?_; rw [nm1148]) | refine r_callS rfl rfl rfl rfl (q_isThing (by with_reducible assumption)) ?_ | refine r_callS rfl rfl rfl rfl (q_isTop (by with_reducible assumption)) ?_ | refine r_callS rfl rfl rfl rfl (q_isPart (by with_reducible assumption)) ?_ | refine r_callS rfl rfl rfl rfl (q_isIn (by with_reducible assumption) (by decide) (by first | exact lx_m1 (by omega) | decide)) ?_ | refine r_tswd rfl (by with_reducible assumption) ?_ | (simp only [Option.toList, List.drop, List.cons_append, List.nil_append, na0, na1, na2, na3, na4, na5, na6, na7, na8, na16, na88, na148, nm3, nI_add]; refine rM_ildE (j := 1) rfl rfl (show _ < 35588 by omega) (by with_reducible assumption) ?_) | (simp only [Option.toList, List.drop, List.cons_append, List.nil_append, na0, na1, na2, na3, na4, na5, na6, na7, na8, na16, na88, na148, nm3, nI_add]; refine rM_ild (j := 1) rfl rfl (show _ < 35588 by omega) ?_))); try simp only [Option.toList, List.drop, List.cons_append, List.nil_append, na0, na1, na2, na3, na4, na5, na6, na7, na8, na16, na88, na148, nm3, nI_add]
    · have c1 : ∀ s, s < 6 → cq (6 + 6 * i + s) = 7 + 6 * i + s := fun s hs => by have := cq_at (6 + 6 * i + s); omega
      have c2 : ∀ s, s < 6 → cq s = s := fun s hs => by have := cq_at s; omega
      have hfl : ∀ s, s < 6 → w.1 (7 + 6 * i + s) 0 0 = 0 ∨ w.1 (7 + 6 * i + s) 0 0 = 1 := fun s hs => by
        have := Rq_fl (I.1 (6 + 6 * i + s) (by omega))
        rw [c1 s hs] at this
        exact this
      obtain ⟨w2, j1, j2, -, j4, j5⟩ := shelf_loop (E := E) (T := 3) (RT := 4) (S := 81 + 50 * i) (RS' := 82 + 50 * i) (tc := fun s => s) (sc := fun s => 7 + 6 * i + s) (fun w => ⟨_, rfl⟩) (fun w => rfl) (fun w => ⟨_, im_c hi w⟩) (fun w => im_r hi w) (fun s hs => by omega) (fun s t a b => by omega) (fun s t a b => by omega) 6 0 w (by omega) hfl
      have e35 : w2.1 35 = w.1 35 := j2 35 (fun s hs => by omega)
      have e36 : w2.1 36 = w.1 36 := j2 36 (fun s hs => by omega)
      obtain ⟨v', hv'⟩ : ∃ v', v' = cpS 0 (6 + 6 * i) 6 0 (M 1) := ⟨_, rfl⟩
      obtain ⟨a1, a2⟩ := cpS_f (tb := 0) (sb := 6 + 6 * i) (by omega) 6 0 (M 1) (by omega)
      rw [← hv'] at a1 a2
      have hI : Iv (J + 1) (wM w2 (s1 M 1 v') w.2.2.1).1 w2.2.2.2 := by
        have eV : ∀ c, c ≠ 36 → (wM w2 (s1 M 1 v') w.2.2.1).1 c = w2.1 c := fun c hc => if_neg hc
        have eX : (wM w2 (s1 M 1 v') w.2.2.1).1 36 = s1 M 1 v' := rfl
        obtain ⟨⟨r1, r2⟩, ⟨r3, r4⟩, r5, r6⟩ := I.2.2.2.2.2
        rw [j4]
        refine Iv_six (tb := 0) (sb := 6 + 6 * i) I (by omega) (by omega) (by omega) (fun c a b => ?_) ?_ (fun s hs => ?_) (fun s hs j hj => ?_) (fun j hj => ?_) (fun j b1 b2 => ?_) (fun j b1 => ?_) ⟨⟨?_, ?_⟩, ⟨?_, ?_⟩, ?_, ?_⟩
        · rw [eV c (by omega)]
          exact j2 c (fun s hs => by have := b s hs; rw [Nat.zero_add, c2 s hs] at this; exact this)
        · rw [eV 35 (by omega), e35]
        · rw [c1 s hs, Nat.zero_add, c2 s hs, eV _ (by omega)]
          exact j5 s (Nat.zero_le _) hs
        · rw [eX, s1_at, a1 s (Nat.zero_le _) hs j hj, eMj 1 (by omega)]
        · rw [eX, s1_at, a2 j (by omega), eMj 1 (by omega)]
        · rw [eX, s1_row, if_neg (by omega), eMj j (by omega)]
        · rw [eX, s1_row, if_neg (by omega), eM0 j (by omega)]
        · rw [eV 34 (by omega), j2 34 (fun s hs => by omega), eX, s1_row, if_neg (by omega), eM0 5 (by omega)]; exact r1
        · rw [eV 34 (by omega), j2 34 (fun s hs => by omega), eX, s1_row, if_neg (by omega), eM0 6 (by omega)]; exact r2
        · rw [eV 35 (by omega), e35, eX, s1_row, if_neg (by omega), eMj 11 (by omega)]; exact r3
        · rw [eV 35 (by omega), e35, eX, s1_row, if_neg (by omega), eMj 11 (by omega)]; exact r4
        · rw [eX, s1_row, if_neg (by omega), eMj 11 (by omega)]; exact r5
        · rw [eX, s1_row, if_neg (by omega), eMj 11 (by omega)]; exact r6
      have C : hRun 157 0 [.ref 2, .int (nI i)] [] (hW E w) (some (.int (fo (fun p a => if w2.1 p 0 0 = 0 then a else a + 1) 6 0 0))) (hW E w2) := by
        have bec : hRun 25 0 [.ref 3, .ref (81 + 50 * i), hU] [] (hW E w) none (hW E w2) := by
          refine r_step rfl rfl rfl ?_
          refine r_step rfl rfl rfl ?_
          refine r_step rfl rfl rfl ?_
          refine r_step rfl rfl rfl ?_
          exact j1
        (repeat (first | refine r_fy rfl rfl rfl rfl ?_ | (refine r_rtE rfl rfl ?_ ?_ ?_ <;> rfl) | refine r_get rfl rfl rfl ?_ | refine wS_getE (by omega) rfl rfl (by with_reducible assumption) ?_ | refine wS_get (by omega) rfl rfl ?_ | refine r_brT rfl rfl (by with_reducible first | assumption | rfl | exact nz10 | exact nI_pos (by omega) | exact nI_lt (by omega) (by omega) | exact nI_nlt (by omega) (by omega) | exact nI_le (by omega) (by omega) | exact nI_ge (by omega) (by omega)) ?_ | refine r_brF rfl rfl (by with_reducible first | assumption | rfl | exact nz10 | exact nI_pos (by omega) | exact nI_lt (by omega) (by omega) | exact nI_nlt (by omega) (by omega) | exact nI_le (by omega) (by omega) | exact nI_ge (by omega) (by omega)) ?_ | refine wH_call rfl rfl rfl rfl rfl (x_standing_t (by with_reducible assumption) (by with_reducible assumption)) ?_ | refine wH_call rfl rfl rfl rfl rfl (x_standing_f (by with_reducible assumption)) ?_ | refine r_callS rfl rfl rfl rfl (p_isSummary (by with_reducible assumption)) ?_ | refine r_callS rfl rfl rfl rfl (p_isThing (by with_reducible assumption)) ?_ | refine r_callS rfl rfl rfl rfl (p_isRoom (by with_reducible assumption)) ?_ | refine r_callS rfl rfl rfl rfl (p_isTop (by with_reducible assumption)) ?_ | refine r_callS rfl rfl rfl rfl (p_isWeight (by with_reducible assumption)) ?_ | refine r_callS rfl rfl rfl rfl (p_isShare (by with_reducible assumption)) ?_ | refine r_callS rfl rfl rfl rfl (p_isWindow (by with_reducible assumption)) ?_ | refine r_callS rfl rfl rfl rfl (p_isImage (by with_reducible assumption)) ?_ | refine r_tswd rfl (by with_reducible assumption) ?_ | refine wS_ild (by omega) rfl rfl (by first | assumption | omega | (simp only [lS]; omega)) ?_)); try dsimp only
        refine w53_ld hi rfl ?_
        refine r_getE rfl (im_c hi w) rfl f1 ?_
        refine r_brF rfl rfl ?_ ?_
        · decide
        refine r_step rfl rfl rfl ?_
        refine r_get rfl rfl rfl ?_
        refine r_step rfl rfl rfl ?_
        refine r_get rfl rfl rfl ?_
        refine r_step rfl rfl rfl ?_
        refine w53_ld hi rfl ?_
        refine rF_call rfl rfl rfl rfl rfl rfl bec ?_
        refine r_step rfl rfl rfl ?_
        refine r_get rfl rfl rfl ?_
        refine rF_call rfl rfl rfl rfl rfl rfl x_number ?_
        (refine r_rtE rfl rfl ?_ ?_ ?_ <;> rfl)
      have D : hRun 277 3 [.ref 281, .int (nI i), hU] [] (hpM (hW E w2) 281 M w.2.2.1) (some (.int (fo (fun p a => a + (s1 M 1 v') 1 (1148 * p)) 6 0 0))) (hpM (hW E w2) 281 (s1 M 1 v') w.2.2.1) := by
        have lp := kback_loop (h := hW E w2) (M := M) (x := w.2.2.1) (r := some (.int (fo (fun p a => a + (s1 M 1 v') 1 (1148 * p)) 6 0 0))) (h' := hpM (hW E w2) 281 (s1 M 1 v') w.2.2.1) (VF := v') hi ?_ 6 0 (M 1) (by omega) hv'.symm
        · rw [s1_id] at lp
          (repeat (first | refine r_fy rfl rfl rfl rfl ?_ | (refine r_rtE rfl rfl ?_ ?_ ?_ <;> rfl) | refine rM_get rfl rfl ?_ | refine r_brT rfl rfl (by with_reducible first | assumption | rfl | exact nz10 | exact nI_pos (by omega) | exact nI_lt (by omega) (by omega) | exact nI_nlt (by omega) (by omega) | exact nI_le (by omega) (by omega) | exact nI_ge (by omega) (by omega)) ?_ | refine r_brF rfl rfl (by with_reducible first | assumption | rfl | exact nz10 | exact nI_pos (by omega) | exact nI_lt (by omega) (by omega) | exact nI_nlt (by omega) (by omega) | exact nI_le (by omega) (by omega) | exact nI_ge (by omega) (by omega)) ?_ | refine rM_call rfl rfl rfl rfl rfl (k_isThere_t (by with_reducible assumption) (by with_reducible assumption)) ?_ | refine rM_call rfl rfl rfl rfl rfl (k_isThere_f (by with_reducible assumption)) ?_ | refine rM_call rfl rfl rfl rfl rfl (m_manyE (by omega) (by with_reducible assumption)) ?_ | refine rM_call rfl rfl rfl rfl rfl (q_isSummary (by with_reducible assumption)) ?_ | (refine r_callS rfl rfl rfl rfl (m_bank _) ?_; rw [nm1148]) | refine r_callS rfl rfl rfl rfl (q_isThing (by with_reducible assumption)) ?_ | refine r_callS rfl rfl rfl rfl (q_isTop (by with_reducible assumption)) ?_ | refine r_callS rfl rfl rfl rfl (q_isPart (by with_reducible assumption)) ?_ | refine r_callS rfl rfl rfl rfl (q_isIn (by with_reducible assumption) (by decide) (by first | exact lx_m1 (by omega) | decide)) ?_ | refine r_tswd rfl (by with_reducible assumption) ?_ | (simp only [Option.toList, List.drop, List.cons_append, List.nil_append, na0, na1, na2, na3, na4, na5, na6, na7, na8, na16, na88, na148, nm3, nI_add]; refine rM_ildE (j := 1) rfl rfl (show _ < 35588 by omega) (by with_reducible assumption) ?_) | (simp only [Option.toList, List.drop, List.cons_append, List.nil_append, na0, na1, na2, na3, na4, na5, na6, na7, na8, na16, na88, na148, nm3, nI_add]; refine rM_ild (j := 1) rfl rfl (show _ < 35588 by omega) ?_))); try simp only [Option.toList, List.drop, List.cons_append, List.nil_append, na0, na1, na2, na3, na4, na5, na6, na7, na8, na16, na88, na148, nm3, nI_add]
          refine rM_bld (j := 11) rfl (Or.inr rfl) (show i < 2 from hi) ?_
          rw [f2]
          refine r_brF rfl rfl ?_ ?_
          · decide
          refine r_step rfl rfl rfl ?_
          refine r_step rfl rfl rfl ?_
          refine r_step rfl rfl rfl ?_
          refine r_step rfl rfl rfl ?_
          exact lp
        · (repeat (first | refine r_fw rfl rfl rfl rfl ?_ | refine rM_get rfl rfl ?_)); try dsimp only
          try simp only [na0, na1, na2, na3, na4, na5, na6, na7, na8, na16, na88, na148, nm3, nI_add]
          refine rM_call rfl rfl rfl rfl rfl m_howMany ?_
          (refine r_rtE rfl rfl ?_ ?_ ?_ <;> rfl)
      refine Ans_i (v := fo (fun p a => if w2.1 p 0 0 = 0 then a else a + 1) 6 0 0) (u := fo (fun p a => a + (s1 M 1 v') 1 (1148 * p)) 6 0 0) (x' := w.2.2.1) (M' := s1 M 1 v') (w1 := w2) hMd rfl rfl rfl rfl e36 ?_ hI C D ?_
      · rw [j4]
      · have hN := Nz_of hI
        refine (Nz_fo (fun q hq => ?_)).symm
        have := hN q hq
        rw [show (wM w2 (s1 M 1 v') w.2.2.1).1 q = w2.1 q from if_neg (by omega)] at this
        exact this
end CE3
