/-! read: the class -/
theorem wFl_at {w : hWo} {a b : Int32} {q : Nat} (hq : q ≠ 34) : (wFl w a b).1 q = w.1 q := wS_ne hq
theorem wFl_2 {w : hWo} {a b c d : Int32} : wFl (wFl w a b) c d = wFl w c d := by
  unfold wFl
  rw [wS_at, wS_wS]
  congr 1
  funext x y
  simp only [s2_at]
  by_cases e1 : x = 0 ∧ y = 1
  · simp only [if_pos e1]
  · by_cases e2 : x = 0 ∧ y = 0
    · simp only [if_neg e1, if_pos e2]
    · simp only [if_neg e1, if_neg e2]
theorem TpC_f {w : hWo} {N : Nat} {F : Nat → Int32} {a b : Int32} (h : TpC w N F) : TpC (wFl w a b) N F := TpC_o h (by omega)
section RXA
variable {E : hEn} {w : hWo} {N : Nat} {F : Nat → Int32}
theorem x_cnts {m tt : Nat} (hT : TpC w N F) (hF1 : F 1 = nI m) (hm : m ≤ 24) (e2 : nuF F 2 4 0 = nI tt) (htt : tt ≤ 1000000000) : hRun 18 0 [.ref 59, .ref 57, hU, hU, hU, hU, hU, hU, hU, hU, hU] [] (hW E w) (some (.int (if (rdS F tt m 0 [] (fun _ => 0)).1 = 0 then 1 else 0))) (hW E (if (rdS F tt m 0 [] (fun _ => 0)).1 = 0 then w else wFl w (rdS F tt m 0 [] (fun _ => 0)).1 (nI (14 + 10 * (rdS F tt m 0 [] (fun _ => 0)).2.1)))) := by
  refine r_step rfl rfl rfl ?_
  refine r_step rfl rfl rfl ?_
  refine r_step rfl rfl rfl ?_
  refine wT_num1 (i := 1) rfl hT (by omega) rfl ?_
  rw [hF1]
  refine r_step rfl rfl rfl ?_
  refine r_step rfl rfl rfl ?_
  refine r_step rfl rfl rfl ?_
  refine r_step rfl rfl rfl ?_
  refine wT_num (i := 2) (n := 4) rfl hT (by omega) (by omega) rfl ?_
  rw [e2]
  refine r_step rfl rfl rfl ?_
  refine r_step rfl rfl rfl ?_
  refine r_step rfl rfl rfl ?_
  refine r_step rfl rfl rfl ?_
  refine r_step rfl rfl rfl ?_
  refine r_step rfl rfl rfl ?_
  refine r_step rfl rfl rfl ?_
  exact cnt_loop hT hm htt m 0 [] (fun _ => 0) _ _ _ (by omega) IR_0
theorem x_check (hT : TpC w N F) (hN : 1 ≤ N) : hRun 21 0 [.ref 59, .ref 57, hU] [] (hW E w) (some (.int (if ckF F (N - 1) 0 7 = F (N - 1) then 1 else 0))) (hW E (if ckF F (N - 1) 0 7 = F (N - 1) then w else wFl w 9 (nI (N - 1)))) := by
  have ck := c_check (h := hW E w) (b := 57) (N := N) (n := N - 1) hT.1 hT.2.1 (by omega)
  have ec : ckF (w.1 33 1) (N - 1) 0 7 = ckF F (N - 1) 0 7 := ckF_c _ _ _ (fun j _ h2 => by rw [← hT.2.2]; dsimp only; rw [if_pos (by omega)])
  rw [ec] at ck
  refine r_step rfl rfl rfl ?_
  refine r_getE rfl rfl rfl hT.1 ?_
  refine r_step rfl rfl rfl ?_
  refine r_step rfl rfl rfl ?_
  try dsimp only
  rw [show nI N - 1 = nI (N - 1) from pk_sub (b := 1) hN]
  refine r_step rfl rfl rfl ?_
  refine r_step rfl rfl rfl ?_
  refine r_step rfl rfl rfl ?_
  refine r_step rfl rfl rfl ?_
  refine wT_num1 (i := N - 1) rfl hT (by have := hT.2.1; omega) rfl ?_
  refine r_step rfl rfl rfl ?_
  refine r_step rfl rfl rfl ?_
  refine wT_call rfl rfl rfl rfl rfl ck ?_
  rw [wS_id]
  by_cases q : ckF F (N - 1) 0 7 = F (N - 1)
  · rw [if_pos q, if_pos q]
    refine r_brT rfl rfl ?_ ?_
    · exact q.symm
    refine r_step rfl rfl rfl ?_
    refine r_step rfl rfl rfl ?_
    (refine r_rtE rfl rfl ?_ ?_ ?_ <;> rfl)
  · rw [if_neg q, if_neg q]
    refine r_brF rfl rfl ?_ ?_
    · exact fun z => q z.symm
    refine r_step rfl rfl rfl ?_
    refine r_step rfl rfl rfl ?_
    refine r_step rfl rfl rfl ?_
    refine rF_call rfl rfl rfl rfl rfl rfl (x_flawed _ _) ?_
    refine r_brT rfl rfl ?_ ?_
    · rfl
    refine r_step rfl rfl rfl ?_
    (refine r_rtE rfl rfl ?_ ?_ ?_ <;> rfl)
theorem x_sound {m b0 : Nat} (hT : TpC w N F) (h0 : F 0 = nI b0) (hb0 : b0 < 256) (h1 : F 1 = nI m) (hm : m < 256) : hRun 14 0 [.ref 59, .ref 57] [] (hW E w) (some (.int (if (vdF F N m (cN (nuF F 2 4 0))).1 = 0 then 1 else 0))) (hW E (wFl w (vdF F N m (cN (nuF F 2 4 0))).1 (vdF F N m (cN (nuF F 2 4 0))).2)) := by
  have hT0 : TpC (wFl w 0 (-1)) N F := TpC_f hT
  refine r_step rfl rfl rfl ?_
  refine r_step rfl rfl rfl ?_
  refine wR_set (Or.inl rfl) rfl ?_
  refine r_step rfl rfl rfl ?_
  refine r_step rfl rfl rfl ?_
  refine wR_set (Or.inr rfl) rfl ?_
  rw [wS_at, wS_wS]
  change hRun 14 _ _ _ (hW E (wFl w 0 (-1))) _ _
  refine r_step rfl rfl rfl ?_
  refine r_step rfl rfl rfl ?_
  by_cases q0 : ¬ N = 15 + 10 * m
  · have e : vdF F N m (cN (nuF F 2 4 0)) = (1, nI N) := if_pos q0
    rw [e]
    dsimp only
    rw [if_neg (by decide)]
    refine rF_call rfl rfl rfl rfl rfl rfl (x_size_f hT0 h1 hm q0) ?_
    rw [wFl_2]
    refine r_brT rfl rfl ?_ ?_
    · rfl
    refine r_step rfl rfl rfl ?_
    (refine r_rtE rfl rfl ?_ ?_ ?_ <;> rfl)
  have q0 : N = 15 + 10 * m := Decidable.not_not.mp q0
  refine rF_call rfl rfl rfl rfl rfl rfl (x_size_t hT0 h1 hm q0) ?_
  refine r_brF rfl rfl ?_ ?_
  · decide
  refine r_step rfl rfl rfl ?_
  refine r_step rfl rfl rfl ?_
  have hd := x_head (E := E) hT0
  by_cases q2 : ¬ (hdF F).1 = 0
  · have e : vdF F N m (cN (nuF F 2 4 0)) = hdF F := (if_neg (fun z => z q0)).trans (if_pos q2)
    rw [e, if_neg q2]
    rw [if_neg q2, if_neg q2, wFl_2] at hd
    refine rF_call rfl rfl rfl rfl rfl rfl hd ?_
    refine r_brT rfl rfl ?_ ?_
    · rfl
    refine r_step rfl rfl rfl ?_
    (refine r_rtE rfl rfl ?_ ?_ ?_ <;> rfl)
  have q2 : (hdF F).1 = 0 := Decidable.not_not.mp q2
  rw [if_pos q2, if_pos q2] at hd
  refine rF_call rfl rfl rfl rfl rfl rfl hd ?_
  refine r_brF rfl rfl ?_ ?_
  · decide
  refine r_step rfl rfl rfl ?_
  refine r_step rfl rfl rfl ?_
  obtain ⟨tt, ab, ha, hbr, hmb2, e2, e6, e10, t2, a2, b2⟩ := hd_ok q2 h0 hb0 h1 hm
  have ett : cN (nuF F 2 4 0) = tt := by unfold cN; rw [e2, nI_clamp (by omega)]
  rw [ett]
  have hc := x_cnts (E := E) hT0 h1 (by omega) e2 t2
  by_cases q3 : ¬ (rdS F tt m 0 [] (fun _ => 0)).1 = 0
  · have e : vdF F N m tt = ((rdS F tt m 0 [] (fun _ => 0)).1, nI (14 + 10 * (rdS F tt m 0 [] (fun _ => 0)).2.1)) := (if_neg (fun z => z q0)).trans ((if_neg (fun z => z q2)).trans (if_pos q3))
    rw [e]
    dsimp only
    rw [if_neg q3]
    rw [if_neg q3, if_neg q3, wFl_2] at hc
    refine rF_call rfl rfl rfl rfl rfl rfl hc ?_
    refine r_brT rfl rfl ?_ ?_
    · rfl
    refine r_step rfl rfl rfl ?_
    (refine r_rtE rfl rfl ?_ ?_ ?_ <;> rfl)
  have q3 : (rdS F tt m 0 [] (fun _ => 0)).1 = 0 := Decidable.not_not.mp q3
  rw [if_pos q3, if_pos q3] at hc
  refine rF_call rfl rfl rfl rfl rfl rfl hc ?_
  refine r_brF rfl rfl ?_ ?_
  · decide
  refine r_step rfl rfl rfl ?_
  refine r_step rfl rfl rfl ?_
  have hk := x_check (E := E) hT0 (by omega)
  by_cases q4 : ¬ ckF F (N - 1) 0 7 = F (N - 1)
  · have e : vdF F N m tt = (9, nI (N - 1)) := (if_neg (fun z => z q0)).trans ((if_neg (fun z => z q2)).trans ((if_neg (fun z => z q3)).trans (if_pos q4)))
    rw [e]
    dsimp only
    rw [if_neg (by decide)]
    rw [if_neg q4, if_neg q4, wFl_2] at hk
    refine rF_call rfl rfl rfl rfl rfl rfl hk ?_
    refine r_brT rfl rfl ?_ ?_
    · rfl
    refine r_step rfl rfl rfl ?_
    (refine r_rtE rfl rfl ?_ ?_ ?_ <;> rfl)
  · have e : vdF F N m tt = (0, -1) := (if_neg (fun z => z q0)).trans ((if_neg (fun z => z q2)).trans ((if_neg (fun z => z q3)).trans (if_neg q4)))
    have q4 : ckF F (N - 1) 0 7 = F (N - 1) := Decidable.not_not.mp q4
    rw [e]
    dsimp only
    rw [if_pos rfl]
    rw [if_pos q4, if_pos q4] at hk
    refine rF_call rfl rfl rfl rfl rfl rfl hk ?_
    refine r_brF rfl rfl ?_ ?_
    · decide
    refine r_step rfl rfl rfl ?_
    refine r_step rfl rfl rfl ?_
    (refine r_rtE rfl rfl ?_ ?_ ?_ <;> rfl)
end RXA
section RLD
variable {E : hEn} {N : Nat} {F : Nat → Int32} {tt m q : Nat} {NN : Nat → Nat}
theorem ld_loop (hq : q < 31) (hm : m ≤ 24) (htt : tt ≤ 1000000000) : ∀ d k D U (w : hWo) (z4 z5 : Value), k + d = m → IR F tt k D U → (rdS F tt d k D U).1 = 0 → RS (NN, D, U, []) (w.1 q) → TpC w N F → ∃ T, hRun 22 31 [.ref 59, .ref 57, .ref (bs q), .int (nI m), .int (nI k), z4, z5] [] (hW E w) none (hW E (wS w q T)) ∧ RS (NN, (rdS F tt d k D U).2.2.1, (rdS F tt d k D U).2.2.2, []) T := by
  intro d
  induction d with
  | zero =>
    intro k D U w z4 z5 hk hI hr hS hT
    refine ⟨w.1 q, ?_, hS⟩
    rw [wS_id]
    refine r_step rfl rfl rfl ?_
    refine r_step rfl rfl rfl ?_
    refine r_brT rfl rfl ?_ ?_
    · exact nI_le (by omega) (by omega)
    (refine r_rtE rfl rfl ?_ ?_ ?_ <;> rfl)
  | succ d ih =>
    intro k D U w z4 z5 hk hI hr hS hT
    have e : rdK F tt k D = 0 := by
      by_cases z : rdK F tt k D = 0
      · exact z
      · rw [rdS, if_neg z] at hr
        exact hr
    obtain ⟨t, c, l, et, ec, el, ht, hf, q1, q2, q3, q4, q5, q6, q7, q8, q9⟩ := IR_s hI htt e
    have hlen : D.length = k := hI.1
    rw [rdS, if_pos e, q6, q7] at hr
    obtain ⟨w1, hw1⟩ : ∃ w1, w1 = wS w q (s1 (w.1 q) 4 (upd (w.1 q 4) t (nI l))) := ⟨_, rfl⟩
    have hT1 : TpC w1 N F := by rw [hw1]; exact TpC_o hT (by omega)
    have hS1 : RS (NN, D, uN U t l, []) (w1.1 q) := by rw [hw1, wS_at]; exact RS_tr hS
    have hS2 := RS_put (t := t) (c := c) (l := l) hS1 (by show D.length < 24; omega) (fun y hy => by have := (hI.2.1.1 y hy).2.2.1; omega) (by omega)
    obtain ⟨w2, hw2⟩ : ∃ w2, w2 = wS w1 q (putF (w1.1 q) D.length (nI t) (nI c) (nI l)) := ⟨_, rfl⟩
    have hT2 : TpC w2 N F := by rw [hw2]; exact TpC_o hT1 (by omega)
    have hS2' : RS (NN, puA D (t, c, l), uN U t l, []) (w2.1 q) := by rw [hw2, wS_at]; exact hS2
    have pi := c_putIn (h := hW E w1) (b := bs q) (n := D.length) (nI t) (nI c) (nI l) hS1.2.1.2.1 (by omega)
    obtain ⟨T, j1, j2⟩ := ih (k + 1) (puA D (t, c, l)) (uN U t l) w2 (.int (nI (14 + 10 * k))) (.int (nI t)) (by omega) q8 hr hS2' hT2
    rw [rdS, if_pos e, q6, q7]
    refine ⟨T, ?_, j2⟩
    rw [show wS w2 q T = wS w q T by rw [hw2, hw1, wS_wS, wS_wS]] at j1
    refine r_step rfl rfl rfl ?_
    refine r_step rfl rfl rfl ?_
    refine r_brF rfl rfl ?_ ?_
    · exact nle (by omega) (by omega)
    refine r_step rfl rfl rfl ?_
    refine r_step rfl rfl rfl ?_
    refine r_step rfl rfl rfl ?_
    refine r_step rfl rfl rfl ?_
    refine r_step rfl rfl rfl ?_
    try dsimp only
    rw [at14]
    refine r_step rfl rfl rfl ?_
    refine r_step rfl rfl rfl ?_
    refine r_step rfl rfl rfl ?_
    refine r_callS rfl rfl rfl rfl (x_thingOf hT (by omega)) ?_
    rw [et]
    refine r_step rfl rfl rfl ?_
    refine r_step rfl rfl rfl ?_
    refine r_callS rfl rfl rfl rfl (g_isThing _) ?_
    rw [rgI_t (by rw [nI_toInt (by omega)]; omega)]
    refine r_brF rfl rfl ?_ ?_
    · decide
    refine r_step rfl rfl rfl ?_
    refine wS_get (q := q) hq rfl rfl ?_
    refine r_step rfl rfl rfl ?_
    refine r_step rfl rfl rfl ?_
    refine r_step rfl rfl rfl ?_
    refine r_step rfl rfl rfl ?_
    refine r_step rfl rfl rfl ?_
    try dsimp only
    rw [na6]
    refine r_step rfl rfl rfl ?_
    refine wT_num (n := 4) rfl hT (by omega) (by omega) rfl ?_
    rw [show nuF F (14 + 10 * k + 6) 4 0 = nI l from el]
    refine wS_ist (q := q) (j := 4) hq rfl rfl (show t < 1000 from ht) ?_
    rw [← hw1]
    refine r_step rfl rfl rfl ?_
    refine r_step rfl rfl rfl ?_
    refine r_step rfl rfl rfl ?_
    refine r_step rfl rfl rfl ?_
    refine r_step rfl rfl rfl ?_
    refine r_step rfl rfl rfl ?_
    try dsimp only
    rw [na2]
    refine r_step rfl rfl rfl ?_
    refine wT_num (n := 4) rfl hT1 (by omega) (by omega) rfl ?_
    rw [show nuF F (14 + 10 * k + 2) 4 0 = nI c from ec]
    refine r_step rfl rfl rfl ?_
    refine r_step rfl rfl rfl ?_
    refine r_step rfl rfl rfl ?_
    refine r_step rfl rfl rfl ?_
    try dsimp only
    rw [na6]
    refine r_step rfl rfl rfl ?_
    refine wT_num (n := 4) rfl hT1 (by omega) (by omega) rfl ?_
    rw [show nuF F (14 + 10 * k + 6) 4 0 = nI l from el]
    refine wS_call (q := q) hq rfl rfl rfl rfl rfl pi ?_
    rw [← hw2]
    refine r_step rfl rfl rfl ?_
    try dsimp only
    rw [nI_1]
    refine r_step rfl rfl rfl ?_
    exact j1
theorem x_load {w : hWo} {b0 ab ha : Nat} (hq : q < 31) (hT : TpC w N F) (h0 : F 0 = nI b0) (hF1 : F 1 = nI m) (hm : m ≤ 24) (htt : tt ≤ 1000000000) (e2 : nuF F 2 4 0 = nI tt) (e6 : nuF F 6 4 0 = nI ab) (e10 : nuF F 10 4 0 = nI ha) (hr : (rdS F tt m 0 [] (fun _ => 0)).1 = 0) : ∃ T, hRun 22 0 [.ref 59, .ref 57, .ref (bs q), hU, hU, hU, hU] [] (hW E w) none (hW E (wS w q T)) ∧ RS (bD b0 tt ab ha, (rdS F tt m 0 [] (fun _ => 0)).2.2.1, (rdS F tt m 0 [] (fun _ => 0)).2.2.2, []) T := by
  have hr1 := RS_beg (w.1 q) b0
  have hr2 := RS_num (j := 2) (v := tt) hr1 (by omega)
  have hr3 := RS_num (j := 3) (v := ab) hr2 (by omega)
  have hr4 := RS_num (j := 4) (v := ha) hr3 (by omega)
  obtain ⟨T0, hT0⟩ : ∃ T0, T0 = s2 (s2 (s2 (begF (w.1 q) (nI b0)) 0 2 (nI tt)) 0 3 (nI ab)) 0 4 (nI ha) := ⟨_, rfl⟩
  have hS : RS (bD b0 tt ab ha, [], fun _ => 0, []) ((wS w q T0).1 q) := by rw [wS_at, hT0]; exact hr4
  obtain ⟨T, j1, j2⟩ := ld_loop (E := E) (N := N) (F := F) (tt := tt) (m := m) (q := q) (NN := bD b0 tt ab ha) hq hm htt m 0 [] (fun _ => 0) (wS w q T0) hU hU (by omega) IR_0 hr hS (TpC_o hT (by omega))
  rw [wS_wS] at j1
  refine ⟨T, ?_, j2⟩
  refine r_step rfl rfl rfl ?_
  refine r_step rfl rfl rfl ?_
  refine r_step rfl rfl rfl ?_
  refine r_step rfl rfl rfl ?_
  refine wT_num1 (i := 0) rfl hT (by omega) rfl ?_
  rw [h0]
  refine wS_call (q := q) hq rfl rfl rfl rfl rfl (c_begin _) ?_
  refine r_step rfl rfl rfl ?_
  refine r_step rfl rfl rfl ?_
  refine r_step rfl rfl rfl ?_
  refine r_step rfl rfl rfl ?_
  refine wT_num (i := 2) (n := 4) rfl (TpC_o hT (by omega)) (by omega) (by omega) rfl ?_
  rw [e2]
  refine wS_set (q := q) hq rfl rfl rfl ?_
  rw [wS_at, wS_wS]
  refine r_step rfl rfl rfl ?_
  refine r_step rfl rfl rfl ?_
  refine r_step rfl rfl rfl ?_
  refine r_step rfl rfl rfl ?_
  refine wT_num (i := 6) (n := 4) rfl (TpC_o hT (by omega)) (by omega) (by omega) rfl ?_
  rw [e6]
  refine wS_set (q := q) hq rfl rfl rfl ?_
  rw [wS_at, wS_wS]
  refine r_step rfl rfl rfl ?_
  refine r_step rfl rfl rfl ?_
  refine r_step rfl rfl rfl ?_
  refine r_step rfl rfl rfl ?_
  refine wT_num (i := 10) (n := 4) rfl (TpC_o hT (by omega)) (by omega) (by omega) rfl ?_
  rw [e10]
  refine wS_set (q := q) hq rfl rfl rfl ?_
  rw [wS_at, wS_wS]
  refine r_step rfl rfl rfl ?_
  refine r_step rfl rfl rfl ?_
  refine r_step rfl rfl rfl ?_
  refine wT_num1 (i := 1) rfl (TpC_o hT (by omega)) (by omega) rfl ?_
  rw [hF1]
  refine r_step rfl rfl rfl ?_
  refine r_step rfl rfl rfl ?_
  refine r_step rfl rfl rfl ?_
  subst hT0
  exact j1
end RLD
theorem Iv_rd {J q0 : Nat} {W V : Nat → hT2} {P : Nat → Nat → Nat} (I : Iv J W P) (hq : q0 < 6 ∨ q0 = 30) (h1 : ∀ c, c < 31 → c ≠ 6 → (q0 < 6 → c ≠ q0) → V c = W c) (h2 : V 35 1 = W 35 1) (h3 : ∀ i, i < 34440 → (i < 1148 * q0 ∨ 1148 * q0 + 1148 ≤ i) → V 36 1 i = W 36 1 i) (h7 : V 36 7 = W 36 7) (h8 : V 36 8 = W 36 8) (hr : q0 < 6 → Rq (100 * (J + 1)) (V q0) (V 36 1) (1148 * q0)) (o : Io V) (t : It V) (r : Ir V) : Iv (J + 1) V P := by
  refine ⟨fun q hq2 => ?_, fun v hv => ?_, I.2.2.1, o, t, r⟩
  · have a : cq q = q ∧ q < 6 ∨ cq q = q + 1 ∧ 6 ≤ q := by
      unfold cq
      by_cases h : q < 6
      · rw [if_pos h]; exact Or.inl ⟨rfl, h⟩
      · rw [if_neg h]; exact Or.inr ⟨rfl, by omega⟩
    by_cases e : q = q0
    · subst e
      rw [show cq q = q by omega]
      exact hr (by omega)
    · exact Rq_same (I.1 q hq2) (by omega) (h1 _ (by omega) (by omega) (fun _ => by omega)) (fun i hi => h3 _ (by omega) (by omega))
  · exact Rw_same hv I.2.2.1 (I.2.1 v hv) (by omega) h2 h7 h8 (fun c a b => h1 c (by omega) (by omega) (fun _ => by omega)) (fun i a b => h3 i (by omega) (by omega))
