/-! streams -/
def stT (a : Nat) : Nat := drF (drF a) / 64 % (drF a / 64 % 40 + 1)
def stY (a : Nat) : Nat := drF (drF (drF a)) / 64 % 5 + 1
def stN (a : Nat) : Nat := drF (drF (drF a))
def stA : Nat → Nat → Nat × aS → Nat × aS
  | 0, _, R => R
  | n + 1, a, R => stA n (stN a) (if (coA R.2 (stT a) (stY a)).1 = 2 then R.1 + 1 else R.1, (coA R.2 (stT a) (stY a)).2)
theorem stT_lt (a : Nat) : stT a < 1000 := by
  unfold stT
  have h1 : drF (drF a) / 64 % (drF a / 64 % 40 + 1) < drF a / 64 % 40 + 1 := Nat.mod_lt _ (by omega)
  have h2 : drF a / 64 % 40 < 40 := Nat.mod_lt _ (by omega)
  omega
theorem stY_r (a : Nat) : 1 ≤ stY a ∧ stY a ≤ 5 := by
  unfold stY
  have h2 : drF (drF (drF a)) / 64 % 5 < 5 := Nat.mod_lt _ (by omega)
  omega
theorem stA_tot : ∀ d a (R : Nat × aS), (stA d a R).2.1 2 ≤ R.2.1 2 + 5 * d
  | 0, _, _ => Nat.le_refl _
  | d + 1, a, R => by
    have h1 := stA_tot d (stN a) (if (coA R.2 (stT a) (stY a)).1 = 2 then R.1 + 1 else R.1, (coA R.2 (stT a) (stY a)).2)
    have h2 := coA_tot (A := R.2) (t := stT a) (x := stY a)
    have h3 := (stY_r a).2
    rw [stA]
    dsimp only at h1
    omega
theorem stA_gd : ∀ d a (R : Nat × aS) {X Y : Nat}, Gd X Y R.2 → Gd (X + 5 * d) (Y + d) (stA d a R).2
  | 0, _, _, _, _, h => h
  | d + 1, a, R, X, Y, h => by
    have h1 := Gd_co h (stT_lt a) (stY_r a).1
    have h3 := (stY_r a).2
    have h2 := stA_gd d (stN a) (if (coA R.2 (stT a) (stY a)).1 = 2 then R.1 + 1 else R.1, (coA R.2 (stT a) (stY a)).2) h1
    rw [stA]
    exact Gd_mono h2 (by omega) (by omega)
theorem stA_w : ∀ d a (R : Nat × aS), (stA d a R).1 ≤ R.1 + d
  | 0, _, _ => Nat.le_refl _
  | d + 1, a, R => by
    have h1 := stA_w d (stN a) (if (coA R.2 (stT a) (stY a)).1 = 2 then R.1 + 1 else R.1, (coA R.2 (stT a) (stY a)).2)
    rw [stA]
    dsimp only at h1
    by_cases hc : (coA R.2 (stT a) (stY a)).1 = 2
    · rw [if_pos hc] at h1 ⊢
      omega
    · rw [if_neg hc] at h1 ⊢
      omega
theorem coA_how (A : aS) (t x : Nat) : (coA A t x).1 ≤ 2 := by
  have h : (rkA (a0A A t x) t x).1 ≤ 2 := by
    unfold rkA
    split
    · exact Nat.zero_le _
    · split
      · exact (by omega : 1 ≤ 2)
      · exact Nat.le_refl 2
  unfold coA hhA
  split
  · exact h
  · split
    · exact h
    · exact h
section RFC
variable {mi k : Nat} {L st : List Value} {h h' : hH} {r : Option Value}
theorem rF_call {i len pc x y a ci : Nat} {z : Int32} {zl : Int64} {ts : List Nat} {Q : hR} {r1 : Option Value} {h1 : hH} {as fs : List Value} (he : hI mi k = some (.invokevirtual i, len, pc, x, y, z, zl, ts)) (hQ : hmR x = some Q) (h5 : Q.2.2.2.2.2.1 = ci) (ha : (st.take y).reverse = .ref a :: as) (hc : h.2.2 a = .inl (ci, fs)) (hs : decide (hCats (st.drop y) ≤ 8 ∧ (st.take y).length = y ∧ (hFl (st.take y).reverse).length ≤ Q.2.2.1) = true) (C : hRun x 0 (hEnt (.ref a :: as) Q.2.2.1) [] h r1 h1) (K : hRun mi (k + 1) L (r1.toList ++ st.drop y) h1 r h') : hRun mi k L st h r h' := by
  refine r_call he rfl rfl rfl hQ ?_ hs ?_ K
  · rw [ha, h5]
    simp [hRcv, hc]
  · dsimp only
    rw [ha]
    exact C
end RFC
section POU
variable {E : hEn}
theorem pour_loop {q n : Nat} {sd : Int32} (hq : q < 31) (hn : n < 2 ^ 31) : ∀ d i a c A (w : hWo) X Y (z1 z2 z3 : Value), i + d = n → Gd X Y A → X + 5 * d + 5 < 2 ^ 30 → Y + d < 2 ^ 30 → RS A (w.1 q) → w.2.1 = lN a → a < 2147483648 → ∃ w', hRun 1 8 [.ref 72, .ref (bs q), .int sd, .int (nI n), .int (nI c), .int (nI i), z1, z2, z3] [] (hW E w) (some (.int (nI (stA d a (c, A)).1))) (hW E w') ∧ RS (stA d a (c, A)).2 (w'.1 q) ∧ Wk q w w' := by
  intro d
  induction d with
  | zero =>
    intro i a c A w X Y z1 z2 z3 hi hG hX hY hS hx ha
    refine ⟨w, ?_, hS, Wk_0⟩
    (repeat (first | refine r_fx rfl rfl rfl rfl ?_ | refine r_get rfl rfl rfl ?_ | refine wS_get (by omega) rfl rfl ?_)); try dsimp only
    refine r_brT rfl rfl ?_ ?_
    · exact nI_le (by omega) (by omega)
    (repeat (first | refine r_fx rfl rfl rfl rfl ?_ | refine r_get rfl rfl rfl ?_ | refine wS_get (by omega) rfl rfl ?_)); try dsimp only
    (refine r_rtE rfl rfl ?_ ?_ ?_ <;> rfl)
  | succ d ih =>
    intro i a c A w X Y z1 z2 z3 hi hG hX hY hS hx ha
    have hT := stT_lt a
    have hY5 := stY_r a
    have d1 := drF_lt a
    have d2 := drF_lt (drF a)
    have d3 := drF_lt (drF (drF a))
    have hm : drF a / 64 % 40 < 40 := Nat.mod_lt _ (by omega)
    have hG2 := Gd_co hG hT hY5.1
    have hR := RS_co (x := stY a) hS hG (by omega) hT hY5.1
    obtain ⟨w', k1, k2, k3⟩ := ih (i + 1) (stN a) (if (coA A (stT a) (stY a)).1 = 2 then c + 1 else c) (coA A (stT a) (stY a)).2 (wS (wX (wX (wX w (lN (drF a))) (lN (drF (drF a)))) (lN (drF (drF (drF a))))) q (arF (w.1 q) A.2.1.length (A.1 7) (stT a) (nI (stY a))).2.1) _ _ (.int (nI (drF a / 64 % 40 + 1))) (.int (nI (stT a))) (.int (nI (stY a))) (by omega) hG2 (by omega) (by omega) (by rw [wS_at]; exact hR.1) rfl d3
    have es : stA (d + 1) a (c, A) = stA d (stN a) (if (coA A (stT a) (stY a)).1 = 2 then c + 1 else c, (coA A (stT a) (stY a)).2) := rfl
    refine ⟨w', ?_, k2, ?_⟩
    · rw [es]
      (repeat (first | refine r_fx rfl rfl rfl rfl ?_ | refine r_get rfl rfl rfl ?_ | refine wS_get (by omega) rfl rfl ?_)); try dsimp only
      refine r_brF rfl rfl ?_ ?_
      · exact nle (by omega) (by omega)
      (repeat (first | refine r_fx rfl rfl rfl rfl ?_ | refine r_get rfl rfl rfl ?_ | refine wS_get (by omega) rfl rfl ?_)); try dsimp only
      refine rF_call rfl rfl rfl rfl rfl rfl (x_draw (m := 40) hx ha (by omega) (by omega)) ?_
      (repeat (first | refine r_fx rfl rfl rfl rfl ?_ | refine r_get rfl rfl rfl ?_ | refine wS_get (by omega) rfl rfl ?_)); try dsimp only
      rw [nI_1]
      refine rF_call rfl rfl rfl rfl rfl rfl (x_draw (a := drF a) (m := drF a / 64 % 40 + 1) rfl d1 (by omega) (by omega)) ?_
      (repeat (first | refine r_fx rfl rfl rfl rfl ?_ | refine r_get rfl rfl rfl ?_ | refine wS_get (by omega) rfl rfl ?_)); try dsimp only
      refine rF_call rfl rfl rfl rfl rfl rfl (x_draw (a := drF (drF a)) (m := 5) rfl d2 (by omega) (by omega)) ?_
      (repeat (first | refine r_fx rfl rfl rfl rfl ?_ | refine r_get rfl rfl rfl ?_ | refine wS_get (by omega) rfl rfl ?_)); try dsimp only
      rw [nI_1]
      change hRun 1 _ _ [.int (nI (stY a)), .int (nI (stT a)), .ref (bs q)] _ _ _
      refine wS_call hq rfl rfl rfl rfl rfl (x_arrive (X := X) (Y := Y) (A := A) (by omega) hq hG (by omega) hS hT hY5.1) ?_
      have hh := coA_how A (stT a) (stY a)
      (repeat (first | refine r_fx rfl rfl rfl rfl ?_ | refine r_get rfl rfl rfl ?_ | refine wS_get (by omega) rfl rfl ?_)); try dsimp only
      by_cases c2 : (coA A (stT a) (stY a)).1 = 2
      · rw [if_pos c2] at k1 ⊢
        refine r_brT rfl rfl ?_ ?_
        · rw [c2]; rfl
        (repeat (first | refine r_fx rfl rfl rfl rfl ?_ | refine r_get rfl rfl rfl ?_ | refine wS_get (by omega) rfl rfl ?_)); try dsimp only
        rw [nI_1, nI_1]
        refine r_step rfl rfl rfl ?_
        exact k1
      · rw [if_neg c2] at k1 ⊢
        refine r_brF rfl rfl ?_ ?_
        · intro z
          exact c2 ((nI_eq (b := 2) (by omega) (by omega)).mp z)
        (repeat (first | refine r_fx rfl rfl rfl rfl ?_ | refine r_get rfl rfl rfl ?_ | refine wS_get (by omega) rfl rfl ?_)); try dsimp only
        rw [nI_1]
        refine r_step rfl rfl rfl ?_
        exact k1
    · exact Wk_t (Wk_S (Wk_X (Wk_X (Wk_X Wk_0))) (Or.inl rfl) (by omega)) k3
theorem x_pour {q n sd X Y : Nat} {A : aS} {w : hWo} (hq : q < 31) (hn : n ≤ 100) (hs : sd < 2147483648) (hG : Gd X Y A) (hX : X + 505 < 2 ^ 30) (hY : Y + 100 < 2 ^ 30) (hS : RS A (w.1 q)) : ∃ w', hRun 1 0 [.ref 72, .ref (bs q), .int (nI sd), .int (nI n), hU, hU, hU, hU, hU] [] (hW E w) (some (.int (nI (stA n sd (0, A)).1))) (hW E w') ∧ RS (stA n sd (0, A)).2 (w'.1 q) ∧ Wk q w w' := by
  obtain ⟨w', k1, k2, k3⟩ := pour_loop (E := E) (q := q) (n := n) (sd := nI sd) hq (by omega) n 0 sd 0 A (wX w (lN sd)) X Y hU hU hU (by omega) hG (by omega) (by omega) hS rfl hs
  refine ⟨w', ?_, k2, Wk_t (Wk_X Wk_0) k3⟩
  refine r_step rfl rfl rfl ?_
  refine r_step rfl rfl rfl ?_
  refine r_step rfl rfl rfl ?_
  dsimp only
  rw [nI_l (by omega)]
  refine rX_put rfl ?_
  refine r_step rfl rfl rfl ?_
  refine r_step rfl rfl rfl ?_
  refine r_step rfl rfl rfl ?_
  refine r_step rfl rfl rfl ?_
  exact k1
end POU
section STM
variable {h : hH} {b : Nat} {M : hT2}
theorem streams_loop {B n : Nat} {sd : Int32} (hB : B + 1148 ≤ 35588) (hn : n < 2 ^ 31) : ∀ d i a c A (v : Nat → Int32) X Y (z1 z2 z3 : Value), i + d = n → Gd X Y A → X + 5 * d + 5 < 2 ^ 30 → RM A v B → a < 2147483648 → ∃ v' a', hRun 189 8 [.ref b, .int (nI B), .int sd, .int (nI n), .int (nI c), .int (nI i), z1, z2, z3] [] (hpM h b (s1 M 1 v) (lN a)) (some (.int (nI (stA d a (c, A)).1))) (hpM h b (s1 M 1 v') (lN a')) ∧ RM (stA d a (c, A)).2 v' B ∧ ∀ i, Ot B i → v' i = v i := by
  intro d
  induction d with
  | zero =>
    intro i a c A v X Y z1 z2 z3 hi hG hX hM ha
    refine ⟨v, a, ?_, hM, fun _ _ => rfl⟩
    (repeat (first | refine r_fw rfl rfl rfl rfl ?_ | refine rM_get rfl rfl ?_)); try dsimp only
    try simp only [na0, na1, na2, na3, na4, na5, na6, na7, na8, na16, na88, na148, nm3, nI_add]
    refine r_brT rfl rfl ?_ ?_
    · exact nI_le (by omega) (by omega)
    (repeat (first | refine r_fw rfl rfl rfl rfl ?_ | refine rM_get rfl rfl ?_)); try dsimp only
    try simp only [na0, na1, na2, na3, na4, na5, na6, na7, na8, na16, na88, na148, nm3, nI_add]
    (refine r_rtE rfl rfl ?_ ?_ ?_ <;> rfl)
  | succ d ih =>
    intro i a c A v X Y z1 z2 z3 hi hG hX hM ha
    have hT := stT_lt a
    have hY5 := stY_r a
    have d1 := drF_lt a
    have d2 := drF_lt (drF a)
    have d3 := drF_lt (drF (drF a))
    have hm : drF a / 64 % 40 < 40 := Nat.mod_lt _ (by omega)
    have hG2 := Gd_co hG hT hY5.1
    have hR := RM_co (x := stY a) hM hG (by omega) hT hY5.1
    obtain ⟨v', a', k1, k2, k3⟩ := ih (i + 1) (stN a) (if (coA A (stT a) (stY a)).1 = 2 then c + 1 else c) (coA A (stT a) (stY a)).2 (cmW v B A.2.1.length A.2.2.2.length (stT a) (nI (stY a))).2.2 _ _ (.int (nI (drF a / 64 % 40 + 1))) (.int (nI (stT a))) (.int (nI (stY a))) (by omega) hG2 (by omega) hR.1 d3
    have es : stA (d + 1) a (c, A) = stA d (stN a) (if (coA A (stT a) (stY a)).1 = 2 then c + 1 else c, (coA A (stT a) (stY a)).2) := rfl
    refine ⟨v', a', ?_, k2, fun j hj => (k3 j hj).trans (cmW_ot hG hM hT (by omega) hY5.1 hj)⟩
    rw [es]
    (repeat (first | refine r_fw rfl rfl rfl rfl ?_ | refine rM_get rfl rfl ?_)); try dsimp only
    try simp only [na0, na1, na2, na3, na4, na5, na6, na7, na8, na16, na88, na148, nm3, nI_add]
    refine r_brF rfl rfl ?_ ?_
    · exact nle (by omega) (by omega)
    (repeat (first | refine r_fw rfl rfl rfl rfl ?_ | refine rM_get rfl rfl ?_)); try dsimp only
    try simp only [na0, na1, na2, na3, na4, na5, na6, na7, na8, na16, na88, na148, nm3, nI_add]
    refine rM_call rfl rfl rfl rfl rfl (k_draw (m := 40) ha (by omega) (by omega)) ?_
    (repeat (first | refine r_fw rfl rfl rfl rfl ?_ | refine rM_get rfl rfl ?_)); try dsimp only
    try simp only [na0, na1, na2, na3, na4, na5, na6, na7, na8, na16, na88, na148, nm3, nI_add]
    refine rM_call rfl rfl rfl rfl rfl (k_draw (a := drF a) (m := drF a / 64 % 40 + 1) d1 (by omega) (by omega)) ?_
    (repeat (first | refine r_fw rfl rfl rfl rfl ?_ | refine rM_get rfl rfl ?_)); try dsimp only
    try simp only [na0, na1, na2, na3, na4, na5, na6, na7, na8, na16, na88, na148, nm3, nI_add]
    refine rM_call rfl rfl rfl rfl rfl (k_draw (a := drF (drF a)) (m := 5) d2 (by omega) (by omega)) ?_
    (repeat (first | refine r_fw rfl rfl rfl rfl ?_ | refine rM_get rfl rfl ?_)); try dsimp only
    try simp only [na0, na1, na2, na3, na4, na5, na6, na7, na8, na16, na88, na148, nm3, nI_add]
    change hRun 189 _ _ [.int (nI (stY a)), .int (nI (stT a)), .int (nI B), .ref b, .int (nI c)] _ _ _
    have hM2 : RM A ((s1 M 1 v) 1) B := hM
    refine rM_call rfl rfl rfl rfl rfl (k_comes (X := X) (Y := Y) (A := A) (by omega) hG hM2 hT hY5.1 hB) ?_
    rw [s1_s1, s1_at]
    have hh := coA_how A (stT a) (stY a)
    (repeat (first | refine r_fw rfl rfl rfl rfl ?_ | refine rM_get rfl rfl ?_)); try dsimp only
    try simp only [na0, na1, na2, na3, na4, na5, na6, na7, na8, na16, na88, na148, nm3, nI_add]
    by_cases c2 : (coA A (stT a) (stY a)).1 = 2
    · rw [if_pos c2] at k1 ⊢
      refine r_brT rfl rfl ?_ ?_
      · rw [c2]; rfl
      (repeat (first | refine r_fw rfl rfl rfl rfl ?_ | refine rM_get rfl rfl ?_)); try dsimp only
      try simp only [na0, na1, na2, na3, na4, na5, na6, na7, na8, na16, na88, na148, nm3, nI_add]
      first | refine r_callS rfl rfl rfl rfl m_fl0 ?_ | refine r_callS rfl rfl rfl rfl m_fl1 ?_
      (repeat (first | refine r_fw rfl rfl rfl rfl ?_ | refine rM_get rfl rfl ?_)); try dsimp only
      try simp only [na0, na1, na2, na3, na4, na5, na6, na7, na8, na16, na88, na148, nm3, nI_add]
      refine r_step rfl rfl rfl ?_
      exact k1
    · rw [if_neg c2] at k1 ⊢
      refine r_brF rfl rfl ?_ ?_
      · intro z
        exact c2 ((nI_eq (b := 2) (by omega) (by omega)).mp z)
      (repeat (first | refine r_fw rfl rfl rfl rfl ?_ | refine rM_get rfl rfl ?_)); try dsimp only
      try simp only [na0, na1, na2, na3, na4, na5, na6, na7, na8, na16, na88, na148, nm3, nI_add]
      first | refine r_callS rfl rfl rfl rfl m_fl0 ?_ | refine r_callS rfl rfl rfl rfl m_fl1 ?_
      (repeat (first | refine r_fw rfl rfl rfl rfl ?_ | refine rM_get rfl rfl ?_)); try dsimp only
      try simp only [na0, na1, na2, na3, na4, na5, na6, na7, na8, na16, na88, na148, nm3, nI_add]
      refine r_step rfl rfl rfl ?_
      exact k1
theorem k_streams {B n sd X Y : Nat} {A : aS} {x : Int64} (hB : B + 1148 ≤ 35588) (hn : n ≤ 100) (hs : sd < 2147483648) (hG : Gd X Y A) (hX : X + 505 < 2 ^ 30) (hM : RM A (M 1) B) : ∃ v' x', hRun 189 0 [.ref b, .int (nI B), .int (nI sd), .int (nI n), hU, hU, hU, hU, hU] [] (hpM h b M x) (some (.int (nI (stA n sd (0, A)).1))) (hpM h b (s1 M 1 v') x') ∧ RM (stA n sd (0, A)).2 v' B ∧ ∀ i, Ot B i → v' i = M 1 i := by
  obtain ⟨v', a', k1, k2, k3⟩ := streams_loop (h := h) (b := b) (M := M) (B := B) (n := n) (sd := nI sd) hB (by omega) n 0 sd 0 A (M 1) X Y hU hU hU (by omega) hG (by omega) hM hs
  rw [s1_id] at k1
  refine ⟨v', lN a', ?_, k2, k3⟩
  refine r_step rfl rfl rfl ?_
  refine r_step rfl rfl rfl ?_
  refine r_step rfl rfl rfl ?_
  dsimp only
  rw [nI_l (by omega)]
  refine rM_setx rfl ?_
  refine r_step rfl rfl rfl ?_
  refine r_step rfl rfl rfl ?_
  refine r_step rfl rfl rfl ?_
  refine r_step rfl rfl rfl ?_
  exact k1
end STM
section GSM
variable {h : hH}
theorem g_isStream_f {s m : Int32} (hb : s < 0 ∨ rgI m 1 100 = 0) : hRun 94 0 [.int s, .int m] [] h (some (.int 0)) h := by
  have := c_isStream (h := h) s m
  rw [rg_lt (x := m) (lo := 1) (hi := 100) (by decide) (by decide)] at this
  by_cases c : s < 0
  · rw [if_pos c] at this; exact this
  · rw [if_neg c] at this
    rcases hb with hb | hb
    · exact absurd hb c
    · rw [hb] at this; exact this
theorem g_isStream_t {s m : Int32} (h0 : ¬ s < 0) (hb : rgI m 1 100 = 1) : hRun 94 0 [.int s, .int m] [] h (some (.int 1)) h := by
  have := c_isStream (h := h) s m
  rw [rg_lt (x := m) (lo := 1) (hi := 100) (by decide) (by decide), if_neg h0, hb] at this
  exact this
end GSM
section CA5
variable {J : Nat} {E : hEn} {w : hWo}
theorem A_stream (hJ : J ≤ 600) (I : Iv J w.1 w.2.2.2) (s sd n : Int32) : Ans J 93 188 [.ref 2, .int s, .int sd, .int n, hU] [.ref 281, .int s, .int sd, .int n] E w := by
  obtain ⟨M, hMd⟩ : ∃ M, M = s2 (w.1 36) 0 0 0 := ⟨_, rfl⟩
  rcases stand I hMd s with ⟨p, A, hp, rfl, hG, hS, hM⟩ | ⟨hno, hnm⟩
  · have hS0 := hS.1
    have hM0 := hM.1
    have hBp : 1148 * p + 1148 ≤ 35588 := by omega
    have h24 : A.2.1.length ≤ 24 := Nat.le_trans hG.1.2.2 hG.1.2.1
    have hn := hS.2.1.2.1
    have hm : M 1 (1148 * p + 2) = nI A.2.1.length := hM.2.1.2.1
    by_cases c1 : sd < 0
    · refine Ans_3 (v := -2) (u := -2) hMd I rfl rfl rfl rfl ?_ ?_ rfl
      · (repeat (first | refine r_fy rfl rfl rfl rfl ?_ | (refine r_rtE rfl rfl ?_ ?_ ?_ <;> rfl) | refine r_get rfl rfl rfl ?_ | refine wS_getE (by omega) rfl rfl (by with_reducible assumption) ?_ | refine wS_get (by omega) rfl rfl ?_ | refine r_brT rfl rfl (by with_reducible first | assumption | rfl | exact nz10 | exact nI_pos (by omega) | exact nI_lt (by omega) (by omega) | exact nI_nlt (by omega) (by omega) | exact nI_le (by omega) (by omega) | exact nI_ge (by omega) (by omega)) ?_ | refine r_brF rfl rfl (by with_reducible first | assumption | rfl | exact nz10 | exact nI_pos (by omega) | exact nI_lt (by omega) (by omega) | exact nI_nlt (by omega) (by omega) | exact nI_le (by omega) (by omega) | exact nI_ge (by omega) (by omega)) ?_ | refine wH_call rfl rfl rfl rfl rfl (x_standing_t (by with_reducible assumption) (by with_reducible assumption)) ?_ | refine wH_call rfl rfl rfl rfl rfl (x_standing_f (by with_reducible assumption)) ?_ | refine r_callS rfl rfl rfl rfl (p_isSummary (by with_reducible assumption)) ?_ | refine r_callS rfl rfl rfl rfl (p_isThing (by with_reducible assumption)) ?_ | refine r_callS rfl rfl rfl rfl (p_isRoom (by with_reducible assumption)) ?_ | refine r_callS rfl rfl rfl rfl (p_isTop (by with_reducible assumption)) ?_ | refine r_callS rfl rfl rfl rfl (p_isWeight (by with_reducible assumption)) ?_ | refine r_callS rfl rfl rfl rfl (p_isShare (by with_reducible assumption)) ?_ | refine r_callS rfl rfl rfl rfl (p_isWindow (by with_reducible assumption)) ?_ | refine r_callS rfl rfl rfl rfl (p_isImage (by with_reducible assumption)) ?_ | refine r_tswd rfl (by with_reducible assumption) ?_ | refine wS_ild (by omega) rfl rfl (by first | assumption | omega | (simp only [lS]; omega)) ?_)); try dsimp only
        refine r_callS rfl rfl rfl rfl (g_isStream_f (Or.inl c1)) ?_
        (repeat (first | refine r_fy rfl rfl rfl rfl ?_ | (refine r_rtE rfl rfl ?_ ?_ ?_ <;> rfl) | refine r_get rfl rfl rfl ?_ | refine wS_getE (by omega) rfl rfl (by with_reducible assumption) ?_ | refine wS_get (by omega) rfl rfl ?_ | refine r_brT rfl rfl (by with_reducible first | assumption | rfl | exact nz10 | exact nI_pos (by omega) | exact nI_lt (by omega) (by omega) | exact nI_nlt (by omega) (by omega) | exact nI_le (by omega) (by omega) | exact nI_ge (by omega) (by omega)) ?_ | refine r_brF rfl rfl (by with_reducible first | assumption | rfl | exact nz10 | exact nI_pos (by omega) | exact nI_lt (by omega) (by omega) | exact nI_nlt (by omega) (by omega) | exact nI_le (by omega) (by omega) | exact nI_ge (by omega) (by omega)) ?_ | refine wH_call rfl rfl rfl rfl rfl (x_standing_t (by with_reducible assumption) (by with_reducible assumption)) ?_ | refine wH_call rfl rfl rfl rfl rfl (x_standing_f (by with_reducible assumption)) ?_ | refine r_callS rfl rfl rfl rfl (p_isSummary (by with_reducible assumption)) ?_ | refine r_callS rfl rfl rfl rfl (p_isThing (by with_reducible assumption)) ?_ | refine r_callS rfl rfl rfl rfl (p_isRoom (by with_reducible assumption)) ?_ | refine r_callS rfl rfl rfl rfl (p_isTop (by with_reducible assumption)) ?_ | refine r_callS rfl rfl rfl rfl (p_isWeight (by with_reducible assumption)) ?_ | refine r_callS rfl rfl rfl rfl (p_isShare (by with_reducible assumption)) ?_ | refine r_callS rfl rfl rfl rfl (p_isWindow (by with_reducible assumption)) ?_ | refine r_callS rfl rfl rfl rfl (p_isImage (by with_reducible assumption)) ?_ | refine r_tswd rfl (by with_reducible assumption) ?_ | refine wS_ild (by omega) rfl rfl (by first | assumption | omega | (simp only [lS]; omega)) ?_)); try dsimp only
      · (repeat (first | refine r_fy rfl rfl rfl rfl ?_ | (refine r_rtE rfl rfl ?_ ?_ ?_ <;> rfl) | refine rM_get rfl rfl ?_ | refine r_brT rfl rfl (by with_reducible first | assumption | rfl | exact nz10 | exact nI_pos (by omega) | exact nI_lt (by omega) (by omega) | exact nI_nlt (by omega) (by omega) | exact nI_le (by omega) (by omega) | exact nI_ge (by omega) (by omega)) ?_ | refine r_brF rfl rfl (by with_reducible first | assumption | rfl | exact nz10 | exact nI_pos (by omega) | exact nI_lt (by omega) (by omega) | exact nI_nlt (by omega) (by omega) | exact nI_le (by omega) (by omega) | exact nI_ge (by omega) (by omega)) ?_ | refine rM_call rfl rfl rfl rfl rfl (k_isThere_t (by with_reducible assumption) (by with_reducible assumption)) ?_ | refine rM_call rfl rfl rfl rfl rfl (k_isThere_f (by with_reducible assumption)) ?_ | refine rM_call rfl rfl rfl rfl rfl (m_manyE (by omega) (by with_reducible assumption)) ?_ | refine rM_call rfl rfl rfl rfl rfl (q_isSummary (by with_reducible assumption)) ?_ | (refine r_callS rfl rfl rfl rfl (m_bank _) ?_; rw [nm1148]) | refine r_callS rfl rfl rfl rfl (q_isThing (by with_reducible assumption)) ?_ | refine r_callS rfl rfl rfl rfl (q_isTop (by with_reducible assumption)) ?_ | refine r_callS rfl rfl rfl rfl (q_isPart (by with_reducible assumption)) ?_ | refine r_callS rfl rfl rfl rfl (q_isIn (by with_reducible assumption) (by decide) (by first | exact lx_m1 (by omega) | decide)) ?_ | refine r_tswd rfl (by with_reducible assumption) ?_ | (simp only [Option.toList, List.drop, List.cons_append, List.nil_append, na0, na1, na2, na3, na4, na5, na6, na7, na8, na16, na88, na148, nm3, nI_add]; refine rM_ildE (j := 1) rfl rfl (show _ < 35588 by omega) (by with_reducible assumption) ?_) | (simp only [Option.toList, List.drop, List.cons_append, List.nil_append, na0, na1, na2, na3, na4, na5, na6, na7, na8, na16, na88, na148, nm3, nI_add]; refine rM_ild (j := 1) rfl rfl (show _ < 35588 by omega) ?_))); try simp only [Option.toList, List.drop, List.cons_append, List.nil_append, na0, na1, na2, na3, na4, na5, na6, na7, na8, na16, na88, na148, nm3, nI_add]
    · rcases rg_01 n 1 100 with hn1 | hn1
      · refine Ans_3 (v := -2) (u := -2) hMd I rfl rfl rfl rfl ?_ ?_ rfl
        · (repeat (first | refine r_fy rfl rfl rfl rfl ?_ | (refine r_rtE rfl rfl ?_ ?_ ?_ <;> rfl) | refine r_get rfl rfl rfl ?_ | refine wS_getE (by omega) rfl rfl (by with_reducible assumption) ?_ | refine wS_get (by omega) rfl rfl ?_ | refine r_brT rfl rfl (by with_reducible first | assumption | rfl | exact nz10 | exact nI_pos (by omega) | exact nI_lt (by omega) (by omega) | exact nI_nlt (by omega) (by omega) | exact nI_le (by omega) (by omega) | exact nI_ge (by omega) (by omega)) ?_ | refine r_brF rfl rfl (by with_reducible first | assumption | rfl | exact nz10 | exact nI_pos (by omega) | exact nI_lt (by omega) (by omega) | exact nI_nlt (by omega) (by omega) | exact nI_le (by omega) (by omega) | exact nI_ge (by omega) (by omega)) ?_ | refine wH_call rfl rfl rfl rfl rfl (x_standing_t (by with_reducible assumption) (by with_reducible assumption)) ?_ | refine wH_call rfl rfl rfl rfl rfl (x_standing_f (by with_reducible assumption)) ?_ | refine r_callS rfl rfl rfl rfl (p_isSummary (by with_reducible assumption)) ?_ | refine r_callS rfl rfl rfl rfl (p_isThing (by with_reducible assumption)) ?_ | refine r_callS rfl rfl rfl rfl (p_isRoom (by with_reducible assumption)) ?_ | refine r_callS rfl rfl rfl rfl (p_isTop (by with_reducible assumption)) ?_ | refine r_callS rfl rfl rfl rfl (p_isWeight (by with_reducible assumption)) ?_ | refine r_callS rfl rfl rfl rfl (p_isShare (by with_reducible assumption)) ?_ | refine r_callS rfl rfl rfl rfl (p_isWindow (by with_reducible assumption)) ?_ | refine r_callS rfl rfl rfl rfl (p_isImage (by with_reducible assumption)) ?_ | refine r_tswd rfl (by with_reducible assumption) ?_ | refine wS_ild (by omega) rfl rfl (by first | assumption | omega | (simp only [lS]; omega)) ?_)); try dsimp only
          refine r_callS rfl rfl rfl rfl (g_isStream_f (Or.inr hn1)) ?_
          (repeat (first | refine r_fy rfl rfl rfl rfl ?_ | (refine r_rtE rfl rfl ?_ ?_ ?_ <;> rfl) | refine r_get rfl rfl rfl ?_ | refine wS_getE (by omega) rfl rfl (by with_reducible assumption) ?_ | refine wS_get (by omega) rfl rfl ?_ | refine r_brT rfl rfl (by with_reducible first | assumption | rfl | exact nz10 | exact nI_pos (by omega) | exact nI_lt (by omega) (by omega) | exact nI_nlt (by omega) (by omega) | exact nI_le (by omega) (by omega) | exact nI_ge (by omega) (by omega)) ?_ | refine r_brF rfl rfl (by with_reducible first | assumption | rfl | exact nz10 | exact nI_pos (by omega) | exact nI_lt (by omega) (by omega) | exact nI_nlt (by omega) (by omega) | exact nI_le (by omega) (by omega) | exact nI_ge (by omega) (by omega)) ?_ | refine wH_call rfl rfl rfl rfl rfl (x_standing_t (by with_reducible assumption) (by with_reducible assumption)) ?_ | refine wH_call rfl rfl rfl rfl rfl (x_standing_f (by with_reducible assumption)) ?_ | refine r_callS rfl rfl rfl rfl (p_isSummary (by with_reducible assumption)) ?_ | refine r_callS rfl rfl rfl rfl (p_isThing (by with_reducible assumption)) ?_ | refine r_callS rfl rfl rfl rfl (p_isRoom (by with_reducible assumption)) ?_ | refine r_callS rfl rfl rfl rfl (p_isTop (by with_reducible assumption)) ?_ | refine r_callS rfl rfl rfl rfl (p_isWeight (by with_reducible assumption)) ?_ | refine r_callS rfl rfl rfl rfl (p_isShare (by with_reducible assumption)) ?_ | refine r_callS rfl rfl rfl rfl (p_isWindow (by with_reducible assumption)) ?_ | refine r_callS rfl rfl rfl rfl (p_isImage (by with_reducible assumption)) ?_ | refine r_tswd rfl (by with_reducible assumption) ?_ | refine wS_ild (by omega) rfl rfl (by first | assumption | omega | (simp only [lS]; omega)) ?_)); try dsimp only
        · (repeat (first | refine r_fy rfl rfl rfl rfl ?_ | (refine r_rtE rfl rfl ?_ ?_ ?_ <;> rfl) | refine rM_get rfl rfl ?_ | refine r_brT rfl rfl (by with_reducible first | assumption | rfl | exact nz10 | exact nI_pos (by omega) | exact nI_lt (by omega) (by omega) | exact nI_nlt (by omega) (by omega) | exact nI_le (by omega) (by omega) | exact nI_ge (by omega) (by omega)) ?_ | refine r_brF rfl rfl (by with_reducible first | assumption | rfl | exact nz10 | exact nI_pos (by omega) | exact nI_lt (by omega) (by omega) | exact nI_nlt (by omega) (by omega) | exact nI_le (by omega) (by omega) | exact nI_ge (by omega) (by omega)) ?_ | refine rM_call rfl rfl rfl rfl rfl (k_isThere_t (by with_reducible assumption) (by with_reducible assumption)) ?_ | refine rM_call rfl rfl rfl rfl rfl (k_isThere_f (by with_reducible assumption)) ?_ | refine rM_call rfl rfl rfl rfl rfl (m_manyE (by omega) (by with_reducible assumption)) ?_ | refine rM_call rfl rfl rfl rfl rfl (q_isSummary (by with_reducible assumption)) ?_ | (refine r_callS rfl rfl rfl rfl (m_bank _) ?_; rw [nm1148]) | refine r_callS rfl rfl rfl rfl (q_isThing (by with_reducible assumption)) ?_ | refine r_callS rfl rfl rfl rfl (q_isTop (by with_reducible assumption)) ?_ | refine r_callS rfl rfl rfl rfl (q_isPart (by with_reducible assumption)) ?_ | refine r_callS rfl rfl rfl rfl (q_isIn (by with_reducible assumption) (by decide) (by first | exact lx_m1 (by omega) | decide)) ?_ | refine r_tswd rfl (by with_reducible assumption) ?_ | (simp only [Option.toList, List.drop, List.cons_append, List.nil_append, na0, na1, na2, na3, na4, na5, na6, na7, na8, na16, na88, na148, nm3, nI_add]; refine rM_ildE (j := 1) rfl rfl (show _ < 35588 by omega) (by with_reducible assumption) ?_) | (simp only [Option.toList, List.drop, List.cons_append, List.nil_append, na0, na1, na2, na3, na4, na5, na6, na7, na8, na16, na88, na148, nm3, nI_add]; refine rM_ild (j := 1) rfl rfl (show _ < 35588 by omega) ?_))); try simp only [Option.toList, List.drop, List.cons_append, List.nil_append, na0, na1, na2, na3, na4, na5, na6, na7, na8, na16, na88, na148, nm3, nI_add]
      · obtain ⟨n, rfl, hn2, hn3⟩ := rg_1 (lo := 1) (hi := 100) hn1
        obtain ⟨sd, hsd, rfl⟩ := nI_of c1
        have e3 : M 1 (1148 * p + 3) = nI (A.1 2) := hM.2.1.1 2 (by omega) (by omega) (by omega)
        have e2 : w.1 p 0 2 = nI (A.1 2) := hS.2.1.1 2 (by omega) (by omega) (by omega)
        have hg := hG.2.1.1
        have ec : nI n * 5 = nI (5 * n) := by rw [Nat.mul_comm 5 n]; exact pk_mul n 5
        have em : 5 * nI n = nI (5 * n) := pk_mul 5 n
        by_cases c : A.1 2 + 5 * n ≤ 1000000000
        · obtain ⟨w', k1, k2, k3⟩ := x_pour (E := E) (q := p) (n := n) (sd := sd) (by omega) hn3 hsd hG (by omega) (by omega) hS
          obtain ⟨v', x', m1, m2, m3⟩ := k_streams (h := hW E w') (b := 281) (M := M) (x := w.2.2.1) (n := n) (sd := sd) hBp hn3 hsd hG (by omega) hM
          refine Ans_b (v := nI (stA n sd (0, A)).1) (u := nI (stA n sd (0, A)).1) (x' := x') (w1 := w') (v' := v') hMd I rfl rfl rfl rfl hp k3 (fun i h1 _ => m3 i h1) ?_ ?_ ?_ rfl
          · refine Or.inr ⟨_, ?_, k2, m2⟩
            have t1 := stA_tot n sd (0, A)
            have t2 := stA_gd n sd (0, A) hG
            exact Gd_mono (Gd_tot t2 (X' := 1000000000) (by dsimp only at t1; omega)) (Nat.le_refl _) (by omega)
          · (repeat (first | refine r_fy rfl rfl rfl rfl ?_ | (refine r_rtE rfl rfl ?_ ?_ ?_ <;> rfl) | refine r_get rfl rfl rfl ?_ | refine wS_getE (by omega) rfl rfl (by with_reducible assumption) ?_ | refine wS_get (by omega) rfl rfl ?_ | refine r_brT rfl rfl (by with_reducible first | assumption | rfl | exact nz10 | exact nI_pos (by omega) | exact nI_lt (by omega) (by omega) | exact nI_nlt (by omega) (by omega) | exact nI_le (by omega) (by omega) | exact nI_ge (by omega) (by omega)) ?_ | refine r_brF rfl rfl (by with_reducible first | assumption | rfl | exact nz10 | exact nI_pos (by omega) | exact nI_lt (by omega) (by omega) | exact nI_nlt (by omega) (by omega) | exact nI_le (by omega) (by omega) | exact nI_ge (by omega) (by omega)) ?_ | refine wH_call rfl rfl rfl rfl rfl (x_standing_t (by with_reducible assumption) (by with_reducible assumption)) ?_ | refine wH_call rfl rfl rfl rfl rfl (x_standing_f (by with_reducible assumption)) ?_ | refine r_callS rfl rfl rfl rfl (p_isSummary (by with_reducible assumption)) ?_ | refine r_callS rfl rfl rfl rfl (p_isThing (by with_reducible assumption)) ?_ | refine r_callS rfl rfl rfl rfl (p_isRoom (by with_reducible assumption)) ?_ | refine r_callS rfl rfl rfl rfl (p_isTop (by with_reducible assumption)) ?_ | refine r_callS rfl rfl rfl rfl (p_isWeight (by with_reducible assumption)) ?_ | refine r_callS rfl rfl rfl rfl (p_isShare (by with_reducible assumption)) ?_ | refine r_callS rfl rfl rfl rfl (p_isWindow (by with_reducible assumption)) ?_ | refine r_callS rfl rfl rfl rfl (p_isImage (by with_reducible assumption)) ?_ | refine r_tswd rfl (by with_reducible assumption) ?_ | refine wS_ild (by omega) rfl rfl (by first | assumption | omega | (simp only [lS]; omega)) ?_)); try dsimp only
            refine r_callS rfl rfl rfl rfl (g_isStream_t c1 hn1) ?_
            (repeat (first | refine r_fy rfl rfl rfl rfl ?_ | (refine r_rtE rfl rfl ?_ ?_ ?_ <;> rfl) | refine r_get rfl rfl rfl ?_ | refine wS_getE (by omega) rfl rfl (by with_reducible assumption) ?_ | refine wS_get (by omega) rfl rfl ?_ | refine r_brT rfl rfl (by with_reducible first | assumption | rfl | exact nz10 | exact nI_pos (by omega) | exact nI_lt (by omega) (by omega) | exact nI_nlt (by omega) (by omega) | exact nI_le (by omega) (by omega) | exact nI_ge (by omega) (by omega)) ?_ | refine r_brF rfl rfl (by with_reducible first | assumption | rfl | exact nz10 | exact nI_pos (by omega) | exact nI_lt (by omega) (by omega) | exact nI_nlt (by omega) (by omega) | exact nI_le (by omega) (by omega) | exact nI_ge (by omega) (by omega)) ?_ | refine wH_call rfl rfl rfl rfl rfl (x_standing_t (by with_reducible assumption) (by with_reducible assumption)) ?_ | refine wH_call rfl rfl rfl rfl rfl (x_standing_f (by with_reducible assumption)) ?_ | refine r_callS rfl rfl rfl rfl (p_isSummary (by with_reducible assumption)) ?_ | refine r_callS rfl rfl rfl rfl (p_isThing (by with_reducible assumption)) ?_ | refine r_callS rfl rfl rfl rfl (p_isRoom (by with_reducible assumption)) ?_ | refine r_callS rfl rfl rfl rfl (p_isTop (by with_reducible assumption)) ?_ | refine r_callS rfl rfl rfl rfl (p_isWeight (by with_reducible assumption)) ?_ | refine r_callS rfl rfl rfl rfl (p_isShare (by with_reducible assumption)) ?_ | refine r_callS rfl rfl rfl rfl (p_isWindow (by with_reducible assumption)) ?_ | refine r_callS rfl rfl rfl rfl (p_isImage (by with_reducible assumption)) ?_ | refine r_tswd rfl (by with_reducible assumption) ?_ | refine wS_ild (by omega) rfl rfl (by first | assumption | omega | (simp only [lS]; omega)) ?_)); try dsimp only
            rw [ec]
            refine r_callS rfl rfl rfl rfl (x_hasSpace (by omega) _) ?_
            rw [e2, sp_t c]
            (repeat (first | refine r_fy rfl rfl rfl rfl ?_ | (refine r_rtE rfl rfl ?_ ?_ ?_ <;> rfl) | refine r_get rfl rfl rfl ?_ | refine wS_getE (by omega) rfl rfl (by with_reducible assumption) ?_ | refine wS_get (by omega) rfl rfl ?_ | refine r_brT rfl rfl (by with_reducible first | assumption | rfl | exact nz10 | exact nI_pos (by omega) | exact nI_lt (by omega) (by omega) | exact nI_nlt (by omega) (by omega) | exact nI_le (by omega) (by omega) | exact nI_ge (by omega) (by omega)) ?_ | refine r_brF rfl rfl (by with_reducible first | assumption | rfl | exact nz10 | exact nI_pos (by omega) | exact nI_lt (by omega) (by omega) | exact nI_nlt (by omega) (by omega) | exact nI_le (by omega) (by omega) | exact nI_ge (by omega) (by omega)) ?_ | refine wH_call rfl rfl rfl rfl rfl (x_standing_t (by with_reducible assumption) (by with_reducible assumption)) ?_ | refine wH_call rfl rfl rfl rfl rfl (x_standing_f (by with_reducible assumption)) ?_ | refine r_callS rfl rfl rfl rfl (p_isSummary (by with_reducible assumption)) ?_ | refine r_callS rfl rfl rfl rfl (p_isThing (by with_reducible assumption)) ?_ | refine r_callS rfl rfl rfl rfl (p_isRoom (by with_reducible assumption)) ?_ | refine r_callS rfl rfl rfl rfl (p_isTop (by with_reducible assumption)) ?_ | refine r_callS rfl rfl rfl rfl (p_isWeight (by with_reducible assumption)) ?_ | refine r_callS rfl rfl rfl rfl (p_isShare (by with_reducible assumption)) ?_ | refine r_callS rfl rfl rfl rfl (p_isWindow (by with_reducible assumption)) ?_ | refine r_callS rfl rfl rfl rfl (p_isImage (by with_reducible assumption)) ?_ | refine r_tswd rfl (by with_reducible assumption) ?_ | refine wS_ild (by omega) rfl rfl (by first | assumption | omega | (simp only [lS]; omega)) ?_)); try dsimp only
            refine rF_call rfl rfl rfl rfl rfl rfl k1 ?_
            (repeat (first | refine r_fy rfl rfl rfl rfl ?_ | (refine r_rtE rfl rfl ?_ ?_ ?_ <;> rfl) | refine r_get rfl rfl rfl ?_ | refine wS_getE (by omega) rfl rfl (by with_reducible assumption) ?_ | refine wS_get (by omega) rfl rfl ?_ | refine r_brT rfl rfl (by with_reducible first | assumption | rfl | exact nz10 | exact nI_pos (by omega) | exact nI_lt (by omega) (by omega) | exact nI_nlt (by omega) (by omega) | exact nI_le (by omega) (by omega) | exact nI_ge (by omega) (by omega)) ?_ | refine r_brF rfl rfl (by with_reducible first | assumption | rfl | exact nz10 | exact nI_pos (by omega) | exact nI_lt (by omega) (by omega) | exact nI_nlt (by omega) (by omega) | exact nI_le (by omega) (by omega) | exact nI_ge (by omega) (by omega)) ?_ | refine wH_call rfl rfl rfl rfl rfl (x_standing_t (by with_reducible assumption) (by with_reducible assumption)) ?_ | refine wH_call rfl rfl rfl rfl rfl (x_standing_f (by with_reducible assumption)) ?_ | refine r_callS rfl rfl rfl rfl (p_isSummary (by with_reducible assumption)) ?_ | refine r_callS rfl rfl rfl rfl (p_isThing (by with_reducible assumption)) ?_ | refine r_callS rfl rfl rfl rfl (p_isRoom (by with_reducible assumption)) ?_ | refine r_callS rfl rfl rfl rfl (p_isTop (by with_reducible assumption)) ?_ | refine r_callS rfl rfl rfl rfl (p_isWeight (by with_reducible assumption)) ?_ | refine r_callS rfl rfl rfl rfl (p_isShare (by with_reducible assumption)) ?_ | refine r_callS rfl rfl rfl rfl (p_isWindow (by with_reducible assumption)) ?_ | refine r_callS rfl rfl rfl rfl (p_isImage (by with_reducible assumption)) ?_ | refine r_tswd rfl (by with_reducible assumption) ?_ | refine wS_ild (by omega) rfl rfl (by first | assumption | omega | (simp only [lS]; omega)) ?_)); try dsimp only
          · (repeat (first | refine r_fy rfl rfl rfl rfl ?_ | (refine r_rtE rfl rfl ?_ ?_ ?_ <;> rfl) | refine rM_get rfl rfl ?_ | refine r_brT rfl rfl (by with_reducible first | assumption | rfl | exact nz10 | exact nI_pos (by omega) | exact nI_lt (by omega) (by omega) | exact nI_nlt (by omega) (by omega) | exact nI_le (by omega) (by omega) | exact nI_ge (by omega) (by omega)) ?_ | refine r_brF rfl rfl (by with_reducible first | assumption | rfl | exact nz10 | exact nI_pos (by omega) | exact nI_lt (by omega) (by omega) | exact nI_nlt (by omega) (by omega) | exact nI_le (by omega) (by omega) | exact nI_ge (by omega) (by omega)) ?_ | refine rM_call rfl rfl rfl rfl rfl (k_isThere_t (by with_reducible assumption) (by with_reducible assumption)) ?_ | refine rM_call rfl rfl rfl rfl rfl (k_isThere_f (by with_reducible assumption)) ?_ | refine rM_call rfl rfl rfl rfl rfl (m_manyE (by omega) (by with_reducible assumption)) ?_ | refine rM_call rfl rfl rfl rfl rfl (q_isSummary (by with_reducible assumption)) ?_ | (refine r_callS rfl rfl rfl rfl (m_bank _) ?_; rw [nm1148]) | refine r_callS rfl rfl rfl rfl (q_isThing (by with_reducible assumption)) ?_ | refine r_callS rfl rfl rfl rfl (q_isTop (by with_reducible assumption)) ?_ | refine r_callS rfl rfl rfl rfl (q_isPart (by with_reducible assumption)) ?_ | refine r_callS rfl rfl rfl rfl (q_isIn (by with_reducible assumption) (by decide) (by first | exact lx_m1 (by omega) | decide)) ?_ | refine r_tswd rfl (by with_reducible assumption) ?_ | (simp only [Option.toList, List.drop, List.cons_append, List.nil_append, na0, na1, na2, na3, na4, na5, na6, na7, na8, na16, na88, na148, nm3, nI_add]; refine rM_ildE (j := 1) rfl rfl (show _ < 35588 by omega) (by with_reducible assumption) ?_) | (simp only [Option.toList, List.drop, List.cons_append, List.nil_append, na0, na1, na2, na3, na4, na5, na6, na7, na8, na16, na88, na148, nm3, nI_add]; refine rM_ild (j := 1) rfl rfl (show _ < 35588 by omega) ?_))); try simp only [Option.toList, List.drop, List.cons_append, List.nil_append, na0, na1, na2, na3, na4, na5, na6, na7, na8, na16, na88, na148, nm3, nI_add]
            rw [em]
            refine rM_call rfl rfl rfl rfl rfl (k_full hBp e3 (by omega) (by omega) (if_pos c)) ?_
            (repeat (first | refine r_fy rfl rfl rfl rfl ?_ | (refine r_rtE rfl rfl ?_ ?_ ?_ <;> rfl) | refine rM_get rfl rfl ?_ | refine r_brT rfl rfl (by with_reducible first | assumption | rfl | exact nz10 | exact nI_pos (by omega) | exact nI_lt (by omega) (by omega) | exact nI_nlt (by omega) (by omega) | exact nI_le (by omega) (by omega) | exact nI_ge (by omega) (by omega)) ?_ | refine r_brF rfl rfl (by with_reducible first | assumption | rfl | exact nz10 | exact nI_pos (by omega) | exact nI_lt (by omega) (by omega) | exact nI_nlt (by omega) (by omega) | exact nI_le (by omega) (by omega) | exact nI_ge (by omega) (by omega)) ?_ | refine rM_call rfl rfl rfl rfl rfl (k_isThere_t (by with_reducible assumption) (by with_reducible assumption)) ?_ | refine rM_call rfl rfl rfl rfl rfl (k_isThere_f (by with_reducible assumption)) ?_ | refine rM_call rfl rfl rfl rfl rfl (m_manyE (by omega) (by with_reducible assumption)) ?_ | refine rM_call rfl rfl rfl rfl rfl (q_isSummary (by with_reducible assumption)) ?_ | (refine r_callS rfl rfl rfl rfl (m_bank _) ?_; rw [nm1148]) | refine r_callS rfl rfl rfl rfl (q_isThing (by with_reducible assumption)) ?_ | refine r_callS rfl rfl rfl rfl (q_isTop (by with_reducible assumption)) ?_ | refine r_callS rfl rfl rfl rfl (q_isPart (by with_reducible assumption)) ?_ | refine r_callS rfl rfl rfl rfl (q_isIn (by with_reducible assumption) (by decide) (by first | exact lx_m1 (by omega) | decide)) ?_ | refine r_tswd rfl (by with_reducible assumption) ?_ | (simp only [Option.toList, List.drop, List.cons_append, List.nil_append, na0, na1, na2, na3, na4, na5, na6, na7, na8, na16, na88, na148, nm3, nI_add]; refine rM_ildE (j := 1) rfl rfl (show _ < 35588 by omega) (by with_reducible assumption) ?_) | (simp only [Option.toList, List.drop, List.cons_append, List.nil_append, na0, na1, na2, na3, na4, na5, na6, na7, na8, na16, na88, na148, nm3, nI_add]; refine rM_ild (j := 1) rfl rfl (show _ < 35588 by omega) ?_))); try simp only [Option.toList, List.drop, List.cons_append, List.nil_append, na0, na1, na2, na3, na4, na5, na6, na7, na8, na16, na88, na148, nm3, nI_add]
            refine rM_call rfl rfl rfl rfl rfl m1 ?_
            (repeat (first | refine r_fy rfl rfl rfl rfl ?_ | (refine r_rtE rfl rfl ?_ ?_ ?_ <;> rfl) | refine rM_get rfl rfl ?_ | refine r_brT rfl rfl (by with_reducible first | assumption | rfl | exact nz10 | exact nI_pos (by omega) | exact nI_lt (by omega) (by omega) | exact nI_nlt (by omega) (by omega) | exact nI_le (by omega) (by omega) | exact nI_ge (by omega) (by omega)) ?_ | refine r_brF rfl rfl (by with_reducible first | assumption | rfl | exact nz10 | exact nI_pos (by omega) | exact nI_lt (by omega) (by omega) | exact nI_nlt (by omega) (by omega) | exact nI_le (by omega) (by omega) | exact nI_ge (by omega) (by omega)) ?_ | refine rM_call rfl rfl rfl rfl rfl (k_isThere_t (by with_reducible assumption) (by with_reducible assumption)) ?_ | refine rM_call rfl rfl rfl rfl rfl (k_isThere_f (by with_reducible assumption)) ?_ | refine rM_call rfl rfl rfl rfl rfl (m_manyE (by omega) (by with_reducible assumption)) ?_ | refine rM_call rfl rfl rfl rfl rfl (q_isSummary (by with_reducible assumption)) ?_ | (refine r_callS rfl rfl rfl rfl (m_bank _) ?_; rw [nm1148]) | refine r_callS rfl rfl rfl rfl (q_isThing (by with_reducible assumption)) ?_ | refine r_callS rfl rfl rfl rfl (q_isTop (by with_reducible assumption)) ?_ | refine r_callS rfl rfl rfl rfl (q_isPart (by with_reducible assumption)) ?_ | refine r_callS rfl rfl rfl rfl (q_isIn (by with_reducible assumption) (by decide) (by first | exact lx_m1 (by omega) | decide)) ?_ | refine r_tswd rfl (by with_reducible assumption) ?_ | (simp only [Option.toList, List.drop, List.cons_append, List.nil_append, na0, na1, na2, na3, na4, na5, na6, na7, na8, na16, na88, na148, nm3, nI_add]; refine rM_ildE (j := 1) rfl rfl (show _ < 35588 by omega) (by with_reducible assumption) ?_) | (simp only [Option.toList, List.drop, List.cons_append, List.nil_append, na0, na1, na2, na3, na4, na5, na6, na7, na8, na16, na88, na148, nm3, nI_add]; refine rM_ild (j := 1) rfl rfl (show _ < 35588 by omega) ?_))); try simp only [Option.toList, List.drop, List.cons_append, List.nil_append, na0, na1, na2, na3, na4, na5, na6, na7, na8, na16, na88, na148, nm3, nI_add]
        · refine Ans_3 (v := -3) (u := -3) hMd I rfl rfl rfl rfl ?_ ?_ rfl
          · (repeat (first | refine r_fy rfl rfl rfl rfl ?_ | (refine r_rtE rfl rfl ?_ ?_ ?_ <;> rfl) | refine r_get rfl rfl rfl ?_ | refine wS_getE (by omega) rfl rfl (by with_reducible assumption) ?_ | refine wS_get (by omega) rfl rfl ?_ | refine r_brT rfl rfl (by with_reducible first | assumption | rfl | exact nz10 | exact nI_pos (by omega) | exact nI_lt (by omega) (by omega) | exact nI_nlt (by omega) (by omega) | exact nI_le (by omega) (by omega) | exact nI_ge (by omega) (by omega)) ?_ | refine r_brF rfl rfl (by with_reducible first | assumption | rfl | exact nz10 | exact nI_pos (by omega) | exact nI_lt (by omega) (by omega) | exact nI_nlt (by omega) (by omega) | exact nI_le (by omega) (by omega) | exact nI_ge (by omega) (by omega)) ?_ | refine wH_call rfl rfl rfl rfl rfl (x_standing_t (by with_reducible assumption) (by with_reducible assumption)) ?_ | refine wH_call rfl rfl rfl rfl rfl (x_standing_f (by with_reducible assumption)) ?_ | refine r_callS rfl rfl rfl rfl (p_isSummary (by with_reducible assumption)) ?_ | refine r_callS rfl rfl rfl rfl (p_isThing (by with_reducible assumption)) ?_ | refine r_callS rfl rfl rfl rfl (p_isRoom (by with_reducible assumption)) ?_ | refine r_callS rfl rfl rfl rfl (p_isTop (by with_reducible assumption)) ?_ | refine r_callS rfl rfl rfl rfl (p_isWeight (by with_reducible assumption)) ?_ | refine r_callS rfl rfl rfl rfl (p_isShare (by with_reducible assumption)) ?_ | refine r_callS rfl rfl rfl rfl (p_isWindow (by with_reducible assumption)) ?_ | refine r_callS rfl rfl rfl rfl (p_isImage (by with_reducible assumption)) ?_ | refine r_tswd rfl (by with_reducible assumption) ?_ | refine wS_ild (by omega) rfl rfl (by first | assumption | omega | (simp only [lS]; omega)) ?_)); try dsimp only
            refine r_callS rfl rfl rfl rfl (g_isStream_t c1 hn1) ?_
            (repeat (first | refine r_fy rfl rfl rfl rfl ?_ | (refine r_rtE rfl rfl ?_ ?_ ?_ <;> rfl) | refine r_get rfl rfl rfl ?_ | refine wS_getE (by omega) rfl rfl (by with_reducible assumption) ?_ | refine wS_get (by omega) rfl rfl ?_ | refine r_brT rfl rfl (by with_reducible first | assumption | rfl | exact nz10 | exact nI_pos (by omega) | exact nI_lt (by omega) (by omega) | exact nI_nlt (by omega) (by omega) | exact nI_le (by omega) (by omega) | exact nI_ge (by omega) (by omega)) ?_ | refine r_brF rfl rfl (by with_reducible first | assumption | rfl | exact nz10 | exact nI_pos (by omega) | exact nI_lt (by omega) (by omega) | exact nI_nlt (by omega) (by omega) | exact nI_le (by omega) (by omega) | exact nI_ge (by omega) (by omega)) ?_ | refine wH_call rfl rfl rfl rfl rfl (x_standing_t (by with_reducible assumption) (by with_reducible assumption)) ?_ | refine wH_call rfl rfl rfl rfl rfl (x_standing_f (by with_reducible assumption)) ?_ | refine r_callS rfl rfl rfl rfl (p_isSummary (by with_reducible assumption)) ?_ | refine r_callS rfl rfl rfl rfl (p_isThing (by with_reducible assumption)) ?_ | refine r_callS rfl rfl rfl rfl (p_isRoom (by with_reducible assumption)) ?_ | refine r_callS rfl rfl rfl rfl (p_isTop (by with_reducible assumption)) ?_ | refine r_callS rfl rfl rfl rfl (p_isWeight (by with_reducible assumption)) ?_ | refine r_callS rfl rfl rfl rfl (p_isShare (by with_reducible assumption)) ?_ | refine r_callS rfl rfl rfl rfl (p_isWindow (by with_reducible assumption)) ?_ | refine r_callS rfl rfl rfl rfl (p_isImage (by with_reducible assumption)) ?_ | refine r_tswd rfl (by with_reducible assumption) ?_ | refine wS_ild (by omega) rfl rfl (by first | assumption | omega | (simp only [lS]; omega)) ?_)); try dsimp only
            rw [ec]
            refine r_callS rfl rfl rfl rfl (x_hasSpace (by omega) _) ?_
            rw [e2, sp_f c (by omega) (by omega)]
            (repeat (first | refine r_fy rfl rfl rfl rfl ?_ | (refine r_rtE rfl rfl ?_ ?_ ?_ <;> rfl) | refine r_get rfl rfl rfl ?_ | refine wS_getE (by omega) rfl rfl (by with_reducible assumption) ?_ | refine wS_get (by omega) rfl rfl ?_ | refine r_brT rfl rfl (by with_reducible first | assumption | rfl | exact nz10 | exact nI_pos (by omega) | exact nI_lt (by omega) (by omega) | exact nI_nlt (by omega) (by omega) | exact nI_le (by omega) (by omega) | exact nI_ge (by omega) (by omega)) ?_ | refine r_brF rfl rfl (by with_reducible first | assumption | rfl | exact nz10 | exact nI_pos (by omega) | exact nI_lt (by omega) (by omega) | exact nI_nlt (by omega) (by omega) | exact nI_le (by omega) (by omega) | exact nI_ge (by omega) (by omega)) ?_ | refine wH_call rfl rfl rfl rfl rfl (x_standing_t (by with_reducible assumption) (by with_reducible assumption)) ?_ | refine wH_call rfl rfl rfl rfl rfl (x_standing_f (by with_reducible assumption)) ?_ | refine r_callS rfl rfl rfl rfl (p_isSummary (by with_reducible assumption)) ?_ | refine r_callS rfl rfl rfl rfl (p_isThing (by with_reducible assumption)) ?_ | refine r_callS rfl rfl rfl rfl (p_isRoom (by with_reducible assumption)) ?_ | refine r_callS rfl rfl rfl rfl (p_isTop (by with_reducible assumption)) ?_ | refine r_callS rfl rfl rfl rfl (p_isWeight (by with_reducible assumption)) ?_ | refine r_callS rfl rfl rfl rfl (p_isShare (by with_reducible assumption)) ?_ | refine r_callS rfl rfl rfl rfl (p_isWindow (by with_reducible assumption)) ?_ | refine r_callS rfl rfl rfl rfl (p_isImage (by with_reducible assumption)) ?_ | refine r_tswd rfl (by with_reducible assumption) ?_ | refine wS_ild (by omega) rfl rfl (by first | assumption | omega | (simp only [lS]; omega)) ?_)); try dsimp only
          · (repeat (first | refine r_fy rfl rfl rfl rfl ?_ | (refine r_rtE rfl rfl ?_ ?_ ?_ <;> rfl) | refine rM_get rfl rfl ?_ | refine r_brT rfl rfl (by with_reducible first | assumption | rfl | exact nz10 | exact nI_pos (by omega) | exact nI_lt (by omega) (by omega) | exact nI_nlt (by omega) (by omega) | exact nI_le (by omega) (by omega) | exact nI_ge (by omega) (by omega)) ?_ | refine r_brF rfl rfl (by with_reducible first | assumption | rfl | exact nz10 | exact nI_pos (by omega) | exact nI_lt (by omega) (by omega) | exact nI_nlt (by omega) (by omega) | exact nI_le (by omega) (by omega) | exact nI_ge (by omega) (by omega)) ?_ | refine rM_call rfl rfl rfl rfl rfl (k_isThere_t (by with_reducible assumption) (by with_reducible assumption)) ?_ | refine rM_call rfl rfl rfl rfl rfl (k_isThere_f (by with_reducible assumption)) ?_ | refine rM_call rfl rfl rfl rfl rfl (m_manyE (by omega) (by with_reducible assumption)) ?_ | refine rM_call rfl rfl rfl rfl rfl (q_isSummary (by with_reducible assumption)) ?_ | (refine r_callS rfl rfl rfl rfl (m_bank _) ?_; rw [nm1148]) | refine r_callS rfl rfl rfl rfl (q_isThing (by with_reducible assumption)) ?_ | refine r_callS rfl rfl rfl rfl (q_isTop (by with_reducible assumption)) ?_ | refine r_callS rfl rfl rfl rfl (q_isPart (by with_reducible assumption)) ?_ | refine r_callS rfl rfl rfl rfl (q_isIn (by with_reducible assumption) (by decide) (by first | exact lx_m1 (by omega) | decide)) ?_ | refine r_tswd rfl (by with_reducible assumption) ?_ | (simp only [Option.toList, List.drop, List.cons_append, List.nil_append, na0, na1, na2, na3, na4, na5, na6, na7, na8, na16, na88, na148, nm3, nI_add]; refine rM_ildE (j := 1) rfl rfl (show _ < 35588 by omega) (by with_reducible assumption) ?_) | (simp only [Option.toList, List.drop, List.cons_append, List.nil_append, na0, na1, na2, na3, na4, na5, na6, na7, na8, na16, na88, na148, nm3, nI_add]; refine rM_ild (j := 1) rfl rfl (show _ < 35588 by omega) ?_))); try simp only [Option.toList, List.drop, List.cons_append, List.nil_append, na0, na1, na2, na3, na4, na5, na6, na7, na8, na16, na88, na148, nm3, nI_add]
            rw [em]
            refine rM_call rfl rfl rfl rfl rfl (k_full hBp e3 (by omega) (by omega) (if_neg c)) ?_
            (repeat (first | refine r_fy rfl rfl rfl rfl ?_ | (refine r_rtE rfl rfl ?_ ?_ ?_ <;> rfl) | refine rM_get rfl rfl ?_ | refine r_brT rfl rfl (by with_reducible first | assumption | rfl | exact nz10 | exact nI_pos (by omega) | exact nI_lt (by omega) (by omega) | exact nI_nlt (by omega) (by omega) | exact nI_le (by omega) (by omega) | exact nI_ge (by omega) (by omega)) ?_ | refine r_brF rfl rfl (by with_reducible first | assumption | rfl | exact nz10 | exact nI_pos (by omega) | exact nI_lt (by omega) (by omega) | exact nI_nlt (by omega) (by omega) | exact nI_le (by omega) (by omega) | exact nI_ge (by omega) (by omega)) ?_ | refine rM_call rfl rfl rfl rfl rfl (k_isThere_t (by with_reducible assumption) (by with_reducible assumption)) ?_ | refine rM_call rfl rfl rfl rfl rfl (k_isThere_f (by with_reducible assumption)) ?_ | refine rM_call rfl rfl rfl rfl rfl (m_manyE (by omega) (by with_reducible assumption)) ?_ | refine rM_call rfl rfl rfl rfl rfl (q_isSummary (by with_reducible assumption)) ?_ | (refine r_callS rfl rfl rfl rfl (m_bank _) ?_; rw [nm1148]) | refine r_callS rfl rfl rfl rfl (q_isThing (by with_reducible assumption)) ?_ | refine r_callS rfl rfl rfl rfl (q_isTop (by with_reducible assumption)) ?_ | refine r_callS rfl rfl rfl rfl (q_isPart (by with_reducible assumption)) ?_ | refine r_callS rfl rfl rfl rfl (q_isIn (by with_reducible assumption) (by decide) (by first | exact lx_m1 (by omega) | decide)) ?_ | refine r_tswd rfl (by with_reducible assumption) ?_ | (simp only [Option.toList, List.drop, List.cons_append, List.nil_append, na0, na1, na2, na3, na4, na5, na6, na7, na8, na16, na88, na148, nm3, nI_add]; refine rM_ildE (j := 1) rfl rfl (show _ < 35588 by omega) (by with_reducible assumption) ?_) | (simp only [Option.toList, List.drop, List.cons_append, List.nil_append, na0, na1, na2, na3, na4, na5, na6, na7, na8, na16, na88, na148, nm3, nI_add]; refine rM_ild (j := 1) rfl rfl (show _ < 35588 by omega) ?_))); try simp only [Option.toList, List.drop, List.cons_append, List.nil_append, na0, na1, na2, na3, na4, na5, na6, na7, na8, na16, na88, na148, nm3, nI_add]
  · refine Ans_3 (v := -2) (u := -2) hMd I rfl rfl rfl rfl ?_ ?_ rfl
    · (repeat (first | refine r_fy rfl rfl rfl rfl ?_ | (refine r_rtE rfl rfl ?_ ?_ ?_ <;> rfl) | refine r_get rfl rfl rfl ?_ | refine wS_getE (by omega) rfl rfl (by with_reducible assumption) ?_ | refine wS_get (by omega) rfl rfl ?_ | refine r_brT rfl rfl (by with_reducible first | assumption | rfl | exact nz10 | exact nI_pos (by omega) | exact nI_lt (by omega) (by omega) | exact nI_nlt (by omega) (by omega) | exact nI_le (by omega) (by omega) | exact nI_ge (by omega) (by omega)) ?_ | refine r_brF rfl rfl (by with_reducible first | assumption | rfl | exact nz10 | exact nI_pos (by omega) | exact nI_lt (by omega) (by omega) | exact nI_nlt (by omega) (by omega) | exact nI_le (by omega) (by omega) | exact nI_ge (by omega) (by omega)) ?_ | refine wH_call rfl rfl rfl rfl rfl (x_standing_t (by with_reducible assumption) (by with_reducible assumption)) ?_ | refine wH_call rfl rfl rfl rfl rfl (x_standing_f (by with_reducible assumption)) ?_ | refine r_callS rfl rfl rfl rfl (p_isSummary (by with_reducible assumption)) ?_ | refine r_callS rfl rfl rfl rfl (p_isThing (by with_reducible assumption)) ?_ | refine r_callS rfl rfl rfl rfl (p_isRoom (by with_reducible assumption)) ?_ | refine r_callS rfl rfl rfl rfl (p_isTop (by with_reducible assumption)) ?_ | refine r_callS rfl rfl rfl rfl (p_isWeight (by with_reducible assumption)) ?_ | refine r_callS rfl rfl rfl rfl (p_isShare (by with_reducible assumption)) ?_ | refine r_callS rfl rfl rfl rfl (p_isWindow (by with_reducible assumption)) ?_ | refine r_callS rfl rfl rfl rfl (p_isImage (by with_reducible assumption)) ?_ | refine r_tswd rfl (by with_reducible assumption) ?_ | refine wS_ild (by omega) rfl rfl (by first | assumption | omega | (simp only [lS]; omega)) ?_)); try dsimp only
    · (repeat (first | refine r_fy rfl rfl rfl rfl ?_ | (refine r_rtE rfl rfl ?_ ?_ ?_ <;> rfl) | refine rM_get rfl rfl ?_ | refine r_brT rfl rfl (by with_reducible first | assumption | rfl | exact nz10 | exact nI_pos (by omega) | exact nI_lt (by omega) (by omega) | exact nI_nlt (by omega) (by omega) | exact nI_le (by omega) (by omega) | exact nI_ge (by omega) (by omega)) ?_ | refine r_brF rfl rfl (by with_reducible first | assumption | rfl | exact nz10 | exact nI_pos (by omega) | exact nI_lt (by omega) (by omega) | exact nI_nlt (by omega) (by omega) | exact nI_le (by omega) (by omega) | exact nI_ge (by omega) (by omega)) ?_ | refine rM_call rfl rfl rfl rfl rfl (k_isThere_t (by with_reducible assumption) (by with_reducible assumption)) ?_ | refine rM_call rfl rfl rfl rfl rfl (k_isThere_f (by with_reducible assumption)) ?_ | refine rM_call rfl rfl rfl rfl rfl (m_manyE (by omega) (by with_reducible assumption)) ?_ | refine rM_call rfl rfl rfl rfl rfl (q_isSummary (by with_reducible assumption)) ?_ | (refine r_callS rfl rfl rfl rfl (m_bank _) ?_; rw [nm1148]) | refine r_callS rfl rfl rfl rfl (q_isThing (by with_reducible assumption)) ?_ | refine r_callS rfl rfl rfl rfl (q_isTop (by with_reducible assumption)) ?_ | refine r_callS rfl rfl rfl rfl (q_isPart (by with_reducible assumption)) ?_ | refine r_callS rfl rfl rfl rfl (q_isIn (by with_reducible assumption) (by decide) (by first | exact lx_m1 (by omega) | decide)) ?_ | refine r_tswd rfl (by with_reducible assumption) ?_ | (simp only [Option.toList, List.drop, List.cons_append, List.nil_append, na0, na1, na2, na3, na4, na5, na6, na7, na8, na16, na88, na148, nm3, nI_add]; refine rM_ildE (j := 1) rfl rfl (show _ < 35588 by omega) (by with_reducible assumption) ?_) | (simp only [Option.toList, List.drop, List.cons_append, List.nil_append, na0, na1, na2, na3, na4, na5, na6, na7, na8, na16, na88, na148, nm3, nI_add]; refine rM_ild (j := 1) rfl rfl (show _ < 35588 by omega) ?_))); try simp only [Option.toList, List.drop, List.cons_append, List.nil_append, na0, na1, na2, na3, na4, na5, na6, na7, na8, na16, na88, na148, nm3, nI_add]
end CA5
