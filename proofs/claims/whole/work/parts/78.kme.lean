/-! the reference merges: the counters come back; merge, merged -/
theorem gC_tk {D : List aK} {k p : Nat} (h : p < k) : gC (D.take k) p = gC D p := gC_take h
theorem mem_drt {D : List aK} {a c : Nat} {y : aK} (h : y ∈ (D.take c).drop a) : ∃ j, a ≤ j ∧ j < c ∧ j < D.length ∧ y = gC D j := by
  obtain ⟨p, hp, rfl⟩ := gC_ex h
  rw [List.length_drop, List.length_take] at hp
  refine ⟨a + p, by omega, by omega, by omega, ?_⟩
  rw [gC_drop, gC_tk (by omega)]
theorem drt_snoc {D : List aK} {F i : Nat} (h1 : F ≤ i) (h2 : i < D.length) : (D.take (i + 1)).drop F = (D.take i).drop F ++ [gC D i] := by
  rw [take_snoc h2, List.drop_append_of_le_length (by rw [List.length_take]; omega)]
theorem drt_app {D : List aK} {F K s : Nat} (h1 : F ≤ K) (h2 : K ≤ s) (h3 : s ≤ D.length) : (D.take s).drop F = (D.take K).drop F ++ (D.take s).drop K := by
  have e : D.take s = D.take K ++ (D.take s).drop K := by
    have := List.take_append_drop K (D.take s)
    rw [List.take_take, Nat.min_eq_left h2] at this
    exact this.symm
  conv => lhs; rw [e]
  rw [List.drop_append_of_le_length (by rw [List.length_take]; omega)]
section KIN
variable {h : hH} {b : Nat} {x : Int64} {M : hT2} {D : List aK} {Q O st : Nat} {N : Nat → Nat} {U : (Nat → Nat) × List aK}
theorem kfrom_loop {k F : Nat} {z6 : Value} {r : Option Value} {h' : hH} {v : Nat → Int32} (hL : RLm D M) (hD : D.length ≤ 48) (hb : ∀ c, c ∈ D → c.1 < 1000 ∧ c.2.1 < 2 ^ 30 ∧ c.2.2 < 2 ^ 30) (hk : k < D.length) (h1 : ∀ j, F ≤ j → j ≤ k → (gC D j).2.1 = (gC D k).2.1) (h2 : F = 0 ∨ (gC D (F - 1)).2.1 ≠ (gC D k).2.1) (K : hRun 199 208 [.ref b, .int (nI Q), .int (nI O), .int (nI st), .int (nI k), .int (nI F), z6] [] (hpM h b (s1 M 1 v) x) r h') : ∀ d f, f = F + d → f ≤ k → hRun 199 194 [.ref b, .int (nI Q), .int (nI O), .int (nI st), .int (nI k), .int (nI f), z6] [.int (nI f)] (hpM h b (s1 M 1 v) x) r h' := by
  have ek : (s1 M 1 v) 3 k = nI (gC D k).2.1 := by rw [s1_row, if_neg (by omega)]; exact (hL.2 k hk).2.1
  have bk := hb _ (gC_mem hk)
  intro d
  induction d with
  | zero =>
    intro f hf hfk
    have e : f = F := by omega
    subst e
    by_cases c : f = 0
    · subst c
      refine r_brT rfl rfl ?_ ?_
      · decide
      exact K
    · have e1 : (s1 M 1 v) 3 (f - 1) = nI (gC D (f - 1)).2.1 := by rw [s1_row, if_neg (by omega)]; exact (hL.2 (f - 1) (by omega)).2.1
      have b1 := hb _ (gC_mem (show f - 1 < D.length by omega))
      refine r_brF rfl rfl ?_ ?_
      · exact nI_nle (by omega) (by omega)
      (repeat (first | refine r_fw rfl rfl rfl rfl ?_ | refine rM_get rfl rfl ?_)); try dsimp only
      try simp only [na0, na1, na2, na3, na4, na5, na6, na7, na8, na16, na88, na148, nm3, nI_add]
      rw [nI_s1 (by omega)]
      refine rM_ildE (j := 3) rfl rfl (show f - 1 < 48 by omega) e1 ?_
      (repeat (first | refine r_fw rfl rfl rfl rfl ?_ | refine rM_get rfl rfl ?_)); try dsimp only
      try simp only [na0, na1, na2, na3, na4, na5, na6, na7, na8, na16, na88, na148, nm3, nI_add]
      refine rM_ildE (j := 3) rfl rfl (show k < 48 by omega) ek ?_
      refine r_brF rfl rfl ?_ ?_
      · intro z
        rcases h2 with h2 | h2
        · exact c h2
        · exact h2 ((nI_eq (by omega) (by omega)).mp z)
      exact K
  | succ d ih =>
    intro f hf hfk
    have e1 : (s1 M 1 v) 3 (f - 1) = nI (gC D (f - 1)).2.1 := by rw [s1_row, if_neg (by omega)]; exact (hL.2 (f - 1) (by omega)).2.1
    have e3 : nI f + -1 = nI (f - 1) := by
      have := pk_m1 (f - 1)
      rwa [show f - 1 + 1 = f by omega] at this
    refine r_brF rfl rfl ?_ ?_
    · exact nI_nle (by omega) (by omega)
    (repeat (first | refine r_fw rfl rfl rfl rfl ?_ | refine rM_get rfl rfl ?_)); try dsimp only
    try simp only [na0, na1, na2, na3, na4, na5, na6, na7, na8, na16, na88, na148, nm3, nI_add]
    rw [nI_s1 (by omega)]
    refine rM_ildE (j := 3) rfl rfl (show f - 1 < 48 by omega) e1 ?_
    (repeat (first | refine r_fw rfl rfl rfl rfl ?_ | refine rM_get rfl rfl ?_)); try dsimp only
    try simp only [na0, na1, na2, na3, na4, na5, na6, na7, na8, na16, na88, na148, nm3, nI_add]
    refine rM_ildE (j := 3) rfl rfl (show k < 48 by omega) ek ?_
    refine r_brT rfl rfl ?_ ?_
    · rw [h1 (f - 1) (by omega) (by omega)]
    (repeat (first | refine r_fw rfl rfl rfl rfl ?_ | refine rM_get rfl rfl ?_)); try dsimp only
    try simp only [na0, na1, na2, na3, na4, na5, na6, na7, na8, na16, na88, na148, nm3, nI_add]
    refine r_step rfl rfl rfl ?_
    rw [e3]
    refine r_step rfl rfl rfl ?_
    exact ih (f - 1) (by omega) (by omega)
theorem kins_loop {F K : Nat} (hQ : Q + 1148 ≤ 35588) (hL : RLm D M) (hD : D.length ≤ 48) (hF : Fs D) (hb : ∀ c, c ∈ D → c.1 < 1000 ∧ c.2.1 < 2 ^ 30 ∧ c.2.2 < 2 ^ 30) (hst : st ≤ D.length) (hs24 : st ≤ 24) (hK : K ≤ st) (hFK : F < K) (h1 : ∀ j, F ≤ j → j < K → (gC D j).2.1 = (gC D F).2.1) (h2 : ∀ i j, i < K → K ≤ j → j < st → (gC D j).2.1 < (gC D i).2.1) : ∀ d i R (v : Nat → Int32), i + d = K → F ≤ i → RM (N, R, U) v Q → Fo R → R.Perm ((D.take st).drop K ++ (D.take i).drop F) → ∃ v' R', RM (N, R', U) v' Q ∧ Fo R' ∧ R'.Perm ((D.take st).drop K ++ (D.take K).drop F) ∧ (∀ j, Ot Q j → v' j = v j) ∧ ∀ r h', hRun 199 230 [.ref b, .int (nI Q), .int (nI O), .int (nI st), .int (nI (K - 1)), .int (nI F), .int (nI K)] [] (hpM h b (s1 M 1 v') x) r h' → hRun 199 212 [.ref b, .int (nI Q), .int (nI O), .int (nI st), .int (nI (K - 1)), .int (nI F), .int (nI i)] [.int (nI (K - 1)), .int (nI i)] (hpM h b (s1 M 1 v) x) r h' := by
  intro d
  induction d with
  | zero =>
    intro i R v hi hFi hM hR hP
    have e : i = K := by omega
    subst e
    refine ⟨v, R, hM, hR, hP, fun _ _ => rfl, fun r h' Kk => ?_⟩
    refine r_brT rfl rfl ?_ ?_
    · exact nI_lt (by omega) (by omega)
    exact Kk
  | succ d ih =>
    intro i R v hi hFi hM hR hP
    have hil : i < D.length := by omega
    have bi := hb _ (gC_mem hil)
    have hlen : R.length < 24 := by
      rw [hP.length_eq, List.length_append, List.length_drop, List.length_drop, List.length_take, List.length_take]
      omega
    have hmem : ∀ y, y ∈ R → ∃ j, y = gC D j ∧ j < D.length ∧ ((K ≤ j ∧ j < st) ∨ (F ≤ j ∧ j < i)) := by
      intro y hy
      rcases List.mem_append.mp (hP.mem_iff.mp hy) with hy | hy
      · obtain ⟨j, a1, a2, a3, a4⟩ := mem_drt hy
        exact ⟨j, a4, a3, Or.inl ⟨a1, a2⟩⟩
      · obtain ⟨j, a1, a2, a3, a4⟩ := mem_drt hy
        exact ⟨j, a4, a3, Or.inr ⟨a1, a2⟩⟩
    have hRb : ∀ y, y ∈ R → y.2.1 < 2 ^ 30 := by
      intro y hy
      obtain ⟨j, rfl, a, -⟩ := hmem y hy
      exact (hb _ (gC_mem a)).2.1
    have hFo : Fo (puA R (gC D i)) := Fo_pu hR (fun y hy hle => by
      obtain ⟨j, rfl, a, c | c⟩ := hmem y hy
      · have := h2 i j (by omega) c.1 c.2
        rw [fob_iff]
        omega
      · have e1 := h1 j c.1 (by omega)
        have e2 := h1 i hFi (by omega)
        have := (fab_iff _ _).mp ((Fs_iff D).mp hF j i c.2 hil)
        rw [fob_iff]
        omega)
    have hP2 : (puA R (gC D i)).Perm ((D.take st).drop K ++ (D.take (i + 1)).drop F) := by
      rw [drt_snoc hFi hil, ← List.append_assoc]
      exact (puA_perm _ _).trans ((hP.cons _).trans (List.perm_append_singleton _ _).symm)
    have hM2 := RM_put (t := (gC D i).1) (c := (gC D i).2.1) (l := (gC D i).2.2) hM hlen (fun y hy => by have := hRb y hy; omega) (by omega)
    obtain ⟨v', R', k1, k2, k3, k4, k5⟩ := ih (i + 1) (puA R (gC D i)) _ (by omega) (by omega) hM2 hFo hP2
    refine ⟨v', R', k1, k2, k3, fun j hj => (k4 j hj).trans (putW_o (by show R.length ≤ 24; omega) hj), fun r h' Kk => ?_⟩
    have e2 : (s1 M 1 v) 2 i = nI (gC D i).1 := by rw [s1_row, if_neg (by omega)]; exact (hL.2 i hil).1
    have e3 : (s1 M 1 v) 3 i = nI (gC D i).2.1 := by rw [s1_row, if_neg (by omega)]; exact (hL.2 i hil).2.1
    have e4 : (s1 M 1 v) 4 i = nI (gC D i).2.2 := by rw [s1_row, if_neg (by omega)]; exact (hL.2 i hil).2.2
    have hm : (s1 M 1 v) 1 (Q + 2) = nI R.length := by rw [s1_at]; exact hM.2.1.2.1
    refine r_brF rfl rfl ?_ ?_
    · exact nI_nlt (by omega) (by omega)
    (repeat (first | refine r_fw rfl rfl rfl rfl ?_ | refine rM_get rfl rfl ?_)); try dsimp only
    try simp only [na0, na1, na2, na3, na4, na5, na6, na7, na8, na16, na88, na148, nm3, nI_add]
    refine rM_ildE (j := 2) rfl rfl (show i < 48 by omega) e2 ?_
    (repeat (first | refine r_fw rfl rfl rfl rfl ?_ | refine rM_get rfl rfl ?_)); try dsimp only
    try simp only [na0, na1, na2, na3, na4, na5, na6, na7, na8, na16, na88, na148, nm3, nI_add]
    refine rM_ildE (j := 3) rfl rfl (show i < 48 by omega) e3 ?_
    (repeat (first | refine r_fw rfl rfl rfl rfl ?_ | refine rM_get rfl rfl ?_)); try dsimp only
    try simp only [na0, na1, na2, na3, na4, na5, na6, na7, na8, na16, na88, na148, nm3, nI_add]
    refine rM_ildE (j := 4) rfl rfl (show i < 48 by omega) e4 ?_
    refine rM_call rfl rfl rfl rfl rfl (m_inserts _ _ _ hm hlen hQ) ?_
    rw [s1_s1, s1_at]
    (repeat (first | refine r_fw rfl rfl rfl rfl ?_ | refine rM_get rfl rfl ?_)); try dsimp only
    try simp only [na0, na1, na2, na3, na4, na5, na6, na7, na8, na16, na88, na148, nm3, nI_add]
    refine r_step rfl rfl rfl ?_
    (repeat (first | refine r_fw rfl rfl rfl rfl ?_ | refine rM_get rfl rfl ?_)); try dsimp only
    try simp only [na0, na1, na2, na3, na4, na5, na6, na7, na8, na16, na88, na148, nm3, nI_add]
    exact k5 r h' Kk
theorem kout_loop (hQ : Q + 1148 ≤ 35588) (hL : RLm D M) (hD : D.length ≤ 48) (hF : Fs D) (hb : ∀ c, c ∈ D → c.1 < 1000 ∧ c.2.1 < 2 ^ 30 ∧ c.2.2 < 2 ^ 30) (hst : st ≤ D.length) (hs24 : st ≤ 24) : ∀ m K R (v : Nat → Int32) (z5 z6 : Value), K ≤ m → K ≤ st → RM (N, R, U) v Q → Fo R → R.Perm ((D.take st).drop K) → (∀ i j, i < K → K ≤ j → j < st → (gC D j).2.1 < (gC D i).2.1) → ∃ v' R', RM (N, R', U) v' Q ∧ Fo R' ∧ R'.Perm (D.take st) ∧ (∀ j, Ot Q j → v' j = v j) ∧ hRun 199 190 [.ref b, .int (nI Q), .int (nI O), .int (nI st), .int (nI K - 1), z5, z6] [.int (nI K - 1)] (hpM h b (s1 M 1 v) x) (some (.int (nI (D.length - st)))) (hpM h b (s1 M 1 v') x) := by
  have fin : ∀ (R : List aK) (v : Nat → Int32) (z5 z6 : Value), RM (N, R, U) v Q → Fo R → R.Perm ((D.take st).drop 0) → ∃ v' R', RM (N, R', U) v' Q ∧ Fo R' ∧ R'.Perm (D.take st) ∧ (∀ j, Ot Q j → v' j = v j) ∧ hRun 199 190 [.ref b, .int (nI Q), .int (nI O), .int (nI st), .int (nI 0 - 1), z5, z6] [.int (nI 0 - 1)] (hpM h b (s1 M 1 v) x) (some (.int (nI (D.length - st)))) (hpM h b (s1 M 1 v') x) := by
    intro R v z5 z6 hM hR hP
    rw [List.drop_zero] at hP
    refine ⟨v, R, hM, hR, hP, fun _ _ => rfl, ?_⟩
    have e0 : (s1 M 1 v) 0 1 = nI D.length := by rw [s1_row, if_neg (by omega)]; exact hL.1
    refine r_brT rfl rfl ?_ ?_
    · decide
    (repeat (first | refine r_fw rfl rfl rfl rfl ?_ | refine rM_get rfl rfl ?_)); try dsimp only
    try simp only [na0, na1, na2, na3, na4, na5, na6, na7, na8, na16, na88, na148, nm3, nI_add]
    rw [e0, pk_sub hst]
    (refine r_rtE rfl rfl ?_ ?_ ?_ <;> rfl)
  intro m
  induction m with
  | zero =>
    intro K R v z5 z6 hKm hK hM hR hP hs
    have e : K = 0 := by omega
    subst e
    exact fin R v z5 z6 hM hR hP
  | succ m ih =>
    intro K R v z5 z6 hKm hK hM hR hP hs
    by_cases e0 : K = 0
    · subst e0
      exact fin R v z5 z6 hM hR hP
    · have hk : K - 1 < D.length := by omega
      obtain ⟨F, ⟨f1, f2⟩, f3⟩ := pk_least (fun f => f ≤ K - 1 ∧ ∀ j, f ≤ j → j ≤ K - 1 → (gC D j).2.1 = (gC D (K - 1)).2.1) ⟨K - 1, Nat.le_refl _, fun j a c => by rw [show j = K - 1 by omega]⟩
      have f4 : F = 0 ∨ (gC D (F - 1)).2.1 ≠ (gC D (K - 1)).2.1 := by
        by_cases c : F = 0
        · exact Or.inl c
        · refine Or.inr (fun z => f3 (F - 1) (by omega) ⟨by omega, fun j a d => ?_⟩)
          by_cases e : j = F - 1
          · rw [e]; exact z
          · exact f2 j (by omega) d
      have hsf := (Fs_iff D).mp hF
      have g1 : ∀ j, F ≤ j → j < K → (gC D j).2.1 = (gC D F).2.1 := by
        intro j a c
        rw [f2 j a (by omega), f2 F (by omega) f1]
      obtain ⟨v1, R1, k1, k2, k3, k4, k5⟩ := kins_loop (h := h) (b := b) (x := x) (O := O) (F := F) (K := K) hQ hL hD hF hb hst hs24 hK (by omega) g1 hs (K - F) F R v (by omega) (by omega) hM hR (by
        have : (D.take F).drop F = [] := List.drop_eq_nil_of_le (by rw [List.length_take]; omega)
        rw [this, List.append_nil]
        exact hP)
      have hP1 : R1.Perm ((D.take st).drop F) := by
        rw [drt_app (show F ≤ K by omega) hK hst]
        exact k3.trans List.perm_append_comm
      have hs1 : ∀ i j, i < F → F ≤ j → j < st → (gC D j).2.1 < (gC D i).2.1 := by
        intro i j a c d
        have hle : ∀ p q, p ≤ q → q < D.length → (gC D q).2.1 ≤ (gC D p).2.1 := by
          intro p q hpq hq
          by_cases e : p = q
          · rw [e]; exact Nat.le_refl _
          · have := (fab_iff _ _).mp (hsf p q (by omega) hq)
            omega
        by_cases cj : j < K
        · have a1 := hle i (F - 1) (by omega) (by omega)
          have a2 := hle (F - 1) (K - 1) (by omega) hk
          have a3 := f2 j c (by omega)
          rcases f4 with f4 | f4
          · omega
          · omega
        · exact hs i j (by omega) (by omega) d
      obtain ⟨v', R', j1, j2, j3, j4, j5⟩ := ih F R1 v1 (.int (nI F)) (.int (nI K)) (by omega) (by omega) k1 k2 hP1 hs1
      refine ⟨v', R', j1, j2, j3, fun j hj => (j4 j hj).trans (k4 j hj), ?_⟩
      rw [nI_s1 (by omega)]
      refine r_brF rfl rfl ?_ ?_
      · exact nI_pos (by omega)
      refine r_step rfl rfl rfl ?_
      refine r_step rfl rfl rfl ?_
      refine r_step rfl rfl rfl ?_
      refine kfrom_loop hL hD hb hk f2 f4 ?_ (K - 1 - F) (K - 1) (by omega) (by omega)
      refine r_step rfl rfl rfl ?_
      refine r_step rfl rfl rfl ?_
      refine r_step rfl rfl rfl ?_
      refine r_step rfl rfl rfl ?_
      refine k5 _ _ ?_
      (repeat (first | refine r_fw rfl rfl rfl rfl ?_ | refine rM_get rfl rfl ?_)); try dsimp only
      try simp only [na0, na1, na2, na3, na4, na5, na6, na7, na8, na16, na88, na148, nm3, nI_add]
      refine r_step rfl rfl rfl ?_
      rw [nI_pm]
      refine r_step rfl rfl rfl ?_
      exact j5
end KIN
theorem RM_clr {N : Nat → Nat} {C : List aK} {U : (Nat → Nat) × List aK} {v : Nat → Int32} {B : Nat} (h : RM (N, C, U) v B) (hg : U.2.length ≤ 20) : RM (N, [], U) (upd v (B + 2) (nI 0)) B := by
  obtain ⟨h0, h1, h2, h3, h4, h5⟩ := RM_to h
  refine RM_of ?_ (fun j a c d => ?_) ?_ (fun p hp => absurd hp (by simp)) (fun t ht => ?_) ⟨?_, fun k hk => ?_⟩
  · rw [pk_un (by omega)]; exact h0
  · have := mj_ne d
    rw [pk_un (by omega)]; exact h1 j a c d
  · exact pk_us
  · rw [pk_un (by omega)]; exact h4 t ht
  · rw [pk_un (by omega)]; exact h5.1
  · rw [pk_un (by omega), pk_un (by omega), pk_un (by omega)]; exact h5.2 k hk
section KMS
variable {h : hH} {b : Nat} {x : Int64} {M : hT2}
theorem k_merges {Q O X Y X' Y' : Nat} {A B : aS} (hM : RM A (M 1) Q) (hN : RM B (M 1) O) (hG : Gd X Y A) (hH : Gd X' Y' B) (hX : A.1 2 + B.1 2 ≤ 1000000000) (hQ : Q + 1148 ≤ 35588) (hO : O + 1148 ≤ 35588) (hne : Q + 1148 ≤ O ∨ O + 1148 ≤ Q) : ∃ M', hRun 199 0 [.ref b, .int (nI Q), .int (nI O), hU, hU, hU, hU] [] (hpM h b M x) (some (.int (nI ((mgD A B).length - mgK A B)))) (hpM h b M' x) ∧ RM (mgA A B) (M' 1) Q ∧ (∀ i, Ot Q i → M' 1 i = M 1 i) ∧ Sm M M' := by
  have h24 := Nat.le_trans hG.1.2.2 hG.1.2.1
  have hg20 : A.2.2.2.length ≤ 20 := by have := hG.2.2.1; omega
  have ha := hG.2.1
  have hb := hH.2.1
  have hD48 := mgD_len hG hH
  have hmb := me_b hG hH
  have hDb : ∀ c, c ∈ mgD A B → c.1 < 1000 ∧ c.2.1 < 2 ^ 30 ∧ c.2.2 < 2 ^ 30 := fun c hc => by have := hmb c ((mgD_perm A B).mem_iff.mp hc); omega
  obtain ⟨M1, z1, m1, l1, s1', k1⟩ := kmg_l1 (h := h) (b := b) (x := x) (z5 := hU) (z6 := hU) hM hN hG hH hX hQ hO A.2.1.length 0 (s2 M 0 1 (nI 0)) hU (by omega) (by rw [s2_row (by omega)]) ⟨rfl, fun p hp => absurd hp (by simp)⟩
  obtain ⟨M2, z2, m2, l2, s2', k2⟩ := kmg_l2 (h := h) (b := b) (x := x) (z5 := hU) (z6 := hU) hM hN hG hH hX hQ hO B.2.1.length 0 M1 z1 (by omega) m1 (by rw [List.take_zero, show meC A [] = [] from rfl, List.append_nil]; exact l1)
  have hM2 := RM_num (j := 2) (v := A.1 2 + B.1 2) hM (by omega)
  have hM3 := RM_num (j := 3) (v := A.1 3 + B.1 3) hM2 (by omega)
  have hu0 : mxU A.2.2.1 B.2.2.1 0 = A.2.2.1 := by
    funext y
    unfold mxU
    rw [if_neg (by omega)]
  have hwB : ∀ y, y < 1000 → upd (upd (M 1) (Q + 3) (nI (A.1 2 + B.1 2))) (Q + 4) (nI (A.1 3 + B.1 3)) (O + 148 + y) = nI (B.2.2.1 y) := by
    intro y hy
    rw [pk_un (by omega), pk_un (by omega)]
    exact hN.2.1.2.2.2 y hy
  obtain ⟨v3, l3, o3, k3⟩ := kmg_l3 (h := h) (b := b) (x := x) (N := uN (uN A.1 2 (A.1 2 + B.1 2)) 3 (A.1 3 + B.1 3)) (C := A.2.1) (G := A.2.2.2) (u := A.2.2.1) (w := B.2.2.1) (M := M2) (z4 := z2) (z5 := hU) (z6 := hU) hQ hO hne h24 hg20 1000 0 _ (by omega) (by rw [hu0]; exact hM3) hwB
  obtain ⟨st, hst⟩ : ∃ st, st = mgK A B := ⟨_, rfl⟩
  have hst1 : st ≤ (mgD A B).length ∧ st ≤ A.1 1 := by
    rw [hst]
    unfold mgK
    omega
  have hr := hG.1
  -- the absent raised where some are left
  have hab : ∃ v4, RM (rfN (uN (uN A.1 2 (A.1 2 + B.1 2)) 3 (A.1 3 + B.1 3)) (mgD A B) st, A.2.1, mxU A.2.2.1 B.2.2.1 1000, A.2.2.2) v4 Q ∧ (∀ i, Ot Q i → v4 i = v3 i) ∧ ∀ r h', hRun 199 178 [.ref b, .int (nI Q), .int (nI O), .int (nI st), z2, hU, hU] [] (hpM h b (s1 M2 1 v4) x) r h' → hRun 199 160 [.ref b, .int (nI Q), .int (nI O), .int (nI st), z2, hU, hU] [.int (nI st), .int (nI (mgD A B).length)] (hpM h b (s1 M2 1 v3) x) r h' := by
    by_cases c : st < (mgD A B).length
    · have e4 : (s1 M2 1 v3) 1 (Q + 4) = nI (A.1 3 + B.1 3) := by rw [s1_at]; exact l3.2.1.1 3 (by omega) (by omega) (by omega)
      have e3 : (s1 M2 1 v3) 3 st = nI (gC (mgD A B) st).2.1 := by rw [s1_row, if_neg (by omega)]; exact (l2.2 st c).2.1
      have bs' := hDb _ (gC_mem c)
      refine ⟨upd v3 (Q + 4) (nI (max (A.1 3 + B.1 3) (gC (mgD A B) st).2.1)), ?_, fun i hi => ?_, fun r h' K => ?_⟩
      · unfold rfN
        rw [if_pos c]
        exact RM_num (j := 3) l3 (by omega)
      · unfold Ot at hi
        exact pk_un (by omega)
      · refine r_brF rfl rfl ?_ ?_
        · exact nle c (by omega)
        (repeat (first | refine r_fw rfl rfl rfl rfl ?_ | refine rM_get rfl rfl ?_)); try dsimp only
        try simp only [na0, na1, na2, na3, na4, na5, na6, na7, na8, na16, na88, na148, nm3, nI_add]
        refine rM_ildE (j := 1) rfl rfl (show Q + 4 < 35588 by omega) e4 ?_
        (repeat (first | refine r_fw rfl rfl rfl rfl ?_ | refine rM_get rfl rfl ?_)); try dsimp only
        try simp only [na0, na1, na2, na3, na4, na5, na6, na7, na8, na16, na88, na148, nm3, nI_add]
        refine rM_ildE (j := 3) rfl rfl (show st < 48 by omega) e3 ?_
        refine r_callS rfl rfl rfl rfl (m_greater _ _) ?_
        rw [show (if nI (A.1 3 + B.1 3) ≤ nI (gC (mgD A B) st).2.1 then nI (gC (mgD A B) st).2.1 else nI (A.1 3 + B.1 3)) = nI (max (A.1 3 + B.1 3) (gC (mgD A B) st).2.1) from gr_A (by omega) (by omega)]
        refine rM_ist (j := 1) rfl rfl (show Q + 4 < 35588 by omega) ?_
        rw [s1_s1, s1_at]
        exact K
    · refine ⟨v3, ?_, fun _ _ => rfl, fun r h' K => ?_⟩
      · unfold rfN
        rw [if_neg c]
        exact l3
      · refine r_brT rfl rfl ?_ ?_
        · exact nI_le (by omega) (by omega)
        exact K
  obtain ⟨v4, l4, o4, k4⟩ := hab
  have l5 := RM_clr l4 hg20
  obtain ⟨v', R', j1, j2, j3, j4, j5⟩ := kout_loop (h := h) (b := b) (x := x) (O := O) (M := M2) (D := mgD A B) (st := st) hQ l2 hD48 (mgD_srt hG hH) hDb hst1.1 (by omega) st st [] _ hU hU (Nat.le_refl _) (Nat.le_refl _) l5 List.Pairwise.nil (by rw [List.drop_eq_nil_of_le (by rw [List.length_take]; omega)]) (fun i j a c d => by omega)
  have eR : R' = ((mgD A B).take (mgK A B)).foldl puA [] := by
    rw [← hst]
    obtain ⟨f1, f2⟩ := mg_fold hG hH st
    exact Fo_uniq j2 f1 (j3.trans f2.symm)
  refine ⟨s1 M2 1 v', ?_, ?_, fun i hi => ?_, ⟨fun j hj => ?_, fun j hj => ?_⟩⟩
  · have hm : (s2 M 0 1 (nI 0)) 1 (Q + 2) = nI A.2.1.length := by rw [s2_row (by omega)]; exact hM.2.1.2.1
    have hmB : M1 1 (O + 2) = nI B.2.1.length := by rw [m1]; exact hN.2.1.2.1
    have a3 : M2 1 (Q + 3) = nI (A.1 2) := by rw [m2]; exact hM.2.1.1 2 (by omega) (by omega) (by omega)
    have b3 : M2 1 (O + 3) = nI (B.1 2) := by rw [m2]; exact hN.2.1.1 2 (by omega) (by omega) (by omega)
    have a4 : ∀ y, (s1 M2 1 (upd (M 1) (Q + 3) y)) 1 (Q + 4) = nI (A.1 3) := fun y => by rw [s1_at, pk_un (by omega)]; exact hM.2.1.1 3 (by omega) (by omega) (by omega)
    have b4 : ∀ y, (s1 M2 1 (upd (M 1) (Q + 3) y)) 1 (O + 4) = nI (B.1 3) := fun y => by rw [s1_at, pk_un (by omega)]; exact hN.2.1.1 3 (by omega) (by omega) (by omega)
    have e0 : ∀ v, (s1 M2 1 v) 0 1 = nI (mgD A B).length := fun v => by rw [s1_row, if_neg (by omega)]; exact l2.1
    have e1 : (s1 M2 1 v3) 1 (Q + 1) = nI (A.1 1) := by rw [s1_at]; exact l3.2.1.1 1 (by omega) (by omega) (by omega)
    (repeat (first | refine r_fw rfl rfl rfl rfl ?_ | refine rM_get rfl rfl ?_)); try dsimp only
    try simp only [na0, na1, na2, na3, na4, na5, na6, na7, na8, na16, na88, na148, nm3, nI_add]
    refine rM_set rfl rfl ?_
    (repeat (first | refine r_fw rfl rfl rfl rfl ?_ | refine rM_get rfl rfl ?_)); try dsimp only
    try simp only [na0, na1, na2, na3, na4, na5, na6, na7, na8, na16, na88, na148, nm3, nI_add]
    refine rM_call rfl rfl rfl rfl rfl (m_manyE hQ hm) ?_
    refine k1 _ _ ?_
    (repeat (first | refine r_fw rfl rfl rfl rfl ?_ | refine rM_get rfl rfl ?_)); try dsimp only
    try simp only [na0, na1, na2, na3, na4, na5, na6, na7, na8, na16, na88, na148, nm3, nI_add]
    refine rM_call rfl rfl rfl rfl rfl (m_manyE hO hmB) ?_
    refine k2 _ _ ?_
    (repeat (first | refine r_fw rfl rfl rfl rfl ?_ | refine rM_get rfl rfl ?_)); try dsimp only
    try simp only [na0, na1, na2, na3, na4, na5, na6, na7, na8, na16, na88, na148, nm3, nI_add]
    refine rM_ildE (j := 1) rfl rfl (show Q + 3 < 35588 by omega) a3 ?_
    (repeat (first | refine r_fw rfl rfl rfl rfl ?_ | refine rM_get rfl rfl ?_)); try dsimp only
    try simp only [na0, na1, na2, na3, na4, na5, na6, na7, na8, na16, na88, na148, nm3, nI_add]
    refine rM_ildE (j := 1) rfl rfl (show O + 3 < 35588 by omega) b3 ?_
    (repeat (first | refine r_fw rfl rfl rfl rfl ?_ | refine rM_get rfl rfl ?_)); try dsimp only
    try simp only [na0, na1, na2, na3, na4, na5, na6, na7, na8, na16, na88, na148, nm3, nI_add]
    refine rM_ist (j := 1) rfl rfl (show Q + 3 < 35588 by omega) ?_
    rw [m2]
    (repeat (first | refine r_fw rfl rfl rfl rfl ?_ | refine rM_get rfl rfl ?_)); try dsimp only
    try simp only [na0, na1, na2, na3, na4, na5, na6, na7, na8, na16, na88, na148, nm3, nI_add]
    refine rM_ildE (j := 1) rfl rfl (show Q + 4 < 35588 by omega) (a4 _) ?_
    (repeat (first | refine r_fw rfl rfl rfl rfl ?_ | refine rM_get rfl rfl ?_)); try dsimp only
    try simp only [na0, na1, na2, na3, na4, na5, na6, na7, na8, na16, na88, na148, nm3, nI_add]
    refine rM_ildE (j := 1) rfl rfl (show O + 4 < 35588 by omega) (b4 _) ?_
    (repeat (first | refine r_fw rfl rfl rfl rfl ?_ | refine rM_get rfl rfl ?_)); try dsimp only
    try simp only [na0, na1, na2, na3, na4, na5, na6, na7, na8, na16, na88, na148, nm3, nI_add]
    refine rM_ist (j := 1) rfl rfl (show Q + 4 < 35588 by omega) ?_
    rw [s1_s1, s1_at]
    (repeat (first | refine r_fw rfl rfl rfl rfl ?_ | refine rM_get rfl rfl ?_)); try dsimp only
    try simp only [na0, na1, na2, na3, na4, na5, na6, na7, na8, na16, na88, na148, nm3, nI_add]
    refine k3 _ _ ?_
    have tail : hRun 199 160 [.ref b, .int (nI Q), .int (nI O), .int (nI st), z2, hU, hU] [.int (nI st), .int (nI (mgD A B).length)] (hpM h b (s1 M2 1 v3) x) (some (.int (nI ((mgD A B).length - mgK A B)))) (hpM h b (s1 M2 1 v') x) := by
      refine k4 _ _ ?_
      (repeat (first | refine r_fw rfl rfl rfl rfl ?_ | refine rM_get rfl rfl ?_)); try dsimp only
      try simp only [na0, na1, na2, na3, na4, na5, na6, na7, na8, na16, na88, na148, nm3, nI_add]
      refine rM_ist (j := 1) rfl rfl (show Q + 2 < 35588 by omega) ?_
      rw [s1_s1, s1_at]
      (repeat (first | refine r_fw rfl rfl rfl rfl ?_ | refine rM_get rfl rfl ?_)); try dsimp only
      try simp only [na0, na1, na2, na3, na4, na5, na6, na7, na8, na16, na88, na148, nm3, nI_add]
      rw [← hst]
      exact j5
    by_cases c : (mgD A B).length < A.1 1
    · have es : st = (mgD A B).length := by rw [hst]; unfold mgK; omega
      (repeat (first | refine r_fw rfl rfl rfl rfl ?_ | refine rM_get rfl rfl ?_)); try dsimp only
      try simp only [na0, na1, na2, na3, na4, na5, na6, na7, na8, na16, na88, na148, nm3, nI_add]
      rw [e0]
      refine rM_ildE (j := 1) rfl rfl (show Q + 1 < 35588 by omega) e1 ?_
      refine r_brF rfl rfl ?_ ?_
      · exact nle c (by omega)
      (repeat (first | refine r_fw rfl rfl rfl rfl ?_ | refine rM_get rfl rfl ?_)); try dsimp only
      try simp only [na0, na1, na2, na3, na4, na5, na6, na7, na8, na16, na88, na148, nm3, nI_add]
      rw [e0, ← es]
      rw [← es] at tail
      exact tail
    · have es : st = A.1 1 := by rw [hst]; unfold mgK; omega
      (repeat (first | refine r_fw rfl rfl rfl rfl ?_ | refine rM_get rfl rfl ?_)); try dsimp only
      try simp only [na0, na1, na2, na3, na4, na5, na6, na7, na8, na16, na88, na148, nm3, nI_add]
      rw [e0]
      refine rM_ildE (j := 1) rfl rfl (show Q + 1 < 35588 by omega) e1 ?_
      refine r_brT rfl rfl ?_ ?_
      · exact nI_le (by omega) (by omega)
      (repeat (first | refine r_fw rfl rfl rfl rfl ?_ | refine rM_get rfl rfl ?_)); try dsimp only
      try simp only [na0, na1, na2, na3, na4, na5, na6, na7, na8, na16, na88, na148, nm3, nI_add]
      refine rM_ildE (j := 1) rfl rfl (show Q + 1 < 35588 by omega) e1 ?_
      (repeat (first | refine r_fw rfl rfl rfl rfl ?_ | refine rM_get rfl rfl ?_)); try dsimp only
      try simp only [na0, na1, na2, na3, na4, na5, na6, na7, na8, na16, na88, na148, nm3, nI_add]
      rw [e0, ← es]
      exact tail
  · rw [s1_at]
    have e : mgA A B = (rfN (uN (uN A.1 2 (A.1 2 + B.1 2)) 3 (A.1 3 + B.1 3)) (mgD A B) (mgK A B), ((mgD A B).take (mgK A B)).foldl puA [], fun t => A.2.2.1 t + B.2.2.1 t, A.2.2.2) := by
      unfold mgA
      refine Prod.ext ?_ rfl
      funext j
      unfold rfN
      dsimp only
      by_cases c : mgK A B < (mgD A B).length
      · rw [if_pos c, if_pos c]
        simp only [uN_at]
        by_cases j2 : j = 2
        · subst j2; rfl
        · by_cases j3 : j = 3
          · subst j3; rfl
          · rw [if_neg j2, if_neg j3, if_neg j3, if_neg j3, if_neg j2]
      · rw [if_neg c, if_neg c]
        simp only [uN_at]
        by_cases j2 : j = 2
        · subst j2; rfl
        · by_cases j3 : j = 3
          · subst j3; rfl
          · rw [if_neg j2, if_neg j3, if_neg j3, if_neg j2]
    rw [e, ← eR, ← hst]
    obtain ⟨a0, ⟨a1, a2, a3, a4⟩, a5⟩ := j1
    refine ⟨a0, ⟨a1, a2, a3, fun t ht => ?_⟩, a5⟩
    rw [a4 t ht]
    dsimp only [mxU]
    rw [if_pos ht]
  · rw [s1_at, j4 i hi]
    unfold Ot at hi
    rw [pk_un (by omega), o4 i hi, o3 i hi, pk_un (by omega), pk_un (by omega)]
  · rw [s1_row, if_neg (by omega), s2'.1 j hj, s1'.1 j hj, s2_row (by omega)]
  · rw [s1_row, if_neg (by omega), s2'.2 j hj, s1'.2 j hj, s2_at, if_neg (by omega)]
end KMS
