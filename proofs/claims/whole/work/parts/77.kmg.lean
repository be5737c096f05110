/-! the reference merges -/
def RLm (D : List aK) (M : hT2) : Prop := M 0 1 = nI D.length ∧ ∀ p, p < D.length → M 2 p = nI (gC D p).1 ∧ M 3 p = nI (gC D p).2.1 ∧ M 4 p = nI (gC D p).2.2
def upL (M : hT2) (n a : Nat) : hT2 := fun r q => if (2 ≤ r ∧ r ≤ 4) ∧ a < q ∧ q ≤ n then M r (q - 1) else M r q
theorem upL_n (M : hT2) (n : Nat) : upL M n n = M := by
  funext r q
  unfold upL
  rw [if_neg (by omega)]
theorem upL_at (M : hT2) (n a r q : Nat) : upL M n a r q = if (2 ≤ r ∧ r ≤ 4) ∧ a < q ∧ q ≤ n then M r (q - 1) else M r q := rfl
def st3 (U : hT2) (a : Nat) (t c l : Int32) : hT2 := s1 (s1 (s1 U 2 (upd (U 2) a t)) 3 (upd (U 3) a c)) 4 (upd (U 4) a l)
theorem st3_at (U : hT2) (a : Nat) (t c l : Int32) (r q : Nat) : st3 U a t c l r q = if r = 2 ∧ q = a then t else if r = 3 ∧ q = a then c else if r = 4 ∧ q = a then l else U r q := by
  unfold st3
  simp only [s1_row]
  by_cases h2 : r = 2
  · subst h2; simp [upd]
  · by_cases h3 : r = 3
    · subst h3; simp [upd]
    · by_cases h4 : r = 4
      · subst h4; simp [upd]
      · simp [h2, h3, h4]
theorem upL_s (M : hT2) (n a : Nat) (ha : a < n) : st3 (upL M n (a + 1)) (a + 1) (upL M n (a + 1) 2 a) (upL M n (a + 1) 3 a) (upL M n (a + 1) 4 a) = upL M n a := by
  funext r q
  rw [st3_at]
  simp only [upL_at]
  by_cases c : q = a + 1
  · subst c
    by_cases h2 : r = 2
    · subst h2; rw [if_pos ⟨rfl, rfl⟩, if_neg (by omega), if_pos (by omega)]; rfl
    · rw [if_neg (by omega)]
      by_cases h3 : r = 3
      · subst h3; rw [if_pos ⟨rfl, rfl⟩, if_neg (by omega), if_pos (by omega)]; rfl
      · rw [if_neg (by omega)]
        by_cases h4 : r = 4
        · subst h4; rw [if_pos ⟨rfl, rfl⟩, if_neg (by omega), if_pos (by omega)]; rfl
        · rw [if_neg (by omega), if_neg (by omega), if_neg (by omega)]
  · rw [if_neg (by omega), if_neg (by omega), if_neg (by omega)]
    by_cases d : (2 ≤ r ∧ r ≤ 4) ∧ a < q ∧ q ≤ n
    · rw [if_pos d, if_pos (by omega)]
    · rw [if_neg d, if_neg (by omega)]
section KLY
variable {h : hH} {b : Nat} {M : hT2} {x : Int64}
theorem lays_end {n a : Nat} {t c l : Int32} (ha : a < 48) (hn : M 0 1 = nI n) : hRun 202 61 [.ref b, .int t, .int c, .int l, .int (nI a)] [] (hpM h b (upL M n a) x) none (hpM h b (s2 (st3 (upL M n a) a t c l) 0 1 (nI (n + 1))) x) := by
  (repeat (first | refine r_fw rfl rfl rfl rfl ?_ | refine rM_get rfl rfl ?_)); try dsimp only
  try simp only [na0, na1, na2, na3, na4, na5, na6, na7, na8, na16, na88, na148, nm3, nI_add]
  refine rM_ist (j := 2) rfl rfl (show a < 48 from ha) ?_
  (repeat (first | refine r_fw rfl rfl rfl rfl ?_ | refine rM_get rfl rfl ?_)); try dsimp only
  try simp only [na0, na1, na2, na3, na4, na5, na6, na7, na8, na16, na88, na148, nm3, nI_add]
  refine rM_ist (j := 3) rfl rfl (show a < 48 from ha) ?_
  (repeat (first | refine r_fw rfl rfl rfl rfl ?_ | refine rM_get rfl rfl ?_)); try dsimp only
  try simp only [na0, na1, na2, na3, na4, na5, na6, na7, na8, na16, na88, na148, nm3, nI_add]
  refine rM_ist (j := 4) rfl rfl (show a < 48 from ha) ?_
  change hRun 202 _ _ _ (hpM h b (st3 (upL M n a) a t c l) x) _ _
  (repeat (first | refine r_fw rfl rfl rfl rfl ?_ | refine rM_get rfl rfl ?_)); try dsimp only
  try simp only [na0, na1, na2, na3, na4, na5, na6, na7, na8, na16, na88, na148, nm3, nI_add]
  have e : ∀ v : Int32, v = nI n → v + 1 = nI (n + 1) := fun v hv => by rw [hv, nI_1]
  rw [e _ (show (st3 (upL M n a) a t c l) 0 1 = nI n by rw [st3_at, if_neg (by omega), if_neg (by omega), if_neg (by omega), upL_at, if_neg (by omega)]; exact hn)]
  refine rM_set rfl rfl ?_
  (refine r_rtE rfl rfl ?_ ?_ ?_ <;> rfl)
theorem lays_loop {D : List aK} {t c l : Nat} (hD : RLm D M) (hn : D.length < 48) (hb : ∀ y, y ∈ D → y.1 < 2 ^ 31 ∧ y.2.1 < 2 ^ 31) (ht : t < 2 ^ 31) (hc : c < 2 ^ 31) : ∀ a, a ≤ D.length → ioA D (t, c, l) a = ioA D (t, c, l) D.length → hRun 202 4 [.ref b, .int (nI t), .int (nI c), .int (nI l), .int (nI a)] [.int (nI a)] (hpM h b (upL M D.length a) x) none (hpM h b (s2 (st3 (upL M D.length (ioA D (t, c, l) D.length)) (ioA D (t, c, l) D.length) (nI t) (nI c) (nI l)) 0 1 (nI (D.length + 1))) x) := by
  intro a
  induction a with
  | zero =>
    intro ha e
    refine r_brT rfl rfl ?_ ?_
    · decide
    rw [← e]
    exact lays_end (show 0 < 48 by omega) hD.1
  | succ a ih =>
    intro ha e
    have hal : a < D.length := by omega
    have r := hD.2 a hal
    have bb := hb _ (gC_mem hal)
    have eu : ∀ j, upL M D.length (a + 1) j a = M j a := fun j => by rw [upL_at, if_neg (by omega)]
    have e2 := (eu 2).trans r.1
    have e3 := (eu 3).trans r.2.1
    have shift : fab (t, c, l) (gC D a) = true → hRun 202 29 [.ref b, .int (nI t), .int (nI c), .int (nI l), .int (nI (a + 1))] [] (hpM h b (upL M D.length (a + 1)) x) none (hpM h b (s2 (st3 (upL M D.length (ioA D (t, c, l) D.length)) (ioA D (t, c, l) D.length) (nI t) (nI c) (nI l)) 0 1 (nI (D.length + 1))) x) := by
      intro hf
      have e' := e
      rw [ioA, if_pos hf] at e'
      have k := ih (by omega) e'
      (repeat (first | refine r_fw rfl rfl rfl rfl ?_ | refine rM_get rfl rfl ?_)); try dsimp only
      try simp only [na0, na1, na2, na3, na4, na5, na6, na7, na8, na16, na88, na148, nm3, nI_add]
      rw [nI_pred]
      refine rM_ild (j := 2) rfl rfl (show a < 48 by omega) ?_
      refine rM_ist (j := 2) rfl rfl (show a + 1 < 48 by omega) ?_
      (repeat (first | refine r_fw rfl rfl rfl rfl ?_ | refine rM_get rfl rfl ?_)); try dsimp only
      try simp only [na0, na1, na2, na3, na4, na5, na6, na7, na8, na16, na88, na148, nm3, nI_add]
      rw [nI_pred]
      refine rM_ild (j := 3) rfl rfl (show a < 48 by omega) ?_
      refine rM_ist (j := 3) rfl rfl (show a + 1 < 48 by omega) ?_
      (repeat (first | refine r_fw rfl rfl rfl rfl ?_ | refine rM_get rfl rfl ?_)); try dsimp only
      try simp only [na0, na1, na2, na3, na4, na5, na6, na7, na8, na16, na88, na148, nm3, nI_add]
      rw [nI_pred]
      refine rM_ild (j := 4) rfl rfl (show a < 48 by omega) ?_
      refine rM_ist (j := 4) rfl rfl (show a + 1 < 48 by omega) ?_
      change hRun 202 _ _ _ (hpM h b (st3 (upL M D.length (a + 1)) (a + 1) (upL M D.length (a + 1) 2 a) (upL M D.length (a + 1) 3 a) (upL M D.length (a + 1) 4 a)) x) _ _
      rw [upL_s M D.length a hal]
      (repeat (first | refine r_fw rfl rfl rfl rfl ?_ | refine rM_get rfl rfl ?_)); try dsimp only
      try simp only [na0, na1, na2, na3, na4, na5, na6, na7, na8, na16, na88, na148, nm3, nI_add]
      refine r_step rfl rfl rfl ?_
      rw [pk_m1]
      refine r_step rfl rfl rfl ?_
      exact k
    have stop : ¬ fab (t, c, l) (gC D a) = true → hRun 202 61 [.ref b, .int (nI t), .int (nI c), .int (nI l), .int (nI (a + 1))] [] (hpM h b (upL M D.length (a + 1)) x) none (hpM h b (s2 (st3 (upL M D.length (ioA D (t, c, l) D.length)) (ioA D (t, c, l) D.length) (nI t) (nI c) (nI l)) 0 1 (nI (D.length + 1))) x) := by
      intro hf
      have e' := e
      rw [ioA, if_neg hf] at e'
      rw [← e']
      exact lays_end (by omega) hD.1
    clear ih
    refine r_brF rfl rfl ?_ ?_
    · exact nI_nle (by omega) (by omega)
    (repeat (first | refine r_fw rfl rfl rfl rfl ?_ | refine rM_get rfl rfl ?_)); try dsimp only
    try simp only [na0, na1, na2, na3, na4, na5, na6, na7, na8, na16, na88, na148, nm3, nI_add]
    rw [nI_pred]
    refine rM_ildE (j := 3) rfl rfl (show a < 48 by omega) e3 ?_
    (repeat (first | refine r_fw rfl rfl rfl rfl ?_ | refine rM_get rfl rfl ?_)); try dsimp only
    try simp only [na0, na1, na2, na3, na4, na5, na6, na7, na8, na16, na88, na148, nm3, nI_add]
    by_cases c1 : (gC D a).2.1 < c
    · refine r_brT rfl rfl ?_ ?_
      · exact nI_lt c1 hc
      exact shift ((fab_iff _ _).mpr (Or.inl c1))
    · refine r_brF rfl rfl ?_ ?_
      · exact nI_nlt (by omega) bb.2
      (repeat (first | refine r_fw rfl rfl rfl rfl ?_ | refine rM_get rfl rfl ?_)); try dsimp only
      try simp only [na0, na1, na2, na3, na4, na5, na6, na7, na8, na16, na88, na148, nm3, nI_add]
      rw [nI_pred]
      refine rM_ildE (j := 3) rfl rfl (show a < 48 by omega) e3 ?_
      (repeat (first | refine r_fw rfl rfl rfl rfl ?_ | refine rM_get rfl rfl ?_)); try dsimp only
      try simp only [na0, na1, na2, na3, na4, na5, na6, na7, na8, na16, na88, na148, nm3, nI_add]
      by_cases c2 : (gC D a).2.1 = c
      · refine r_brT rfl rfl ?_ ?_
        · rw [c2]
        (repeat (first | refine r_fw rfl rfl rfl rfl ?_ | refine rM_get rfl rfl ?_)); try dsimp only
        try simp only [na0, na1, na2, na3, na4, na5, na6, na7, na8, na16, na88, na148, nm3, nI_add]
        rw [nI_pred]
        refine rM_ildE (j := 2) rfl rfl (show a < 48 by omega) e2 ?_
        (repeat (first | refine r_fw rfl rfl rfl rfl ?_ | refine rM_get rfl rfl ?_)); try dsimp only
        try simp only [na0, na1, na2, na3, na4, na5, na6, na7, na8, na16, na88, na148, nm3, nI_add]
        by_cases c3 : (gC D a).1 ≤ t
        · refine r_brT rfl rfl ?_ ?_
          · exact nI_le c3 ht
          refine stop (fun z => ?_)
          rw [fab_iff] at z
          dsimp only at z
          omega
        · refine r_brF rfl rfl ?_ ?_
          · exact nI_ge (by omega) bb.1
          refine shift ((fab_iff _ _).mpr (Or.inr ⟨c2.symm, ?_⟩))
          dsimp only
          omega
      · refine r_brF rfl rfl ?_ ?_
        · exact fun z => c2 ((nI_eq bb.2 hc).mp z)
        refine stop (fun z => ?_)
        rw [fab_iff] at z
        dsimp only at z
        omega
/-- all else of the reference stays -/
def Sm (M M' : hT2) : Prop := (∀ j, 5 ≤ j → M' j = M j) ∧ ∀ j, j ≠ 1 → M' 0 j = M 0 j
theorem Sm_t {M M' M'' : hT2} (h : Sm M M') (k : Sm M' M'') : Sm M M'' := ⟨fun j hj => (k.1 j hj).trans (h.1 j hj), fun j hj => (k.2 j hj).trans (h.2 j hj)⟩
theorem k_lays {D : List aK} {t c l : Nat} (hD : RLm D M) (hn : D.length < 48) (hb : ∀ y, y ∈ D → y.1 < 2 ^ 31 ∧ y.2.1 < 2 ^ 31) (ht : t < 2 ^ 31) (hc : c < 2 ^ 31) : ∃ M', hRun 202 0 [.ref b, .int (nI t), .int (nI c), .int (nI l), hU] [] (hpM h b M x) none (hpM h b M' x) ∧ RLm (raA D (t, c, l)) M' ∧ Sm M M' ∧ M' 1 = M 1 := by
  have k := lays_loop (h := h) (b := b) (x := x) (l := l) hD hn hb ht hc D.length (Nat.le_refl _) rfl
  rw [upL_n] at k
  have hle := ioA_le D (t, c, l) D.length
  refine ⟨s2 (st3 (upL M D.length (ioA D (t, c, l) D.length)) (ioA D (t, c, l) D.length) (nI t) (nI c) (nI l)) 0 1 (nI (D.length + 1)), ?_, ?_, ⟨fun j hj => ?_, fun j hj => ?_⟩, ?_⟩
  rotate_left
  · refine ⟨?_, fun p hp => ?_⟩
    · rw [s2_at, if_pos ⟨rfl, rfl⟩, raA_len]
    · rw [raA_len] at hp
      have e : ∀ r, 2 ≤ r → r ≤ 4 → s2 (st3 (upL M D.length (ioA D (t, c, l) D.length)) (ioA D (t, c, l) D.length) (nI t) (nI c) (nI l)) 0 1 (nI (D.length + 1)) r p = if p = ioA D (t, c, l) D.length then (if r = 2 then nI t else if r = 3 then nI c else nI l) else if ioA D (t, c, l) D.length < p then M r (p - 1) else M r p := by
        intro r r1 r2
        rw [s2_at, if_neg (by omega), st3_at, upL_at]
        by_cases c1 : p = ioA D (t, c, l) D.length
        · rw [if_pos c1]
          have : r = 2 ∨ r = 3 ∨ r = 4 := by omega
          rcases this with rfl | rfl | rfl <;> simp [c1]
        · rw [if_neg c1, if_neg (by omega), if_neg (by omega), if_neg (by omega)]
          by_cases c2 : ioA D (t, c, l) D.length < p
          · rw [if_pos c2, if_pos (by omega)]
          · rw [if_neg c2, if_neg (by omega)]
      rw [e 2 (by omega) (by omega), e 3 (by omega) (by omega), e 4 (by omega) (by omega)]
      unfold raA
      rw [gC_in hle]
      by_cases c1 : p < ioA D (t, c, l) D.length
      · rw [if_pos c1, if_neg (by omega), if_neg (by omega), if_neg (by omega), if_neg (by omega), if_neg (by omega), if_neg (by omega)]
        exact hD.2 p (by omega)
      · rw [if_neg c1]
        by_cases c2 : p = ioA D (t, c, l) D.length
        · rw [if_pos c2, if_pos c2, if_pos c2, if_pos c2]
          exact ⟨rfl, rfl, rfl⟩
        · rw [if_neg c2, if_neg c2, if_neg c2, if_neg c2, if_pos (by omega), if_pos (by omega), if_pos (by omega)]
          exact hD.2 (p - 1) (by omega)
  · funext q
    rw [s2_at, if_neg (by omega), st3_at, if_neg (by omega), if_neg (by omega), if_neg (by omega), upL_at, if_neg (by omega)]
  · rw [s2_at, if_neg (by omega), st3_at, if_neg (by omega), if_neg (by omega), if_neg (by omega), upL_at, if_neg (by omega)]
  · funext q
    rw [s2_at, if_neg (by omega), st3_at, if_neg (by omega), if_neg (by omega), if_neg (by omega), upL_at, if_neg (by omega)]
  · refine r_step rfl rfl rfl ?_
    refine rM_get rfl rfl ?_
    rw [hD.1]
    refine r_step rfl rfl rfl ?_
    refine r_step rfl rfl rfl ?_
    exact k
end KLY
section KMG
variable {h : hH} {b : Nat} {x : Int64}
theorem kmg_l1 {Q O X Y X' Y' : Nat} {A B : aS} {v : Nat → Int32} {z5 z6 : Value} (hM : RM A v Q) (hN : RM B v O) (hG : Gd X Y A) (hH : Gd X' Y' B) (hX : A.1 2 + B.1 2 ≤ 1000000000) (hQ : Q + 1148 ≤ 35588) (hO : O + 1148 ≤ 35588) : ∀ d i M (z : Value), i + d = A.2.1.length → M 1 = v → RLm (((meL1 A B).take i).foldl raA []) M → ∃ M' z', M' 1 = v ∧ RLm ((meL1 A B).foldl raA []) M' ∧ Sm M M' ∧ ∀ r h', hRun 199 41 [.ref b, .int (nI Q), .int (nI O), .int (nI A.2.1.length), z', z5, z6] [] (hpM h b M' x) r h' → hRun 199 9 [.ref b, .int (nI Q), .int (nI O), .int (nI i), z, z5, z6] [.int (nI A.2.1.length), .int (nI i)] (hpM h b M x) r h' := by
  have hG1 := Gd_tot hG (X' := 1000000000) (by omega)
  have hH1 := Gd_tot hH (X' := 1000000000) (by omega)
  have h24 := Nat.le_trans hG.1.2.2 hG.1.2.1
  have k24 := Nat.le_trans hH.1.2.2 hH.1.2.1
  have hb := Gd_b hG1 (by omega)
  have hlen : (meL1 A B).length = A.2.1.length := by unfold meL1; rw [List.length_map]
  intro d
  induction d with
  | zero =>
    intro i M z hi h1 hD
    rw [List.take_of_length_le (by omega)] at hD
    refine ⟨M, z, h1, hD, ⟨fun _ _ => rfl, fun _ _ => rfl⟩, fun r h' K => ?_⟩
    rw [show i = A.2.1.length by omega]
    refine r_brT rfl rfl ?_ ?_
    · exact Int32.le_refl _
    exact K
  | succ d ih =>
    intro i M z hi h1 hD
    have hil : i < A.2.1.length := by omega
    have b0 := hb _ (gC_mem hil)
    have hh := hiA_le (gC A.2.1 i).1 hH
    have hc := hG.2.2.2.1.1 _ (gC_mem hil)
    have hM' : RM A (M 1) Q := by rw [h1]; exact hM
    have hN' : RM B (M 1) O := by rw [h1]; exact hN
    obtain ⟨e0, e1, e2⟩ := RM_k hM' hil
    have hm : M 1 (Q + 2) = nI A.2.1.length := hM'.2.1.2.1
    have hmB : M 1 (O + 2) = nI B.2.1.length := hN'.2.1.2.1
    have eH := m_high (h := h) (b := b) (M := M) (x := x) (nI (gC A.2.1 i).1) hmB k24 hO
    rw [hi_A hN'.2.1 hH1 (by omega) (by omega)] at eH
    have eL := m_low (h := h) (b := b) (M := M) (x := x) (nI (gC A.2.1 i).1) hmB k24 hO
    rw [lo_A hN'.2.1 hH1 (by omega) (by omega)] at eL
    have hperm := rn_perm ((meL1 A B).take i) []
    rw [List.append_nil] at hperm
    have hlD : (((meL1 A B).take i).foldl raA []).length = i := by
      rw [hperm.length_eq, List.length_take, hlen]
      omega
    have hmb := me_b hG hH
    obtain ⟨M1, k1, k2, k3, k4⟩ := k_lays (h := h) (b := b) (x := x) (t := (gC A.2.1 i).1) (c := (gC A.2.1 i).2.1 + hiA B (gC A.2.1 i).1) (l := (gC A.2.1 i).2.2 + loA B (gC A.2.1 i).1) hD (by omega) (fun y hy => by
      have := hmb y (List.mem_append_left _ (List.mem_of_mem_take (hperm.mem_iff.mp hy)))
      omega) (by omega) (by omega)
    have eg : gC (meL1 A B) i = ((gC A.2.1 i).1, (gC A.2.1 i).2.1 + hiA B (gC A.2.1 i).1, (gC A.2.1 i).2.2 + loA B (gC A.2.1 i).1) := by
      unfold meL1
      rw [gC_lt (show i < (A.2.1.map _).length by rw [List.length_map]; exact hil), List.getElem_map, gC_lt hil]
    have et : ((meL1 A B).take (i + 1)).foldl raA [] = raA (((meL1 A B).take i).foldl raA []) ((gC A.2.1 i).1, (gC A.2.1 i).2.1 + hiA B (gC A.2.1 i).1, (gC A.2.1 i).2.2 + loA B (gC A.2.1 i).1) := by
      rw [take_snoc (show i < (meL1 A B).length by omega), List.foldl_append, List.foldl_cons, List.foldl_nil, eg]
    have h1' : M1 1 = v := k4.trans h1
    obtain ⟨M', z', j1, j2, j3, j4⟩ := ih (i + 1) M1 (.int (nI (gC A.2.1 i).1)) (by omega) h1' (by rw [et]; exact k2)
    refine ⟨M', z', j1, j2, Sm_t k3 j3, fun r h' K => ?_⟩
    have hm1 : M1 1 (Q + 2) = nI A.2.1.length := by rw [h1', ← h1]; exact hm
    clear ih h1 h1'
    refine r_brF rfl rfl ?_ ?_
    · exact nle (by omega) (by omega)
    (repeat (first | refine r_fy rfl rfl rfl rfl ?_ | (refine r_rtE rfl rfl ?_ ?_ ?_ <;> rfl) | refine rM_get rfl rfl ?_ | refine r_brT rfl rfl (by with_reducible first | assumption | rfl | exact nz10 | exact nI_pos (by omega) | exact nI_lt (by omega) (by omega) | exact nI_nlt (by omega) (by omega) | exact nI_le (by omega) (by omega) | exact nI_ge (by omega) (by omega)) ?_ | refine r_brF rfl rfl (by with_reducible first | assumption | rfl | exact nz10 | exact nI_pos (by omega) | exact nI_lt (by omega) (by omega) | exact nI_nlt (by omega) (by omega) | exact nI_le (by omega) (by omega) | exact nI_ge (by omega) (by omega)) ?_ | refine rM_call rfl rfl rfl rfl rfl (k_isThere_t (by with_reducible assumption) (by with_reducible assumption)) ?_ | refine rM_call rfl rfl rfl rfl rfl (k_isThere_f (by with_reducible assumption)) ?_ | refine rM_call rfl rfl rfl rfl rfl (m_manyE (by omega) (by with_reducible assumption)) ?_ | refine rM_call rfl rfl rfl rfl rfl (q_isSummary (by with_reducible assumption)) ?_ | (refine r_callS rfl rfl rfl rfl (m_bank _) ?_; rw [nm1148]) | refine r_callS rfl rfl rfl rfl (q_isThing (by with_reducible assumption)) ?_ | refine r_callS rfl rfl rfl rfl (q_isTop (by with_reducible assumption)) ?_ | refine r_callS rfl rfl rfl rfl (q_isPart (by with_reducible assumption)) ?_ | refine r_callS rfl rfl rfl rfl (q_isIn (by with_reducible assumption) (by decide) (by first | exact lx_m1 (by omega) | decide)) ?_ | refine rM_call rfl rfl rfl rfl rfl (m_ofE (u := 0) (by omega) (by omega) (by omega) (by with_reducible assumption)) ?_ | refine rM_call rfl rfl rfl rfl rfl (m_ofE (u := 1) (by omega) (by omega) (by omega) (by with_reducible assumption)) ?_ | refine rM_call rfl rfl rfl rfl rfl (m_ofE (u := 2) (by omega) (by omega) (by omega) (by with_reducible assumption)) ?_ | refine r_tswd rfl (by with_reducible assumption) ?_ | (simp only [Option.toList, List.drop, List.cons_append, List.nil_append, na0, na1, na2, na3, na4, na5, na6, na7, na8, na16, na88, na148, nm3, nI_add]; refine rM_ildE (j := 1) rfl rfl (show _ < 35588 by omega) (by with_reducible assumption) ?_) | (simp only [Option.toList, List.drop, List.cons_append, List.nil_append, na0, na1, na2, na3, na4, na5, na6, na7, na8, na16, na88, na148, nm3, nI_add]; refine rM_ild (j := 1) rfl rfl (show _ < 35588 by omega) ?_))); try simp only [Option.toList, List.drop, List.cons_append, List.nil_append, na0, na1, na2, na3, na4, na5, na6, na7, na8, na16, na88, na148, nm3, nI_add]
    refine rM_call rfl rfl rfl rfl rfl eH ?_
    (repeat (first | refine r_fy rfl rfl rfl rfl ?_ | (refine r_rtE rfl rfl ?_ ?_ ?_ <;> rfl) | refine rM_get rfl rfl ?_ | refine r_brT rfl rfl (by with_reducible first | assumption | rfl | exact nz10 | exact nI_pos (by omega) | exact nI_lt (by omega) (by omega) | exact nI_nlt (by omega) (by omega) | exact nI_le (by omega) (by omega) | exact nI_ge (by omega) (by omega)) ?_ | refine r_brF rfl rfl (by with_reducible first | assumption | rfl | exact nz10 | exact nI_pos (by omega) | exact nI_lt (by omega) (by omega) | exact nI_nlt (by omega) (by omega) | exact nI_le (by omega) (by omega) | exact nI_ge (by omega) (by omega)) ?_ | refine rM_call rfl rfl rfl rfl rfl (k_isThere_t (by with_reducible assumption) (by with_reducible assumption)) ?_ | refine rM_call rfl rfl rfl rfl rfl (k_isThere_f (by with_reducible assumption)) ?_ | refine rM_call rfl rfl rfl rfl rfl (m_manyE (by omega) (by with_reducible assumption)) ?_ | refine rM_call rfl rfl rfl rfl rfl (q_isSummary (by with_reducible assumption)) ?_ | (refine r_callS rfl rfl rfl rfl (m_bank _) ?_; rw [nm1148]) | refine r_callS rfl rfl rfl rfl (q_isThing (by with_reducible assumption)) ?_ | refine r_callS rfl rfl rfl rfl (q_isTop (by with_reducible assumption)) ?_ | refine r_callS rfl rfl rfl rfl (q_isPart (by with_reducible assumption)) ?_ | refine r_callS rfl rfl rfl rfl (q_isIn (by with_reducible assumption) (by decide) (by first | exact lx_m1 (by omega) | decide)) ?_ | refine rM_call rfl rfl rfl rfl rfl (m_ofE (u := 0) (by omega) (by omega) (by omega) (by with_reducible assumption)) ?_ | refine rM_call rfl rfl rfl rfl rfl (m_ofE (u := 1) (by omega) (by omega) (by omega) (by with_reducible assumption)) ?_ | refine rM_call rfl rfl rfl rfl rfl (m_ofE (u := 2) (by omega) (by omega) (by omega) (by with_reducible assumption)) ?_ | refine r_tswd rfl (by with_reducible assumption) ?_ | (simp only [Option.toList, List.drop, List.cons_append, List.nil_append, na0, na1, na2, na3, na4, na5, na6, na7, na8, na16, na88, na148, nm3, nI_add]; refine rM_ildE (j := 1) rfl rfl (show _ < 35588 by omega) (by with_reducible assumption) ?_) | (simp only [Option.toList, List.drop, List.cons_append, List.nil_append, na0, na1, na2, na3, na4, na5, na6, na7, na8, na16, na88, na148, nm3, nI_add]; refine rM_ild (j := 1) rfl rfl (show _ < 35588 by omega) ?_))); try simp only [Option.toList, List.drop, List.cons_append, List.nil_append, na0, na1, na2, na3, na4, na5, na6, na7, na8, na16, na88, na148, nm3, nI_add]
    refine rM_call rfl rfl rfl rfl rfl eL ?_
    (repeat (first | refine r_fy rfl rfl rfl rfl ?_ | (refine r_rtE rfl rfl ?_ ?_ ?_ <;> rfl) | refine rM_get rfl rfl ?_ | refine r_brT rfl rfl (by with_reducible first | assumption | rfl | exact nz10 | exact nI_pos (by omega) | exact nI_lt (by omega) (by omega) | exact nI_nlt (by omega) (by omega) | exact nI_le (by omega) (by omega) | exact nI_ge (by omega) (by omega)) ?_ | refine r_brF rfl rfl (by with_reducible first | assumption | rfl | exact nz10 | exact nI_pos (by omega) | exact nI_lt (by omega) (by omega) | exact nI_nlt (by omega) (by omega) | exact nI_le (by omega) (by omega) | exact nI_ge (by omega) (by omega)) ?_ | refine rM_call rfl rfl rfl rfl rfl (k_isThere_t (by with_reducible assumption) (by with_reducible assumption)) ?_ | refine rM_call rfl rfl rfl rfl rfl (k_isThere_f (by with_reducible assumption)) ?_ | refine rM_call rfl rfl rfl rfl rfl (m_manyE (by omega) (by with_reducible assumption)) ?_ | refine rM_call rfl rfl rfl rfl rfl (q_isSummary (by with_reducible assumption)) ?_ | (refine r_callS rfl rfl rfl rfl (m_bank _) ?_; rw [nm1148]) | refine r_callS rfl rfl rfl rfl (q_isThing (by with_reducible assumption)) ?_ | refine r_callS rfl rfl rfl rfl (q_isTop (by with_reducible assumption)) ?_ | refine r_callS rfl rfl rfl rfl (q_isPart (by with_reducible assumption)) ?_ | refine r_callS rfl rfl rfl rfl (q_isIn (by with_reducible assumption) (by decide) (by first | exact lx_m1 (by omega) | decide)) ?_ | refine rM_call rfl rfl rfl rfl rfl (m_ofE (u := 0) (by omega) (by omega) (by omega) (by with_reducible assumption)) ?_ | refine rM_call rfl rfl rfl rfl rfl (m_ofE (u := 1) (by omega) (by omega) (by omega) (by with_reducible assumption)) ?_ | refine rM_call rfl rfl rfl rfl rfl (m_ofE (u := 2) (by omega) (by omega) (by omega) (by with_reducible assumption)) ?_ | refine r_tswd rfl (by with_reducible assumption) ?_ | (simp only [Option.toList, List.drop, List.cons_append, List.nil_append, na0, na1, na2, na3, na4, na5, na6, na7, na8, na16, na88, na148, nm3, nI_add]; refine rM_ildE (j := 1) rfl rfl (show _ < 35588 by omega) (by with_reducible assumption) ?_) | (simp only [Option.toList, List.drop, List.cons_append, List.nil_append, na0, na1, na2, na3, na4, na5, na6, na7, na8, na16, na88, na148, nm3, nI_add]; refine rM_ild (j := 1) rfl rfl (show _ < 35588 by omega) ?_))); try simp only [Option.toList, List.drop, List.cons_append, List.nil_append, na0, na1, na2, na3, na4, na5, na6, na7, na8, na16, na88, na148, nm3, nI_add]
    refine rM_call rfl rfl rfl rfl rfl k1 ?_
    (repeat (first | refine r_fy rfl rfl rfl rfl ?_ | (refine r_rtE rfl rfl ?_ ?_ ?_ <;> rfl) | refine rM_get rfl rfl ?_ | refine r_brT rfl rfl (by with_reducible first | assumption | rfl | exact nz10 | exact nI_pos (by omega) | exact nI_lt (by omega) (by omega) | exact nI_nlt (by omega) (by omega) | exact nI_le (by omega) (by omega) | exact nI_ge (by omega) (by omega)) ?_ | refine r_brF rfl rfl (by with_reducible first | assumption | rfl | exact nz10 | exact nI_pos (by omega) | exact nI_lt (by omega) (by omega) | exact nI_nlt (by omega) (by omega) | exact nI_le (by omega) (by omega) | exact nI_ge (by omega) (by omega)) ?_ | refine rM_call rfl rfl rfl rfl rfl (k_isThere_t (by with_reducible assumption) (by with_reducible assumption)) ?_ | refine rM_call rfl rfl rfl rfl rfl (k_isThere_f (by with_reducible assumption)) ?_ | refine rM_call rfl rfl rfl rfl rfl (m_manyE (by omega) (by with_reducible assumption)) ?_ | refine rM_call rfl rfl rfl rfl rfl (q_isSummary (by with_reducible assumption)) ?_ | (refine r_callS rfl rfl rfl rfl (m_bank _) ?_; rw [nm1148]) | refine r_callS rfl rfl rfl rfl (q_isThing (by with_reducible assumption)) ?_ | refine r_callS rfl rfl rfl rfl (q_isTop (by with_reducible assumption)) ?_ | refine r_callS rfl rfl rfl rfl (q_isPart (by with_reducible assumption)) ?_ | refine r_callS rfl rfl rfl rfl (q_isIn (by with_reducible assumption) (by decide) (by first | exact lx_m1 (by omega) | decide)) ?_ | refine rM_call rfl rfl rfl rfl rfl (m_ofE (u := 0) (by omega) (by omega) (by omega) (by with_reducible assumption)) ?_ | refine rM_call rfl rfl rfl rfl rfl (m_ofE (u := 1) (by omega) (by omega) (by omega) (by with_reducible assumption)) ?_ | refine rM_call rfl rfl rfl rfl rfl (m_ofE (u := 2) (by omega) (by omega) (by omega) (by with_reducible assumption)) ?_ | refine r_tswd rfl (by with_reducible assumption) ?_ | (simp only [Option.toList, List.drop, List.cons_append, List.nil_append, na0, na1, na2, na3, na4, na5, na6, na7, na8, na16, na88, na148, nm3, nI_add]; refine rM_ildE (j := 1) rfl rfl (show _ < 35588 by omega) (by with_reducible assumption) ?_) | (simp only [Option.toList, List.drop, List.cons_append, List.nil_append, na0, na1, na2, na3, na4, na5, na6, na7, na8, na16, na88, na148, nm3, nI_add]; refine rM_ild (j := 1) rfl rfl (show _ < 35588 by omega) ?_))); try simp only [Option.toList, List.drop, List.cons_append, List.nil_append, na0, na1, na2, na3, na4, na5, na6, na7, na8, na16, na88, na148, nm3, nI_add]
    refine r_step rfl rfl rfl ?_
    (repeat (first | refine r_fy rfl rfl rfl rfl ?_ | (refine r_rtE rfl rfl ?_ ?_ ?_ <;> rfl) | refine rM_get rfl rfl ?_ | refine r_brT rfl rfl (by with_reducible first | assumption | rfl | exact nz10 | exact nI_pos (by omega) | exact nI_lt (by omega) (by omega) | exact nI_nlt (by omega) (by omega) | exact nI_le (by omega) (by omega) | exact nI_ge (by omega) (by omega)) ?_ | refine r_brF rfl rfl (by with_reducible first | assumption | rfl | exact nz10 | exact nI_pos (by omega) | exact nI_lt (by omega) (by omega) | exact nI_nlt (by omega) (by omega) | exact nI_le (by omega) (by omega) | exact nI_ge (by omega) (by omega)) ?_ | refine rM_call rfl rfl rfl rfl rfl (k_isThere_t (by with_reducible assumption) (by with_reducible assumption)) ?_ | refine rM_call rfl rfl rfl rfl rfl (k_isThere_f (by with_reducible assumption)) ?_ | refine rM_call rfl rfl rfl rfl rfl (m_manyE (by omega) (by with_reducible assumption)) ?_ | refine rM_call rfl rfl rfl rfl rfl (q_isSummary (by with_reducible assumption)) ?_ | (refine r_callS rfl rfl rfl rfl (m_bank _) ?_; rw [nm1148]) | refine r_callS rfl rfl rfl rfl (q_isThing (by with_reducible assumption)) ?_ | refine r_callS rfl rfl rfl rfl (q_isTop (by with_reducible assumption)) ?_ | refine r_callS rfl rfl rfl rfl (q_isPart (by with_reducible assumption)) ?_ | refine r_callS rfl rfl rfl rfl (q_isIn (by with_reducible assumption) (by decide) (by first | exact lx_m1 (by omega) | decide)) ?_ | refine rM_call rfl rfl rfl rfl rfl (m_ofE (u := 0) (by omega) (by omega) (by omega) (by with_reducible assumption)) ?_ | refine rM_call rfl rfl rfl rfl rfl (m_ofE (u := 1) (by omega) (by omega) (by omega) (by with_reducible assumption)) ?_ | refine rM_call rfl rfl rfl rfl rfl (m_ofE (u := 2) (by omega) (by omega) (by omega) (by with_reducible assumption)) ?_ | refine r_tswd rfl (by with_reducible assumption) ?_ | (simp only [Option.toList, List.drop, List.cons_append, List.nil_append, na0, na1, na2, na3, na4, na5, na6, na7, na8, na16, na88, na148, nm3, nI_add]; refine rM_ildE (j := 1) rfl rfl (show _ < 35588 by omega) (by with_reducible assumption) ?_) | (simp only [Option.toList, List.drop, List.cons_append, List.nil_append, na0, na1, na2, na3, na4, na5, na6, na7, na8, na16, na88, na148, nm3, nI_add]; refine rM_ild (j := 1) rfl rfl (show _ < 35588 by omega) ?_))); try simp only [Option.toList, List.drop, List.cons_append, List.nil_append, na0, na1, na2, na3, na4, na5, na6, na7, na8, na16, na88, na148, nm3, nI_add]
    exact j4 r h' K
theorem kmg_l2 {Q O X Y X' Y' : Nat} {A B : aS} {v : Nat → Int32} {z5 z6 : Value} (hM : RM A v Q) (hN : RM B v O) (hG : Gd X Y A) (hH : Gd X' Y' B) (hX : A.1 2 + B.1 2 ≤ 1000000000) (hQ : Q + 1148 ≤ 35588) (hO : O + 1148 ≤ 35588) : ∀ d i M (z : Value), i + d = B.2.1.length → M 1 = v → RLm ((meL1 A B ++ meC A (B.2.1.take i)).foldl raA []) M → ∃ M' z', M' 1 = v ∧ RLm (mgD A B) M' ∧ Sm M M' ∧ ∀ r h', hRun 199 82 [.ref b, .int (nI Q), .int (nI O), .int (nI B.2.1.length), z', z5, z6] [] (hpM h b M' x) r h' → hRun 199 47 [.ref b, .int (nI Q), .int (nI O), .int (nI i), z, z5, z6] [.int (nI B.2.1.length), .int (nI i)] (hpM h b M x) r h' := by
  have hG1 := Gd_tot hG (X' := 1000000000) (by omega)
  have hH1 := Gd_tot hH (X' := 1000000000) (by omega)
  have h24 := Nat.le_trans hG.1.2.2 hG.1.2.1
  have k24 := Nat.le_trans hH.1.2.2 hH.1.2.1
  have hb := Gd_b hH1 (by omega)
  have ha := hG.2.1
  have hlen : (meL1 A B).length = A.2.1.length := by unfold meL1; rw [List.length_map]
  intro d
  induction d with
  | zero =>
    intro i M z hi h1 hD
    rw [List.take_of_length_le (by omega), meC_all] at hD
    refine ⟨M, z, h1, hD, ⟨fun _ _ => rfl, fun _ _ => rfl⟩, fun r h' K => ?_⟩
    rw [show i = B.2.1.length by omega]
    refine r_brT rfl rfl ?_ ?_
    · exact Int32.le_refl _
    exact K
  | succ d ih =>
    intro i M z hi h1 hD
    have hil : i < B.2.1.length := by omega
    have b0 := hb _ (gC_mem hil)
    have hc := hH.2.2.2.1.1 _ (gC_mem hil)
    have hM' : RM A (M 1) Q := by rw [h1]; exact hM
    have hN' : RM B (M 1) O := by rw [h1]; exact hN
    obtain ⟨e0, e1, e2⟩ := RM_k hN' hil
    have hmB : M 1 (O + 2) = nI B.2.1.length := hN'.2.1.2.1
    have e4 : M 1 (Q + 4) = nI (A.1 3) := hM'.2.1.1 3 (by omega) (by omega) (by omega)
    have eF := k_pf (h := h) (b := b) (M := M) (x := x) (t := (gC B.2.1 i).1) hM' hG1 (by omega) hQ (by omega)
    have ets := take_snoc hil
    have eapp : ∀ C D, meC A (C ++ D) = meC A C ++ meC A D := by
      intro C D
      unfold meC
      rw [List.filter_append, List.map_append]
    by_cases g1 : fiA A.2.1 (gC B.2.1 i).1 < A.2.1.length
    · have g3 : ¬ nI (fiA A.2.1 (gC B.2.1 i).1) = -1 := nI_m1 (by omega)
      rw [if_pos g1] at eF
      have ee : meC A [gC B.2.1 i] = [] := by
        unfold meC
        rw [List.filter_cons_of_neg (by simpa [niP] using g1)]
        rfl
      obtain ⟨M', z', j1, j2, j3, j4⟩ := ih (i + 1) M (.int (nI (gC B.2.1 i).1)) (by omega) h1 (by rw [ets, eapp, ee, List.append_nil]; exact hD)
      refine ⟨M', z', j1, j2, j3, fun r h' K => ?_⟩
      clear ih h1
      refine r_brF rfl rfl ?_ ?_
      · exact nle (by omega) (by omega)
      (repeat (first | refine r_fy rfl rfl rfl rfl ?_ | (refine r_rtE rfl rfl ?_ ?_ ?_ <;> rfl) | refine rM_get rfl rfl ?_ | refine r_brT rfl rfl (by with_reducible first | assumption | rfl | exact nz10 | exact nI_pos (by omega) | exact nI_lt (by omega) (by omega) | exact nI_nlt (by omega) (by omega) | exact nI_le (by omega) (by omega) | exact nI_ge (by omega) (by omega)) ?_ | refine r_brF rfl rfl (by with_reducible first | assumption | rfl | exact nz10 | exact nI_pos (by omega) | exact nI_lt (by omega) (by omega) | exact nI_nlt (by omega) (by omega) | exact nI_le (by omega) (by omega) | exact nI_ge (by omega) (by omega)) ?_ | refine rM_call rfl rfl rfl rfl rfl (k_isThere_t (by with_reducible assumption) (by with_reducible assumption)) ?_ | refine rM_call rfl rfl rfl rfl rfl (k_isThere_f (by with_reducible assumption)) ?_ | refine rM_call rfl rfl rfl rfl rfl (m_manyE (by omega) (by with_reducible assumption)) ?_ | refine rM_call rfl rfl rfl rfl rfl (q_isSummary (by with_reducible assumption)) ?_ | (refine r_callS rfl rfl rfl rfl (m_bank _) ?_; rw [nm1148]) | refine r_callS rfl rfl rfl rfl (q_isThing (by with_reducible assumption)) ?_ | refine r_callS rfl rfl rfl rfl (q_isTop (by with_reducible assumption)) ?_ | refine r_callS rfl rfl rfl rfl (q_isPart (by with_reducible assumption)) ?_ | refine r_callS rfl rfl rfl rfl (q_isIn (by with_reducible assumption) (by decide) (by first | exact lx_m1 (by omega) | decide)) ?_ | refine rM_call rfl rfl rfl rfl rfl (m_ofE (u := 0) (by omega) (by omega) (by omega) (by with_reducible assumption)) ?_ | refine rM_call rfl rfl rfl rfl rfl (m_ofE (u := 1) (by omega) (by omega) (by omega) (by with_reducible assumption)) ?_ | refine rM_call rfl rfl rfl rfl rfl (m_ofE (u := 2) (by omega) (by omega) (by omega) (by with_reducible assumption)) ?_ | refine r_tswd rfl (by with_reducible assumption) ?_ | (simp only [Option.toList, List.drop, List.cons_append, List.nil_append, na0, na1, na2, na3, na4, na5, na6, na7, na8, na16, na88, na148, nm3, nI_add]; refine rM_ildE (j := 1) rfl rfl (show _ < 35588 by omega) (by with_reducible assumption) ?_) | (simp only [Option.toList, List.drop, List.cons_append, List.nil_append, na0, na1, na2, na3, na4, na5, na6, na7, na8, na16, na88, na148, nm3, nI_add]; refine rM_ild (j := 1) rfl rfl (show _ < 35588 by omega) ?_))); try simp only [Option.toList, List.drop, List.cons_append, List.nil_append, na0, na1, na2, na3, na4, na5, na6, na7, na8, na16, na88, na148, nm3, nI_add]
      refine rM_call rfl rfl rfl rfl rfl eF ?_
      (repeat (first | refine r_fy rfl rfl rfl rfl ?_ | (refine r_rtE rfl rfl ?_ ?_ ?_ <;> rfl) | refine rM_get rfl rfl ?_ | refine r_brT rfl rfl (by with_reducible first | assumption | rfl | exact nz10 | exact nI_pos (by omega) | exact nI_lt (by omega) (by omega) | exact nI_nlt (by omega) (by omega) | exact nI_le (by omega) (by omega) | exact nI_ge (by omega) (by omega)) ?_ | refine r_brF rfl rfl (by with_reducible first | assumption | rfl | exact nz10 | exact nI_pos (by omega) | exact nI_lt (by omega) (by omega) | exact nI_nlt (by omega) (by omega) | exact nI_le (by omega) (by omega) | exact nI_ge (by omega) (by omega)) ?_ | refine rM_call rfl rfl rfl rfl rfl (k_isThere_t (by with_reducible assumption) (by with_reducible assumption)) ?_ | refine rM_call rfl rfl rfl rfl rfl (k_isThere_f (by with_reducible assumption)) ?_ | refine rM_call rfl rfl rfl rfl rfl (m_manyE (by omega) (by with_reducible assumption)) ?_ | refine rM_call rfl rfl rfl rfl rfl (q_isSummary (by with_reducible assumption)) ?_ | (refine r_callS rfl rfl rfl rfl (m_bank _) ?_; rw [nm1148]) | refine r_callS rfl rfl rfl rfl (q_isThing (by with_reducible assumption)) ?_ | refine r_callS rfl rfl rfl rfl (q_isTop (by with_reducible assumption)) ?_ | refine r_callS rfl rfl rfl rfl (q_isPart (by with_reducible assumption)) ?_ | refine r_callS rfl rfl rfl rfl (q_isIn (by with_reducible assumption) (by decide) (by first | exact lx_m1 (by omega) | decide)) ?_ | refine rM_call rfl rfl rfl rfl rfl (m_ofE (u := 0) (by omega) (by omega) (by omega) (by with_reducible assumption)) ?_ | refine rM_call rfl rfl rfl rfl rfl (m_ofE (u := 1) (by omega) (by omega) (by omega) (by with_reducible assumption)) ?_ | refine rM_call rfl rfl rfl rfl rfl (m_ofE (u := 2) (by omega) (by omega) (by omega) (by with_reducible assumption)) ?_ | refine r_tswd rfl (by with_reducible assumption) ?_ | (simp only [Option.toList, List.drop, List.cons_append, List.nil_append, na0, na1, na2, na3, na4, na5, na6, na7, na8, na16, na88, na148, nm3, nI_add]; refine rM_ildE (j := 1) rfl rfl (show _ < 35588 by omega) (by with_reducible assumption) ?_) | (simp only [Option.toList, List.drop, List.cons_append, List.nil_append, na0, na1, na2, na3, na4, na5, na6, na7, na8, na16, na88, na148, nm3, nI_add]; refine rM_ild (j := 1) rfl rfl (show _ < 35588 by omega) ?_))); try simp only [Option.toList, List.drop, List.cons_append, List.nil_append, na0, na1, na2, na3, na4, na5, na6, na7, na8, na16, na88, na148, nm3, nI_add]
      refine r_step rfl rfl rfl ?_
      (repeat (first | refine r_fy rfl rfl rfl rfl ?_ | (refine r_rtE rfl rfl ?_ ?_ ?_ <;> rfl) | refine rM_get rfl rfl ?_ | refine r_brT rfl rfl (by with_reducible first | assumption | rfl | exact nz10 | exact nI_pos (by omega) | exact nI_lt (by omega) (by omega) | exact nI_nlt (by omega) (by omega) | exact nI_le (by omega) (by omega) | exact nI_ge (by omega) (by omega)) ?_ | refine r_brF rfl rfl (by with_reducible first | assumption | rfl | exact nz10 | exact nI_pos (by omega) | exact nI_lt (by omega) (by omega) | exact nI_nlt (by omega) (by omega) | exact nI_le (by omega) (by omega) | exact nI_ge (by omega) (by omega)) ?_ | refine rM_call rfl rfl rfl rfl rfl (k_isThere_t (by with_reducible assumption) (by with_reducible assumption)) ?_ | refine rM_call rfl rfl rfl rfl rfl (k_isThere_f (by with_reducible assumption)) ?_ | refine rM_call rfl rfl rfl rfl rfl (m_manyE (by omega) (by with_reducible assumption)) ?_ | refine rM_call rfl rfl rfl rfl rfl (q_isSummary (by with_reducible assumption)) ?_ | (refine r_callS rfl rfl rfl rfl (m_bank _) ?_; rw [nm1148]) | refine r_callS rfl rfl rfl rfl (q_isThing (by with_reducible assumption)) ?_ | refine r_callS rfl rfl rfl rfl (q_isTop (by with_reducible assumption)) ?_ | refine r_callS rfl rfl rfl rfl (q_isPart (by with_reducible assumption)) ?_ | refine r_callS rfl rfl rfl rfl (q_isIn (by with_reducible assumption) (by decide) (by first | exact lx_m1 (by omega) | decide)) ?_ | refine rM_call rfl rfl rfl rfl rfl (m_ofE (u := 0) (by omega) (by omega) (by omega) (by with_reducible assumption)) ?_ | refine rM_call rfl rfl rfl rfl rfl (m_ofE (u := 1) (by omega) (by omega) (by omega) (by with_reducible assumption)) ?_ | refine rM_call rfl rfl rfl rfl rfl (m_ofE (u := 2) (by omega) (by omega) (by omega) (by with_reducible assumption)) ?_ | refine r_tswd rfl (by with_reducible assumption) ?_ | (simp only [Option.toList, List.drop, List.cons_append, List.nil_append, na0, na1, na2, na3, na4, na5, na6, na7, na8, na16, na88, na148, nm3, nI_add]; refine rM_ildE (j := 1) rfl rfl (show _ < 35588 by omega) (by with_reducible assumption) ?_) | (simp only [Option.toList, List.drop, List.cons_append, List.nil_append, na0, na1, na2, na3, na4, na5, na6, na7, na8, na16, na88, na148, nm3, nI_add]; refine rM_ild (j := 1) rfl rfl (show _ < 35588 by omega) ?_))); try simp only [Option.toList, List.drop, List.cons_append, List.nil_append, na0, na1, na2, na3, na4, na5, na6, na7, na8, na16, na88, na148, nm3, nI_add]
      exact j4 r h' K
    · rw [if_neg g1] at eF
      have ee : meC A [gC B.2.1 i] = [((gC B.2.1 i).1, A.1 3 + (gC B.2.1 i).2.1, (gC B.2.1 i).2.2)] := by
        unfold meC
        rw [List.filter_cons_of_pos (by simpa [niP] using g1)]
        rfl
      have hperm := rn_perm (meL1 A B ++ meC A (B.2.1.take i)) []
      rw [List.append_nil] at hperm
      have hl2 : (meC A (B.2.1.take i)).length ≤ i := by
        unfold meC
        rw [List.length_map]
        have := List.length_filter_le (niP A) (B.2.1.take i)
        rw [List.length_take] at this
        omega
      have hlD : ((meL1 A B ++ meC A (B.2.1.take i)).foldl raA []).length < 48 := by
        rw [hperm.length_eq, List.length_append, hlen]
        omega
      have hmb := me_b hG hH
      obtain ⟨M1, k1, k2, k3, k4⟩ := k_lays (h := h) (b := b) (x := x) (t := (gC B.2.1 i).1) (c := A.1 3 + (gC B.2.1 i).2.1) (l := (gC B.2.1 i).2.2) hD hlD (fun y hy => by
        have hy2 : y ∈ meL1 A B ++ meL2 A B := by
          rcases List.mem_append.mp (hperm.mem_iff.mp hy) with h | h
          · exact List.mem_append_left _ h
          · refine List.mem_append_right _ ?_
            obtain ⟨u, hu, rfl⟩ := List.mem_map.mp h
            have hu := List.mem_filter.mp hu
            exact List.mem_map.mpr ⟨u, List.mem_filter.mpr ⟨List.mem_of_mem_take hu.1, hu.2⟩, rfl⟩
        have := hmb y hy2
        omega) (by omega) (by omega)
      have et : (meL1 A B ++ meC A (B.2.1.take (i + 1))).foldl raA [] = raA ((meL1 A B ++ meC A (B.2.1.take i)).foldl raA []) ((gC B.2.1 i).1, A.1 3 + (gC B.2.1 i).2.1, (gC B.2.1 i).2.2) := by
        rw [ets, eapp, ee, ← List.append_assoc, List.foldl_append, List.foldl_cons, List.foldl_nil]
      have h1' : M1 1 = v := k4.trans h1
      obtain ⟨M', z', j1, j2, j3, j4⟩ := ih (i + 1) M1 (.int (nI (gC B.2.1 i).1)) (by omega) h1' (by rw [et]; exact k2)
      refine ⟨M', z', j1, j2, Sm_t k3 j3, fun r h' K => ?_⟩
      have hmB1 : M1 1 (O + 2) = nI B.2.1.length := by rw [h1', ← h1]; exact hmB
      clear ih h1 h1'
      refine r_brF rfl rfl ?_ ?_
      · exact nle (by omega) (by omega)
      (repeat (first | refine r_fy rfl rfl rfl rfl ?_ | (refine r_rtE rfl rfl ?_ ?_ ?_ <;> rfl) | refine rM_get rfl rfl ?_ | refine r_brT rfl rfl (by with_reducible first | assumption | rfl | exact nz10 | exact nI_pos (by omega) | exact nI_lt (by omega) (by omega) | exact nI_nlt (by omega) (by omega) | exact nI_le (by omega) (by omega) | exact nI_ge (by omega) (by omega)) ?_ | refine r_brF rfl rfl (by with_reducible first | assumption | rfl | exact nz10 | exact nI_pos (by omega) | exact nI_lt (by omega) (by omega) | exact nI_nlt (by omega) (by omega) | exact nI_le (by omega) (by omega) | exact nI_ge (by omega) (by omega)) ?_ | refine rM_call rfl rfl rfl rfl rfl (k_isThere_t (by with_reducible assumption) (by with_reducible assumption)) ?_ | refine rM_call rfl rfl rfl rfl rfl (k_isThere_f (by with_reducible assumption)) ?_ | refine rM_call rfl rfl rfl rfl rfl (m_manyE (by omega) (by with_reducible assumption)) ?_ | refine rM_call rfl rfl rfl rfl rfl (q_isSummary (by with_reducible assumption)) ?_ | (refine r_callS rfl rfl rfl rfl (m_bank _) ?_; rw [nm1148]) | refine r_callS rfl rfl rfl rfl (q_isThing (by with_reducible assumption)) ?_ | refine r_callS rfl rfl rfl rfl (q_isTop (by with_reducible assumption)) ?_ | refine r_callS rfl rfl rfl rfl (q_isPart (by with_reducible assumption)) ?_ | refine r_callS rfl rfl rfl rfl (q_isIn (by with_reducible assumption) (by decide) (by first | exact lx_m1 (by omega) | decide)) ?_ | refine rM_call rfl rfl rfl rfl rfl (m_ofE (u := 0) (by omega) (by omega) (by omega) (by with_reducible assumption)) ?_ | refine rM_call rfl rfl rfl rfl rfl (m_ofE (u := 1) (by omega) (by omega) (by omega) (by with_reducible assumption)) ?_ | refine rM_call rfl rfl rfl rfl rfl (m_ofE (u := 2) (by omega) (by omega) (by omega) (by with_reducible assumption)) ?_ | refine r_tswd rfl (by with_reducible assumption) ?_ | (simp only [Option.toList, List.drop, List.cons_append, List.nil_append, na0, na1, na2, na3, na4, na5, na6, na7, na8, na16, na88, na148, nm3, nI_add]; refine rM_ildE (j := 1) rfl rfl (show _ < 35588 by omega) (by with_reducible assumption) ?_) | (simp only [Option.toList, List.drop, List.cons_append, List.nil_append, na0, na1, na2, na3, na4, na5, na6, na7, na8, na16, na88, na148, nm3, nI_add]; refine rM_ild (j := 1) rfl rfl (show _ < 35588 by omega) ?_))); try simp only [Option.toList, List.drop, List.cons_append, List.nil_append, na0, na1, na2, na3, na4, na5, na6, na7, na8, na16, na88, na148, nm3, nI_add]
      refine rM_call rfl rfl rfl rfl rfl eF ?_
      (repeat (first | refine r_fy rfl rfl rfl rfl ?_ | (refine r_rtE rfl rfl ?_ ?_ ?_ <;> rfl) | refine rM_get rfl rfl ?_ | refine r_brT rfl rfl (by with_reducible first | assumption | rfl | exact nz10 | exact nI_pos (by omega) | exact nI_lt (by omega) (by omega) | exact nI_nlt (by omega) (by omega) | exact nI_le (by omega) (by omega) | exact nI_ge (by omega) (by omega)) ?_ | refine r_brF rfl rfl (by with_reducible first | assumption | rfl | exact nz10 | exact nI_pos (by omega) | exact nI_lt (by omega) (by omega) | exact nI_nlt (by omega) (by omega) | exact nI_le (by omega) (by omega) | exact nI_ge (by omega) (by omega)) ?_ | refine rM_call rfl rfl rfl rfl rfl (k_isThere_t (by with_reducible assumption) (by with_reducible assumption)) ?_ | refine rM_call rfl rfl rfl rfl rfl (k_isThere_f (by with_reducible assumption)) ?_ | refine rM_call rfl rfl rfl rfl rfl (m_manyE (by omega) (by with_reducible assumption)) ?_ | refine rM_call rfl rfl rfl rfl rfl (q_isSummary (by with_reducible assumption)) ?_ | (refine r_callS rfl rfl rfl rfl (m_bank _) ?_; rw [nm1148]) | refine r_callS rfl rfl rfl rfl (q_isThing (by with_reducible assumption)) ?_ | refine r_callS rfl rfl rfl rfl (q_isTop (by with_reducible assumption)) ?_ | refine r_callS rfl rfl rfl rfl (q_isPart (by with_reducible assumption)) ?_ | refine r_callS rfl rfl rfl rfl (q_isIn (by with_reducible assumption) (by decide) (by first | exact lx_m1 (by omega) | decide)) ?_ | refine rM_call rfl rfl rfl rfl rfl (m_ofE (u := 0) (by omega) (by omega) (by omega) (by with_reducible assumption)) ?_ | refine rM_call rfl rfl rfl rfl rfl (m_ofE (u := 1) (by omega) (by omega) (by omega) (by with_reducible assumption)) ?_ | refine rM_call rfl rfl rfl rfl rfl (m_ofE (u := 2) (by omega) (by omega) (by omega) (by with_reducible assumption)) ?_ | refine r_tswd rfl (by with_reducible assumption) ?_ | (simp only [Option.toList, List.drop, List.cons_append, List.nil_append, na0, na1, na2, na3, na4, na5, na6, na7, na8, na16, na88, na148, nm3, nI_add]; refine rM_ildE (j := 1) rfl rfl (show _ < 35588 by omega) (by with_reducible assumption) ?_) | (simp only [Option.toList, List.drop, List.cons_append, List.nil_append, na0, na1, na2, na3, na4, na5, na6, na7, na8, na16, na88, na148, nm3, nI_add]; refine rM_ild (j := 1) rfl rfl (show _ < 35588 by omega) ?_))); try simp only [Option.toList, List.drop, List.cons_append, List.nil_append, na0, na1, na2, na3, na4, na5, na6, na7, na8, na16, na88, na148, nm3, nI_add]
      rw [Nat.add_comm (gC B.2.1 i).2.1 (A.1 3)]
      refine rM_call rfl rfl rfl rfl rfl k1 ?_
      (repeat (first | refine r_fy rfl rfl rfl rfl ?_ | (refine r_rtE rfl rfl ?_ ?_ ?_ <;> rfl) | refine rM_get rfl rfl ?_ | refine r_brT rfl rfl (by with_reducible first | assumption | rfl | exact nz10 | exact nI_pos (by omega) | exact nI_lt (by omega) (by omega) | exact nI_nlt (by omega) (by omega) | exact nI_le (by omega) (by omega) | exact nI_ge (by omega) (by omega)) ?_ | refine r_brF rfl rfl (by with_reducible first | assumption | rfl | exact nz10 | exact nI_pos (by omega) | exact nI_lt (by omega) (by omega) | exact nI_nlt (by omega) (by omega) | exact nI_le (by omega) (by omega) | exact nI_ge (by omega) (by omega)) ?_ | refine rM_call rfl rfl rfl rfl rfl (k_isThere_t (by with_reducible assumption) (by with_reducible assumption)) ?_ | refine rM_call rfl rfl rfl rfl rfl (k_isThere_f (by with_reducible assumption)) ?_ | refine rM_call rfl rfl rfl rfl rfl (m_manyE (by omega) (by with_reducible assumption)) ?_ | refine rM_call rfl rfl rfl rfl rfl (q_isSummary (by with_reducible assumption)) ?_ | (refine r_callS rfl rfl rfl rfl (m_bank _) ?_; rw [nm1148]) | refine r_callS rfl rfl rfl rfl (q_isThing (by with_reducible assumption)) ?_ | refine r_callS rfl rfl rfl rfl (q_isTop (by with_reducible assumption)) ?_ | refine r_callS rfl rfl rfl rfl (q_isPart (by with_reducible assumption)) ?_ | refine r_callS rfl rfl rfl rfl (q_isIn (by with_reducible assumption) (by decide) (by first | exact lx_m1 (by omega) | decide)) ?_ | refine rM_call rfl rfl rfl rfl rfl (m_ofE (u := 0) (by omega) (by omega) (by omega) (by with_reducible assumption)) ?_ | refine rM_call rfl rfl rfl rfl rfl (m_ofE (u := 1) (by omega) (by omega) (by omega) (by with_reducible assumption)) ?_ | refine rM_call rfl rfl rfl rfl rfl (m_ofE (u := 2) (by omega) (by omega) (by omega) (by with_reducible assumption)) ?_ | refine r_tswd rfl (by with_reducible assumption) ?_ | (simp only [Option.toList, List.drop, List.cons_append, List.nil_append, na0, na1, na2, na3, na4, na5, na6, na7, na8, na16, na88, na148, nm3, nI_add]; refine rM_ildE (j := 1) rfl rfl (show _ < 35588 by omega) (by with_reducible assumption) ?_) | (simp only [Option.toList, List.drop, List.cons_append, List.nil_append, na0, na1, na2, na3, na4, na5, na6, na7, na8, na16, na88, na148, nm3, nI_add]; refine rM_ild (j := 1) rfl rfl (show _ < 35588 by omega) ?_))); try simp only [Option.toList, List.drop, List.cons_append, List.nil_append, na0, na1, na2, na3, na4, na5, na6, na7, na8, na16, na88, na148, nm3, nI_add]
      refine r_step rfl rfl rfl ?_
      (repeat (first | refine r_fy rfl rfl rfl rfl ?_ | (refine r_rtE rfl rfl ?_ ?_ ?_ <;> rfl) | refine rM_get rfl rfl ?_ | refine r_brT rfl rfl (by with_reducible first | assumption | rfl | exact nz10 | exact nI_pos (by omega) | exact nI_lt (by omega) (by omega) | exact nI_nlt (by omega) (by omega) | exact nI_le (by omega) (by omega) | exact nI_ge (by omega) (by omega)) ?_ | refine r_brF rfl rfl (by with_reducible first | assumption | rfl | exact nz10 | exact nI_pos (by omega) | exact nI_lt (by omega) (by omega) | exact nI_nlt (by omega) (by omega) | exact nI_le (by omega) (by omega) | exact nI_ge (by omega) (by omega)) ?_ | refine rM_call rfl rfl rfl rfl rfl (k_isThere_t (by with_reducible assumption) (by with_reducible assumption)) ?_ | refine rM_call rfl rfl rfl rfl rfl (k_isThere_f (by with_reducible assumption)) ?_ | refine rM_call rfl rfl rfl rfl rfl (m_manyE (by omega) (by with_reducible assumption)) ?_ | refine rM_call rfl rfl rfl rfl rfl (q_isSummary (by with_reducible assumption)) ?_ | (refine r_callS rfl rfl rfl rfl (m_bank _) ?_; rw [nm1148]) | refine r_callS rfl rfl rfl rfl (q_isThing (by with_reducible assumption)) ?_ | refine r_callS rfl rfl rfl rfl (q_isTop (by with_reducible assumption)) ?_ | refine r_callS rfl rfl rfl rfl (q_isPart (by with_reducible assumption)) ?_ | refine r_callS rfl rfl rfl rfl (q_isIn (by with_reducible assumption) (by decide) (by first | exact lx_m1 (by omega) | decide)) ?_ | refine rM_call rfl rfl rfl rfl rfl (m_ofE (u := 0) (by omega) (by omega) (by omega) (by with_reducible assumption)) ?_ | refine rM_call rfl rfl rfl rfl rfl (m_ofE (u := 1) (by omega) (by omega) (by omega) (by with_reducible assumption)) ?_ | refine rM_call rfl rfl rfl rfl rfl (m_ofE (u := 2) (by omega) (by omega) (by omega) (by with_reducible assumption)) ?_ | refine r_tswd rfl (by with_reducible assumption) ?_ | (simp only [Option.toList, List.drop, List.cons_append, List.nil_append, na0, na1, na2, na3, na4, na5, na6, na7, na8, na16, na88, na148, nm3, nI_add]; refine rM_ildE (j := 1) rfl rfl (show _ < 35588 by omega) (by with_reducible assumption) ?_) | (simp only [Option.toList, List.drop, List.cons_append, List.nil_append, na0, na1, na2, na3, na4, na5, na6, na7, na8, na16, na88, na148, nm3, nI_add]; refine rM_ild (j := 1) rfl rfl (show _ < 35588 by omega) ?_))); try simp only [Option.toList, List.drop, List.cons_append, List.nil_append, na0, na1, na2, na3, na4, na5, na6, na7, na8, na16, na88, na148, nm3, nI_add]
      exact j4 r h' K
theorem RM_tru {N : Nat → Nat} {C : List aK} {u : Nat → Nat} {G : List aK} {v : Nat → Int32} {B t y : Nat} (h : RM (N, C, u, G) v B) (hn : C.length ≤ 24) (hg : G.length ≤ 20) : RM (N, C, uN u t y, G) (upd v (B + 148 + t) (nI y)) B := by
  obtain ⟨h0, h1, h2, h3, h4, h5⟩ := RM_to h
  dsimp only at h1 h2 h3 h4
  refine RM_of ?_ (fun j a c d => ?_) ?_ (fun p hp => ?_) (fun x hx => ?_) ⟨?_, fun k hk => ?_⟩
  · rw [pk_un (by omega)]; exact h0
  · have := mj_ne d
    rw [pk_un (by omega)]; exact h1 j a c d
  · rw [pk_un (by omega)]; exact h2
  · dsimp only at hp
    rw [pk_un (by omega), pk_un (by omega), pk_un (by omega)]; exact h3 p hp
  · dsimp only
    rw [uN_at]
    unfold upd
    by_cases e : x = t
    · rw [if_pos (by omega), if_pos e]
    · rw [if_neg (by omega), if_neg e]; exact h4 x hx
  · rw [pk_un (by omega)]; exact h5.1
  · have hk2 : k < G.length := hk
    rw [pk_un (by omega), pk_un (by omega), pk_un (by omega)]; exact h5.2 k hk
theorem kmg_l3 {Q O : Nat} {N : Nat → Nat} {C G : List aK} {u w : Nat → Nat} {M : hT2} {z4 z5 z6 : Value} (hQ : Q + 1148 ≤ 35588) (hO : O + 1148 ≤ 35588) (hne : Q + 1148 ≤ O ∨ O + 1148 ≤ Q) (hn : C.length ≤ 24) (hg : G.length ≤ 20) : ∀ d t v, t + d = 1000 → RM (N, C, mxU u w t, G) v Q → (∀ y, y < 1000 → v (O + 148 + y) = nI (w y)) → ∃ v', RM (N, C, mxU u w 1000, G) v' Q ∧ (∀ i, Ot Q i → v' i = v i) ∧ ∀ r h', hRun 199 138 [.ref b, .int (nI Q), .int (nI O), .int (nI 1000), z4, z5, z6] [] (hpM h b (s1 M 1 v') x) r h' → hRun 199 116 [.ref b, .int (nI Q), .int (nI O), .int (nI t), z4, z5, z6] [.int 1000, .int (nI t)] (hpM h b (s1 M 1 v) x) r h' := by
  intro d
  induction d with
  | zero =>
    intro t v ht hM hw
    have e : t = 1000 := by omega
    subst e
    refine ⟨v, hM, fun _ _ => rfl, fun r h' K => ?_⟩
    refine r_brT rfl rfl ?_ ?_
    · exact Int32.le_refl _
    exact K
  | succ d ih =>
    intro t v ht hM hw
    have e1 : (s1 M 1 v) 1 (Q + 148 + t) = nI (u t) := by
      rw [s1_at]
      have := hM.2.1.2.2.2 t (by omega)
      rw [show v (Q + 148 + t) = mV v Q 4 t from rfl, this]
      dsimp only [mxU]
      rw [if_neg (by omega)]
    have e2 : (s1 M 1 v) 1 (O + 148 + t) = nI (w t) := by
      rw [s1_at]
      exact hw t (by omega)
    have hM2 := RM_tru (t := t) (y := u t + w t) hM hn hg
    have eu : uN (mxU u w t) t (u t + w t) = mxU u w (t + 1) := by
      funext y
      rw [uN_at]
      unfold mxU
      by_cases c : y = t
      · rw [if_pos c, if_pos (by omega), c]
      · rw [if_neg c]
        by_cases c2 : y < t
        · rw [if_pos c2, if_pos (by omega)]
        · rw [if_neg c2, if_neg (by omega)]
    rw [eu] at hM2
    obtain ⟨v', k1, k2, k3⟩ := ih (t + 1) (upd v (Q + 148 + t) (nI (u t + w t))) (by omega) hM2 (fun y hy => by rw [pk_un (by omega)]; exact hw y hy)
    refine ⟨v', k1, fun i hi => ?_, fun r h' K => ?_⟩
    · rw [k2 i hi]
      unfold Ot at hi
      exact pk_un (by omega)
    · have := k3 r h' K
      refine r_brF rfl rfl ?_ ?_
      · exact nle (b := 1000) (by omega) (by omega)
      (repeat (first | refine r_fw rfl rfl rfl rfl ?_ | refine rM_get rfl rfl ?_)); try dsimp only
      try simp only [na0, na1, na2, na3, na4, na5, na6, na7, na8, na16, na88, na148, nm3, nI_add]
      refine rM_ildE (j := 1) rfl rfl (show Q + 148 + t < 35588 by omega) e1 ?_
      (repeat (first | refine r_fw rfl rfl rfl rfl ?_ | refine rM_get rfl rfl ?_)); try dsimp only
      try simp only [na0, na1, na2, na3, na4, na5, na6, na7, na8, na16, na88, na148, nm3, nI_add]
      refine rM_ildE (j := 1) rfl rfl (show O + 148 + t < 35588 by omega) e2 ?_
      (repeat (first | refine r_fw rfl rfl rfl rfl ?_ | refine rM_get rfl rfl ?_)); try dsimp only
      try simp only [na0, na1, na2, na3, na4, na5, na6, na7, na8, na16, na88, na148, nm3, nI_add]
      refine rM_ist (j := 1) rfl rfl (show Q + 148 + t < 35588 by omega) ?_
      rw [s1_s1, s1_at]
      (repeat (first | refine r_fw rfl rfl rfl rfl ?_ | refine rM_get rfl rfl ?_)); try dsimp only
      try simp only [na0, na1, na2, na3, na4, na5, na6, na7, na8, na16, na88, na148, nm3, nI_add]
      refine r_step rfl rfl rfl ?_
      (repeat (first | refine r_fw rfl rfl rfl rfl ?_ | refine rM_get rfl rfl ?_)); try dsimp only
      try simp only [na0, na1, na2, na3, na4, na5, na6, na7, na8, na16, na88, na148, nm3, nI_add]
      exact this
end KMG
