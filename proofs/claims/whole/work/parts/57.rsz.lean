/-! resize, only -/
def mxL (a : Nat) : List aK → Nat
  | [] => a
  | c :: D => mxL (max a c.2.1) D
theorem mxL_app : ∀ (C D : List aK) (a : Nat), mxL a (C ++ D) = mxL (mxL a C) D
  | [], _, _ => rfl
  | c :: C, D, a => by rw [List.cons_append, mxL, mxL, mxL_app C D]
theorem mxL_max : ∀ (D : List aK) (a x : Nat), mxL (max a x) D = max (mxL a D) x
  | [], _, _ => rfl
  | c :: D, a, x => by
    rw [mxL, mxL, show max (max a x) c.2.1 = max (max a c.2.1) x by omega, mxL_max D]
theorem mxL_le : ∀ (D : List aK) (a T : Nat), a ≤ T → (∀ c, c ∈ D → c.2.1 ≤ T) → mxL a D ≤ T
  | [], _, _, h, _ => h
  | c :: D, a, T, h, k => by
    rw [mxL]
    exact mxL_le D _ T (by have := k c List.mem_cons_self; omega) (fun x hx => k x (List.mem_cons_of_mem _ hx))
theorem lwS_sub {C D : List aK} (h : D.Sublist C) : lwS D ≤ lwS C := by
  induction h with
  | slnil => exact Nat.le_refl _
  | cons a _ ih => rw [lwS_cons]; omega
  | cons_cons a _ ih => rw [lwS_cons, lwS_cons]; omega
theorem Gc_sub {T : Nat} {C D : List aK} (h : Gc T C) (hs : D.Sublist C) : Gc T D := ⟨fun c hc => h.1 c (hs.subset hc), List.Nodup.sublist (hs.map _) h.2.1, List.Pairwise.sublist hs h.2.2.1, Nat.le_trans (lwS_sub hs) h.2.2.2⟩
theorem gC_drop (C : List aK) (k p : Nat) : gC (C.drop k) p = gC C (k + p) := by
  unfold gC
  simp only [List.getD_eq_getElem?_getD, List.getElem?_drop]
theorem drop_cons {C : List aK} {k : Nat} (h : k < C.length) : C.drop k = gC C k :: C.drop (k + 1) := by
  rw [gC_lt h, List.getElem_cons_drop]
theorem take_snoc {C : List aK} {k : Nat} (h : k < C.length) : C.take (k + 1) = C.take k ++ [gC C k] := by
  rw [gC_lt h, List.take_append_getElem]
theorem gC_cons (c : aK) (D : List aK) (i : Nat) : gC (c :: D) (i + 1) = gC D i := by simp [gC]
/-- the first k went -/
def rzA (A : aS) (m k : Nat) : aS := (uN (uN A.1 1 m) 3 (mxL (A.1 3) (A.2.1.take k)), A.2.1.drop k, A.2.2)
theorem Gd_rz {X Y m k : Nat} {A : aS} (h : Gd X Y A) (h1 : 1 ≤ m) (h2 : m ≤ 24) (hk : A.2.1.length - k ≤ m) : Gd X Y (rzA A m k) := by
  obtain ⟨⟨a1, a2, a3⟩, ⟨b1, b2, b3⟩, c, d, e⟩ := h
  refine ⟨⟨h1, h2, ?_⟩, ⟨b1, ?_, b3⟩, c, Gc_sub d (List.drop_sublist _ _), e⟩
  · show (A.2.1.drop k).length ≤ m
    rw [List.length_drop]
    exact hk
  · show mxL (A.1 3) (A.2.1.take k) ≤ A.1 2
    exact mxL_le _ _ _ b2 (fun x hx => (d.1 x (List.mem_of_mem_take hx)).2.2.1)
theorem klF_row (o : Nat) : ∀ d p (S : hT2) r q, ¬ (1 ≤ r ∧ r ≤ 3) → ¬ (r = 0 ∧ q = 3) → klF o d p S r q = S r q
  | 0, _, _, _, _, _, _ => rfl
  | d + 1, p, S, r, q, h1, h2 => by
    rw [klF]
    by_cases c : o ≤ p
    · rw [if_pos c, klF_row o d _ _ r q h1 h2, setF_at, if_neg (by omega), if_neg (by omega), if_neg (by omega)]
    · rw [if_neg c, klF_row o d _ _ r q h1 h2, s2_at, if_neg h2]
theorem klF_cnt (o : Nat) : ∀ d p (S : hT2) r q, 1 ≤ r → r ≤ 3 → klF o d p S r q = if p ≤ q + o ∧ q + o < p + d then S r (q + o) else S r q
  | 0, p, S, r, q, _, _ => by rw [klF, if_neg (by omega)]
  | d + 1, p, S, r, q, h1, h2 => by
    rw [klF]
    by_cases c : o ≤ p
    · have e : ∀ x, setF S (p - o) (S 1 p) (S 2 p) (S 3 p) r x = if x = p - o then S r p else S r x := by
        intro x
        rw [setF_at]
        have : r = 1 ∨ r = 2 ∨ r = 3 := by omega
        rcases this with rfl | rfl | rfl <;> grind
      rw [if_pos c, klF_cnt o d _ _ r q h1 h2, e, e]
      by_cases c1 : q + o = p
      · rw [if_neg (by omega), if_pos (by omega), if_pos (by omega), c1]
      · by_cases c2 : p + 1 ≤ q + o ∧ q + o < p + 1 + d
        · rw [if_pos c2, if_neg (by omega), if_pos (by omega)]
        · rw [if_neg c2, if_neg (by omega), if_neg (by omega)]
    · have e : ∀ x, s2 S 0 3 (mxI (S 0 3) (S 2 p)) r x = S r x := fun x => by rw [s2_at, if_neg (by omega)]
      rw [if_neg c, klF_cnt o d _ _ r q h1 h2, e, e]
      by_cases c2 : p + 1 ≤ q + o ∧ q + o < p + 1 + d
      · rw [if_pos c2, if_pos (by omega)]
      · rw [if_neg c2, if_neg (by omega)]
theorem klF_abs {C : List aK} (o : Nat) (hC : ∀ c, c ∈ C → c.2.1 < 2 ^ 30) : ∀ d p (S : hT2) a, p + d = C.length → a < 2 ^ 30 → S 0 3 = nI a → (p ≤ o → ∀ i, p ≤ i → i < C.length → S 2 i = nI (gC C i).2.1) → klF o d p S 0 3 = nI (mxL a ((C.drop p).take (o - p)))
  | 0, p, S, a, hp, ha, h3, h2 => by
    rw [klF, List.drop_eq_nil_of_le (by omega), List.take_nil, mxL]
    exact h3
  | d + 1, p, S, a, hp, ha, h3, h2 => by
    rw [klF]
    by_cases c : o ≤ p
    · rw [if_pos c, klF_abs o hC d (p + 1) _ a (by omega) ha ?_ (fun h => absurd h (by omega)), show o - (p + 1) = 0 by omega, show o - p = 0 by omega, List.take_zero, List.take_zero]
      rw [setF_at, if_neg (by omega), if_neg (by omega), if_neg (by omega)]
      exact h3
    · have e := h2 (by omega) p (by omega) (by omega)
      have b := hC _ (gC_mem (show p < C.length by omega))
      rw [if_neg c, klF_abs o hC d (p + 1) _ (max a (gC C p).2.1) (by omega) (by omega) ?_ ?_, drop_cons (show p < C.length by omega), show o - p = (o - (p + 1)) + 1 by omega, List.take_succ_cons, mxL]
      · rw [s2_at, if_pos ⟨rfl, rfl⟩, h3, e, mx_A (by omega) (by omega)]
      · intro _ i h4 h5
        rw [s2_at, if_neg (by omega)]
        exact h2 (by omega) i (by omega) h5
theorem RS_rz {A : aS} {S : hT2} {m X Y : Nat} (h : RS A S) (hG : Gd X Y A) (hX : X < 2 ^ 30) : RS (rzA A m (A.2.1.length - m)) (keepF S A.2.1.length m) := by
  obtain ⟨h0, ⟨h1, h2, h3, h4⟩, h5⟩ := h
  have hb := Gd_b hG hX
  have hg := hG.2.1
  have er : ∀ r q, ¬ (1 ≤ r ∧ r ≤ 3) → ¬ (r = 0 ∧ q = 3) → ¬ (r = 0 ∧ q = 5) → keepF S A.2.1.length m r q = s2 S 0 1 (nI m) r q := by
    intro r q a b c
    unfold keepF
    rw [s2_at, if_neg c, klF_row _ _ _ _ _ _ a b]
  refine ⟨?_, ⟨fun j a b c => ?_, ?_, fun p hp => ?_, fun t ht => ?_⟩, fun k hk => ?_⟩
  · rw [er 0 0 (by omega) (by omega) (by omega), s2_at, if_neg (by omega)]; exact h0
  · unfold rzA
    dsimp only
    rw [uN_at, uN_at]
    by_cases e : j = 3
    · subst e
      rw [if_pos rfl]
      unfold keepF
      rw [s2_at, if_neg (by omega), klF_abs (C := A.2.1) _ (fun c hc => (hb c hc).2.1) _ _ _ (A.1 3) (by omega) (by omega) ?_ ?_, List.drop_zero, Nat.sub_zero]
      · rw [s2_at, if_neg (by omega)]; exact h1 3 (by omega) (by omega) (by omega)
      · intro _ i _ hi
        rw [s2_at, if_neg (by omega)]; exact (h3 i hi).2.1
    · rw [if_neg e, er 0 j (by omega) (by omega) (by omega), s2_at]
      by_cases e1 : j = 1
      · rw [if_pos (by omega), if_pos e1]
      · rw [if_neg (by omega), if_neg e1]; exact h1 j a b c
  · unfold rzA keepF
    dsimp only
    rw [s2_at, if_pos (by omega), pk_sub (by omega), List.length_drop]
  · unfold rzA at hp ⊢
    dsimp only at hp ⊢
    rw [List.length_drop] at hp
    have e : ∀ r, 1 ≤ r → r ≤ 3 → keepF S A.2.1.length m r p = S r (A.2.1.length - m + p) := by
      intro r r1 r2
      unfold keepF
      rw [s2_at, if_neg (by omega), klF_cnt _ _ _ _ _ _ r1 r2, if_pos (by omega), s2_at, if_neg (by omega), Nat.add_comm]
    rw [e 1 (by omega) (by omega), e 2 (by omega) (by omega), e 3 (by omega) (by omega), gC_drop]
    exact h3 _ (by omega)
  · rw [er 4 t (by omega) (by omega) (by omega), s2_at, if_neg (by omega)]; exact h4 t ht
  · have e7 : (rzA A m (A.2.1.length - m)).1 7 = A.1 7 := rfl
    rw [e7, er 5 _ (by omega) (by omega) (by omega), er 6 _ (by omega) (by omega) (by omega), er 7 _ (by omega) (by omega) (by omega), s2_at, if_neg (by omega), s2_at, if_neg (by omega), s2_at, if_neg (by omega)]
    exact h5 k hk
theorem erA_0 (C : List aK) : erA C 0 = C.drop 1 := rfl
/-- the absent raised, one taken out, in a bank -/
def rtW (v : Nat → Int32) (B n a : Nat) : Nat → Int32 := takW (upd v (B + 4) (grI (v (B + 4)) (v (B + 16 + 3 * a + 1)))) B n a
theorem rtW_o {v : Nat → Int32} {B n a q : Nat} (hn : n ≤ 25) (h : Ot B q) : rtW v B n a q = v q := by
  unfold rtW
  rw [takW_o hn h]
  unfold Ot at h
  exact pk_un (by omega)
theorem RM_rt {A : aS} {v : Nat → Int32} {B a X Y : Nat} (h : RM A v B) (hG : Gd X Y A) (hX : X < 2 ^ 30) (ha : a < A.2.1.length) : RM (uN A.1 3 (max (A.1 3) (gC A.2.1 a).2.1), erA A.2.1 a, A.2.2) (rtW v B A.2.1.length a) B := by
  have hg := hG.2.1
  have hb := Gd_b hG hX _ (gC_mem ha)
  have h24 := Nat.le_trans hG.1.2.2 hG.1.2.1
  obtain ⟨h0, h1, h2, h3, h4, h5⟩ := RM_to h
  have e4 := h1 3 (by omega) (by omega) (by omega)
  have e5 := (h3 a ha).2.1
  have k := RM_num (j := 3) (v := max (A.1 3) (gC A.2.1 a).2.1) h (by omega)
  have k2 := RM_take (a := a) k ha h24
  unfold rtW
  have e6 : grI (v (B + 4)) (v (B + 16 + 3 * a + 1)) = nI (max (A.1 3) (gC A.2.1 a).2.1) := by
    rw [show v (B + 4) = nI (A.1 3) from e4, e5, gr_A (by omega) (by omega)]
  rw [e6]
  exact k2
section RZM
variable {h : hH} {b : Nat} {M : hT2} {x : Int64}
theorem resize_loop {B m X Y : Nat} {sv : Int32} {A : aS} (hB : B + 1148 ≤ 35588) (hG : Gd X Y A) (hX : X < 2 ^ 30) (h1 : 1 ≤ m) (h2 : m ≤ 24) : ∀ d k (v : Nat → Int32), k + d = A.2.1.length - m → RM (rzA A m k) v B → ∃ v', hRun 196 27 [.ref b, .int sv, .int (nI m), .int (nI B), .int (nI k)] [] (hpM h b (s1 M 1 v) x) (some (.int (nI (A.2.1.length - m)))) (hpM h b (s1 M 1 v') x) ∧ RM (rzA A m (A.2.1.length - m)) v' B ∧ ∀ i, Ot B i → v' i = v i := by
  have h24 := Nat.le_trans hG.1.2.2 hG.1.2.1
  intro d
  induction d with
  | zero =>
    intro k v hk hM
    have hn : (s1 M 1 v) 1 (B + 2) = nI (A.2.1.length - k) := by
      have := hM.2.1.2.1
      unfold rzA at this
      dsimp only at this
      rw [List.length_drop] at this
      exact this
    refine ⟨v, ?_, ?_, fun _ _ => rfl⟩
    · (repeat (first | refine r_fw rfl rfl rfl rfl ?_ | refine rM_get rfl rfl ?_)); try dsimp only
      try simp only [na0, na1, na2, na3, na4, na5, na6, na7, na8, na16, na88, na148, nm3, nI_add]
      refine rM_call rfl rfl rfl rfl rfl (m_manyE hB hn) ?_
      (repeat (first | refine r_fw rfl rfl rfl rfl ?_ | refine rM_get rfl rfl ?_)); try dsimp only
      try simp only [na0, na1, na2, na3, na4, na5, na6, na7, na8, na16, na88, na148, nm3, nI_add]
      refine r_brT rfl rfl ?_ ?_
      · exact nI_le (by omega) (by omega)
      rw [show k = A.2.1.length - m by omega]
      (repeat (first | refine r_fw rfl rfl rfl rfl ?_ | refine rM_get rfl rfl ?_)); try dsimp only
      try simp only [na0, na1, na2, na3, na4, na5, na6, na7, na8, na16, na88, na148, nm3, nI_add]
      (refine r_rtE rfl rfl ?_ ?_ ?_ <;> rfl)
    · rw [show k = A.2.1.length - m by omega] at hM
      exact hM
  | succ d ih =>
    intro k v hk hM
    have hl : (rzA A m k).2.1.length = A.2.1.length - k := List.length_drop
    have hn : (s1 M 1 v) 1 (B + 2) = nI (A.2.1.length - k) := by
      have := hM.2.1.2.1
      rw [hl] at this
      exact this
    have hGk : Gd X Y (rzA A 24 k) := Gd_rz hG (by omega) (by omega) (by omega)
    have hM24 : RM (uN (rzA A m k).1 1 24, (rzA A m k).2) (upd v (B + 1) (nI 24)) B := RM_num (j := 1) hM (by omega)
    have hk2 : RM (rzA A m (k + 1)) (rtW v B (A.2.1.length - k) 0) B := by
      have b1 := Gd_b hG hX _ (gC_mem (show k < A.2.1.length by omega))
      obtain ⟨i0, i1, i2, i3, i4, i5⟩ := RM_to hM
      have e4 : v (B + 4) = nI (mxL (A.1 3) (A.2.1.take k)) := i1 3 (by omega) (by omega) (by omega)
      have e5 := (i3 0 (by omega)).2.1
      have e6 : (gC (rzA A m k).2.1 0) = gC A.2.1 k := gC_drop _ _ _
      have eb : mxL (A.1 3) (A.2.1.take k) < 2 ^ 30 := Nat.lt_of_le_of_lt (mxL_le _ _ X (by have := hG.2.1; omega) (fun c hc => by have := hG.2.2.2.1.1 c (List.mem_of_mem_take hc); have := hG.2.1; omega)) hX
      have e7 : mxL (A.1 3) (A.2.1.take (k + 1)) = max (mxL (A.1 3) (A.2.1.take k)) (gC A.2.1 k).2.1 := by
        rw [take_snoc (show k < A.2.1.length by omega), mxL_app]
        rfl
      have k0 := RM_num (j := 3) (v := mxL (A.1 3) (A.2.1.take (k + 1))) hM (by omega)
      have k1 := RM_take (a := 0) k0 (by show 0 < (rzA A m k).2.1.length; omega) (by show (rzA A m k).2.1.length ≤ 24; omega)
      have e8 : grI (v (B + 4)) (v (B + 16 + 3 * 0 + 1)) = nI (mxL (A.1 3) (A.2.1.take (k + 1))) := by
        rw [e4, e5, e6, gr_A (by omega) (by omega), e7]
      unfold rtW
      rw [e8]
      have e9 : rzA A m (k + 1) = (uN (rzA A m k).1 3 (mxL (A.1 3) (A.2.1.take (k + 1))), erA (rzA A m k).2.1 0, (rzA A m k).2.2) := by
        unfold rzA
        refine Prod.ext ?_ (Prod.ext ?_ rfl)
        · funext j
          dsimp only
          simp only [uN_at]
          split <;> rfl
        · show A.2.1.drop (k + 1) = erA (A.2.1.drop k) 0
          rw [erA_0, List.drop_drop]
      rw [e9]
      dsimp only at k1
      rw [hl] at k1
      exact k1
    obtain ⟨v', k1, k2, k3⟩ := ih (k + 1) _ (by omega) hk2
    refine ⟨v', ?_, k2, fun i hi => (k3 i hi).trans (rtW_o (by omega) hi)⟩
    (repeat (first | refine r_fw rfl rfl rfl rfl ?_ | refine rM_get rfl rfl ?_)); try dsimp only
    try simp only [na0, na1, na2, na3, na4, na5, na6, na7, na8, na16, na88, na148, nm3, nI_add]
    refine rM_call rfl rfl rfl rfl rfl (m_manyE hB hn) ?_
    (repeat (first | refine r_fw rfl rfl rfl rfl ?_ | refine rM_get rfl rfl ?_)); try dsimp only
    try simp only [na0, na1, na2, na3, na4, na5, na6, na7, na8, na16, na88, na148, nm3, nI_add]
    refine r_brF rfl rfl ?_ ?_
    · exact nle (by omega) (by omega)
    (repeat (first | refine r_fw rfl rfl rfl rfl ?_ | refine rM_get rfl rfl ?_)); try dsimp only
    try simp only [na0, na1, na2, na3, na4, na5, na6, na7, na8, na16, na88, na148, nm3, nI_add]
    refine rM_ild rfl rfl (show B + 4 < 35588 by omega) ?_
    (repeat (first | refine r_fw rfl rfl rfl rfl ?_ | refine rM_get rfl rfl ?_)); try dsimp only
    try simp only [na0, na1, na2, na3, na4, na5, na6, na7, na8, na16, na88, na148, nm3, nI_add]
    refine rM_call rfl rfl rfl rfl rfl (m_of (i := 0) (w := 1) (by omega) (by omega) hB) ?_
    refine r_callS rfl rfl rfl rfl (m_greater _ _) ?_
    refine rM_ist rfl rfl (show B + 4 < 35588 by omega) ?_
    rw [s1_s1, s1_at]
    (repeat (first | refine r_fw rfl rfl rfl rfl ?_ | refine rM_get rfl rfl ?_)); try dsimp only
    try simp only [na0, na1, na2, na3, na4, na5, na6, na7, na8, na16, na88, na148, nm3, nI_add]
    have hn2 : (s1 M 1 (upd v (B + 4) (grI (v (B + 4)) (v (B + 16 + 3 * 0 + 1))))) 1 (B + 2) = nI (A.2.1.length - k) := by
      rw [s1_at, pk_un (by omega)]
      exact hn
    refine rM_call rfl rfl rfl rfl rfl (m_takes (a := 0) hn2 (by omega) (by omega) hB) ?_
    rw [s1_s1, s1_at]
    (repeat (first | refine r_fw rfl rfl rfl rfl ?_ | refine rM_get rfl rfl ?_)); try dsimp only
    try simp only [na0, na1, na2, na3, na4, na5, na6, na7, na8, na16, na88, na148, nm3, nI_add]
    refine r_step rfl rfl rfl ?_
    exact k1
end RZM
section CA7
variable {J : Nat} {E : hEn} {w : hWo}
theorem A_resize (I : Iv J w.1 w.2.2.2) (s x : Int32) : Ans J 97 196 [.ref 2, .int s, .int x, hU] [.ref 281, .int s, .int x, hU, hU] E w := by
  obtain ⟨M, hMd⟩ : ∃ M, M = s2 (w.1 36) 0 0 0 := ⟨_, rfl⟩
  rcases stand I hMd s with ⟨p, A, hp, rfl, hG, hS, hM⟩ | ⟨hno, hnm⟩
  · have hS0 := hS.1
    have hM0 := hM.1
    have hBp : 1148 * p + 1148 ≤ 35588 := by omega
    have h24 : A.2.1.length ≤ 24 := Nat.le_trans hG.1.2.2 hG.1.2.1
    have hn := hS.2.1.2.1
    have hm : M 1 (1148 * p + 2) = nI A.2.1.length := hM.2.1.2.1
    rcases rg_01 x 1 24 with hx | hx
    · refine Ans_3 (v := -2) (u := -2) hMd I rfl rfl rfl rfl ?_ ?_ rfl
      · (repeat (first | refine r_fy rfl rfl rfl rfl ?_ | (refine r_rtE rfl rfl ?_ ?_ ?_ <;> rfl) | refine r_get rfl rfl rfl ?_ | refine wS_getE (by omega) rfl rfl (by with_reducible assumption) ?_ | refine wS_get (by omega) rfl rfl ?_ | refine r_brT rfl rfl (by with_reducible first | assumption | rfl | exact nz10 | exact nI_pos (by omega) | exact nI_lt (by omega) (by omega) | exact nI_nlt (by omega) (by omega) | exact nI_le (by omega) (by omega) | exact nI_ge (by omega) (by omega)) ?_ | refine r_brF rfl rfl (by with_reducible first | assumption | rfl | exact nz10 | exact nI_pos (by omega) | exact nI_lt (by omega) (by omega) | exact nI_nlt (by omega) (by omega) | exact nI_le (by omega) (by omega) | exact nI_ge (by omega) (by omega)) ?_ | refine wH_call rfl rfl rfl rfl rfl (x_standing_t (by with_reducible assumption) (by with_reducible assumption)) ?_ | refine wH_call rfl rfl rfl rfl rfl (x_standing_f (by with_reducible assumption)) ?_ | refine r_callS rfl rfl rfl rfl (p_isSummary (by with_reducible assumption)) ?_ | refine r_callS rfl rfl rfl rfl (p_isThing (by with_reducible assumption)) ?_ | refine r_callS rfl rfl rfl rfl (p_isRoom (by with_reducible assumption)) ?_ | refine r_callS rfl rfl rfl rfl (p_isTop (by with_reducible assumption)) ?_ | refine r_callS rfl rfl rfl rfl (p_isWeight (by with_reducible assumption)) ?_ | refine r_callS rfl rfl rfl rfl (p_isShare (by with_reducible assumption)) ?_ | refine r_callS rfl rfl rfl rfl (p_isWindow (by with_reducible assumption)) ?_ | refine r_callS rfl rfl rfl rfl (p_isImage (by with_reducible assumption)) ?_ | refine r_tswd rfl (by with_reducible assumption) ?_ | refine wS_ild (by omega) rfl rfl (by first | assumption | omega | (simp only [lS]; omega)) ?_)); try dsimp only
      · (repeat (first | refine r_fy rfl rfl rfl rfl ?_ | (refine r_rtE rfl rfl ?_ ?_ ?_ <;> rfl) | refine rM_get rfl rfl ?_ | refine r_brT rfl rfl (by with_reducible first | assumption | rfl | exact nz10 | exact nI_pos (by omega) | exact nI_lt (by omega) (by omega) | exact nI_nlt (by omega) (by omega) | exact nI_le (by omega) (by omega) | exact nI_ge (by omega) (by omega)) ?_ | refine r_brF rfl rfl (by with_reducible first | assumption | rfl | exact nz10 | exact nI_pos (by omega) | exact nI_lt (by omega) (by omega) | exact nI_nlt (by omega) (by omega) | exact nI_le (by omega) (by omega) | exact nI_ge (by omega) (by omega)) ?_ | refine rM_call rfl rfl rfl rfl rfl (k_isThere_t (by with_reducible assumption) (by with_reducible assumption)) ?_ | refine rM_call rfl rfl rfl rfl rfl (k_isThere_f (by with_reducible assumption)) ?_ | refine rM_call rfl rfl rfl rfl rfl (m_manyE (by omega) (by with_reducible assumption)) ?_ | refine rM_call rfl rfl rfl rfl rfl (q_isSummary (by with_reducible assumption)) ?_ | (refine r_callS rfl rfl rfl rfl (m_bank _) ?_; rw [nm1148]) | refine r_callS rfl rfl rfl rfl (q_isThing (by with_reducible assumption)) ?_ | refine r_callS rfl rfl rfl rfl (q_isTop (by with_reducible assumption)) ?_ | refine r_callS rfl rfl rfl rfl (q_isPart (by with_reducible assumption)) ?_ | refine r_callS rfl rfl rfl rfl (q_isIn (by with_reducible assumption) (by decide) (by first | exact lx_m1 (by omega) | decide)) ?_ | refine r_tswd rfl (by with_reducible assumption) ?_ | (simp only [Option.toList, List.drop, List.cons_append, List.nil_append, na0, na1, na2, na3, na4, na5, na6, na7, na8, na16, na88, na148, nm3, nI_add]; refine rM_ildE (j := 1) rfl rfl (show _ < 35588 by omega) (by with_reducible assumption) ?_) | (simp only [Option.toList, List.drop, List.cons_append, List.nil_append, na0, na1, na2, na3, na4, na5, na6, na7, na8, na16, na88, na148, nm3, nI_add]; refine rM_ild (j := 1) rfl rfl (show _ < 35588 by omega) ?_))); try simp only [Option.toList, List.drop, List.cons_append, List.nil_append, na0, na1, na2, na3, na4, na5, na6, na7, na8, na16, na88, na148, nm3, nI_add]
    · obtain ⟨x, rfl, hx1, hx2⟩ := rg_1 (lo := 1) (hi := 24) hx
      have hM2 : RM (rzA A x 0) (upd (M 1) (1148 * p + 1) (nI x)) (1148 * p) := by
        have := RM_num (j := 1) (v := x) hM (by omega)
        have e : rzA A x 0 = (uN A.1 1 x, A.2) := by
          unfold rzA
          refine Prod.ext ?_ (Prod.ext ?_ rfl)
          · funext j
            dsimp only
            simp only [uN_at, List.take_zero, mxL]
            split
            · rename_i h
              subst h
              rfl
            · rfl
          · exact List.drop_zero
        rw [e]
        exact this
      obtain ⟨v', k1, k2, k3⟩ := resize_loop (h := hW E (wS w p (keepF (w.1 p) A.2.1.length x))) (b := 281) (M := M) (x := w.2.2.1) (sv := nI p) hBp hG (by omega) hx1 hx2 (A.2.1.length - x) 0 _ (by omega) hM2
      refine Ans_b (v := nI (A.2.1.length - x)) (u := nI (A.2.1.length - x)) (x' := w.2.2.1) (w1 := wS w p (keepF (w.1 p) A.2.1.length x)) (v' := v') hMd I rfl rfl rfl rfl hp (Wk_S Wk_0 (Or.inl rfl) (by omega)) ?_ ?_ ?_ ?_ rfl
      · intro i h1 _
        rw [k3 i h1]
        unfold Ot at h1
        exact pk_un (by omega)
      · refine Or.inr ⟨_, Gd_mono (Gd_rz hG hx1 hx2 (by omega)) (Nat.le_refl _) (by omega), ?_, k2⟩
        rw [wS_at]
        exact RS_rz hS hG (by omega)
      · have e := c_keepLast (h := hW E w) (b := bs p) (m := x) hn h24 (by omega)
        rw [pk_sub (by omega), pk_sub (by omega), show A.2.1.length - (A.2.1.length - (A.2.1.length - x)) = A.2.1.length - x by omega] at e
        (repeat (first | refine r_fy rfl rfl rfl rfl ?_ | (refine r_rtE rfl rfl ?_ ?_ ?_ <;> rfl) | refine r_get rfl rfl rfl ?_ | refine wS_getE (by omega) rfl rfl (by with_reducible assumption) ?_ | refine wS_get (by omega) rfl rfl ?_ | refine r_brT rfl rfl (by with_reducible first | assumption | rfl | exact nz10 | exact nI_pos (by omega) | exact nI_lt (by omega) (by omega) | exact nI_nlt (by omega) (by omega) | exact nI_le (by omega) (by omega) | exact nI_ge (by omega) (by omega)) ?_ | refine r_brF rfl rfl (by with_reducible first | assumption | rfl | exact nz10 | exact nI_pos (by omega) | exact nI_lt (by omega) (by omega) | exact nI_nlt (by omega) (by omega) | exact nI_le (by omega) (by omega) | exact nI_ge (by omega) (by omega)) ?_ | refine wH_call rfl rfl rfl rfl rfl (x_standing_t (by with_reducible assumption) (by with_reducible assumption)) ?_ | refine wH_call rfl rfl rfl rfl rfl (x_standing_f (by with_reducible assumption)) ?_ | refine r_callS rfl rfl rfl rfl (p_isSummary (by with_reducible assumption)) ?_ | refine r_callS rfl rfl rfl rfl (p_isThing (by with_reducible assumption)) ?_ | refine r_callS rfl rfl rfl rfl (p_isRoom (by with_reducible assumption)) ?_ | refine r_callS rfl rfl rfl rfl (p_isTop (by with_reducible assumption)) ?_ | refine r_callS rfl rfl rfl rfl (p_isWeight (by with_reducible assumption)) ?_ | refine r_callS rfl rfl rfl rfl (p_isShare (by with_reducible assumption)) ?_ | refine r_callS rfl rfl rfl rfl (p_isWindow (by with_reducible assumption)) ?_ | refine r_callS rfl rfl rfl rfl (p_isImage (by with_reducible assumption)) ?_ | refine r_tswd rfl (by with_reducible assumption) ?_ | refine wS_ild (by omega) rfl rfl (by first | assumption | omega | (simp only [lS]; omega)) ?_)); try dsimp only
        refine wS_call (by omega) rfl rfl rfl rfl rfl e ?_
        (repeat (first | refine r_fy rfl rfl rfl rfl ?_ | (refine r_rtE rfl rfl ?_ ?_ ?_ <;> rfl) | refine r_get rfl rfl rfl ?_ | refine wS_getE (by omega) rfl rfl (by with_reducible assumption) ?_ | refine wS_get (by omega) rfl rfl ?_ | refine r_brT rfl rfl (by with_reducible first | assumption | rfl | exact nz10 | exact nI_pos (by omega) | exact nI_lt (by omega) (by omega) | exact nI_nlt (by omega) (by omega) | exact nI_le (by omega) (by omega) | exact nI_ge (by omega) (by omega)) ?_ | refine r_brF rfl rfl (by with_reducible first | assumption | rfl | exact nz10 | exact nI_pos (by omega) | exact nI_lt (by omega) (by omega) | exact nI_nlt (by omega) (by omega) | exact nI_le (by omega) (by omega) | exact nI_ge (by omega) (by omega)) ?_ | refine wH_call rfl rfl rfl rfl rfl (x_standing_t (by with_reducible assumption) (by with_reducible assumption)) ?_ | refine wH_call rfl rfl rfl rfl rfl (x_standing_f (by with_reducible assumption)) ?_ | refine r_callS rfl rfl rfl rfl (p_isSummary (by with_reducible assumption)) ?_ | refine r_callS rfl rfl rfl rfl (p_isThing (by with_reducible assumption)) ?_ | refine r_callS rfl rfl rfl rfl (p_isRoom (by with_reducible assumption)) ?_ | refine r_callS rfl rfl rfl rfl (p_isTop (by with_reducible assumption)) ?_ | refine r_callS rfl rfl rfl rfl (p_isWeight (by with_reducible assumption)) ?_ | refine r_callS rfl rfl rfl rfl (p_isShare (by with_reducible assumption)) ?_ | refine r_callS rfl rfl rfl rfl (p_isWindow (by with_reducible assumption)) ?_ | refine r_callS rfl rfl rfl rfl (p_isImage (by with_reducible assumption)) ?_ | refine r_tswd rfl (by with_reducible assumption) ?_ | refine wS_ild (by omega) rfl rfl (by first | assumption | omega | (simp only [lS]; omega)) ?_)); try dsimp only
      · (repeat (first | refine r_fy rfl rfl rfl rfl ?_ | (refine r_rtE rfl rfl ?_ ?_ ?_ <;> rfl) | refine rM_get rfl rfl ?_ | refine r_brT rfl rfl (by with_reducible first | assumption | rfl | exact nz10 | exact nI_pos (by omega) | exact nI_lt (by omega) (by omega) | exact nI_nlt (by omega) (by omega) | exact nI_le (by omega) (by omega) | exact nI_ge (by omega) (by omega)) ?_ | refine r_brF rfl rfl (by with_reducible first | assumption | rfl | exact nz10 | exact nI_pos (by omega) | exact nI_lt (by omega) (by omega) | exact nI_nlt (by omega) (by omega) | exact nI_le (by omega) (by omega) | exact nI_ge (by omega) (by omega)) ?_ | refine rM_call rfl rfl rfl rfl rfl (k_isThere_t (by with_reducible assumption) (by with_reducible assumption)) ?_ | refine rM_call rfl rfl rfl rfl rfl (k_isThere_f (by with_reducible assumption)) ?_ | refine rM_call rfl rfl rfl rfl rfl (m_manyE (by omega) (by with_reducible assumption)) ?_ | refine rM_call rfl rfl rfl rfl rfl (q_isSummary (by with_reducible assumption)) ?_ | (refine r_callS rfl rfl rfl rfl (m_bank _) ?_; rw [nm1148]) | refine r_callS rfl rfl rfl rfl (q_isThing (by with_reducible assumption)) ?_ | refine r_callS rfl rfl rfl rfl (q_isTop (by with_reducible assumption)) ?_ | refine r_callS rfl rfl rfl rfl (q_isPart (by with_reducible assumption)) ?_ | refine r_callS rfl rfl rfl rfl (q_isIn (by with_reducible assumption) (by decide) (by first | exact lx_m1 (by omega) | decide)) ?_ | refine r_tswd rfl (by with_reducible assumption) ?_ | (simp only [Option.toList, List.drop, List.cons_append, List.nil_append, na0, na1, na2, na3, na4, na5, na6, na7, na8, na16, na88, na148, nm3, nI_add]; refine rM_ildE (j := 1) rfl rfl (show _ < 35588 by omega) (by with_reducible assumption) ?_) | (simp only [Option.toList, List.drop, List.cons_append, List.nil_append, na0, na1, na2, na3, na4, na5, na6, na7, na8, na16, na88, na148, nm3, nI_add]; refine rM_ild (j := 1) rfl rfl (show _ < 35588 by omega) ?_))); try simp only [Option.toList, List.drop, List.cons_append, List.nil_append, na0, na1, na2, na3, na4, na5, na6, na7, na8, na16, na88, na148, nm3, nI_add]
        refine rM_ist rfl rfl (show 1148 * p + 1 < 35588 by omega) ?_
        exact k1
  · refine Ans_3 (v := -2) (u := -2) hMd I rfl rfl rfl rfl ?_ ?_ rfl
    · (repeat (first | refine r_fy rfl rfl rfl rfl ?_ | (refine r_rtE rfl rfl ?_ ?_ ?_ <;> rfl) | refine r_get rfl rfl rfl ?_ | refine wS_getE (by omega) rfl rfl (by with_reducible assumption) ?_ | refine wS_get (by omega) rfl rfl ?_ | refine r_brT rfl rfl (by with_reducible first | assumption | rfl | exact nz10 | exact nI_pos (by omega) | exact nI_lt (by omega) (by omega) | exact nI_nlt (by omega) (by omega) | exact nI_le (by omega) (by omega) | exact nI_ge (by omega) (by omega)) ?_ | refine r_brF rfl rfl (by with_reducible first | assumption | rfl | exact nz10 | exact nI_pos (by omega) | exact nI_lt (by omega) (by omega) | exact nI_nlt (by omega) (by omega) | exact nI_le (by omega) (by omega) | exact nI_ge (by omega) (by omega)) ?_ | refine wH_call rfl rfl rfl rfl rfl (x_standing_t (by with_reducible assumption) (by with_reducible assumption)) ?_ | refine wH_call rfl rfl rfl rfl rfl (x_standing_f (by with_reducible assumption)) ?_ | refine r_callS rfl rfl rfl rfl (p_isSummary (by with_reducible assumption)) ?_ | refine r_callS rfl rfl rfl rfl (p_isThing (by with_reducible assumption)) ?_ | refine r_callS rfl rfl rfl rfl (p_isRoom (by with_reducible assumption)) ?_ | refine r_callS rfl rfl rfl rfl (p_isTop (by with_reducible assumption)) ?_ | refine r_callS rfl rfl rfl rfl (p_isWeight (by with_reducible assumption)) ?_ | refine r_callS rfl rfl rfl rfl (p_isShare (by with_reducible assumption)) ?_ | refine r_callS rfl rfl rfl rfl (p_isWindow (by with_reducible assumption)) ?_ | refine r_callS rfl rfl rfl rfl (p_isImage (by with_reducible assumption)) ?_ | refine r_tswd rfl (by with_reducible assumption) ?_ | refine wS_ild (by omega) rfl rfl (by first | assumption | omega | (simp only [lS]; omega)) ?_)); try dsimp only
    · (repeat (first | refine r_fy rfl rfl rfl rfl ?_ | (refine r_rtE rfl rfl ?_ ?_ ?_ <;> rfl) | refine rM_get rfl rfl ?_ | refine r_brT rfl rfl (by with_reducible first | assumption | rfl | exact nz10 | exact nI_pos (by omega) | exact nI_lt (by omega) (by omega) | exact nI_nlt (by omega) (by omega) | exact nI_le (by omega) (by omega) | exact nI_ge (by omega) (by omega)) ?_ | refine r_brF rfl rfl (by with_reducible first | assumption | rfl | exact nz10 | exact nI_pos (by omega) | exact nI_lt (by omega) (by omega) | exact nI_nlt (by omega) (by omega) | exact nI_le (by omega) (by omega) | exact nI_ge (by omega) (by omega)) ?_ | refine rM_call rfl rfl rfl rfl rfl (k_isThere_t (by with_reducible assumption) (by with_reducible assumption)) ?_ | refine rM_call rfl rfl rfl rfl rfl (k_isThere_f (by with_reducible assumption)) ?_ | refine rM_call rfl rfl rfl rfl rfl (m_manyE (by omega) (by with_reducible assumption)) ?_ | refine rM_call rfl rfl rfl rfl rfl (q_isSummary (by with_reducible assumption)) ?_ | (refine r_callS rfl rfl rfl rfl (m_bank _) ?_; rw [nm1148]) | refine r_callS rfl rfl rfl rfl (q_isThing (by with_reducible assumption)) ?_ | refine r_callS rfl rfl rfl rfl (q_isTop (by with_reducible assumption)) ?_ | refine r_callS rfl rfl rfl rfl (q_isPart (by with_reducible assumption)) ?_ | refine r_callS rfl rfl rfl rfl (q_isIn (by with_reducible assumption) (by decide) (by first | exact lx_m1 (by omega) | decide)) ?_ | refine r_tswd rfl (by with_reducible assumption) ?_ | (simp only [Option.toList, List.drop, List.cons_append, List.nil_append, na0, na1, na2, na3, na4, na5, na6, na7, na8, na16, na88, na148, nm3, nI_add]; refine rM_ildE (j := 1) rfl rfl (show _ < 35588 by omega) (by with_reducible assumption) ?_) | (simp only [Option.toList, List.drop, List.cons_append, List.nil_append, na0, na1, na2, na3, na4, na5, na6, na7, na8, na16, na88, na148, nm3, nI_add]; refine rM_ild (j := 1) rfl rfl (show _ < 35588 by omega) ?_))); try simp only [Option.toList, List.drop, List.cons_append, List.nil_append, na0, na1, na2, na3, na4, na5, na6, na7, na8, na16, na88, na148, nm3, nI_add]
end CA7
