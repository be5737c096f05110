/-! rules with values known; only -/
section GQ2
variable {mi k : Nat} {L : List Value} {h h' : hH} {r : Option Value} {E : hEn} {w : hWo} {b : Nat} {M : hT2} {x : Int64}
theorem wS_ildE {len pc u y j p q : Nat} {z : Int32} {zl : Int64} {ts : List Nat} {st : List Value} {c : Int32} (hq : q < 31) (he : hI mi k = some (.iaload, len, pc, u, y, z, zl, ts)) (hj : decide (1 ≤ j ∧ j ≤ 7) = true) (hp : p < lS j) (e : w.1 q j p = c) (K : hRun mi (k + 1) L (.int c :: st) (hW E w) r h') : hRun mi k L (.int (nI p) :: .ref (bs q + j) :: st) (hW E w) r h' := wS_ild hq he hj hp (e ▸ K)
theorem m_ofE {i B u : Nat} {c : Int32} (hi : i ≤ 24) (hu : u < 3) (hB : B + 1148 ≤ 35588) (e : M 1 (B + 16 + 3 * i + u) = c) : hRun 170 0 [.ref b, .int (nI B), .int (nI i), .int (nI u)] [] (hpM h b M x) (some (.int c)) (hpM h b M x) := e ▸ m_of hi hu hB
end GQ2
/-- a bank's counters -/
theorem RM_k {A : aS} {v : Nat → Int32} {B : Nat} (h : RM A v B) {i : Nat} (hi : i < A.2.1.length) : v (B + 16 + 3 * i + 0) = nI (gC A.2.1 i).1 ∧ v (B + 16 + 3 * i + 1) = nI (gC A.2.1 i).2.1 ∧ v (B + 16 + 3 * i + 2) = nI (gC A.2.1 i).2.2 := h.2.1.2.2.1 i hi
def onP (m r : Nat) (c : aK) : Bool := decide (c.1 % m = r)
def onA (A : aS) (m r : Nat) : aS := (uN A.1 3 (mxL (A.1 3) (A.2.1.filter (fun c => !onP m r c))), A.2.1.filter (onP m r), A.2.2)
theorem onP_I {m r t : Nat} (hm : 1 ≤ m) (hm2 : m ≤ 100) (hr : r < m) (ht : t < 1000) : nI t - nI t / nI m * nI m = nI (t % m) ∧ (nI (t % m) = nI r ↔ t % m = r) := by
  have : t % m < m := Nat.mod_lt _ (by omega)
  exact ⟨pk_rem (by omega) (by omega) (by omega), nI_eq (by omega) (by omega)⟩
theorem kgF_at {m r : Nat} (hm : 1 ≤ m) (hm2 : m ≤ 100) (hr : r < m) : ∀ (D : List aK) (d p q : Nat) (S : hT2) (C : List aK) (a : Nat), d = D.length → q ≤ p → q = C.length → (∀ i, i < D.length → S 1 (p + i) = nI (gC D i).1 ∧ S 2 (p + i) = nI (gC D i).2.1 ∧ S 3 (p + i) = nI (gC D i).2.2) → Rc C S → (∀ c, c ∈ D → c.1 < 1000 ∧ c.2.1 < 2 ^ 30) → S 0 3 = nI a → a < 2 ^ 30 →
    (kgF (nI m) (nI r) d p q S).1 = (C ++ D.filter (onP m r)).length ∧ Rc (C ++ D.filter (onP m r)) (kgF (nI m) (nI r) d p q S).2 ∧ (kgF (nI m) (nI r) d p q S).2 0 3 = nI (mxL a (D.filter (fun c => !onP m r c))) ∧ ∀ u y, ¬ (1 ≤ u ∧ u ≤ 3) → ¬ (u = 0 ∧ y = 3) → (kgF (nI m) (nI r) d p q S).2 u y = S u y
  | [], d, p, q, S, C, a, hd, hq, hC, hD, hR, hb, h3, ha => by
    subst hd
    rw [List.length_nil, kgF, List.filter_nil, List.filter_nil, List.append_nil]
    exact ⟨hC, hR, h3, fun _ _ _ _ => rfl⟩
  | c :: D, d, p, q, S, C, a, hd, hq, hC, hD, hR, hb, h3, ha => by
    subst hd
    rw [List.length_cons, kgF]
    have c0 := hD 0 (by simp)
    rw [Nat.add_zero, show gC (c :: D) 0 = c from rfl] at c0
    have b0 := hb c (List.mem_cons_self)
    obtain ⟨o1, o2⟩ := onP_I (t := c.1) hm hm2 hr b0.1
    rw [c0.1, o1]
    have hD2 : ∀ i, i < D.length → S 1 (p + 1 + i) = nI (gC D i).1 ∧ S 2 (p + 1 + i) = nI (gC D i).2.1 ∧ S 3 (p + 1 + i) = nI (gC D i).2.2 := by
      intro i hi
      have := hD (i + 1) (by simpa using hi)
      rw [gC_cons] at this
      rw [show p + 1 + i = p + (i + 1) by omega]
      exact this
    have hb2 : ∀ x, x ∈ D → x.1 < 1000 ∧ x.2.1 < 2 ^ 30 := fun x hx => hb x (List.mem_cons_of_mem _ hx)
    by_cases e : c.1 % m = r
    · have pe : onP m r c = true := decide_eq_true e
      rw [if_pos (o2.mpr e), c0.2.1, c0.2.2, List.filter_cons_of_pos pe, List.filter_cons_of_neg (by simp [pe])]
      have key := kgF_at hm hm2 hr D D.length (p + 1) (q + 1) (setF S q (nI c.1) (nI c.2.1) (nI c.2.2)) (C ++ [c]) a rfl (by omega) (by simp [hC]) ?_ ?_ hb2 ?_ ha
      · rw [List.append_assoc, List.singleton_append] at key
        refine ⟨key.1, key.2.1, key.2.2.1, fun u y hu hy => ?_⟩
        rw [key.2.2.2 u y hu hy, setF_at, if_neg (by omega), if_neg (by omega), if_neg (by omega)]
      · intro i hi
        rw [setF_at, setF_at, setF_at, if_neg (by omega), if_neg (by omega), if_neg (by omega), if_neg (by omega), if_neg (by omega), if_neg (by omega), if_neg (by omega), if_neg (by omega), if_neg (by omega)]
        exact hD2 i hi
      · intro i hi
        rw [setF_at, setF_at, setF_at]
        simp only [List.length_append, List.length_singleton] at hi
        by_cases ei : i = q
        · rw [if_pos (by omega), if_neg (by omega), if_pos (by omega), if_neg (by omega), if_neg (by omega), if_pos (by omega)]
          have : gC (C ++ [c]) i = c := by
            unfold gC
            rw [ei, hC]
            simp [List.getD_eq_getElem?_getD]
          rw [this]
          exact ⟨rfl, rfl, rfl⟩
        · have : gC (C ++ [c]) i = gC C i := by
            unfold gC
            simp only [List.getD_eq_getElem?_getD]
            rw [List.getElem?_append_left (by omega)]
          rw [this, if_neg (by omega), if_neg (by omega), if_neg (by omega), if_neg (by omega), if_neg (by omega), if_neg (by omega), if_neg (by omega), if_neg (by omega), if_neg (by omega)]
          exact hR i (by omega)
      · rw [setF_at, if_neg (by omega), if_neg (by omega), if_neg (by omega)]
        exact h3
    · have pe : onP m r c = false := decide_eq_false e
      rw [if_neg (fun w => e (o2.mp w)), List.filter_cons_of_neg (by simp [pe]), List.filter_cons_of_pos (by simp [pe])]
      have key := kgF_at hm hm2 hr D D.length (p + 1) q (s2 S 0 3 (mxI (S 0 3) (S 2 p))) C (max a c.2.1) rfl (by omega) hC ?_ ?_ hb2 ?_ (by omega)
      · refine ⟨key.1, key.2.1, key.2.2.1, fun u y hu hy => ?_⟩
        rw [key.2.2.2 u y hu hy, s2_at, if_neg hy]
      · intro i hi
        rw [s2_at, if_neg (by omega), s2_at, if_neg (by omega), s2_at, if_neg (by omega)]
        exact hD2 i hi
      · exact Rc_cong hR (fun u y h1 _ _ => by rw [s2_at, if_neg (by omega)])
      · rw [s2_at, if_pos ⟨rfl, rfl⟩, h3, c0.2.1, mx_A (by omega) (by omega)]
theorem RS_on {A : aS} {S : hT2} {m r X Y : Nat} (hm : 1 ≤ m) (hm2 : m ≤ 100) (hr : r < m) (h : RS A S) (hG : Gd X Y A) (hX : X < 2 ^ 30) : RS (onA A m r) (s2 (kgF (nI m) (nI r) A.2.1.length 0 0 S).2 0 5 (nI (kgF (nI m) (nI r) A.2.1.length 0 0 S).1)) ∧ (kgF (nI m) (nI r) A.2.1.length 0 0 S).1 = (A.2.1.filter (onP m r)).length := by
  obtain ⟨h0, ⟨h1, h2, h3, h4⟩, h5⟩ := h
  have hb := Gd_b hG hX
  have hg := hG.2.1
  obtain ⟨k1, k2, k3, k4⟩ := kgF_at hm hm2 hr A.2.1 A.2.1.length 0 0 S [] (A.1 3) rfl (by omega) rfl (by intro i hi; rw [Nat.zero_add]; exact h3 i hi) (by intro i hi; exact absurd hi (by simp)) (fun c hc => ⟨(hb c hc).1, (hb c hc).2.1⟩) (h1 3 (by omega) (by omega) (by omega)) (by omega)
  rw [List.nil_append] at k1 k2
  refine ⟨⟨?_, ⟨fun j a b c => ?_, ?_, ?_, fun t ht => ?_⟩, fun k hk => ?_⟩, k1⟩
  · rw [s2_at, if_neg (by omega), k4 0 0 (by omega) (by omega)]; exact h0
  · unfold onA
    dsimp only
    rw [s2_at, if_neg (by omega), uN_at]
    by_cases e : j = 3
    · rw [if_pos e, e]; exact k3
    · rw [if_neg e, k4 0 j (by omega) (by omega)]; exact h1 j a b c
  · rw [s2_at, if_pos ⟨rfl, rfl⟩, k1]; rfl
  · exact Rc_cong k2 (fun u y h1 _ _ => by rw [s2_at, if_neg (by omega)])
  · rw [s2_at, if_neg (by omega), k4 4 t (by omega) (by omega)]; exact h4 t ht
  · have e7 : (onA A m r).1 7 = A.1 7 := rfl
    rw [e7, s2_at, if_neg (by omega), s2_at, if_neg (by omega), s2_at, if_neg (by omega), k4 5 _ (by omega) (by omega), k4 6 _ (by omega) (by omega), k4 7 _ (by omega) (by omega)]
    exact h5 k hk
theorem Gd_on {X Y m r : Nat} {A : aS} (h : Gd X Y A) : Gd X Y (onA A m r) := by
  obtain ⟨⟨a1, a2, a3⟩, ⟨b1, b2, b3⟩, c, d, e⟩ := h
  refine ⟨⟨a1, a2, Nat.le_trans (List.length_filter_le _ _) a3⟩, ⟨b1, ?_, b3⟩, c, Gc_sub d List.filter_sublist, e⟩
  exact mxL_le _ _ _ b2 (fun x hx => (d.1 x (List.mem_filter.mp hx).1).2.2.1)
/-- the reference: from i on it is done -/
def onI (A : aS) (m r i : Nat) : aS := (uN A.1 3 (mxL (A.1 3) ((A.2.1.drop i).filter (fun c => !onP m r c))), A.2.1.take i ++ (A.2.1.drop i).filter (onP m r), A.2.2)
def onN (A : aS) (m r i : Nat) : Nat := A.2.1.length - i - ((A.2.1.drop i).filter (onP m r)).length
theorem filt_le (A : aS) (m r i : Nat) : ((A.2.1.drop i).filter (onP m r)).length ≤ A.2.1.length - i := by
  have := List.length_filter_le (onP m r) (A.2.1.drop i)
  rw [List.length_drop] at this
  exact this
theorem onI_gd {X Y m r i : Nat} {A : aS} (h : Gd X Y A) : Gd X Y (onI A m r i) := by
  obtain ⟨⟨a1, a2, a3⟩, ⟨b1, b2, b3⟩, c, d, e⟩ := h
  have hs : (A.2.1.take i ++ (A.2.1.drop i).filter (onP m r)).Sublist A.2.1 := by
    have h2 := List.take_append_drop i A.2.1
    conv => rhs; rw [← h2]
    exact List.Sublist.append (List.Sublist.refl _) List.filter_sublist
  refine ⟨⟨a1, a2, Nat.le_trans hs.length_le a3⟩, ⟨b1, ?_, b3⟩, c, Gc_sub d hs, e⟩
  exact mxL_le _ _ _ b2 (fun x hx => (d.1 x (List.mem_of_mem_drop (List.mem_filter.mp hx).1)).2.2.1)
section ONM
variable {h : hH} {b : Nat} {M : hT2} {x : Int64}
theorem only_loop {B m r X Y : Nat} {sv : Int32} {A : aS} (hB : B + 1148 ≤ 35588) (hG : Gd X Y A) (hX : X < 2 ^ 30) (hm : 1 ≤ m) (hm2 : m ≤ 100) (hr : r < m) : ∀ i (v : Nat → Int32), i ≤ A.2.1.length → RM (onI A m r i) v B → ∃ v', hRun 197 36 [.ref b, .int sv, .int (nI m), .int (nI r), .int (nI B), .int (nI (onN A m r i)), .int (nI i - 1)] [.int (nI i - 1)] (hpM h b (s1 M 1 v) x) (some (.int (nI (onN A m r 0)))) (hpM h b (s1 M 1 v') x) ∧ RM (onI A m r 0) v' B ∧ ∀ j, Ot B j → v' j = v j := by
  have h24 := Nat.le_trans hG.1.2.2 hG.1.2.1
  intro i
  induction i with
  | zero =>
    intro v hi hM
    refine ⟨v, ?_, hM, fun _ _ => rfl⟩
    refine r_brT rfl rfl ?_ ?_
    · decide
    (repeat (first | refine r_fw rfl rfl rfl rfl ?_ | refine rM_get rfl rfl ?_)); try dsimp only
    try simp only [na0, na1, na2, na3, na4, na5, na6, na7, na8, na16, na88, na148, nm3, nI_add]
    (refine r_rtE rfl rfl ?_ ?_ ?_ <;> rfl)
  | succ i ih =>
    intro v hi hM
    have hil : i < A.2.1.length := by omega
    have hGi := onI_gd (m := m) (r := r) (i := i + 1) hG
    have hl : i < (onI A m r (i + 1)).2.1.length := by
      show i < (A.2.1.take (i + 1) ++ _).length
      rw [List.length_append, List.length_take]
      omega
    have hgc : gC (onI A m r (i + 1)).2.1 i = gC A.2.1 i := by
      show gC (A.2.1.take (i + 1) ++ _) i = _
      unfold gC
      simp only [List.getD_eq_getElem?_getD]
      rw [List.getElem?_append_left (by rw [List.length_take]; omega), List.getElem?_take, if_pos (by omega)]
    obtain ⟨e0, e1, e2⟩ := RM_k hM hl
    rw [hgc] at e0 e1 e2
    have b0 := Gd_b hG hX _ (gC_mem hil)
    obtain ⟨o1, o2⟩ := onP_I (t := (gC A.2.1 i).1) hm hm2 hr b0.1
    have hm0 : ¬ nI m = 0 := nI_ne0 (by omega) (by omega)
    have hd := drop_cons hil
    have hf := filt_le A m r (i + 1)
    have eo : (s1 M 1 v) 1 (B + 16 + 3 * i + 0) = nI (gC A.2.1 i).1 := e0
    by_cases e : (gC A.2.1 i).1 % m = r
    · have pe : onP m r (gC A.2.1 i) = true := decide_eq_true e
      have q1 : onI A m r i = onI A m r (i + 1) := by
        unfold onI
        rw [hd, List.filter_cons_of_pos pe, List.filter_cons_of_neg (by simp [pe]), take_snoc hil, List.append_assoc, List.singleton_append]
      have q2 : onN A m r i = onN A m r (i + 1) := by
        unfold onN
        rw [hd, List.filter_cons_of_pos pe, List.length_cons]
        omega
      obtain ⟨v', k1, k2, k3⟩ := ih v (by omega) (by rw [q1]; exact hM)
      refine ⟨v', ?_, k2, k3⟩
      rw [q2] at k1
      rw [nI_pred]
      refine r_brF rfl rfl ?_ ?_
      · exact nI_pos (by omega)
      (repeat (first | refine r_fw rfl rfl rfl rfl ?_ | refine rM_get rfl rfl ?_)); try dsimp only
      try simp only [na0, na1, na2, na3, na4, na5, na6, na7, na8, na16, na88, na148, nm3, nI_add]
      refine rM_call rfl rfl rfl rfl rfl (m_ofE (u := 0) (by omega) (by omega) hB eo) ?_
      (repeat (first | refine r_fw rfl rfl rfl rfl ?_ | refine rM_get rfl rfl ?_)); try dsimp only
      try simp only [na0, na1, na2, na3, na4, na5, na6, na7, na8, na16, na88, na148, nm3, nI_add]
      refine r_fw rfl rfl rfl (if_neg hm0) ?_
      dsimp only
      rw [o1]
      (repeat (first | refine r_fw rfl rfl rfl rfl ?_ | refine rM_get rfl rfl ?_)); try dsimp only
      try simp only [na0, na1, na2, na3, na4, na5, na6, na7, na8, na16, na88, na148, nm3, nI_add]
      refine r_brT rfl rfl ?_ ?_
      · exact o2.mpr e
      (repeat (first | refine r_fw rfl rfl rfl rfl ?_ | refine rM_get rfl rfl ?_)); try dsimp only
      try simp only [na0, na1, na2, na3, na4, na5, na6, na7, na8, na16, na88, na148, nm3, nI_add]
      refine r_step rfl rfl rfl ?_
      rw [nI_pm]
      refine r_step rfl rfl rfl ?_
      exact k1
    · have pe : onP m r (gC A.2.1 i) = false := decide_eq_false e
      have hM2 := RM_rt (a := i) hM hGi hX hl
      rw [hgc] at hM2
      have q1 : onI A m r i = (uN (onI A m r (i + 1)).1 3 (max ((onI A m r (i + 1)).1 3) (gC A.2.1 i).2.1), erA (onI A m r (i + 1)).2.1 i, (onI A m r (i + 1)).2.2) := by
        unfold onI
        refine Prod.ext ?_ (Prod.ext ?_ rfl)
        · funext j
          dsimp only
          simp only [uN_at]
          by_cases hj : j = 3
          · rw [if_pos hj, if_pos hj, hd, List.filter_cons_of_pos (by simp [pe]), mxL, mxL_max]
            try rfl
          · rw [if_neg hj, if_neg hj, if_neg hj]
        · show A.2.1.take i ++ (A.2.1.drop i).filter (onP m r) = erA (A.2.1.take (i + 1) ++ (A.2.1.drop (i + 1)).filter (onP m r)) i
          have hlen : (A.2.1.take (i + 1)).length = i + 1 := by rw [List.length_take]; omega
          unfold erA
          rw [hd, List.filter_cons_of_neg (by simp [pe]), List.take_append_of_le_length (by omega), List.take_take, Nat.min_eq_left (by omega), List.drop_left' hlen]
      have q2 : onN A m r i = onN A m r (i + 1) + 1 := by
        unfold onN
        rw [hd, List.filter_cons_of_neg (by simp [pe])]
        omega
      rw [← q1] at hM2
      have hn2 : ∀ u, (s1 M 1 (upd v (B + 4) u)) 1 (B + 2) = nI (onI A m r (i + 1)).2.1.length := fun u => by
        rw [s1_at, pk_un (by omega)]
        exact hM.2.1.2.1
      have hl24 : (onI A m r (i + 1)).2.1.length ≤ 24 := Nat.le_trans hGi.1.2.2 hGi.1.2.1
      obtain ⟨v', k1, k2, k3⟩ := ih _ (by omega) hM2
      refine ⟨v', ?_, k2, fun j hj => (k3 j hj).trans (rtW_o (by omega) hj)⟩
      rw [q2] at k1
      rw [nI_pred]
      refine r_brF rfl rfl ?_ ?_
      · exact nI_pos (by omega)
      (repeat (first | refine r_fw rfl rfl rfl rfl ?_ | refine rM_get rfl rfl ?_)); try dsimp only
      try simp only [na0, na1, na2, na3, na4, na5, na6, na7, na8, na16, na88, na148, nm3, nI_add]
      refine rM_call rfl rfl rfl rfl rfl (m_ofE (u := 0) (by omega) (by omega) hB eo) ?_
      (repeat (first | refine r_fw rfl rfl rfl rfl ?_ | refine rM_get rfl rfl ?_)); try dsimp only
      try simp only [na0, na1, na2, na3, na4, na5, na6, na7, na8, na16, na88, na148, nm3, nI_add]
      refine r_fw rfl rfl rfl (if_neg hm0) ?_
      dsimp only
      rw [o1]
      (repeat (first | refine r_fw rfl rfl rfl rfl ?_ | refine rM_get rfl rfl ?_)); try dsimp only
      try simp only [na0, na1, na2, na3, na4, na5, na6, na7, na8, na16, na88, na148, nm3, nI_add]
      refine r_brF rfl rfl ?_ ?_
      · exact fun z => e (o2.mp z)
      (repeat (first | refine r_fw rfl rfl rfl rfl ?_ | refine rM_get rfl rfl ?_)); try dsimp only
      try simp only [na0, na1, na2, na3, na4, na5, na6, na7, na8, na16, na88, na148, nm3, nI_add]
      refine rM_ild rfl rfl (show B + 4 < 35588 by omega) ?_
      (repeat (first | refine r_fw rfl rfl rfl rfl ?_ | refine rM_get rfl rfl ?_)); try dsimp only
      try simp only [na0, na1, na2, na3, na4, na5, na6, na7, na8, na16, na88, na148, nm3, nI_add]
      refine rM_call rfl rfl rfl rfl rfl (m_of (i := i) (w := 1) (by omega) (by omega) hB) ?_
      refine r_callS rfl rfl rfl rfl (m_greater _ _) ?_
      refine rM_ist rfl rfl (show B + 4 < 35588 by omega) ?_
      rw [s1_s1, s1_at]
      (repeat (first | refine r_fw rfl rfl rfl rfl ?_ | refine rM_get rfl rfl ?_)); try dsimp only
      try simp only [na0, na1, na2, na3, na4, na5, na6, na7, na8, na16, na88, na148, nm3, nI_add]
      refine rM_call rfl rfl rfl rfl rfl (m_takes (a := i) (hn2 _) hl24 hl hB) ?_
      rw [s1_s1, s1_at]
      (repeat (first | refine r_fw rfl rfl rfl rfl ?_ | refine rM_get rfl rfl ?_)); try dsimp only
      try simp only [na0, na1, na2, na3, na4, na5, na6, na7, na8, na16, na88, na148, nm3, nI_add]
      refine r_step rfl rfl rfl ?_
      rw [nI_pm]
      refine r_step rfl rfl rfl ?_
      exact k1
end ONM
section GGR
variable {h : hH}
theorem g_isGroup_f {m r : Int32} (hb : rgI m 1 100 = 0 ∨ r < 0 ∨ m ≤ r) : hRun 115 0 [.int m, .int r] [] h (some (.int 0)) h := by
  have := c_isGroup (h := h) m r
  by_cases a1 : m < 1
  · rw [if_pos a1] at this; exact this
  · rw [if_neg a1] at this
    by_cases a2 : 100 < m
    · rw [if_pos a2] at this; exact this
    · rw [if_neg a2] at this
      by_cases a3 : r < 0
      · rw [if_pos a3] at this; exact this
      · rw [if_neg a3] at this
        by_cases a4 : m ≤ r
        · rw [if_pos a4] at this; exact this
        · exfalso
          rcases hb with hb | hb | hb
          · refine rg_0 hb ?_
            rw [Int32.lt_iff_toInt_lt] at a1 a2
            have e1 : (1 : Int32).toInt = 1 := by decide
            have e2 : (100 : Int32).toInt = 100 := by decide
            omega
          · exact a3 hb
          · exact a4 hb
theorem g_isGroup_t {m r : Nat} (hm : 1 ≤ m) (hm2 : m ≤ 100) (hr : r < m) : hRun 115 0 [.int (nI m), .int (nI r)] [] h (some (.int 1)) h := by
  have := c_isGroup (h := h) (nI m) (nI r)
  have a1 : ¬ nI m < 1 := nI_nlt (b := 1) hm (by omega)
  have a2 : ¬ 100 < nI m := nI_nlt (a := 100) hm2 (by omega)
  rw [if_neg a1, if_neg a2, if_neg (nI_pos (by omega)), if_neg (nI_ge hr (by omega))] at this
  exact this
end GGR
/-- the numbers of a group -/
theorem gx (m r : Int32) : (∃ a b : Nat, m = nI a ∧ r = nI b ∧ 1 ≤ a ∧ a ≤ 100 ∧ b < a ∧ rgI m 1 100 = 1 ∧ rgI r 0 ((a : Int) - 1) = 1) ∨ (rgI m 1 100 = 0) ∨ (∃ a : Nat, m = nI a ∧ 1 ≤ a ∧ a ≤ 100 ∧ rgI m 1 100 = 1 ∧ (r < 0 ∨ m ≤ r) ∧ rgI r 0 ((a : Int) - 1) = 0) := by
  rcases rg_01 m 1 100 with h | h
  · exact Or.inr (Or.inl h)
  · obtain ⟨a, rfl, h1, h2⟩ := rg_1 (lo := 1) (hi := 100) h
    rcases kx r (n := a) (by omega) with ⟨q, hq, rfl, hk⟩ | ⟨c1, hk⟩ | ⟨c1, c2, c3, hk⟩
    · exact Or.inl ⟨a, q, rfl, rfl, h1, h2, hq, h, hk⟩
    · exact Or.inr (Or.inr ⟨a, rfl, h1, h2, h, Or.inl c1, hk⟩)
    · exact Or.inr (Or.inr ⟨a, rfl, h1, h2, h, Or.inr c3, hk⟩)
section CA8
variable {J : Nat} {E : hEn} {w : hWo}
theorem A_only (I : Iv J w.1 w.2.2.2) (s m r : Int32) : Ans J 131 197 [.ref 2, .int s, .int m, .int r, hU] [.ref 281, .int s, .int m, .int r, hU, hU, hU] E w := by
  obtain ⟨M, hMd⟩ : ∃ M, M = s2 (w.1 36) 0 0 0 := ⟨_, rfl⟩
  rcases stand I hMd s with ⟨p, A, hp, rfl, hG, hS, hM⟩ | ⟨hno, hnm⟩
  · have hS0 := hS.1
    have hM0 := hM.1
    have hBp : 1148 * p + 1148 ≤ 35588 := by omega
    have h24 : A.2.1.length ≤ 24 := Nat.le_trans hG.1.2.2 hG.1.2.1
    have hn := hS.2.1.2.1
    have hm : M 1 (1148 * p + 2) = nI A.2.1.length := hM.2.1.2.1
    rcases gx m r with ⟨m, r, rfl, rfl, hm1, hm2, hr, hk1, hk2⟩ | hk1 | ⟨m, rfl, hm1, hm2, hk1, hb, hk2⟩
    · have hm0 : ¬ nI m = 0 := nI_ne0 (by omega) (by omega)
      obtain ⟨r1, r2⟩ := RS_on hm1 hm2 hr hS hG (by omega)
      have e0 : onI A m r A.2.1.length = A := by
        unfold onI
        rw [List.drop_length, List.filter_nil, List.filter_nil, List.append_nil, List.take_length, mxL]
        refine Prod.ext ?_ rfl
        funext j
        dsimp only
        rw [uN_at]
        split
        · rename_i hj
          rw [hj]
        · rfl
      have e1 : onI A m r 0 = onA A m r := by
        unfold onI onA
        rw [List.drop_zero, List.take_zero, List.nil_append]
      have e2 : onN A m r A.2.1.length = 0 := by
        unfold onN
        rw [List.drop_length]
        simp
      have e3 : onN A m r 0 = A.2.1.length - (A.2.1.filter (onP m r)).length := by
        unfold onN
        rw [List.drop_zero]
        omega
      obtain ⟨v', k1, k2, k3⟩ := only_loop (h := hW E (wS w p (s2 (kgF (nI m) (nI r) A.2.1.length 0 0 (w.1 p)).2 0 5 (nI (kgF (nI m) (nI r) A.2.1.length 0 0 (w.1 p)).1)))) (b := 281) (M := M) (x := w.2.2.1) (sv := nI p) hBp hG (by omega) hm1 hm2 hr A.2.1.length (M 1) (Nat.le_refl _) (by rw [e0]; exact hM)
      rw [e2, s1_id] at k1
      rw [e1] at k2
      refine Ans_b (v := nI (A.2.1.length - (A.2.1.filter (onP m r)).length)) (u := nI (onN A m r 0)) (x' := w.2.2.1) (w1 := wS w p (s2 (kgF (nI m) (nI r) A.2.1.length 0 0 (w.1 p)).2 0 5 (nI (kgF (nI m) (nI r) A.2.1.length 0 0 (w.1 p)).1))) (v' := v') hMd I rfl rfl rfl rfl hp (Wk_S Wk_0 (Or.inl rfl) (by omega)) (fun i h1 _ => k3 i h1) ?_ ?_ ?_ (by rw [e3])
      · refine Or.inr ⟨_, Gd_mono (Gd_on hG) (Nat.le_refl _) (by omega), ?_, k2⟩
        rw [wS_at]
        exact r1
      · have e := c_keepGroup (h := hW E w) (b := bs p) (nI m) (nI r) hm0 hn h24
        have e4 : nI A.2.1.length - nI (kgF (nI m) (nI r) A.2.1.length 0 0 (w.1 p)).1 = nI (A.2.1.length - (A.2.1.filter (onP m r)).length) := by
          rw [r2, pk_sub (List.length_filter_le _ _)]
        rw [e4] at e
        (repeat (first | refine r_fy rfl rfl rfl rfl ?_ | (refine r_rtE rfl rfl ?_ ?_ ?_ <;> rfl) | refine r_get rfl rfl rfl ?_ | refine wS_getE (by omega) rfl rfl (by with_reducible assumption) ?_ | refine wS_get (by omega) rfl rfl ?_ | refine r_brT rfl rfl (by with_reducible first | assumption | rfl | exact nz10 | exact nI_pos (by omega) | exact nI_lt (by omega) (by omega) | exact nI_nlt (by omega) (by omega) | exact nI_le (by omega) (by omega) | exact nI_ge (by omega) (by omega)) ?_ | refine r_brF rfl rfl (by with_reducible first | assumption | rfl | exact nz10 | exact nI_pos (by omega) | exact nI_lt (by omega) (by omega) | exact nI_nlt (by omega) (by omega) | exact nI_le (by omega) (by omega) | exact nI_ge (by omega) (by omega)) ?_ | refine wH_call rfl rfl rfl rfl rfl (x_standing_t (by with_reducible assumption) (by with_reducible assumption)) ?_ | refine wH_call rfl rfl rfl rfl rfl (x_standing_f (by with_reducible assumption)) ?_ | refine r_callS rfl rfl rfl rfl (p_isSummary (by with_reducible assumption)) ?_ | refine r_callS rfl rfl rfl rfl (p_isThing (by with_reducible assumption)) ?_ | refine r_callS rfl rfl rfl rfl (p_isRoom (by with_reducible assumption)) ?_ | refine r_callS rfl rfl rfl rfl (p_isTop (by with_reducible assumption)) ?_ | refine r_callS rfl rfl rfl rfl (p_isWeight (by with_reducible assumption)) ?_ | refine r_callS rfl rfl rfl rfl (p_isShare (by with_reducible assumption)) ?_ | refine r_callS rfl rfl rfl rfl (p_isWindow (by with_reducible assumption)) ?_ | refine r_callS rfl rfl rfl rfl (p_isImage (by with_reducible assumption)) ?_ | refine r_tswd rfl (by with_reducible assumption) ?_ | refine wS_ild (by omega) rfl rfl (by first | assumption | omega | (simp only [lS]; omega)) ?_)); try dsimp only
        refine r_callS rfl rfl rfl rfl (g_isGroup_t hm1 hm2 hr) ?_
        (repeat (first | refine r_fy rfl rfl rfl rfl ?_ | (refine r_rtE rfl rfl ?_ ?_ ?_ <;> rfl) | refine r_get rfl rfl rfl ?_ | refine wS_getE (by omega) rfl rfl (by with_reducible assumption) ?_ | refine wS_get (by omega) rfl rfl ?_ | refine r_brT rfl rfl (by with_reducible first | assumption | rfl | exact nz10 | exact nI_pos (by omega) | exact nI_lt (by omega) (by omega) | exact nI_nlt (by omega) (by omega) | exact nI_le (by omega) (by omega) | exact nI_ge (by omega) (by omega)) ?_ | refine r_brF rfl rfl (by with_reducible first | assumption | rfl | exact nz10 | exact nI_pos (by omega) | exact nI_lt (by omega) (by omega) | exact nI_nlt (by omega) (by omega) | exact nI_le (by omega) (by omega) | exact nI_ge (by omega) (by omega)) ?_ | refine wH_call rfl rfl rfl rfl rfl (x_standing_t (by with_reducible assumption) (by with_reducible assumption)) ?_ | refine wH_call rfl rfl rfl rfl rfl (x_standing_f (by with_reducible assumption)) ?_ | refine r_callS rfl rfl rfl rfl (p_isSummary (by with_reducible assumption)) ?_ | refine r_callS rfl rfl rfl rfl (p_isThing (by with_reducible assumption)) ?_ | refine r_callS rfl rfl rfl rfl (p_isRoom (by with_reducible assumption)) ?_ | refine r_callS rfl rfl rfl rfl (p_isTop (by with_reducible assumption)) ?_ | refine r_callS rfl rfl rfl rfl (p_isWeight (by with_reducible assumption)) ?_ | refine r_callS rfl rfl rfl rfl (p_isShare (by with_reducible assumption)) ?_ | refine r_callS rfl rfl rfl rfl (p_isWindow (by with_reducible assumption)) ?_ | refine r_callS rfl rfl rfl rfl (p_isImage (by with_reducible assumption)) ?_ | refine r_tswd rfl (by with_reducible assumption) ?_ | refine wS_ild (by omega) rfl rfl (by first | assumption | omega | (simp only [lS]; omega)) ?_)); try dsimp only
        refine wS_call (by omega) rfl rfl rfl rfl rfl e ?_
        (repeat (first | refine r_fy rfl rfl rfl rfl ?_ | (refine r_rtE rfl rfl ?_ ?_ ?_ <;> rfl) | refine r_get rfl rfl rfl ?_ | refine wS_getE (by omega) rfl rfl (by with_reducible assumption) ?_ | refine wS_get (by omega) rfl rfl ?_ | refine r_brT rfl rfl (by with_reducible first | assumption | rfl | exact nz10 | exact nI_pos (by omega) | exact nI_lt (by omega) (by omega) | exact nI_nlt (by omega) (by omega) | exact nI_le (by omega) (by omega) | exact nI_ge (by omega) (by omega)) ?_ | refine r_brF rfl rfl (by with_reducible first | assumption | rfl | exact nz10 | exact nI_pos (by omega) | exact nI_lt (by omega) (by omega) | exact nI_nlt (by omega) (by omega) | exact nI_le (by omega) (by omega) | exact nI_ge (by omega) (by omega)) ?_ | refine wH_call rfl rfl rfl rfl rfl (x_standing_t (by with_reducible assumption) (by with_reducible assumption)) ?_ | refine wH_call rfl rfl rfl rfl rfl (x_standing_f (by with_reducible assumption)) ?_ | refine r_callS rfl rfl rfl rfl (p_isSummary (by with_reducible assumption)) ?_ | refine r_callS rfl rfl rfl rfl (p_isThing (by with_reducible assumption)) ?_ | refine r_callS rfl rfl rfl rfl (p_isRoom (by with_reducible assumption)) ?_ | refine r_callS rfl rfl rfl rfl (p_isTop (by with_reducible assumption)) ?_ | refine r_callS rfl rfl rfl rfl (p_isWeight (by with_reducible assumption)) ?_ | refine r_callS rfl rfl rfl rfl (p_isShare (by with_reducible assumption)) ?_ | refine r_callS rfl rfl rfl rfl (p_isWindow (by with_reducible assumption)) ?_ | refine r_callS rfl rfl rfl rfl (p_isImage (by with_reducible assumption)) ?_ | refine r_tswd rfl (by with_reducible assumption) ?_ | refine wS_ild (by omega) rfl rfl (by first | assumption | omega | (simp only [lS]; omega)) ?_)); try dsimp only
      · (repeat (first | refine r_fy rfl rfl rfl rfl ?_ | (refine r_rtE rfl rfl ?_ ?_ ?_ <;> rfl) | refine rM_get rfl rfl ?_ | refine r_brT rfl rfl (by with_reducible first | assumption | rfl | exact nz10 | exact nI_pos (by omega) | exact nI_lt (by omega) (by omega) | exact nI_nlt (by omega) (by omega) | exact nI_le (by omega) (by omega) | exact nI_ge (by omega) (by omega)) ?_ | refine r_brF rfl rfl (by with_reducible first | assumption | rfl | exact nz10 | exact nI_pos (by omega) | exact nI_lt (by omega) (by omega) | exact nI_nlt (by omega) (by omega) | exact nI_le (by omega) (by omega) | exact nI_ge (by omega) (by omega)) ?_ | refine rM_call rfl rfl rfl rfl rfl (k_isThere_t (by with_reducible assumption) (by with_reducible assumption)) ?_ | refine rM_call rfl rfl rfl rfl rfl (k_isThere_f (by with_reducible assumption)) ?_ | refine rM_call rfl rfl rfl rfl rfl (m_manyE (by omega) (by with_reducible assumption)) ?_ | refine rM_call rfl rfl rfl rfl rfl (q_isSummary (by with_reducible assumption)) ?_ | (refine r_callS rfl rfl rfl rfl (m_bank _) ?_; rw [nm1148]) | refine r_callS rfl rfl rfl rfl (q_isThing (by with_reducible assumption)) ?_ | refine r_callS rfl rfl rfl rfl (q_isTop (by with_reducible assumption)) ?_ | refine r_callS rfl rfl rfl rfl (q_isPart (by with_reducible assumption)) ?_ | refine r_callS rfl rfl rfl rfl (q_isIn (by with_reducible assumption) (by decide) (by first | exact lx_m1 (by omega) | decide)) ?_ | refine r_tswd rfl (by with_reducible assumption) ?_ | (simp only [Option.toList, List.drop, List.cons_append, List.nil_append, na0, na1, na2, na3, na4, na5, na6, na7, na8, na16, na88, na148, nm3, nI_add]; refine rM_ildE (j := 1) rfl rfl (show _ < 35588 by omega) (by with_reducible assumption) ?_) | (simp only [Option.toList, List.drop, List.cons_append, List.nil_append, na0, na1, na2, na3, na4, na5, na6, na7, na8, na16, na88, na148, nm3, nI_add]; refine rM_ild (j := 1) rfl rfl (show _ < 35588 by omega) ?_))); try simp only [Option.toList, List.drop, List.cons_append, List.nil_append, na0, na1, na2, na3, na4, na5, na6, na7, na8, na16, na88, na148, nm3, nI_add]
        exact k1
    · refine Ans_3 (v := -2) (u := -2) hMd I rfl rfl rfl rfl ?_ ?_ rfl
      · (repeat (first | refine r_fy rfl rfl rfl rfl ?_ | (refine r_rtE rfl rfl ?_ ?_ ?_ <;> rfl) | refine r_get rfl rfl rfl ?_ | refine wS_getE (by omega) rfl rfl (by with_reducible assumption) ?_ | refine wS_get (by omega) rfl rfl ?_ | refine r_brT rfl rfl (by with_reducible first | assumption | rfl | exact nz10 | exact nI_pos (by omega) | exact nI_lt (by omega) (by omega) | exact nI_nlt (by omega) (by omega) | exact nI_le (by omega) (by omega) | exact nI_ge (by omega) (by omega)) ?_ | refine r_brF rfl rfl (by with_reducible first | assumption | rfl | exact nz10 | exact nI_pos (by omega) | exact nI_lt (by omega) (by omega) | exact nI_nlt (by omega) (by omega) | exact nI_le (by omega) (by omega) | exact nI_ge (by omega) (by omega)) ?_ | refine wH_call rfl rfl rfl rfl rfl (x_standing_t (by with_reducible assumption) (by with_reducible assumption)) ?_ | refine wH_call rfl rfl rfl rfl rfl (x_standing_f (by with_reducible assumption)) ?_ | refine r_callS rfl rfl rfl rfl (p_isSummary (by with_reducible assumption)) ?_ | refine r_callS rfl rfl rfl rfl (p_isThing (by with_reducible assumption)) ?_ | refine r_callS rfl rfl rfl rfl (p_isRoom (by with_reducible assumption)) ?_ | refine r_callS rfl rfl rfl rfl (p_isTop (by with_reducible assumption)) ?_ | refine r_callS rfl rfl rfl rfl (p_isWeight (by with_reducible assumption)) ?_ | refine r_callS rfl rfl rfl rfl (p_isShare (by with_reducible assumption)) ?_ | refine r_callS rfl rfl rfl rfl (p_isWindow (by with_reducible assumption)) ?_ | refine r_callS rfl rfl rfl rfl (p_isImage (by with_reducible assumption)) ?_ | refine r_tswd rfl (by with_reducible assumption) ?_ | refine wS_ild (by omega) rfl rfl (by first | assumption | omega | (simp only [lS]; omega)) ?_)); try dsimp only
        refine r_callS rfl rfl rfl rfl (g_isGroup_f (Or.inl hk1)) ?_
        (repeat (first | refine r_fy rfl rfl rfl rfl ?_ | (refine r_rtE rfl rfl ?_ ?_ ?_ <;> rfl) | refine r_get rfl rfl rfl ?_ | refine wS_getE (by omega) rfl rfl (by with_reducible assumption) ?_ | refine wS_get (by omega) rfl rfl ?_ | refine r_brT rfl rfl (by with_reducible first | assumption | rfl | exact nz10 | exact nI_pos (by omega) | exact nI_lt (by omega) (by omega) | exact nI_nlt (by omega) (by omega) | exact nI_le (by omega) (by omega) | exact nI_ge (by omega) (by omega)) ?_ | refine r_brF rfl rfl (by with_reducible first | assumption | rfl | exact nz10 | exact nI_pos (by omega) | exact nI_lt (by omega) (by omega) | exact nI_nlt (by omega) (by omega) | exact nI_le (by omega) (by omega) | exact nI_ge (by omega) (by omega)) ?_ | refine wH_call rfl rfl rfl rfl rfl (x_standing_t (by with_reducible assumption) (by with_reducible assumption)) ?_ | refine wH_call rfl rfl rfl rfl rfl (x_standing_f (by with_reducible assumption)) ?_ | refine r_callS rfl rfl rfl rfl (p_isSummary (by with_reducible assumption)) ?_ | refine r_callS rfl rfl rfl rfl (p_isThing (by with_reducible assumption)) ?_ | refine r_callS rfl rfl rfl rfl (p_isRoom (by with_reducible assumption)) ?_ | refine r_callS rfl rfl rfl rfl (p_isTop (by with_reducible assumption)) ?_ | refine r_callS rfl rfl rfl rfl (p_isWeight (by with_reducible assumption)) ?_ | refine r_callS rfl rfl rfl rfl (p_isShare (by with_reducible assumption)) ?_ | refine r_callS rfl rfl rfl rfl (p_isWindow (by with_reducible assumption)) ?_ | refine r_callS rfl rfl rfl rfl (p_isImage (by with_reducible assumption)) ?_ | refine r_tswd rfl (by with_reducible assumption) ?_ | refine wS_ild (by omega) rfl rfl (by first | assumption | omega | (simp only [lS]; omega)) ?_)); try dsimp only
      · (repeat (first | refine r_fy rfl rfl rfl rfl ?_ | (refine r_rtE rfl rfl ?_ ?_ ?_ <;> rfl) | refine rM_get rfl rfl ?_ | refine r_brT rfl rfl (by with_reducible first | assumption | rfl | exact nz10 | exact nI_pos (by omega) | exact nI_lt (by omega) (by omega) | exact nI_nlt (by omega) (by omega) | exact nI_le (by omega) (by omega) | exact nI_ge (by omega) (by omega)) ?_ | refine r_brF rfl rfl (by with_reducible first | assumption | rfl | exact nz10 | exact nI_pos (by omega) | exact nI_lt (by omega) (by omega) | exact nI_nlt (by omega) (by omega) | exact nI_le (by omega) (by omega) | exact nI_ge (by omega) (by omega)) ?_ | refine rM_call rfl rfl rfl rfl rfl (k_isThere_t (by with_reducible assumption) (by with_reducible assumption)) ?_ | refine rM_call rfl rfl rfl rfl rfl (k_isThere_f (by with_reducible assumption)) ?_ | refine rM_call rfl rfl rfl rfl rfl (m_manyE (by omega) (by with_reducible assumption)) ?_ | refine rM_call rfl rfl rfl rfl rfl (q_isSummary (by with_reducible assumption)) ?_ | (refine r_callS rfl rfl rfl rfl (m_bank _) ?_; rw [nm1148]) | refine r_callS rfl rfl rfl rfl (q_isThing (by with_reducible assumption)) ?_ | refine r_callS rfl rfl rfl rfl (q_isTop (by with_reducible assumption)) ?_ | refine r_callS rfl rfl rfl rfl (q_isPart (by with_reducible assumption)) ?_ | refine r_callS rfl rfl rfl rfl (q_isIn (by with_reducible assumption) (by decide) (by first | exact lx_m1 (by omega) | decide)) ?_ | refine r_tswd rfl (by with_reducible assumption) ?_ | (simp only [Option.toList, List.drop, List.cons_append, List.nil_append, na0, na1, na2, na3, na4, na5, na6, na7, na8, na16, na88, na148, nm3, nI_add]; refine rM_ildE (j := 1) rfl rfl (show _ < 35588 by omega) (by with_reducible assumption) ?_) | (simp only [Option.toList, List.drop, List.cons_append, List.nil_append, na0, na1, na2, na3, na4, na5, na6, na7, na8, na16, na88, na148, nm3, nI_add]; refine rM_ild (j := 1) rfl rfl (show _ < 35588 by omega) ?_))); try simp only [Option.toList, List.drop, List.cons_append, List.nil_append, na0, na1, na2, na3, na4, na5, na6, na7, na8, na16, na88, na148, nm3, nI_add]
    · refine Ans_3 (v := -2) (u := -2) hMd I rfl rfl rfl rfl ?_ ?_ rfl
      · (repeat (first | refine r_fy rfl rfl rfl rfl ?_ | (refine r_rtE rfl rfl ?_ ?_ ?_ <;> rfl) | refine r_get rfl rfl rfl ?_ | refine wS_getE (by omega) rfl rfl (by with_reducible assumption) ?_ | refine wS_get (by omega) rfl rfl ?_ | refine r_brT rfl rfl (by with_reducible first | assumption | rfl | exact nz10 | exact nI_pos (by omega) | exact nI_lt (by omega) (by omega) | exact nI_nlt (by omega) (by omega) | exact nI_le (by omega) (by omega) | exact nI_ge (by omega) (by omega)) ?_ | refine r_brF rfl rfl (by with_reducible first | assumption | rfl | exact nz10 | exact nI_pos (by omega) | exact nI_lt (by omega) (by omega) | exact nI_nlt (by omega) (by omega) | exact nI_le (by omega) (by omega) | exact nI_ge (by omega) (by omega)) ?_ | refine wH_call rfl rfl rfl rfl rfl (x_standing_t (by with_reducible assumption) (by with_reducible assumption)) ?_ | refine wH_call rfl rfl rfl rfl rfl (x_standing_f (by with_reducible assumption)) ?_ | refine r_callS rfl rfl rfl rfl (p_isSummary (by with_reducible assumption)) ?_ | refine r_callS rfl rfl rfl rfl (p_isThing (by with_reducible assumption)) ?_ | refine r_callS rfl rfl rfl rfl (p_isRoom (by with_reducible assumption)) ?_ | refine r_callS rfl rfl rfl rfl (p_isTop (by with_reducible assumption)) ?_ | refine r_callS rfl rfl rfl rfl (p_isWeight (by with_reducible assumption)) ?_ | refine r_callS rfl rfl rfl rfl (p_isShare (by with_reducible assumption)) ?_ | refine r_callS rfl rfl rfl rfl (p_isWindow (by with_reducible assumption)) ?_ | refine r_callS rfl rfl rfl rfl (p_isImage (by with_reducible assumption)) ?_ | refine r_tswd rfl (by with_reducible assumption) ?_ | refine wS_ild (by omega) rfl rfl (by first | assumption | omega | (simp only [lS]; omega)) ?_)); try dsimp only
        refine r_callS rfl rfl rfl rfl (g_isGroup_f (Or.inr hb)) ?_
        (repeat (first | refine r_fy rfl rfl rfl rfl ?_ | (refine r_rtE rfl rfl ?_ ?_ ?_ <;> rfl) | refine r_get rfl rfl rfl ?_ | refine wS_getE (by omega) rfl rfl (by with_reducible assumption) ?_ | refine wS_get (by omega) rfl rfl ?_ | refine r_brT rfl rfl (by with_reducible first | assumption | rfl | exact nz10 | exact nI_pos (by omega) | exact nI_lt (by omega) (by omega) | exact nI_nlt (by omega) (by omega) | exact nI_le (by omega) (by omega) | exact nI_ge (by omega) (by omega)) ?_ | refine r_brF rfl rfl (by with_reducible first | assumption | rfl | exact nz10 | exact nI_pos (by omega) | exact nI_lt (by omega) (by omega) | exact nI_nlt (by omega) (by omega) | exact nI_le (by omega) (by omega) | exact nI_ge (by omega) (by omega)) ?_ | refine wH_call rfl rfl rfl rfl rfl (x_standing_t (by with_reducible assumption) (by with_reducible assumption)) ?_ | refine wH_call rfl rfl rfl rfl rfl (x_standing_f (by with_reducible assumption)) ?_ | refine r_callS rfl rfl rfl rfl (p_isSummary (by with_reducible assumption)) ?_ | refine r_callS rfl rfl rfl rfl (p_isThing (by with_reducible assumption)) ?_ | refine r_callS rfl rfl rfl rfl (p_isRoom (by with_reducible assumption)) ?_ | refine r_callS rfl rfl rfl rfl (p_isTop (by with_reducible assumption)) ?_ | refine r_callS rfl rfl rfl rfl (p_isWeight (by with_reducible assumption)) ?_ | refine r_callS rfl rfl rfl rfl (p_isShare (by with_reducible assumption)) ?_ | refine r_callS rfl rfl rfl rfl (p_isWindow (by with_reducible assumption)) ?_ | refine r_callS rfl rfl rfl rfl (p_isImage (by with_reducible assumption)) ?_ | refine r_tswd rfl (by with_reducible assumption) ?_ | refine wS_ild (by omega) rfl rfl (by first | assumption | omega | (simp only [lS]; omega)) ?_)); try dsimp only
      · (repeat (first | refine r_fy rfl rfl rfl rfl ?_ | (refine r_rtE rfl rfl ?_ ?_ ?_ <;> rfl) | refine rM_get rfl rfl ?_ | refine r_brT rfl rfl (by with_reducible first | assumption | rfl | exact nz10 | exact nI_pos (by omega) | exact nI_lt (by omega) (by omega) | exact nI_nlt (by omega) (by omega) | exact nI_le (by omega) (by omega) | exact nI_ge (by omega) (by omega)) ?_ | refine r_brF rfl rfl (by with_reducible first | assumption | rfl | exact nz10 | exact nI_pos (by omega) | exact nI_lt (by omega) (by omega) | exact nI_nlt (by omega) (by omega) | exact nI_le (by omega) (by omega) | exact nI_ge (by omega) (by omega)) ?_ | refine rM_call rfl rfl rfl rfl rfl (k_isThere_t (by with_reducible assumption) (by with_reducible assumption)) ?_ | refine rM_call rfl rfl rfl rfl rfl (k_isThere_f (by with_reducible assumption)) ?_ | refine rM_call rfl rfl rfl rfl rfl (m_manyE (by omega) (by with_reducible assumption)) ?_ | refine rM_call rfl rfl rfl rfl rfl (q_isSummary (by with_reducible assumption)) ?_ | (refine r_callS rfl rfl rfl rfl (m_bank _) ?_; rw [nm1148]) | refine r_callS rfl rfl rfl rfl (q_isThing (by with_reducible assumption)) ?_ | refine r_callS rfl rfl rfl rfl (q_isTop (by with_reducible assumption)) ?_ | refine r_callS rfl rfl rfl rfl (q_isPart (by with_reducible assumption)) ?_ | refine r_callS rfl rfl rfl rfl (q_isIn (by with_reducible assumption) (by decide) (by first | exact lx_m1 (by omega) | decide)) ?_ | refine r_tswd rfl (by with_reducible assumption) ?_ | (simp only [Option.toList, List.drop, List.cons_append, List.nil_append, na0, na1, na2, na3, na4, na5, na6, na7, na8, na16, na88, na148, nm3, nI_add]; refine rM_ildE (j := 1) rfl rfl (show _ < 35588 by omega) (by with_reducible assumption) ?_) | (simp only [Option.toList, List.drop, List.cons_append, List.nil_append, na0, na1, na2, na3, na4, na5, na6, na7, na8, na16, na88, na148, nm3, nI_add]; refine rM_ild (j := 1) rfl rfl (show _ < 35588 by omega) ?_))); try simp only [Option.toList, List.drop, List.cons_append, List.nil_append, na0, na1, na2, na3, na4, na5, na6, na7, na8, na16, na88, na148, nm3, nI_add]
  · refine Ans_3 (v := -2) (u := -2) hMd I rfl rfl rfl rfl ?_ ?_ rfl
    · (repeat (first | refine r_fy rfl rfl rfl rfl ?_ | (refine r_rtE rfl rfl ?_ ?_ ?_ <;> rfl) | refine r_get rfl rfl rfl ?_ | refine wS_getE (by omega) rfl rfl (by with_reducible assumption) ?_ | refine wS_get (by omega) rfl rfl ?_ | refine r_brT rfl rfl (by with_reducible first | assumption | rfl | exact nz10 | exact nI_pos (by omega) | exact nI_lt (by omega) (by omega) | exact nI_nlt (by omega) (by omega) | exact nI_le (by omega) (by omega) | exact nI_ge (by omega) (by omega)) ?_ | refine r_brF rfl rfl (by with_reducible first | assumption | rfl | exact nz10 | exact nI_pos (by omega) | exact nI_lt (by omega) (by omega) | exact nI_nlt (by omega) (by omega) | exact nI_le (by omega) (by omega) | exact nI_ge (by omega) (by omega)) ?_ | refine wH_call rfl rfl rfl rfl rfl (x_standing_t (by with_reducible assumption) (by with_reducible assumption)) ?_ | refine wH_call rfl rfl rfl rfl rfl (x_standing_f (by with_reducible assumption)) ?_ | refine r_callS rfl rfl rfl rfl (p_isSummary (by with_reducible assumption)) ?_ | refine r_callS rfl rfl rfl rfl (p_isThing (by with_reducible assumption)) ?_ | refine r_callS rfl rfl rfl rfl (p_isRoom (by with_reducible assumption)) ?_ | refine r_callS rfl rfl rfl rfl (p_isTop (by with_reducible assumption)) ?_ | refine r_callS rfl rfl rfl rfl (p_isWeight (by with_reducible assumption)) ?_ | refine r_callS rfl rfl rfl rfl (p_isShare (by with_reducible assumption)) ?_ | refine r_callS rfl rfl rfl rfl (p_isWindow (by with_reducible assumption)) ?_ | refine r_callS rfl rfl rfl rfl (p_isImage (by with_reducible assumption)) ?_ | refine r_tswd rfl (by with_reducible assumption) ?_ | refine wS_ild (by omega) rfl rfl (by first | assumption | omega | (simp only [lS]; omega)) ?_)); try dsimp only
    · (repeat (first | refine r_fy rfl rfl rfl rfl ?_ | (refine r_rtE rfl rfl ?_ ?_ ?_ <;> rfl) | refine rM_get rfl rfl ?_ | refine r_brT rfl rfl (by with_reducible first | assumption | rfl | exact nz10 | exact nI_pos (by omega) | exact nI_lt (by omega) (by omega) | exact nI_nlt (by omega) (by omega) | exact nI_le (by omega) (by omega) | exact nI_ge (by omega) (by omega)) ?_ | refine r_brF rfl rfl (by with_reducible first | assumption | rfl | exact nz10 | exact nI_pos (by omega) | exact nI_lt (by omega) (by omega) | exact nI_nlt (by omega) (by omega) | exact nI_le (by omega) (by omega) | exact nI_ge (by omega) (by omega)) ?_ | refine rM_call rfl rfl rfl rfl rfl (k_isThere_t (by with_reducible assumption) (by with_reducible assumption)) ?_ | refine rM_call rfl rfl rfl rfl rfl (k_isThere_f (by with_reducible assumption)) ?_ | refine rM_call rfl rfl rfl rfl rfl (m_manyE (by omega) (by with_reducible assumption)) ?_ | refine rM_call rfl rfl rfl rfl rfl (q_isSummary (by with_reducible assumption)) ?_ | (refine r_callS rfl rfl rfl rfl (m_bank _) ?_; rw [nm1148]) | refine r_callS rfl rfl rfl rfl (q_isThing (by with_reducible assumption)) ?_ | refine r_callS rfl rfl rfl rfl (q_isTop (by with_reducible assumption)) ?_ | refine r_callS rfl rfl rfl rfl (q_isPart (by with_reducible assumption)) ?_ | refine r_callS rfl rfl rfl rfl (q_isIn (by with_reducible assumption) (by decide) (by first | exact lx_m1 (by omega) | decide)) ?_ | refine r_tswd rfl (by with_reducible assumption) ?_ | (simp only [Option.toList, List.drop, List.cons_append, List.nil_append, na0, na1, na2, na3, na4, na5, na6, na7, na8, na16, na88, na148, nm3, nI_add]; refine rM_ildE (j := 1) rfl rfl (show _ < 35588 by omega) (by with_reducible assumption) ?_) | (simp only [Option.toList, List.drop, List.cons_append, List.nil_append, na0, na1, na2, na3, na4, na5, na6, na7, na8, na16, na88, na148, nm3, nI_add]; refine rM_ild (j := 1) rfl rfl (show _ < 35588 by omega) ?_))); try simp only [Option.toList, List.drop, List.cons_append, List.nil_append, na0, na1, na2, na3, na4, na5, na6, na7, na8, na16, na88, na148, nm3, nI_add]
end CA8
