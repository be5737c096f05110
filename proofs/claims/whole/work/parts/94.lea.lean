/-! leading -/
theorem oLs_z {f T : Int32} {g : Nat → Int32} : ∀ d p, (∀ j, p ≤ j → j < p + d → g j = 0) → fo (oLs f T g) d p 0 = 0
  | 0, _, _ => rfl
  | d + 1, p, h => by
    have e : oLs f T g p 0 = 0 := by
      unfold oLs
      rw [h p (Nat.le_refl _) (by omega)]
      split <;> rfl
    rw [fo, e]
    exact oLs_z d (p + 1) (fun j a b => h j (by omega) (by omega))
theorem oL_leaf {f T : Int32} {lo : Nat → Int32} : ∀ e i, oL f T lo e i ≠ 0 → ∃ t, i * 10 ^ e ≤ t ∧ t < (i + 1) * 10 ^ e ∧ lo t ≠ 0 := by
  intro e
  induction e with
  | zero =>
    intro i h
    exact ⟨i, by omega, by omega, h⟩
  | succ e ih =>
    intro i h
    by_cases c : ∀ j, i * 10 ≤ j → j < i * 10 + 10 → oL f T lo e j = 0
    · exact absurd (oLs_z (f := f) (T := T) 10 (i * 10) c) h
    · have ⟨j, hj⟩ := Classical.not_forall.mp c
      have ⟨a1, hj⟩ := Classical.not_imp.mp hj
      have ⟨a2, hj⟩ := Classical.not_imp.mp hj
      obtain ⟨t, t1, t2, t3⟩ := ih j hj
      refine ⟨t, ?_, ?_, t3⟩
      · have : i * 10 * 10 ^ e ≤ j * 10 ^ e := Nat.mul_le_mul_right _ a1
        rw [Nat.pow_succ, Nat.mul_comm (10 ^ e) 10, ← Nat.mul_assoc]
        omega
      · have : (j + 1) * 10 ^ e ≤ (i + 1) * 10 * 10 ^ e := Nat.mul_le_mul_right _ (by omega)
        rw [Nat.pow_succ, Nat.mul_comm (10 ^ e) 10, ← Nat.mul_assoc]
        omega
theorem reF_nz {x f T : Int32} (h : reF x f T ≠ 0) : x ≠ 0 := by
  intro e
  refine h ?_
  unfold reF
  rw [e, if_pos (Int32.le_refl _)]
theorem lo_mem {A : aS} {t : Nat} (h : nI (loA A t) ≠ 0) : t ∈ A.2.1.map (fun c => c.1) := by
  unfold loA at h
  by_cases c : fiA A.2.1 t < A.2.1.length
  · have := fiA_at c
    rw [← this]
    exact List.mem_map_of_mem (gC_mem c)
  · rw [if_neg c] at h
    exact absurd rfl h
/-- the leading nodes -/
def ldP (f T : Int32) (A : aS) (e i : Nat) : Bool := decide (¬ reF (oL f T (fun t => nI (loA A t)) e i) f T = 0)
theorem ld_len {f T : Int32} {A : aS} (e m : Nat) : ((List.range m).filter (ldP f T A e)).length ≤ A.2.1.length := by
  have key : ∀ i, ldP f T A e i = true → ∃ t, i * 10 ^ e ≤ t ∧ t < (i + 1) * 10 ^ e ∧ t ∈ A.2.1.map (fun c => c.1) := by
    intro i hi
    obtain ⟨t, t1, t2, t3⟩ := oL_leaf e i (reF_nz (of_decide_eq_true hi))
    exact ⟨t, t1, t2, lo_mem t3⟩
  obtain ⟨lf, hlf⟩ : ∃ lf : Nat → Nat, ∀ i, ldP f T A e i = true → i * 10 ^ e ≤ lf i ∧ lf i < (i + 1) * 10 ^ e ∧ lf i ∈ A.2.1.map (fun c => c.1) := by
    refine ⟨fun i => if h : ldP f T A e i = true then Classical.choose (key i h) else 0, fun i hi => ?_⟩
    dsimp only
    rw [dif_pos hi]
    exact Classical.choose_spec (key i hi)
  have nd : (((List.range m).filter (ldP f T A e)).map lf).Nodup := by
    have h0 : ((List.range m).filter (ldP f T A e)).Nodup := List.Pairwise.filter _ List.nodup_range
    refine List.pairwise_map.mpr ?_
    refine List.Pairwise.imp_of_mem ?_ h0
    intro a b ha hb hab he
    obtain ⟨a1, a2, -⟩ := hlf a (List.mem_filter.mp ha).2
    obtain ⟨b1, b2, -⟩ := hlf b (List.mem_filter.mp hb).2
    rw [he] at a1 a2
    have c1 : a * 10 ^ e < (b + 1) * 10 ^ e := by omega
    have c2 : b * 10 ^ e < (a + 1) * 10 ^ e := by omega
    have d1 := Nat.lt_of_mul_lt_mul_right c1
    have d2 := Nat.lt_of_mul_lt_mul_right c2
    exact hab (by omega)
  have sub : ((List.range m).filter (ldP f T A e)).map lf ⊆ A.2.1.map (fun c => c.1) := by
    intro t ht
    obtain ⟨i, hi, rfl⟩ := List.mem_map.mp ht
    exact (hlf i (List.mem_filter.mp hi).2).2.2
  have := List.Nodup.length_le_of_subset nd sub
  rw [List.length_map, List.length_map] at this
  exact this
section XLE
variable {E : hEn} {w : hWo}
/-- the class's list of them -/
theorem lead_loop {p L : Nat} {f T : Int32} {A : aS} {s i4 : Int32} (hp : p < 31) (hL : L ≤ 3) (h24 : A.2.1.length ≤ 24) (hT : w.1 p 0 2 = T) (ho : ∀ n, n < lU (2 + L) → w.1 35 (2 + L) n = oL f T (fun t => nI (loA A t)) (3 - L) n) : ∀ d n S, n + d = lU (2 + L) → RN ((List.range n).filter (ldP f T A (3 - L))) S → ∃ S', hRun 141 26 [.ref 2, .int s, .int (nI L), .int f, .int i4, .ref (bs p), .int (nI n)] [] (hW E (wS w 31 S)) (some (.int (tlA ((List.range (lU (2 + L))).filter (ldP f T A (3 - L))) i4))) (hW E (wS w 31 S')) := by
  have hl := lU_le (2 + L)
  intro d
  induction d with
  | zero =>
    intro n S hn hR
    have hlen := ld_len (f := f) (T := T) (A := A) (3 - L) n
    rw [show n = lU (2 + L) by omega] at hR hlen ⊢
    refine ⟨S, ?_⟩
    refine r_step rfl rfl rfl ?_
    refine r_step rfl rfl rfl ?_
    refine r_get rfl rfl rfl ?_
    refine r_get rfl rfl rfl ?_
    refine r_step rfl rfl rfl ?_
    refine w74_ld (p := L) (by omega) rfl ?_
    rw [show 75 + L = 73 + (2 + L) by omega]
    refine r_len rfl (wU_c (by omega) (by omega) _) rfl ?_
    refine r_brT rfl rfl ?_ ?_
    · exact Int32.le_refl _
    refine r_step rfl rfl rfl ?_
    refine r_get rfl rfl rfl ?_
    refine r_step rfl rfl rfl ?_
    refine wL_read rfl rfl rfl rfl rfl (x_tellN i4 (by rw [wS_at]; exact hR) (by omega)) ?_
    (refine r_rtE rfl rfl ?_ ?_ ?_ <;> rfl)
  | succ d ih =>
    intro n S hn hR
    have hlen := ld_len (f := f) (T := T) (A := A) (3 - L) n
    have hnl : n < lU (2 + L) := by omega
    have c5 : (wS w 31 S).1 35 (2 + L) n = oL f T (fun t => nI (loA A t)) (3 - L) n := by rw [wS_ne (by omega)]; exact ho n hnl
    have cT : (wS w 31 S).1 p 0 2 = T ∨ p = 31 := by
      by_cases e : p = 31
      · exact Or.inr e
      · rw [wS_ne e]; exact Or.inl hT
    have cT : (wS w 31 S).1 p 0 2 = T := by
      rcases cT with h | h
      · exact h
      · omega
    have pre : ∀ r h', hRun 141 45 [.ref 2, .int s, .int (nI L), .int f, .int i4, .ref (bs p), .int (nI n)] [.int (reF (oL f T (fun t => nI (loA A t)) (3 - L) n) f T)] (hW E (wS w 31 S)) r h' → hRun 141 26 [.ref 2, .int s, .int (nI L), .int f, .int i4, .ref (bs p), .int (nI n)] [] (hW E (wS w 31 S)) r h' := by
      intro r h' K
      refine r_step rfl rfl rfl ?_
      refine r_step rfl rfl rfl ?_
      refine r_get rfl rfl rfl ?_
      refine r_get rfl rfl rfl ?_
      refine r_step rfl rfl rfl ?_
      refine w74_ld (p := L) (by omega) rfl ?_
      rw [show 75 + L = 73 + (2 + L) by omega]
      refine r_len rfl (wU_c (by omega) (by omega) _) rfl ?_
      refine r_brF rfl rfl ?_ ?_
      · exact nle (by omega) (by omega)
      refine r_step rfl rfl rfl ?_
      refine r_get rfl rfl rfl ?_
      refine r_get rfl rfl rfl ?_
      refine r_step rfl rfl rfl ?_
      refine w74_ld (p := L) (by omega) rfl ?_
      rw [show 75 + L = 73 + (2 + L) by omega]
      refine r_step rfl rfl rfl ?_
      refine wU_ild (j := 2 + L) (by omega) (by omega) rfl hnl c5 ?_
      refine r_step rfl rfl rfl ?_
      refine r_step rfl rfl rfl ?_
      refine wS_getE (q := p) hp rfl rfl cT ?_
      refine r_callS rfl rfl rfl rfl (c_reaches _ _ _) ?_
      exact K
    by_cases c : reF (oL f T (fun t => nI (loA A t)) (3 - L) n) f T = 0
    · have hR2 : RN ((List.range (n + 1)).filter (ldP f T A (3 - L))) S := by
        rw [List.range_succ, List.filter_append, List.filter_cons_of_neg (by unfold ldP; rw [decide_eq_true_iff]; exact fun z => z c), List.filter_nil, List.append_nil]
        exact hR
      obtain ⟨S', k1⟩ := ih (n + 1) S (by omega) hR2
      refine ⟨S', pre _ _ ?_⟩
      refine r_brT rfl rfl ?_ ?_
      · exact c
      refine r_step rfl rfl rfl ?_
      dsimp only
      rw [nI_1]
      refine r_step rfl rfl rfl ?_
      exact k1
    · have hR2 : RN ((List.range (n + 1)).filter (ldP f T A (3 - L))) (appF S ((List.range n).filter (ldP f T A (3 - L))).length (nI n)) := by
        rw [List.range_succ, List.filter_append, List.filter_cons_of_pos (by unfold ldP; rw [decide_eq_true_iff]; exact c), List.filter_nil]
        exact RN_app hR (by omega)
      obtain ⟨S', k1⟩ := ih (n + 1) _ (by omega) hR2
      refine ⟨S', pre _ _ ?_⟩
      refine r_brF rfl rfl ?_ ?_
      · exact c
      refine r_step rfl rfl rfl ?_
      refine r_get rfl rfl rfl ?_
      refine r_step rfl rfl rfl ?_
      refine wL_call rfl rfl rfl rfl rfl (c_append (n := ((List.range n).filter (ldP f T A (3 - L))).length) (nI n) (by rw [wS_at]; exact hR.1) (by omega)) ?_
      rw [wS_wS, wS_at]
      refine r_step rfl rfl rfl ?_
      dsimp only
      rw [nI_1]
      refine r_step rfl rfl rfl ?_
      exact k1
end XLE
section KLE
variable {h : hH} {M : hT2} {x : Int64}
theorem klead_loop {p L T : Nat} {f i4 : Int32} {A : aS} (hp : p < 6) (hL : L ≤ 3) (hT : M 1 (1148 * p + 3) = nI T) (ho : ∀ n, n < lU (2 + L) → M 6 (n + ofsF L) = oL f (nI T) (fun t => nI (loA A t)) (3 - L) n) : ∀ d n c, n + d = lU (2 + L) → c ≤ n → hRun 254 27 [.ref 281, .int (nI p), .int (nI L), .int f, .int i4, .int (nI c), .int (nI n)] [] (hpM h 281 M x) (some (.int (scA i4 (((List.range (lU (2 + L))).drop n).filter (ldP f (nI T) A (3 - L))) c))) (hpM h 281 M x) := by
  have hl := lU_le (2 + L)
  have hof : ofsF L + lU (2 + L) ≤ 1111 := by
    have : L = 0 ∨ L = 1 ∨ L = 2 ∨ L = 3 := by omega
    rcases this with rfl | rfl | rfl | rfl <;> decide
  have ed : (1000 : Int32) / nI (wdF L) = nI (lU (2 + L)) := by
    have : L = 0 ∨ L = 1 ∨ L = 2 ∨ L = 3 := by omega
    rcases this with rfl | rfl | rfl | rfl <;> decide
  intro d
  induction d with
  | zero =>
    intro n c hn hc
    rw [show n = lU (2 + L) by omega, List.drop_eq_nil_of_le (by rw [List.length_range]; exact Nat.le_refl _), List.filter_nil]
    show hRun _ _ _ _ _ (some (.int (if i4 = -1 then nI c else -1))) _
    refine r_step rfl rfl rfl ?_
    refine r_step rfl rfl rfl ?_
    refine r_step rfl rfl rfl ?_
    refine r_callS rfl rfl rfl rfl (m_wide hL) ?_
    refine r_fw rfl rfl rfl (if_neg (wd_ne L)) ?_
    dsimp only
    rw [ed]
    refine r_brT rfl rfl ?_ ?_
    · exact Int32.le_refl _
    by_cases ci : i4 = -1
    · rw [if_pos ci]
      (repeat (first | refine r_fy rfl rfl rfl rfl ?_ | (refine r_rtE rfl rfl ?_ ?_ ?_ <;> rfl) | refine rM_get rfl rfl ?_ | refine r_brT rfl rfl (by with_reducible first | assumption | rfl | exact nz10 | exact nI_pos (by omega) | exact nI_lt (by omega) (by omega) | exact nI_nlt (by omega) (by omega) | exact nI_le (by omega) (by omega) | exact nI_ge (by omega) (by omega)) ?_ | refine r_brF rfl rfl (by with_reducible first | assumption | rfl | exact nz10 | exact nI_pos (by omega) | exact nI_lt (by omega) (by omega) | exact nI_nlt (by omega) (by omega) | exact nI_le (by omega) (by omega) | exact nI_ge (by omega) (by omega)) ?_ | refine rM_call rfl rfl rfl rfl rfl (k_isThere_t (by with_reducible assumption) (by with_reducible assumption)) ?_ | refine rM_call rfl rfl rfl rfl rfl (k_isThere_f (by with_reducible assumption)) ?_ | refine rM_call rfl rfl rfl rfl rfl (m_manyE (by omega) (by with_reducible assumption)) ?_ | refine rM_call rfl rfl rfl rfl rfl (q_isSummary (by with_reducible assumption)) ?_ | (refine r_callS rfl rfl rfl rfl (m_bank _) ?_; rw [nm1148]) | refine r_callS rfl rfl rfl rfl (q_isThing (by with_reducible assumption)) ?_ | refine r_callS rfl rfl rfl rfl (q_isTop (by with_reducible assumption)) ?_ | refine r_callS rfl rfl rfl rfl (q_isPart (by with_reducible assumption)) ?_ | refine r_callS rfl rfl rfl rfl (q_isIn (by with_reducible assumption) (by decide) (by first | exact lx_m1 (by omega) | decide)) ?_ | refine r_tswd rfl (by with_reducible assumption) ?_ | (simp only [Option.toList, List.drop, List.cons_append, List.nil_append, na0, na1, na2, na3, na4, na5, na6, na7, na8, na16, na88, na148, nm3, nI_add]; refine rM_ildE (j := 1) rfl rfl (show _ < 35588 by omega) (by with_reducible assumption) ?_) | (simp only [Option.toList, List.drop, List.cons_append, List.nil_append, na0, na1, na2, na3, na4, na5, na6, na7, na8, na16, na88, na148, nm3, nI_add]; refine rM_ild (j := 1) rfl rfl (show _ < 35588 by omega) ?_))); try simp only [Option.toList, List.drop, List.cons_append, List.nil_append, na0, na1, na2, na3, na4, na5, na6, na7, na8, na16, na88, na148, nm3, nI_add]
    · rw [if_neg ci]
      (repeat (first | refine r_fy rfl rfl rfl rfl ?_ | (refine r_rtE rfl rfl ?_ ?_ ?_ <;> rfl) | refine rM_get rfl rfl ?_ | refine r_brT rfl rfl (by with_reducible first | assumption | rfl | exact nz10 | exact nI_pos (by omega) | exact nI_lt (by omega) (by omega) | exact nI_nlt (by omega) (by omega) | exact nI_le (by omega) (by omega) | exact nI_ge (by omega) (by omega)) ?_ | refine r_brF rfl rfl (by with_reducible first | assumption | rfl | exact nz10 | exact nI_pos (by omega) | exact nI_lt (by omega) (by omega) | exact nI_nlt (by omega) (by omega) | exact nI_le (by omega) (by omega) | exact nI_ge (by omega) (by omega)) ?_ | refine rM_call rfl rfl rfl rfl rfl (k_isThere_t (by with_reducible assumption) (by with_reducible assumption)) ?_ | refine rM_call rfl rfl rfl rfl rfl (k_isThere_f (by with_reducible assumption)) ?_ | refine rM_call rfl rfl rfl rfl rfl (m_manyE (by omega) (by with_reducible assumption)) ?_ | refine rM_call rfl rfl rfl rfl rfl (q_isSummary (by with_reducible assumption)) ?_ | (refine r_callS rfl rfl rfl rfl (m_bank _) ?_; rw [nm1148]) | refine r_callS rfl rfl rfl rfl (q_isThing (by with_reducible assumption)) ?_ | refine r_callS rfl rfl rfl rfl (q_isTop (by with_reducible assumption)) ?_ | refine r_callS rfl rfl rfl rfl (q_isPart (by with_reducible assumption)) ?_ | refine r_callS rfl rfl rfl rfl (q_isIn (by with_reducible assumption) (by decide) (by first | exact lx_m1 (by omega) | decide)) ?_ | refine r_tswd rfl (by with_reducible assumption) ?_ | (simp only [Option.toList, List.drop, List.cons_append, List.nil_append, na0, na1, na2, na3, na4, na5, na6, na7, na8, na16, na88, na148, nm3, nI_add]; refine rM_ildE (j := 1) rfl rfl (show _ < 35588 by omega) (by with_reducible assumption) ?_) | (simp only [Option.toList, List.drop, List.cons_append, List.nil_append, na0, na1, na2, na3, na4, na5, na6, na7, na8, na16, na88, na148, nm3, nI_add]; refine rM_ild (j := 1) rfl rfl (show _ < 35588 by omega) ?_))); try simp only [Option.toList, List.drop, List.cons_append, List.nil_append, na0, na1, na2, na3, na4, na5, na6, na7, na8, na16, na88, na148, nm3, nI_add]
  | succ d ih =>
    intro n c hn hc
    have hnl : n < lU (2 + L) := by omega
    have hd : (List.range (lU (2 + L))).drop n = n :: (List.range (lU (2 + L))).drop (n + 1) := by
      rw [List.drop_eq_getElem_cons (by rw [List.length_range]; exact hnl), List.getElem_range]
    have hh := m_isHeavy (h := h) (b := 281) (M := M) (x := x) (B := 1148 * p) (oL f (nI T) (fun t => nI (loA A t)) (3 - L) n) f (by omega)
    rw [hT] at hh
    have pre : ∀ r h', hRun 254 44 [.ref 281, .int (nI p), .int (nI L), .int f, .int i4, .int (nI c), .int (nI n)] [.int (reF (oL f (nI T) (fun t => nI (loA A t)) (3 - L) n) f (nI T))] (hpM h 281 M x) r h' → hRun 254 27 [.ref 281, .int (nI p), .int (nI L), .int f, .int i4, .int (nI c), .int (nI n)] [] (hpM h 281 M x) r h' := by
      intro r h' K
      refine r_step rfl rfl rfl ?_
      refine r_step rfl rfl rfl ?_
      refine r_step rfl rfl rfl ?_
      refine r_callS rfl rfl rfl rfl (m_wide hL) ?_
      refine r_fw rfl rfl rfl (if_neg (wd_ne L)) ?_
      dsimp only
      rw [ed]
      refine r_brF rfl rfl ?_ ?_
      · exact nle (by omega) (by omega)
      refine r_step rfl rfl rfl ?_
      refine r_step rfl rfl rfl ?_
      refine r_callS rfl rfl rfl rfl (m_bank _) ?_
      rw [nm1148]
      refine r_step rfl rfl rfl ?_
      refine rM_get rfl rfl ?_
      refine r_step rfl rfl rfl ?_
      refine r_step rfl rfl rfl ?_
      refine r_callS rfl rfl rfl rfl (m_placeOfNode (l := L) hL) ?_
      refine rM_ildE (j := 6) rfl rfl (show n + ofsF L < 1111 by omega) (ho n hnl) ?_
      refine r_step rfl rfl rfl ?_
      refine rM_call rfl rfl rfl rfl rfl hh ?_
      exact K
    refine pre _ _ ?_
    rw [hd]
    by_cases cr : reF (oL f (nI T) (fun t => nI (loA A t)) (3 - L) n) f (nI T) = 0
    · rw [List.filter_cons_of_neg (by unfold ldP; rw [decide_eq_true_iff]; exact fun z => z cr)]
      refine r_brT rfl rfl ?_ ?_
      · exact cr
      refine r_step rfl rfl rfl ?_
      refine r_step rfl rfl rfl ?_
      dsimp only
      rw [nI_1]
      refine r_step rfl rfl rfl ?_
      exact ih (n + 1) c (by omega) (by omega)
    · rw [List.filter_cons_of_pos (by unfold ldP; rw [decide_eq_true_iff]; exact cr)]
      show hRun _ _ _ _ _ (some (.int (if nI c = i4 then nI n else scA i4 (((List.range (lU (2 + L))).drop (n + 1)).filter (ldP f (nI T) A (3 - L))) (c + 1)))) _
      refine r_brF rfl rfl ?_ ?_
      · exact cr
      by_cases cc : nI c = i4
      · rw [if_pos cc]
        (repeat (first | refine r_fy rfl rfl rfl rfl ?_ | (refine r_rtE rfl rfl ?_ ?_ ?_ <;> rfl) | refine rM_get rfl rfl ?_ | refine r_brT rfl rfl (by with_reducible first | assumption | rfl | exact nz10 | exact nI_pos (by omega) | exact nI_lt (by omega) (by omega) | exact nI_nlt (by omega) (by omega) | exact nI_le (by omega) (by omega) | exact nI_ge (by omega) (by omega)) ?_ | refine r_brF rfl rfl (by with_reducible first | assumption | rfl | exact nz10 | exact nI_pos (by omega) | exact nI_lt (by omega) (by omega) | exact nI_nlt (by omega) (by omega) | exact nI_le (by omega) (by omega) | exact nI_ge (by omega) (by omega)) ?_ | refine rM_call rfl rfl rfl rfl rfl (k_isThere_t (by with_reducible assumption) (by with_reducible assumption)) ?_ | refine rM_call rfl rfl rfl rfl rfl (k_isThere_f (by with_reducible assumption)) ?_ | refine rM_call rfl rfl rfl rfl rfl (m_manyE (by omega) (by with_reducible assumption)) ?_ | refine rM_call rfl rfl rfl rfl rfl (q_isSummary (by with_reducible assumption)) ?_ | (refine r_callS rfl rfl rfl rfl (m_bank _) ?_; rw [nm1148]) | refine r_callS rfl rfl rfl rfl (q_isThing (by with_reducible assumption)) ?_ | refine r_callS rfl rfl rfl rfl (q_isTop (by with_reducible assumption)) ?_ | refine r_callS rfl rfl rfl rfl (q_isPart (by with_reducible assumption)) ?_ | refine r_callS rfl rfl rfl rfl (q_isIn (by with_reducible assumption) (by decide) (by first | exact lx_m1 (by omega) | decide)) ?_ | refine r_tswd rfl (by with_reducible assumption) ?_ | (simp only [Option.toList, List.drop, List.cons_append, List.nil_append, na0, na1, na2, na3, na4, na5, na6, na7, na8, na16, na88, na148, nm3, nI_add]; refine rM_ildE (j := 1) rfl rfl (show _ < 35588 by omega) (by with_reducible assumption) ?_) | (simp only [Option.toList, List.drop, List.cons_append, List.nil_append, na0, na1, na2, na3, na4, na5, na6, na7, na8, na16, na88, na148, nm3, nI_add]; refine rM_ild (j := 1) rfl rfl (show _ < 35588 by omega) ?_))); try simp only [Option.toList, List.drop, List.cons_append, List.nil_append, na0, na1, na2, na3, na4, na5, na6, na7, na8, na16, na88, na148, nm3, nI_add]
      · rw [if_neg cc]
        (repeat (first | refine r_fy rfl rfl rfl rfl ?_ | (refine r_rtE rfl rfl ?_ ?_ ?_ <;> rfl) | refine rM_get rfl rfl ?_ | refine r_brT rfl rfl (by with_reducible first | assumption | rfl | exact nz10 | exact nI_pos (by omega) | exact nI_lt (by omega) (by omega) | exact nI_nlt (by omega) (by omega) | exact nI_le (by omega) (by omega) | exact nI_ge (by omega) (by omega)) ?_ | refine r_brF rfl rfl (by with_reducible first | assumption | rfl | exact nz10 | exact nI_pos (by omega) | exact nI_lt (by omega) (by omega) | exact nI_nlt (by omega) (by omega) | exact nI_le (by omega) (by omega) | exact nI_ge (by omega) (by omega)) ?_ | refine rM_call rfl rfl rfl rfl rfl (k_isThere_t (by with_reducible assumption) (by with_reducible assumption)) ?_ | refine rM_call rfl rfl rfl rfl rfl (k_isThere_f (by with_reducible assumption)) ?_ | refine rM_call rfl rfl rfl rfl rfl (m_manyE (by omega) (by with_reducible assumption)) ?_ | refine rM_call rfl rfl rfl rfl rfl (q_isSummary (by with_reducible assumption)) ?_ | (refine r_callS rfl rfl rfl rfl (m_bank _) ?_; rw [nm1148]) | refine r_callS rfl rfl rfl rfl (q_isThing (by with_reducible assumption)) ?_ | refine r_callS rfl rfl rfl rfl (q_isTop (by with_reducible assumption)) ?_ | refine r_callS rfl rfl rfl rfl (q_isPart (by with_reducible assumption)) ?_ | refine r_callS rfl rfl rfl rfl (q_isIn (by with_reducible assumption) (by decide) (by first | exact lx_m1 (by omega) | decide)) ?_ | refine r_tswd rfl (by with_reducible assumption) ?_ | (simp only [Option.toList, List.drop, List.cons_append, List.nil_append, na0, na1, na2, na3, na4, na5, na6, na7, na8, na16, na88, na148, nm3, nI_add]; refine rM_ildE (j := 1) rfl rfl (show _ < 35588 by omega) (by with_reducible assumption) ?_) | (simp only [Option.toList, List.drop, List.cons_append, List.nil_append, na0, na1, na2, na3, na4, na5, na6, na7, na8, na16, na88, na148, nm3, nI_add]; refine rM_ild (j := 1) rfl rfl (show _ < 35588 by omega) ?_))); try simp only [Option.toList, List.drop, List.cons_append, List.nil_append, na0, na1, na2, na3, na4, na5, na6, na7, na8, na16, na88, na148, nm3, nI_add]
        refine r_step rfl rfl rfl ?_
        exact ih (n + 1) (c + 1) (by omega) (by omega)
end KLE
section CE6
variable {J : Nat} {E : hEn} {w : hWo}
theorem A_leading (I : Iv J w.1 w.2.2.2) (s l f i : Int32) : Ans J 141 254 [.ref 2, .int s, .int l, .int f, .int i, hU, hU] [.ref 281, .int s, .int l, .int f, .int i, hU, hU] E w := by
  obtain ⟨M, hMd⟩ : ∃ M, M = s2 (w.1 36) 0 0 0 := ⟨_, rfl⟩
  rcases stand I hMd s with ⟨p, A, hp, rfl, hG, hS, hM⟩ | ⟨hno, hnm⟩
  · have hS0 := hS.1
    have hM0 := hM.1
    have hBp : 1148 * p + 1148 ≤ 35588 := by omega
    have h24 : A.2.1.length ≤ 24 := Nat.le_trans hG.1.2.2 hG.1.2.1
    have hn := hS.2.1.2.1
    have hm : M 1 (1148 * p + 2) = nI A.2.1.length := hM.2.1.2.1
    rcases rg_01 l 0 3 with hl | hl
    · rcases rg_01 f 1 1000 with hf | hf
      · refine Ans_3 (v := -1) (u := -1) hMd I rfl rfl rfl rfl ?_ ?_ rfl
        · (repeat (first | refine r_fy rfl rfl rfl rfl ?_ | (refine r_rtE rfl rfl ?_ ?_ ?_ <;> rfl) | refine r_get rfl rfl rfl ?_ | refine wS_getE (by omega) rfl rfl (by with_reducible assumption) ?_ | refine wS_get (by omega) rfl rfl ?_ | refine r_brT rfl rfl (by with_reducible first | assumption | rfl | exact nz10 | exact nI_pos (by omega) | exact nI_lt (by omega) (by omega) | exact nI_nlt (by omega) (by omega) | exact nI_le (by omega) (by omega) | exact nI_ge (by omega) (by omega)) ?_ | refine r_brF rfl rfl (by with_reducible first | assumption | rfl | exact nz10 | exact nI_pos (by omega) | exact nI_lt (by omega) (by omega) | exact nI_nlt (by omega) (by omega) | exact nI_le (by omega) (by omega) | exact nI_ge (by omega) (by omega)) ?_ | refine wH_call rfl rfl rfl rfl rfl (x_standing_t (by with_reducible assumption) (by with_reducible assumption)) ?_ | refine wH_call rfl rfl rfl rfl rfl (x_standing_f (by with_reducible assumption)) ?_ | refine r_callS rfl rfl rfl rfl (p_isSummary (by with_reducible assumption)) ?_ | refine r_callS rfl rfl rfl rfl (p_isThing (by with_reducible assumption)) ?_ | refine r_callS rfl rfl rfl rfl (p_isRoom (by with_reducible assumption)) ?_ | refine r_callS rfl rfl rfl rfl (p_isTop (by with_reducible assumption)) ?_ | refine r_callS rfl rfl rfl rfl (p_isWeight (by with_reducible assumption)) ?_ | refine r_callS rfl rfl rfl rfl (p_isShare (by with_reducible assumption)) ?_ | refine r_callS rfl rfl rfl rfl (p_isWindow (by with_reducible assumption)) ?_ | refine r_callS rfl rfl rfl rfl (p_isImage (by with_reducible assumption)) ?_ | refine r_tswd rfl (by with_reducible assumption) ?_ | refine wS_ild (by omega) rfl rfl (by first | assumption | omega | (simp only [lS]; omega)) ?_)); try dsimp only
        · (repeat (first | refine r_fy rfl rfl rfl rfl ?_ | (refine r_rtE rfl rfl ?_ ?_ ?_ <;> rfl) | refine rM_get rfl rfl ?_ | refine r_brT rfl rfl (by with_reducible first | assumption | rfl | exact nz10 | exact nI_pos (by omega) | exact nI_lt (by omega) (by omega) | exact nI_nlt (by omega) (by omega) | exact nI_le (by omega) (by omega) | exact nI_ge (by omega) (by omega)) ?_ | refine r_brF rfl rfl (by with_reducible first | assumption | rfl | exact nz10 | exact nI_pos (by omega) | exact nI_lt (by omega) (by omega) | exact nI_nlt (by omega) (by omega) | exact nI_le (by omega) (by omega) | exact nI_ge (by omega) (by omega)) ?_ | refine rM_call rfl rfl rfl rfl rfl (k_isThere_t (by with_reducible assumption) (by with_reducible assumption)) ?_ | refine rM_call rfl rfl rfl rfl rfl (k_isThere_f (by with_reducible assumption)) ?_ | refine rM_call rfl rfl rfl rfl rfl (m_manyE (by omega) (by with_reducible assumption)) ?_ | refine rM_call rfl rfl rfl rfl rfl (q_isSummary (by with_reducible assumption)) ?_ | (refine r_callS rfl rfl rfl rfl (m_bank _) ?_; rw [nm1148]) | refine r_callS rfl rfl rfl rfl (q_isThing (by with_reducible assumption)) ?_ | refine r_callS rfl rfl rfl rfl (q_isTop (by with_reducible assumption)) ?_ | refine r_callS rfl rfl rfl rfl (q_isPart (by with_reducible assumption)) ?_ | refine r_callS rfl rfl rfl rfl (q_isIn (by with_reducible assumption) (by decide) (by first | exact lx_m1 (by omega) | decide)) ?_ | refine r_tswd rfl (by with_reducible assumption) ?_ | (simp only [Option.toList, List.drop, List.cons_append, List.nil_append, na0, na1, na2, na3, na4, na5, na6, na7, na8, na16, na88, na148, nm3, nI_add]; refine rM_ildE (j := 1) rfl rfl (show _ < 35588 by omega) (by with_reducible assumption) ?_) | (simp only [Option.toList, List.drop, List.cons_append, List.nil_append, na0, na1, na2, na3, na4, na5, na6, na7, na8, na16, na88, na148, nm3, nI_add]; refine rM_ild (j := 1) rfl rfl (show _ < 35588 by omega) ?_))); try simp only [Option.toList, List.drop, List.cons_append, List.nil_append, na0, na1, na2, na3, na4, na5, na6, na7, na8, na16, na88, na148, nm3, nI_add]
      · refine Ans_3 (v := -1) (u := -1) hMd I rfl rfl rfl rfl ?_ ?_ rfl
        · (repeat (first | refine r_fy rfl rfl rfl rfl ?_ | (refine r_rtE rfl rfl ?_ ?_ ?_ <;> rfl) | refine r_get rfl rfl rfl ?_ | refine wS_getE (by omega) rfl rfl (by with_reducible assumption) ?_ | refine wS_get (by omega) rfl rfl ?_ | refine r_brT rfl rfl (by with_reducible first | assumption | rfl | exact nz10 | exact nI_pos (by omega) | exact nI_lt (by omega) (by omega) | exact nI_nlt (by omega) (by omega) | exact nI_le (by omega) (by omega) | exact nI_ge (by omega) (by omega)) ?_ | refine r_brF rfl rfl (by with_reducible first | assumption | rfl | exact nz10 | exact nI_pos (by omega) | exact nI_lt (by omega) (by omega) | exact nI_nlt (by omega) (by omega) | exact nI_le (by omega) (by omega) | exact nI_ge (by omega) (by omega)) ?_ | refine wH_call rfl rfl rfl rfl rfl (x_standing_t (by with_reducible assumption) (by with_reducible assumption)) ?_ | refine wH_call rfl rfl rfl rfl rfl (x_standing_f (by with_reducible assumption)) ?_ | refine r_callS rfl rfl rfl rfl (p_isSummary (by with_reducible assumption)) ?_ | refine r_callS rfl rfl rfl rfl (p_isThing (by with_reducible assumption)) ?_ | refine r_callS rfl rfl rfl rfl (p_isRoom (by with_reducible assumption)) ?_ | refine r_callS rfl rfl rfl rfl (p_isTop (by with_reducible assumption)) ?_ | refine r_callS rfl rfl rfl rfl (p_isWeight (by with_reducible assumption)) ?_ | refine r_callS rfl rfl rfl rfl (p_isShare (by with_reducible assumption)) ?_ | refine r_callS rfl rfl rfl rfl (p_isWindow (by with_reducible assumption)) ?_ | refine r_callS rfl rfl rfl rfl (p_isImage (by with_reducible assumption)) ?_ | refine r_tswd rfl (by with_reducible assumption) ?_ | refine wS_ild (by omega) rfl rfl (by first | assumption | omega | (simp only [lS]; omega)) ?_)); try dsimp only
          refine rF_call rfl rfl rfl rfl rfl rfl (x_isLevel_f hl) ?_
          (repeat (first | refine r_fy rfl rfl rfl rfl ?_ | (refine r_rtE rfl rfl ?_ ?_ ?_ <;> rfl) | refine r_get rfl rfl rfl ?_ | refine wS_getE (by omega) rfl rfl (by with_reducible assumption) ?_ | refine wS_get (by omega) rfl rfl ?_ | refine r_brT rfl rfl (by with_reducible first | assumption | rfl | exact nz10 | exact nI_pos (by omega) | exact nI_lt (by omega) (by omega) | exact nI_nlt (by omega) (by omega) | exact nI_le (by omega) (by omega) | exact nI_ge (by omega) (by omega)) ?_ | refine r_brF rfl rfl (by with_reducible first | assumption | rfl | exact nz10 | exact nI_pos (by omega) | exact nI_lt (by omega) (by omega) | exact nI_nlt (by omega) (by omega) | exact nI_le (by omega) (by omega) | exact nI_ge (by omega) (by omega)) ?_ | refine wH_call rfl rfl rfl rfl rfl (x_standing_t (by with_reducible assumption) (by with_reducible assumption)) ?_ | refine wH_call rfl rfl rfl rfl rfl (x_standing_f (by with_reducible assumption)) ?_ | refine r_callS rfl rfl rfl rfl (p_isSummary (by with_reducible assumption)) ?_ | refine r_callS rfl rfl rfl rfl (p_isThing (by with_reducible assumption)) ?_ | refine r_callS rfl rfl rfl rfl (p_isRoom (by with_reducible assumption)) ?_ | refine r_callS rfl rfl rfl rfl (p_isTop (by with_reducible assumption)) ?_ | refine r_callS rfl rfl rfl rfl (p_isWeight (by with_reducible assumption)) ?_ | refine r_callS rfl rfl rfl rfl (p_isShare (by with_reducible assumption)) ?_ | refine r_callS rfl rfl rfl rfl (p_isWindow (by with_reducible assumption)) ?_ | refine r_callS rfl rfl rfl rfl (p_isImage (by with_reducible assumption)) ?_ | refine r_tswd rfl (by with_reducible assumption) ?_ | refine wS_ild (by omega) rfl rfl (by first | assumption | omega | (simp only [lS]; omega)) ?_)); try dsimp only
        · (repeat (first | refine r_fy rfl rfl rfl rfl ?_ | (refine r_rtE rfl rfl ?_ ?_ ?_ <;> rfl) | refine rM_get rfl rfl ?_ | refine r_brT rfl rfl (by with_reducible first | assumption | rfl | exact nz10 | exact nI_pos (by omega) | exact nI_lt (by omega) (by omega) | exact nI_nlt (by omega) (by omega) | exact nI_le (by omega) (by omega) | exact nI_ge (by omega) (by omega)) ?_ | refine r_brF rfl rfl (by with_reducible first | assumption | rfl | exact nz10 | exact nI_pos (by omega) | exact nI_lt (by omega) (by omega) | exact nI_nlt (by omega) (by omega) | exact nI_le (by omega) (by omega) | exact nI_ge (by omega) (by omega)) ?_ | refine rM_call rfl rfl rfl rfl rfl (k_isThere_t (by with_reducible assumption) (by with_reducible assumption)) ?_ | refine rM_call rfl rfl rfl rfl rfl (k_isThere_f (by with_reducible assumption)) ?_ | refine rM_call rfl rfl rfl rfl rfl (m_manyE (by omega) (by with_reducible assumption)) ?_ | refine rM_call rfl rfl rfl rfl rfl (q_isSummary (by with_reducible assumption)) ?_ | (refine r_callS rfl rfl rfl rfl (m_bank _) ?_; rw [nm1148]) | refine r_callS rfl rfl rfl rfl (q_isThing (by with_reducible assumption)) ?_ | refine r_callS rfl rfl rfl rfl (q_isTop (by with_reducible assumption)) ?_ | refine r_callS rfl rfl rfl rfl (q_isPart (by with_reducible assumption)) ?_ | refine r_callS rfl rfl rfl rfl (q_isIn (by with_reducible assumption) (by decide) (by first | exact lx_m1 (by omega) | decide)) ?_ | refine r_tswd rfl (by with_reducible assumption) ?_ | (simp only [Option.toList, List.drop, List.cons_append, List.nil_append, na0, na1, na2, na3, na4, na5, na6, na7, na8, na16, na88, na148, nm3, nI_add]; refine rM_ildE (j := 1) rfl rfl (show _ < 35588 by omega) (by with_reducible assumption) ?_) | (simp only [Option.toList, List.drop, List.cons_append, List.nil_append, na0, na1, na2, na3, na4, na5, na6, na7, na8, na16, na88, na148, nm3, nI_add]; refine rM_ild (j := 1) rfl rfl (show _ < 35588 by omega) ?_))); try simp only [Option.toList, List.drop, List.cons_append, List.nil_append, na0, na1, na2, na3, na4, na5, na6, na7, na8, na16, na88, na148, nm3, nI_add]
    · rcases rg_01 f 1 1000 with hf | hf
      · refine Ans_3 (v := -1) (u := -1) hMd I rfl rfl rfl rfl ?_ ?_ rfl
        · (repeat (first | refine r_fy rfl rfl rfl rfl ?_ | (refine r_rtE rfl rfl ?_ ?_ ?_ <;> rfl) | refine r_get rfl rfl rfl ?_ | refine wS_getE (by omega) rfl rfl (by with_reducible assumption) ?_ | refine wS_get (by omega) rfl rfl ?_ | refine r_brT rfl rfl (by with_reducible first | assumption | rfl | exact nz10 | exact nI_pos (by omega) | exact nI_lt (by omega) (by omega) | exact nI_nlt (by omega) (by omega) | exact nI_le (by omega) (by omega) | exact nI_ge (by omega) (by omega)) ?_ | refine r_brF rfl rfl (by with_reducible first | assumption | rfl | exact nz10 | exact nI_pos (by omega) | exact nI_lt (by omega) (by omega) | exact nI_nlt (by omega) (by omega) | exact nI_le (by omega) (by omega) | exact nI_ge (by omega) (by omega)) ?_ | refine wH_call rfl rfl rfl rfl rfl (x_standing_t (by with_reducible assumption) (by with_reducible assumption)) ?_ | refine wH_call rfl rfl rfl rfl rfl (x_standing_f (by with_reducible assumption)) ?_ | refine r_callS rfl rfl rfl rfl (p_isSummary (by with_reducible assumption)) ?_ | refine r_callS rfl rfl rfl rfl (p_isThing (by with_reducible assumption)) ?_ | refine r_callS rfl rfl rfl rfl (p_isRoom (by with_reducible assumption)) ?_ | refine r_callS rfl rfl rfl rfl (p_isTop (by with_reducible assumption)) ?_ | refine r_callS rfl rfl rfl rfl (p_isWeight (by with_reducible assumption)) ?_ | refine r_callS rfl rfl rfl rfl (p_isShare (by with_reducible assumption)) ?_ | refine r_callS rfl rfl rfl rfl (p_isWindow (by with_reducible assumption)) ?_ | refine r_callS rfl rfl rfl rfl (p_isImage (by with_reducible assumption)) ?_ | refine r_tswd rfl (by with_reducible assumption) ?_ | refine wS_ild (by omega) rfl rfl (by first | assumption | omega | (simp only [lS]; omega)) ?_)); try dsimp only
        · (repeat (first | refine r_fy rfl rfl rfl rfl ?_ | (refine r_rtE rfl rfl ?_ ?_ ?_ <;> rfl) | refine rM_get rfl rfl ?_ | refine r_brT rfl rfl (by with_reducible first | assumption | rfl | exact nz10 | exact nI_pos (by omega) | exact nI_lt (by omega) (by omega) | exact nI_nlt (by omega) (by omega) | exact nI_le (by omega) (by omega) | exact nI_ge (by omega) (by omega)) ?_ | refine r_brF rfl rfl (by with_reducible first | assumption | rfl | exact nz10 | exact nI_pos (by omega) | exact nI_lt (by omega) (by omega) | exact nI_nlt (by omega) (by omega) | exact nI_le (by omega) (by omega) | exact nI_ge (by omega) (by omega)) ?_ | refine rM_call rfl rfl rfl rfl rfl (k_isThere_t (by with_reducible assumption) (by with_reducible assumption)) ?_ | refine rM_call rfl rfl rfl rfl rfl (k_isThere_f (by with_reducible assumption)) ?_ | refine rM_call rfl rfl rfl rfl rfl (m_manyE (by omega) (by with_reducible assumption)) ?_ | refine rM_call rfl rfl rfl rfl rfl (q_isSummary (by with_reducible assumption)) ?_ | (refine r_callS rfl rfl rfl rfl (m_bank _) ?_; rw [nm1148]) | refine r_callS rfl rfl rfl rfl (q_isThing (by with_reducible assumption)) ?_ | refine r_callS rfl rfl rfl rfl (q_isTop (by with_reducible assumption)) ?_ | refine r_callS rfl rfl rfl rfl (q_isPart (by with_reducible assumption)) ?_ | refine r_callS rfl rfl rfl rfl (q_isIn (by with_reducible assumption) (by decide) (by first | exact lx_m1 (by omega) | decide)) ?_ | refine r_tswd rfl (by with_reducible assumption) ?_ | (simp only [Option.toList, List.drop, List.cons_append, List.nil_append, na0, na1, na2, na3, na4, na5, na6, na7, na8, na16, na88, na148, nm3, nI_add]; refine rM_ildE (j := 1) rfl rfl (show _ < 35588 by omega) (by with_reducible assumption) ?_) | (simp only [Option.toList, List.drop, List.cons_append, List.nil_append, na0, na1, na2, na3, na4, na5, na6, na7, na8, na16, na88, na148, nm3, nI_add]; refine rM_ild (j := 1) rfl rfl (show _ < 35588 by omega) ?_))); try simp only [Option.toList, List.drop, List.cons_append, List.nil_append, na0, na1, na2, na3, na4, na5, na6, na7, na8, na16, na88, na148, nm3, nI_add]
      · have hl' := hl
        obtain ⟨L, rfl, -, hL⟩ := rg_1 (lo := 0) (hi := 3) hl'
        have m2' : M 1 (1148 * p + 3) = nI (A.1 2) := hM.2.1.1 2 (by omega) (by omega) (by omega)
        have s2' : w.1 p 0 2 = nI (A.1 2) := hS.2.1.1 2 (by omega) (by omega) (by omega)
        obtain ⟨w1, k1, k2, k3⟩ := x_grow (E := E) (w := w) (q := p) (f := f) (by omega) hG hS
        have eT : w1.1 p 0 2 = nI (A.1 2) := by rw [k2.1 p (by omega)]; exact s2'
        obtain ⟨S', lp⟩ := lead_loop (E := E) (w := w1) (p := p) (L := L) (f := f) (A := A) (s := nI p) (i4 := i) (by omega) (by omega) h24 eT (fun n hn => k3 L (by omega) n hn) (lU (2 + L)) 0 (s2 (w1.1 31) 0 0 0) (by omega) (RN_0 _)
        obtain ⟨v, j1, j2⟩ := k_owns (h := hW E (wS w1 31 S')) (M := M) (x := w.2.2.1) (B := 1148 * p) (f := f) hG hBp hM m2'
        have lk := klead_loop (h := hW E (wS w1 31 S')) (M := s1 M 6 v) (x := w.2.2.1) (p := p) (L := L) (T := A.1 2) (f := f) (i4 := i) (A := A) hp (by omega) (by rw [s1_row, if_neg (by omega)]; exact m2') (fun n hn => by rw [s1_at]; exact j2 L (by omega) n hn) (lU (2 + L)) 0 0 (by omega) (Nat.le_refl _)
        have hlen := ld_len (f := f) (T := nI (A.1 2)) (A := A) (3 - L) (lU (2 + L))
        refine Ans_w (q0 := 30) (v := tlA ((List.range (lU (2 + L))).filter (ldP f (nI (A.1 2)) A (3 - L))) i) (u := scA i (((List.range (lU (2 + L))).drop 0).filter (ldP f (nI (A.1 2)) A (3 - L))) 0) (w1 := wS w1 31 S') (M' := s1 M 6 v) (x' := w.2.2.1) hMd I rfl rfl rfl rfl (Or.inr rfl) (Wk_S (Sp2_wk k2) (Or.inr (Or.inr rfl)) (by omega)) (fun i _ _ => by rw [s1_row, if_neg (by omega)]) (fun j b1 _ => by rw [s1_row, if_neg (by omega)]) (fun j _ => by rw [s1_row, if_neg (by omega)]) (fun h => absurd h (by omega)) ?_ ?_ ?_
        · clear lk
          (repeat (first | refine r_fy rfl rfl rfl rfl ?_ | (refine r_rtE rfl rfl ?_ ?_ ?_ <;> rfl) | refine r_get rfl rfl rfl ?_ | refine wS_getE (by omega) rfl rfl (by with_reducible assumption) ?_ | refine wS_get (by omega) rfl rfl ?_ | refine r_brT rfl rfl (by with_reducible first | assumption | rfl | exact nz10 | exact nI_pos (by omega) | exact nI_lt (by omega) (by omega) | exact nI_nlt (by omega) (by omega) | exact nI_le (by omega) (by omega) | exact nI_ge (by omega) (by omega)) ?_ | refine r_brF rfl rfl (by with_reducible first | assumption | rfl | exact nz10 | exact nI_pos (by omega) | exact nI_lt (by omega) (by omega) | exact nI_nlt (by omega) (by omega) | exact nI_le (by omega) (by omega) | exact nI_ge (by omega) (by omega)) ?_ | refine wH_call rfl rfl rfl rfl rfl (x_standing_t (by with_reducible assumption) (by with_reducible assumption)) ?_ | refine wH_call rfl rfl rfl rfl rfl (x_standing_f (by with_reducible assumption)) ?_ | refine r_callS rfl rfl rfl rfl (p_isSummary (by with_reducible assumption)) ?_ | refine r_callS rfl rfl rfl rfl (p_isThing (by with_reducible assumption)) ?_ | refine r_callS rfl rfl rfl rfl (p_isRoom (by with_reducible assumption)) ?_ | refine r_callS rfl rfl rfl rfl (p_isTop (by with_reducible assumption)) ?_ | refine r_callS rfl rfl rfl rfl (p_isWeight (by with_reducible assumption)) ?_ | refine r_callS rfl rfl rfl rfl (p_isShare (by with_reducible assumption)) ?_ | refine r_callS rfl rfl rfl rfl (p_isWindow (by with_reducible assumption)) ?_ | refine r_callS rfl rfl rfl rfl (p_isImage (by with_reducible assumption)) ?_ | refine r_tswd rfl (by with_reducible assumption) ?_ | refine wS_ild (by omega) rfl rfl (by first | assumption | omega | (simp only [lS]; omega)) ?_)); try dsimp only
          refine rF_call rfl rfl rfl rfl rfl rfl (x_isLevel_t hL) ?_
          (repeat (first | refine r_fy rfl rfl rfl rfl ?_ | (refine r_rtE rfl rfl ?_ ?_ ?_ <;> rfl) | refine r_get rfl rfl rfl ?_ | refine wS_getE (by omega) rfl rfl (by with_reducible assumption) ?_ | refine wS_get (by omega) rfl rfl ?_ | refine r_brT rfl rfl (by with_reducible first | assumption | rfl | exact nz10 | exact nI_pos (by omega) | exact nI_lt (by omega) (by omega) | exact nI_nlt (by omega) (by omega) | exact nI_le (by omega) (by omega) | exact nI_ge (by omega) (by omega)) ?_ | refine r_brF rfl rfl (by with_reducible first | assumption | rfl | exact nz10 | exact nI_pos (by omega) | exact nI_lt (by omega) (by omega) | exact nI_nlt (by omega) (by omega) | exact nI_le (by omega) (by omega) | exact nI_ge (by omega) (by omega)) ?_ | refine wH_call rfl rfl rfl rfl rfl (x_standing_t (by with_reducible assumption) (by with_reducible assumption)) ?_ | refine wH_call rfl rfl rfl rfl rfl (x_standing_f (by with_reducible assumption)) ?_ | refine r_callS rfl rfl rfl rfl (p_isSummary (by with_reducible assumption)) ?_ | refine r_callS rfl rfl rfl rfl (p_isThing (by with_reducible assumption)) ?_ | refine r_callS rfl rfl rfl rfl (p_isRoom (by with_reducible assumption)) ?_ | refine r_callS rfl rfl rfl rfl (p_isTop (by with_reducible assumption)) ?_ | refine r_callS rfl rfl rfl rfl (p_isWeight (by with_reducible assumption)) ?_ | refine r_callS rfl rfl rfl rfl (p_isShare (by with_reducible assumption)) ?_ | refine r_callS rfl rfl rfl rfl (p_isWindow (by with_reducible assumption)) ?_ | refine r_callS rfl rfl rfl rfl (p_isImage (by with_reducible assumption)) ?_ | refine r_tswd rfl (by with_reducible assumption) ?_ | refine wS_ild (by omega) rfl rfl (by first | assumption | omega | (simp only [lS]; omega)) ?_)); try dsimp only
          refine rF_call rfl rfl rfl rfl rfl rfl k1 ?_
          refine r_step rfl rfl rfl ?_
          refine r_get rfl rfl rfl ?_
          refine wL_call rfl rfl rfl rfl rfl c_empty ?_
          refine r_step rfl rfl rfl ?_
          refine r_step rfl rfl rfl ?_
          exact lp
        · clear lp
          (repeat (first | refine r_fy rfl rfl rfl rfl ?_ | (refine r_rtE rfl rfl ?_ ?_ ?_ <;> rfl) | refine rM_get rfl rfl ?_ | refine r_brT rfl rfl (by with_reducible first | assumption | rfl | exact nz10 | exact nI_pos (by omega) | exact nI_lt (by omega) (by omega) | exact nI_nlt (by omega) (by omega) | exact nI_le (by omega) (by omega) | exact nI_ge (by omega) (by omega)) ?_ | refine r_brF rfl rfl (by with_reducible first | assumption | rfl | exact nz10 | exact nI_pos (by omega) | exact nI_lt (by omega) (by omega) | exact nI_nlt (by omega) (by omega) | exact nI_le (by omega) (by omega) | exact nI_ge (by omega) (by omega)) ?_ | refine rM_call rfl rfl rfl rfl rfl (k_isThere_t (by with_reducible assumption) (by with_reducible assumption)) ?_ | refine rM_call rfl rfl rfl rfl rfl (k_isThere_f (by with_reducible assumption)) ?_ | refine rM_call rfl rfl rfl rfl rfl (m_manyE (by omega) (by with_reducible assumption)) ?_ | refine rM_call rfl rfl rfl rfl rfl (q_isSummary (by with_reducible assumption)) ?_ | (refine r_callS rfl rfl rfl rfl (m_bank _) ?_; rw [nm1148]) | refine r_callS rfl rfl rfl rfl (q_isThing (by with_reducible assumption)) ?_ | refine r_callS rfl rfl rfl rfl (q_isTop (by with_reducible assumption)) ?_ | refine r_callS rfl rfl rfl rfl (q_isPart (by with_reducible assumption)) ?_ | refine r_callS rfl rfl rfl rfl (q_isIn (by with_reducible assumption) (by decide) (by first | exact lx_m1 (by omega) | decide)) ?_ | refine r_tswd rfl (by with_reducible assumption) ?_ | (simp only [Option.toList, List.drop, List.cons_append, List.nil_append, na0, na1, na2, na3, na4, na5, na6, na7, na8, na16, na88, na148, nm3, nI_add]; refine rM_ildE (j := 1) rfl rfl (show _ < 35588 by omega) (by with_reducible assumption) ?_) | (simp only [Option.toList, List.drop, List.cons_append, List.nil_append, na0, na1, na2, na3, na4, na5, na6, na7, na8, na16, na88, na148, nm3, nI_add]; refine rM_ild (j := 1) rfl rfl (show _ < 35588 by omega) ?_))); try simp only [Option.toList, List.drop, List.cons_append, List.nil_append, na0, na1, na2, na3, na4, na5, na6, na7, na8, na16, na88, na148, nm3, nI_add]
          refine rM_call rfl rfl rfl rfl rfl j1 ?_
          refine r_step rfl rfl rfl ?_
          refine r_step rfl rfl rfl ?_
          refine r_step rfl rfl rfl ?_
          refine r_step rfl rfl rfl ?_
          exact lk
        · rw [sc_tl _ (by rw [List.drop_zero]; omega), List.drop_zero]
  · refine Ans_3 (v := -1) (u := -1) hMd I rfl rfl rfl rfl ?_ ?_ rfl
    · (repeat (first | refine r_fy rfl rfl rfl rfl ?_ | (refine r_rtE rfl rfl ?_ ?_ ?_ <;> rfl) | refine r_get rfl rfl rfl ?_ | refine wS_getE (by omega) rfl rfl (by with_reducible assumption) ?_ | refine wS_get (by omega) rfl rfl ?_ | refine r_brT rfl rfl (by with_reducible first | assumption | rfl | exact nz10 | exact nI_pos (by omega) | exact nI_lt (by omega) (by omega) | exact nI_nlt (by omega) (by omega) | exact nI_le (by omega) (by omega) | exact nI_ge (by omega) (by omega)) ?_ | refine r_brF rfl rfl (by with_reducible first | assumption | rfl | exact nz10 | exact nI_pos (by omega) | exact nI_lt (by omega) (by omega) | exact nI_nlt (by omega) (by omega) | exact nI_le (by omega) (by omega) | exact nI_ge (by omega) (by omega)) ?_ | refine wH_call rfl rfl rfl rfl rfl (x_standing_t (by with_reducible assumption) (by with_reducible assumption)) ?_ | refine wH_call rfl rfl rfl rfl rfl (x_standing_f (by with_reducible assumption)) ?_ | refine r_callS rfl rfl rfl rfl (p_isSummary (by with_reducible assumption)) ?_ | refine r_callS rfl rfl rfl rfl (p_isThing (by with_reducible assumption)) ?_ | refine r_callS rfl rfl rfl rfl (p_isRoom (by with_reducible assumption)) ?_ | refine r_callS rfl rfl rfl rfl (p_isTop (by with_reducible assumption)) ?_ | refine r_callS rfl rfl rfl rfl (p_isWeight (by with_reducible assumption)) ?_ | refine r_callS rfl rfl rfl rfl (p_isShare (by with_reducible assumption)) ?_ | refine r_callS rfl rfl rfl rfl (p_isWindow (by with_reducible assumption)) ?_ | refine r_callS rfl rfl rfl rfl (p_isImage (by with_reducible assumption)) ?_ | refine r_tswd rfl (by with_reducible assumption) ?_ | refine wS_ild (by omega) rfl rfl (by first | assumption | omega | (simp only [lS]; omega)) ?_)); try dsimp only
    · (repeat (first | refine r_fy rfl rfl rfl rfl ?_ | (refine r_rtE rfl rfl ?_ ?_ ?_ <;> rfl) | refine rM_get rfl rfl ?_ | refine r_brT rfl rfl (by with_reducible first | assumption | rfl | exact nz10 | exact nI_pos (by omega) | exact nI_lt (by omega) (by omega) | exact nI_nlt (by omega) (by omega) | exact nI_le (by omega) (by omega) | exact nI_ge (by omega) (by omega)) ?_ | refine r_brF rfl rfl (by with_reducible first | assumption | rfl | exact nz10 | exact nI_pos (by omega) | exact nI_lt (by omega) (by omega) | exact nI_nlt (by omega) (by omega) | exact nI_le (by omega) (by omega) | exact nI_ge (by omega) (by omega)) ?_ | refine rM_call rfl rfl rfl rfl rfl (k_isThere_t (by with_reducible assumption) (by with_reducible assumption)) ?_ | refine rM_call rfl rfl rfl rfl rfl (k_isThere_f (by with_reducible assumption)) ?_ | refine rM_call rfl rfl rfl rfl rfl (m_manyE (by omega) (by with_reducible assumption)) ?_ | refine rM_call rfl rfl rfl rfl rfl (q_isSummary (by with_reducible assumption)) ?_ | (refine r_callS rfl rfl rfl rfl (m_bank _) ?_; rw [nm1148]) | refine r_callS rfl rfl rfl rfl (q_isThing (by with_reducible assumption)) ?_ | refine r_callS rfl rfl rfl rfl (q_isTop (by with_reducible assumption)) ?_ | refine r_callS rfl rfl rfl rfl (q_isPart (by with_reducible assumption)) ?_ | refine r_callS rfl rfl rfl rfl (q_isIn (by with_reducible assumption) (by decide) (by first | exact lx_m1 (by omega) | decide)) ?_ | refine r_tswd rfl (by with_reducible assumption) ?_ | (simp only [Option.toList, List.drop, List.cons_append, List.nil_append, na0, na1, na2, na3, na4, na5, na6, na7, na8, na16, na88, na148, nm3, nI_add]; refine rM_ildE (j := 1) rfl rfl (show _ < 35588 by omega) (by with_reducible assumption) ?_) | (simp only [Option.toList, List.drop, List.cons_append, List.nil_append, na0, na1, na2, na3, na4, na5, na6, na7, na8, na16, na88, na148, nm3, nI_add]; refine rM_ild (j := 1) rfl rfl (show _ < 35588 by omega) ?_))); try simp only [Option.toList, List.drop, List.cons_append, List.nil_append, na0, na1, na2, na3, na4, na5, na6, na7, na8, na16, na88, na148, nm3, nI_add]
end CE6
