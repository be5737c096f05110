/-! off: what is told of single things -/
def vOf (A : aS) (m t : Nat) : Int32 := if m = 0 then nI (hiA A t) - nI (A.2.2.1 t) else nI (A.2.2.1 t) - nI (loA A t)
def gOf (A : aS) (m : Nat) : Nat → Nat → Int32 → Int32
  | 0, _, g => g
  | d + 1, t, g => gOf A m d (t + 1) (if t = 0 then vOf A m t else if g ≤ vOf A m t then vOf A m t else g)
def nOf (A : aS) : Nat → Nat → Int32 → Int32
  | 0, _, c => c
  | d + 1, t, c => nOf A d (t + 1) (if hiA A t = A.2.2.1 t ∧ loA A t = A.2.2.1 t then c + 1 else c)
theorem nI_sub0 {a b : Nat} (ha : a < 2 ^ 31) (hb : b < 2 ^ 31) : nI a - nI b = 0 ↔ a = b := by
  rw [Int32.sub_eq_iff_eq_add, Int32.zero_add]
  exact nI_eq ha hb
section KOF
variable {h : hH} {M : hT2} {x : Int64}
theorem koff_loop {B m X Y : Nat} {A : aS} {s : Int32} (hB : B + 1148 ≤ 35588) (hM : RM A (M 1) B) (hG : Gd X Y A) (hX : X < 2 ^ 30) (e4 : ∀ t, t < 1000 → M 1 (B + 148 + t) = nI (A.2.2.1 t)) (hm : m < 3) : ∀ d t g c (z7 z8 z9 : Value), t + d = 1000 → hRun 243 33 [.ref 281, .int s, .int (nI m), .int (nI B), .int g, .int c, .int (nI t), z7, z8, z9] [.int 1000, .int (nI t)] (hpM h 281 M x) (some (.int (if m = 2 then nOf A d t c else gOf A m d t g))) (hpM h 281 M x) := by
  intro d
  induction d with
  | zero =>
    intro t g c z7 z8 z9 ht
    rw [show t = 1000 by omega]
    show hRun _ _ _ _ _ (some (.int (if m = 2 then c else g))) _
    refine r_brT rfl rfl ?_ ?_
    · decide
    by_cases e : m = 2
    · have k : nI m = 2 := by rw [e]; rfl
      rw [if_pos e]
      (repeat (first | refine r_fy rfl rfl rfl rfl ?_ | (refine r_rtE rfl rfl ?_ ?_ ?_ <;> rfl) | refine rM_get rfl rfl ?_ | refine r_brT rfl rfl (by with_reducible first | assumption | rfl | exact nz10 | exact nI_pos (by omega) | exact nI_lt (by omega) (by omega) | exact nI_nlt (by omega) (by omega) | exact nI_le (by omega) (by omega) | exact nI_ge (by omega) (by omega)) ?_ | refine r_brF rfl rfl (by with_reducible first | assumption | rfl | exact nz10 | exact nI_pos (by omega) | exact nI_lt (by omega) (by omega) | exact nI_nlt (by omega) (by omega) | exact nI_le (by omega) (by omega) | exact nI_ge (by omega) (by omega)) ?_ | refine rM_call rfl rfl rfl rfl rfl (k_isThere_t (by with_reducible assumption) (by with_reducible assumption)) ?_ | refine rM_call rfl rfl rfl rfl rfl (k_isThere_f (by with_reducible assumption)) ?_ | refine rM_call rfl rfl rfl rfl rfl (m_manyE (by omega) (by with_reducible assumption)) ?_ | refine rM_call rfl rfl rfl rfl rfl (q_isSummary (by with_reducible assumption)) ?_ | (refine r_callS rfl rfl rfl rfl (m_bank _) ?_; rw [nm1148]) | refine r_callS rfl rfl rfl rfl (q_isThing (by with_reducible assumption)) ?_ | refine r_callS rfl rfl rfl rfl (q_isTop (by with_reducible assumption)) ?_ | refine r_callS rfl rfl rfl rfl (q_isPart (by with_reducible assumption)) ?_ | refine r_callS rfl rfl rfl rfl (q_isIn (by with_reducible assumption) (by decide) (by first | exact lx_m1 (by omega) | decide)) ?_ | refine r_tswd rfl (by with_reducible assumption) ?_ | (simp only [Option.toList, List.drop, List.cons_append, List.nil_append, na0, na1, na2, na3, na4, na5, na6, na7, na8, na16, na88, na148, nm3, nI_add]; refine rM_ildE (j := 1) rfl rfl (show _ < 35588 by omega) (by with_reducible assumption) ?_) | (simp only [Option.toList, List.drop, List.cons_append, List.nil_append, na0, na1, na2, na3, na4, na5, na6, na7, na8, na16, na88, na148, nm3, nI_add]; refine rM_ild (j := 1) rfl rfl (show _ < 35588 by omega) ?_))); try simp only [Option.toList, List.drop, List.cons_append, List.nil_append, na0, na1, na2, na3, na4, na5, na6, na7, na8, na16, na88, na148, nm3, nI_add]
    · have k : ¬ nI m = 2 := fun z => e ((nI_eq (b := 2) (by omega) (by omega)).mp z)
      rw [if_neg e]
      (repeat (first | refine r_fy rfl rfl rfl rfl ?_ | (refine r_rtE rfl rfl ?_ ?_ ?_ <;> rfl) | refine rM_get rfl rfl ?_ | refine r_brT rfl rfl (by with_reducible first | assumption | rfl | exact nz10 | exact nI_pos (by omega) | exact nI_lt (by omega) (by omega) | exact nI_nlt (by omega) (by omega) | exact nI_le (by omega) (by omega) | exact nI_ge (by omega) (by omega)) ?_ | refine r_brF rfl rfl (by with_reducible first | assumption | rfl | exact nz10 | exact nI_pos (by omega) | exact nI_lt (by omega) (by omega) | exact nI_nlt (by omega) (by omega) | exact nI_le (by omega) (by omega) | exact nI_ge (by omega) (by omega)) ?_ | refine rM_call rfl rfl rfl rfl rfl (k_isThere_t (by with_reducible assumption) (by with_reducible assumption)) ?_ | refine rM_call rfl rfl rfl rfl rfl (k_isThere_f (by with_reducible assumption)) ?_ | refine rM_call rfl rfl rfl rfl rfl (m_manyE (by omega) (by with_reducible assumption)) ?_ | refine rM_call rfl rfl rfl rfl rfl (q_isSummary (by with_reducible assumption)) ?_ | (refine r_callS rfl rfl rfl rfl (m_bank _) ?_; rw [nm1148]) | refine r_callS rfl rfl rfl rfl (q_isThing (by with_reducible assumption)) ?_ | refine r_callS rfl rfl rfl rfl (q_isTop (by with_reducible assumption)) ?_ | refine r_callS rfl rfl rfl rfl (q_isPart (by with_reducible assumption)) ?_ | refine r_callS rfl rfl rfl rfl (q_isIn (by with_reducible assumption) (by decide) (by first | exact lx_m1 (by omega) | decide)) ?_ | refine r_tswd rfl (by with_reducible assumption) ?_ | (simp only [Option.toList, List.drop, List.cons_append, List.nil_append, na0, na1, na2, na3, na4, na5, na6, na7, na8, na16, na88, na148, nm3, nI_add]; refine rM_ildE (j := 1) rfl rfl (show _ < 35588 by omega) (by with_reducible assumption) ?_) | (simp only [Option.toList, List.drop, List.cons_append, List.nil_append, na0, na1, na2, na3, na4, na5, na6, na7, na8, na16, na88, na148, nm3, nI_add]; refine rM_ild (j := 1) rfl rfl (show _ < 35588 by omega) ?_))); try simp only [Option.toList, List.drop, List.cons_append, List.nil_append, na0, na1, na2, na3, na4, na5, na6, na7, na8, na16, na88, na148, nm3, nI_add]
  | succ d ih =>
    intro t g c z7 z8 z9 ht
    have ht1 : t < 1000 := by omega
    have c4 := e4 t ht1
    have hb := Gd_all hG ht1
    have T3 : ∀ g' (v9 : Int32), g' = (if t = 0 then vOf A m t else if g ≤ vOf A m t then vOf A m t else g) → hRun 243 68 [.ref 281, .int s, .int (nI m), .int (nI B), .int g', .int c, .int (nI t), .int (nI (hiA A t) - nI (A.2.2.1 t)), .int (nI (A.2.2.1 t) - nI (loA A t)), .int v9] [] (hpM h 281 M x) (some (.int (if m = 2 then nOf A (d + 1) t c else gOf A m (d + 1) t g))) (hpM h 281 M x) := by
      intro g' v9 hg
      rw [nOf, gOf, ← hg]
      by_cases a1 : hiA A t = A.2.2.1 t
      · have b1 : nI (hiA A t) - nI (A.2.2.1 t) = 0 := (nI_sub0 (by omega) (by omega)).mpr a1
        by_cases a2 : loA A t = A.2.2.1 t
        · have b2 : nI (A.2.2.1 t) - nI (loA A t) = 0 := (nI_sub0 (by omega) (by omega)).mpr a2.symm
          rw [if_pos (And.intro a1 a2)]
          (repeat (first | refine r_fy rfl rfl rfl rfl ?_ | (refine r_rtE rfl rfl ?_ ?_ ?_ <;> rfl) | refine rM_get rfl rfl ?_ | refine r_brT rfl rfl (by with_reducible first | assumption | rfl | exact nz10 | exact nI_pos (by omega) | exact nI_lt (by omega) (by omega) | exact nI_nlt (by omega) (by omega) | exact nI_le (by omega) (by omega) | exact nI_ge (by omega) (by omega)) ?_ | refine r_brF rfl rfl (by with_reducible first | assumption | rfl | exact nz10 | exact nI_pos (by omega) | exact nI_lt (by omega) (by omega) | exact nI_nlt (by omega) (by omega) | exact nI_le (by omega) (by omega) | exact nI_ge (by omega) (by omega)) ?_ | refine rM_call rfl rfl rfl rfl rfl (k_isThere_t (by with_reducible assumption) (by with_reducible assumption)) ?_ | refine rM_call rfl rfl rfl rfl rfl (k_isThere_f (by with_reducible assumption)) ?_ | refine rM_call rfl rfl rfl rfl rfl (m_manyE (by omega) (by with_reducible assumption)) ?_ | refine rM_call rfl rfl rfl rfl rfl (q_isSummary (by with_reducible assumption)) ?_ | (refine r_callS rfl rfl rfl rfl (m_bank _) ?_; rw [nm1148]) | refine r_callS rfl rfl rfl rfl (q_isThing (by with_reducible assumption)) ?_ | refine r_callS rfl rfl rfl rfl (q_isTop (by with_reducible assumption)) ?_ | refine r_callS rfl rfl rfl rfl (q_isPart (by with_reducible assumption)) ?_ | refine r_callS rfl rfl rfl rfl (q_isIn (by with_reducible assumption) (by decide) (by first | exact lx_m1 (by omega) | decide)) ?_ | refine r_tswd rfl (by with_reducible assumption) ?_ | (simp only [Option.toList, List.drop, List.cons_append, List.nil_append, na0, na1, na2, na3, na4, na5, na6, na7, na8, na16, na88, na148, nm3, nI_add]; refine rM_ildE (j := 1) rfl rfl (show _ < 35588 by omega) (by with_reducible assumption) ?_) | (simp only [Option.toList, List.drop, List.cons_append, List.nil_append, na0, na1, na2, na3, na4, na5, na6, na7, na8, na16, na88, na148, nm3, nI_add]; refine rM_ild (j := 1) rfl rfl (show _ < 35588 by omega) ?_))); try simp only [Option.toList, List.drop, List.cons_append, List.nil_append, na0, na1, na2, na3, na4, na5, na6, na7, na8, na16, na88, na148, nm3, nI_add]
          first | refine r_callS rfl rfl rfl rfl m_fl0 ?_ | refine r_callS rfl rfl rfl rfl m_fl1 ?_
          (repeat (first | refine r_fy rfl rfl rfl rfl ?_ | (refine r_rtE rfl rfl ?_ ?_ ?_ <;> rfl) | refine rM_get rfl rfl ?_ | refine r_brT rfl rfl (by with_reducible first | assumption | rfl | exact nz10 | exact nI_pos (by omega) | exact nI_lt (by omega) (by omega) | exact nI_nlt (by omega) (by omega) | exact nI_le (by omega) (by omega) | exact nI_ge (by omega) (by omega)) ?_ | refine r_brF rfl rfl (by with_reducible first | assumption | rfl | exact nz10 | exact nI_pos (by omega) | exact nI_lt (by omega) (by omega) | exact nI_nlt (by omega) (by omega) | exact nI_le (by omega) (by omega) | exact nI_ge (by omega) (by omega)) ?_ | refine rM_call rfl rfl rfl rfl rfl (k_isThere_t (by with_reducible assumption) (by with_reducible assumption)) ?_ | refine rM_call rfl rfl rfl rfl rfl (k_isThere_f (by with_reducible assumption)) ?_ | refine rM_call rfl rfl rfl rfl rfl (m_manyE (by omega) (by with_reducible assumption)) ?_ | refine rM_call rfl rfl rfl rfl rfl (q_isSummary (by with_reducible assumption)) ?_ | (refine r_callS rfl rfl rfl rfl (m_bank _) ?_; rw [nm1148]) | refine r_callS rfl rfl rfl rfl (q_isThing (by with_reducible assumption)) ?_ | refine r_callS rfl rfl rfl rfl (q_isTop (by with_reducible assumption)) ?_ | refine r_callS rfl rfl rfl rfl (q_isPart (by with_reducible assumption)) ?_ | refine r_callS rfl rfl rfl rfl (q_isIn (by with_reducible assumption) (by decide) (by first | exact lx_m1 (by omega) | decide)) ?_ | refine r_tswd rfl (by with_reducible assumption) ?_ | (simp only [Option.toList, List.drop, List.cons_append, List.nil_append, na0, na1, na2, na3, na4, na5, na6, na7, na8, na16, na88, na148, nm3, nI_add]; refine rM_ildE (j := 1) rfl rfl (show _ < 35588 by omega) (by with_reducible assumption) ?_) | (simp only [Option.toList, List.drop, List.cons_append, List.nil_append, na0, na1, na2, na3, na4, na5, na6, na7, na8, na16, na88, na148, nm3, nI_add]; refine rM_ild (j := 1) rfl rfl (show _ < 35588 by omega) ?_))); try simp only [Option.toList, List.drop, List.cons_append, List.nil_append, na0, na1, na2, na3, na4, na5, na6, na7, na8, na16, na88, na148, nm3, nI_add]
          refine r_step rfl rfl rfl ?_
          refine r_step rfl rfl rfl ?_
          refine r_step rfl rfl rfl ?_
          exact ih (t + 1) g' (c + 1) _ _ _ (by omega)
        · have b2 : ¬ nI (A.2.2.1 t) - nI (loA A t) = 0 := fun z => a2 ((nI_sub0 (by omega) (by omega)).mp z).symm
          rw [if_neg (fun z : hiA A t = A.2.2.1 t ∧ loA A t = A.2.2.1 t => a2 z.2)]
          (repeat (first | refine r_fy rfl rfl rfl rfl ?_ | (refine r_rtE rfl rfl ?_ ?_ ?_ <;> rfl) | refine rM_get rfl rfl ?_ | refine r_brT rfl rfl (by with_reducible first | assumption | rfl | exact nz10 | exact nI_pos (by omega) | exact nI_lt (by omega) (by omega) | exact nI_nlt (by omega) (by omega) | exact nI_le (by omega) (by omega) | exact nI_ge (by omega) (by omega)) ?_ | refine r_brF rfl rfl (by with_reducible first | assumption | rfl | exact nz10 | exact nI_pos (by omega) | exact nI_lt (by omega) (by omega) | exact nI_nlt (by omega) (by omega) | exact nI_le (by omega) (by omega) | exact nI_ge (by omega) (by omega)) ?_ | refine rM_call rfl rfl rfl rfl rfl (k_isThere_t (by with_reducible assumption) (by with_reducible assumption)) ?_ | refine rM_call rfl rfl rfl rfl rfl (k_isThere_f (by with_reducible assumption)) ?_ | refine rM_call rfl rfl rfl rfl rfl (m_manyE (by omega) (by with_reducible assumption)) ?_ | refine rM_call rfl rfl rfl rfl rfl (q_isSummary (by with_reducible assumption)) ?_ | (refine r_callS rfl rfl rfl rfl (m_bank _) ?_; rw [nm1148]) | refine r_callS rfl rfl rfl rfl (q_isThing (by with_reducible assumption)) ?_ | refine r_callS rfl rfl rfl rfl (q_isTop (by with_reducible assumption)) ?_ | refine r_callS rfl rfl rfl rfl (q_isPart (by with_reducible assumption)) ?_ | refine r_callS rfl rfl rfl rfl (q_isIn (by with_reducible assumption) (by decide) (by first | exact lx_m1 (by omega) | decide)) ?_ | refine r_tswd rfl (by with_reducible assumption) ?_ | (simp only [Option.toList, List.drop, List.cons_append, List.nil_append, na0, na1, na2, na3, na4, na5, na6, na7, na8, na16, na88, na148, nm3, nI_add]; refine rM_ildE (j := 1) rfl rfl (show _ < 35588 by omega) (by with_reducible assumption) ?_) | (simp only [Option.toList, List.drop, List.cons_append, List.nil_append, na0, na1, na2, na3, na4, na5, na6, na7, na8, na16, na88, na148, nm3, nI_add]; refine rM_ild (j := 1) rfl rfl (show _ < 35588 by omega) ?_))); try simp only [Option.toList, List.drop, List.cons_append, List.nil_append, na0, na1, na2, na3, na4, na5, na6, na7, na8, na16, na88, na148, nm3, nI_add]
          first | refine r_callS rfl rfl rfl rfl m_fl0 ?_ | refine r_callS rfl rfl rfl rfl m_fl1 ?_
          (repeat (first | refine r_fy rfl rfl rfl rfl ?_ | (refine r_rtE rfl rfl ?_ ?_ ?_ <;> rfl) | refine rM_get rfl rfl ?_ | refine r_brT rfl rfl (by with_reducible first | assumption | rfl | exact nz10 | exact nI_pos (by omega) | exact nI_lt (by omega) (by omega) | exact nI_nlt (by omega) (by omega) | exact nI_le (by omega) (by omega) | exact nI_ge (by omega) (by omega)) ?_ | refine r_brF rfl rfl (by with_reducible first | assumption | rfl | exact nz10 | exact nI_pos (by omega) | exact nI_lt (by omega) (by omega) | exact nI_nlt (by omega) (by omega) | exact nI_le (by omega) (by omega) | exact nI_ge (by omega) (by omega)) ?_ | refine rM_call rfl rfl rfl rfl rfl (k_isThere_t (by with_reducible assumption) (by with_reducible assumption)) ?_ | refine rM_call rfl rfl rfl rfl rfl (k_isThere_f (by with_reducible assumption)) ?_ | refine rM_call rfl rfl rfl rfl rfl (m_manyE (by omega) (by with_reducible assumption)) ?_ | refine rM_call rfl rfl rfl rfl rfl (q_isSummary (by with_reducible assumption)) ?_ | (refine r_callS rfl rfl rfl rfl (m_bank _) ?_; rw [nm1148]) | refine r_callS rfl rfl rfl rfl (q_isThing (by with_reducible assumption)) ?_ | refine r_callS rfl rfl rfl rfl (q_isTop (by with_reducible assumption)) ?_ | refine r_callS rfl rfl rfl rfl (q_isPart (by with_reducible assumption)) ?_ | refine r_callS rfl rfl rfl rfl (q_isIn (by with_reducible assumption) (by decide) (by first | exact lx_m1 (by omega) | decide)) ?_ | refine r_tswd rfl (by with_reducible assumption) ?_ | (simp only [Option.toList, List.drop, List.cons_append, List.nil_append, na0, na1, na2, na3, na4, na5, na6, na7, na8, na16, na88, na148, nm3, nI_add]; refine rM_ildE (j := 1) rfl rfl (show _ < 35588 by omega) (by with_reducible assumption) ?_) | (simp only [Option.toList, List.drop, List.cons_append, List.nil_append, na0, na1, na2, na3, na4, na5, na6, na7, na8, na16, na88, na148, nm3, nI_add]; refine rM_ild (j := 1) rfl rfl (show _ < 35588 by omega) ?_))); try simp only [Option.toList, List.drop, List.cons_append, List.nil_append, na0, na1, na2, na3, na4, na5, na6, na7, na8, na16, na88, na148, nm3, nI_add]
          rw [Int32.add_zero]
          refine r_step rfl rfl rfl ?_
          refine r_step rfl rfl rfl ?_
          refine r_step rfl rfl rfl ?_
          exact ih (t + 1) g' c _ _ _ (by omega)
      · have b1 : ¬ nI (hiA A t) - nI (A.2.2.1 t) = 0 := fun z => a1 ((nI_sub0 (by omega) (by omega)).mp z)
        rw [if_neg (fun z : hiA A t = A.2.2.1 t ∧ loA A t = A.2.2.1 t => a1 z.1)]
        (repeat (first | refine r_fy rfl rfl rfl rfl ?_ | (refine r_rtE rfl rfl ?_ ?_ ?_ <;> rfl) | refine rM_get rfl rfl ?_ | refine r_brT rfl rfl (by with_reducible first | assumption | rfl | exact nz10 | exact nI_pos (by omega) | exact nI_lt (by omega) (by omega) | exact nI_nlt (by omega) (by omega) | exact nI_le (by omega) (by omega) | exact nI_ge (by omega) (by omega)) ?_ | refine r_brF rfl rfl (by with_reducible first | assumption | rfl | exact nz10 | exact nI_pos (by omega) | exact nI_lt (by omega) (by omega) | exact nI_nlt (by omega) (by omega) | exact nI_le (by omega) (by omega) | exact nI_ge (by omega) (by omega)) ?_ | refine rM_call rfl rfl rfl rfl rfl (k_isThere_t (by with_reducible assumption) (by with_reducible assumption)) ?_ | refine rM_call rfl rfl rfl rfl rfl (k_isThere_f (by with_reducible assumption)) ?_ | refine rM_call rfl rfl rfl rfl rfl (m_manyE (by omega) (by with_reducible assumption)) ?_ | refine rM_call rfl rfl rfl rfl rfl (q_isSummary (by with_reducible assumption)) ?_ | (refine r_callS rfl rfl rfl rfl (m_bank _) ?_; rw [nm1148]) | refine r_callS rfl rfl rfl rfl (q_isThing (by with_reducible assumption)) ?_ | refine r_callS rfl rfl rfl rfl (q_isTop (by with_reducible assumption)) ?_ | refine r_callS rfl rfl rfl rfl (q_isPart (by with_reducible assumption)) ?_ | refine r_callS rfl rfl rfl rfl (q_isIn (by with_reducible assumption) (by decide) (by first | exact lx_m1 (by omega) | decide)) ?_ | refine r_tswd rfl (by with_reducible assumption) ?_ | (simp only [Option.toList, List.drop, List.cons_append, List.nil_append, na0, na1, na2, na3, na4, na5, na6, na7, na8, na16, na88, na148, nm3, nI_add]; refine rM_ildE (j := 1) rfl rfl (show _ < 35588 by omega) (by with_reducible assumption) ?_) | (simp only [Option.toList, List.drop, List.cons_append, List.nil_append, na0, na1, na2, na3, na4, na5, na6, na7, na8, na16, na88, na148, nm3, nI_add]; refine rM_ild (j := 1) rfl rfl (show _ < 35588 by omega) ?_))); try simp only [Option.toList, List.drop, List.cons_append, List.nil_append, na0, na1, na2, na3, na4, na5, na6, na7, na8, na16, na88, na148, nm3, nI_add]
        first | refine r_callS rfl rfl rfl rfl m_fl0 ?_ | refine r_callS rfl rfl rfl rfl m_fl1 ?_
        (repeat (first | refine r_fy rfl rfl rfl rfl ?_ | (refine r_rtE rfl rfl ?_ ?_ ?_ <;> rfl) | refine rM_get rfl rfl ?_ | refine r_brT rfl rfl (by with_reducible first | assumption | rfl | exact nz10 | exact nI_pos (by omega) | exact nI_lt (by omega) (by omega) | exact nI_nlt (by omega) (by omega) | exact nI_le (by omega) (by omega) | exact nI_ge (by omega) (by omega)) ?_ | refine r_brF rfl rfl (by with_reducible first | assumption | rfl | exact nz10 | exact nI_pos (by omega) | exact nI_lt (by omega) (by omega) | exact nI_nlt (by omega) (by omega) | exact nI_le (by omega) (by omega) | exact nI_ge (by omega) (by omega)) ?_ | refine rM_call rfl rfl rfl rfl rfl (k_isThere_t (by with_reducible assumption) (by with_reducible assumption)) ?_ | refine rM_call rfl rfl rfl rfl rfl (k_isThere_f (by with_reducible assumption)) ?_ | refine rM_call rfl rfl rfl rfl rfl (m_manyE (by omega) (by with_reducible assumption)) ?_ | refine rM_call rfl rfl rfl rfl rfl (q_isSummary (by with_reducible assumption)) ?_ | (refine r_callS rfl rfl rfl rfl (m_bank _) ?_; rw [nm1148]) | refine r_callS rfl rfl rfl rfl (q_isThing (by with_reducible assumption)) ?_ | refine r_callS rfl rfl rfl rfl (q_isTop (by with_reducible assumption)) ?_ | refine r_callS rfl rfl rfl rfl (q_isPart (by with_reducible assumption)) ?_ | refine r_callS rfl rfl rfl rfl (q_isIn (by with_reducible assumption) (by decide) (by first | exact lx_m1 (by omega) | decide)) ?_ | refine r_tswd rfl (by with_reducible assumption) ?_ | (simp only [Option.toList, List.drop, List.cons_append, List.nil_append, na0, na1, na2, na3, na4, na5, na6, na7, na8, na16, na88, na148, nm3, nI_add]; refine rM_ildE (j := 1) rfl rfl (show _ < 35588 by omega) (by with_reducible assumption) ?_) | (simp only [Option.toList, List.drop, List.cons_append, List.nil_append, na0, na1, na2, na3, na4, na5, na6, na7, na8, na16, na88, na148, nm3, nI_add]; refine rM_ild (j := 1) rfl rfl (show _ < 35588 by omega) ?_))); try simp only [Option.toList, List.drop, List.cons_append, List.nil_append, na0, na1, na2, na3, na4, na5, na6, na7, na8, na16, na88, na148, nm3, nI_add]
        rw [Int32.add_zero]
        refine r_step rfl rfl rfl ?_
        refine r_step rfl rfl rfl ?_
        refine r_step rfl rfl rfl ?_
        exact ih (t + 1) g' c _ _ _ (by omega)
    clear ih
    have T2 : hRun 243 59 [.ref 281, .int s, .int (nI m), .int (nI B), .int g, .int c, .int (nI t), .int (nI (hiA A t) - nI (A.2.2.1 t)), .int (nI (A.2.2.1 t) - nI (loA A t)), z9] [.int (vOf A m t)] (hpM h 281 M x) (some (.int (if m = 2 then nOf A (d + 1) t c else gOf A m (d + 1) t g))) (hpM h 281 M x) := by
      by_cases e : t = 0
      · have k : nI t = 0 := by rw [e]; rfl
        have := T3 (vOf A m t) (vOf A m t) (by rw [if_pos e])
        refine r_step rfl rfl rfl ?_
        refine r_step rfl rfl rfl ?_
        refine r_brT rfl rfl ?_ ?_
        · exact k
        refine r_step rfl rfl rfl ?_
        refine r_step rfl rfl rfl ?_
        refine r_step rfl rfl rfl ?_
        exact this
      · have k : ¬ nI t = 0 := fun z => e ((nI_eq (b := 0) (by omega) (by omega)).mp z)
        have := T3 (if g ≤ vOf A m t then vOf A m t else g) (vOf A m t) (by rw [if_neg e])
        refine r_step rfl rfl rfl ?_
        refine r_step rfl rfl rfl ?_
        refine r_brF rfl rfl ?_ ?_
        · exact k
        refine r_step rfl rfl rfl ?_
        refine r_step rfl rfl rfl ?_
        refine r_callS rfl rfl rfl rfl (m_greater _ _) ?_
        refine r_step rfl rfl rfl ?_
        exact this
    clear T3
    refine r_brF rfl rfl ?_ ?_
    · exact nle (b := 1000) ht1 (by omega)
    (repeat (first | refine r_fw rfl rfl rfl rfl ?_ | refine rM_get rfl rfl ?_)); try dsimp only
    try simp only [na0, na1, na2, na3, na4, na5, na6, na7, na8, na16, na88, na148, nm3, nI_add]
    refine rM_call rfl rfl rfl rfl rfl (hi_k hM hG hX hB ht1) ?_
    (repeat (first | refine r_fw rfl rfl rfl rfl ?_ | refine rM_get rfl rfl ?_)); try dsimp only
    try simp only [na0, na1, na2, na3, na4, na5, na6, na7, na8, na16, na88, na148, nm3, nI_add]
    refine rM_call rfl rfl rfl rfl rfl (m_truthE ht1 hB c4) ?_
    (repeat (first | refine r_fw rfl rfl rfl rfl ?_ | refine rM_get rfl rfl ?_)); try dsimp only
    try simp only [na0, na1, na2, na3, na4, na5, na6, na7, na8, na16, na88, na148, nm3, nI_add]
    refine rM_call rfl rfl rfl rfl rfl (m_truthE ht1 hB c4) ?_
    (repeat (first | refine r_fw rfl rfl rfl rfl ?_ | refine rM_get rfl rfl ?_)); try dsimp only
    try simp only [na0, na1, na2, na3, na4, na5, na6, na7, na8, na16, na88, na148, nm3, nI_add]
    refine rM_call rfl rfl rfl rfl rfl (lo_k hM hG hX hB ht1) ?_
    refine r_step rfl rfl rfl ?_
    refine r_step rfl rfl rfl ?_
    refine r_step rfl rfl rfl ?_
    by_cases e : m = 0
    · have k : nI m = 0 := by rw [e]; rfl
      rw [show vOf A m t = nI (hiA A t) - nI (A.2.2.1 t) from if_pos e] at T2
      refine r_brT rfl rfl ?_ ?_
      · exact k
      refine r_step rfl rfl rfl ?_
      refine r_step rfl rfl rfl ?_
      exact T2
    · have k : ¬ nI m = 0 := fun z => e ((nI_eq (b := 0) (by omega) (by omega)).mp z)
      rw [show vOf A m t = nI (A.2.2.1 t) - nI (loA A t) from if_neg e] at T2
      refine r_brF rfl rfl ?_ ?_
      · exact k
      refine r_step rfl rfl rfl ?_
      exact T2
end KOF
section XOF
variable {E : hEn} {w : hWo}
theorem less_loop {a b : Nat} {fa fb : Nat → Int32} (ha : (hW E w).2.2 a = .inr (0, 1000, .inl fa)) (hb : (hW E w).2.2 b = .inr (0, 1000, .inl fb)) {A : aS} {m : Nat} (hv : ∀ t, t < 1000 → fa t - fb t = vOf A m t) : ∀ d t g, t + d = 1000 → 1 ≤ t → hRun 134 12 [.ref a, .ref b, .int g, .int (nI t)] [.int 1000, .int (nI t)] (hW E w) (some (.int (gOf A m d t g))) (hW E w) := by
  intro d
  induction d with
  | zero =>
    intro t g ht h1
    rw [show t = 1000 by omega]
    refine r_brT rfl rfl ?_ ?_
    · decide
    refine r_step rfl rfl rfl ?_
    (refine r_rtE rfl rfl ?_ ?_ ?_ <;> rfl)
  | succ d ih =>
    intro t g ht h1
    have ht1 : t < 1000 := by omega
    have e := hv t ht1
    have hg : gOf A m (d + 1) t g = gOf A m d (t + 1) (if g ≤ vOf A m t then vOf A m t else g) := by
      rw [gOf, if_neg (show ¬ t = 0 by omega)]
    refine r_brF rfl rfl ?_ ?_
    · exact nle (b := 1000) ht1 (by omega)
    refine r_step rfl rfl rfl ?_
    refine r_step rfl rfl rfl ?_
    refine r_step rfl rfl rfl ?_
    refine r_ild rfl ha rfl ht1 (by omega) ?_
    refine r_step rfl rfl rfl ?_
    refine r_step rfl rfl rfl ?_
    refine r_ild rfl hb rfl ht1 (by omega) ?_
    refine r_step rfl rfl rfl ?_
    dsimp only
    rw [e]
    have mx : (if g < vOf A m t then vOf A m t else g) = if g ≤ vOf A m t then vOf A m t else g := by
      by_cases q : g < vOf A m t
      · rw [if_pos q, if_pos (Int32.le_of_lt q)]
      · rw [if_neg q]
        by_cases q2 : g ≤ vOf A m t
        · rw [if_pos q2]
          exact Int32.le_antisymm q2 (Int32.not_lt.mp q)
        · rw [if_neg q2]
    refine r_callS rfl rfl rfl rfl (c_max _ _) ?_
    rw [hg, mx]
    refine r_step rfl rfl rfl ?_
    refine r_step rfl rfl rfl ?_
    dsimp only
    rw [nI_1]
    refine r_step rfl rfl rfl ?_
    refine r_step rfl rfl rfl ?_
    refine r_step rfl rfl rfl ?_
    exact ih (t + 1) _ (by omega) (by omega)
theorem just_loop {p : Nat} {A : aS} (hp : p < 31) (hb : ∀ t, t < 1000 → A.2.2.1 t < 2 ^ 31 ∧ hiA A t < 2 ^ 31 ∧ loA A t < 2 ^ 31) (e4 : ∀ t, t < 1000 → w.1 p 4 t = nI (A.2.2.1 t)) (e67 : ∀ t, t < 1000 → w.1 35 6 t = nI (hiA A t) ∧ w.1 35 7 t = nI (loA A t)) : ∀ d t c, t + d = 1000 → hRun 135 6 [.ref 2, .ref (bs p), .int c, .int (nI t)] [.int 1000, .int (nI t)] (hW E w) (some (.int (nOf A d t c))) (hW E w) := by
  intro d
  induction d with
  | zero =>
    intro t c ht
    rw [show t = 1000 by omega]
    refine r_brT rfl rfl ?_ ?_
    · decide
    refine r_step rfl rfl rfl ?_
    (refine r_rtE rfl rfl ?_ ?_ ?_ <;> rfl)
  | succ d ih =>
    intro t c ht
    have ht1 : t < 1000 := by omega
    have c4 := e4 t ht1
    obtain ⟨c6, c7⟩ := e67 t ht1
    obtain ⟨b1, b2, b3⟩ := hb t ht1
    refine r_brF rfl rfl ?_ ?_
    · exact nle (b := 1000) ht1 (by omega)
    refine r_step rfl rfl rfl ?_
    refine r_get rfl rfl rfl ?_
    refine r_step rfl rfl rfl ?_
    refine wU_ild (j := 6) (by omega) (by omega) rfl (show t < 1000 from ht1) c6 ?_
    refine r_step rfl rfl rfl ?_
    refine wS_get (q := p) hp rfl rfl ?_
    refine r_step rfl rfl rfl ?_
    refine wS_ildE (q := p) (j := 4) hp rfl rfl (show t < 1000 from ht1) c4 ?_
    by_cases a1 : hiA A t = A.2.2.1 t
    · have k1 : nI (hiA A t) = nI (A.2.2.1 t) := by rw [a1]
      refine r_brT rfl rfl ?_ ?_
      · exact k1
      refine r_step rfl rfl rfl ?_
      refine r_get rfl rfl rfl ?_
      refine r_step rfl rfl rfl ?_
      refine wU_ild (j := 7) (by omega) (by omega) rfl (show t < 1000 from ht1) c7 ?_
      refine r_step rfl rfl rfl ?_
      refine wS_get (q := p) hp rfl rfl ?_
      refine r_step rfl rfl rfl ?_
      refine wS_ildE (q := p) (j := 4) hp rfl rfl (show t < 1000 from ht1) c4 ?_
      by_cases a2 : loA A t = A.2.2.1 t
      · have k2 : nI (loA A t) = nI (A.2.2.1 t) := by rw [a2]
        rw [nOf, if_pos (And.intro a1 a2)]
        refine r_brT rfl rfl ?_ ?_
        · exact k2
        refine r_step rfl rfl rfl ?_
        refine r_step rfl rfl rfl ?_
        dsimp only
        rw [nI_1]
        refine r_step rfl rfl rfl ?_
        refine r_step rfl rfl rfl ?_
        refine r_step rfl rfl rfl ?_
        exact ih (t + 1) (c + 1) (by omega)
      · have k2 : ¬ nI (loA A t) = nI (A.2.2.1 t) := fun z => a2 ((nI_eq b3 b1).mp z)
        rw [nOf, if_neg (fun z : hiA A t = A.2.2.1 t ∧ loA A t = A.2.2.1 t => a2 z.2)]
        refine r_brF rfl rfl ?_ ?_
        · exact k2
        refine r_step rfl rfl rfl ?_
        dsimp only
        rw [nI_1]
        refine r_step rfl rfl rfl ?_
        refine r_step rfl rfl rfl ?_
        refine r_step rfl rfl rfl ?_
        exact ih (t + 1) c (by omega)
    · have k1 : ¬ nI (hiA A t) = nI (A.2.2.1 t) := fun z => a1 ((nI_eq b2 b1).mp z)
      rw [nOf, if_neg (fun z : hiA A t = A.2.2.1 t ∧ loA A t = A.2.2.1 t => a1 z.1)]
      refine r_brF rfl rfl ?_ ?_
      · exact k1
      refine r_step rfl rfl rfl ?_
      dsimp only
      rw [nI_1]
      refine r_step rfl rfl rfl ?_
      refine r_step rfl rfl rfl ?_
      refine r_step rfl rfl rfl ?_
      exact ih (t + 1) c (by omega)
end XOF
