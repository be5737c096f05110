/-! read: the counters -/
def cN (x : Int32) : Nat := x.toNatClampNeg
def ahD (D : List aK) : Nat := if D.length = 0 then 1 else (gC D (D.length - 1)).2.1
def rdK (F : Nat → Int32) (tt k : Nat) (D : List aK) : Int32 := if rgI (rT F k) 0 999 = 0 ∨ fiA D (cN (rT F k)) < D.length then 5 else if rC F k < nI (ahD D) ∨ nI tt < rC F k then 6 else if rgI (rL F k) 0 (rC F k).toInt = 0 then 7 else if tt < lwS D + cN (rL F k) then 8 else 0
def rdN (F : Nat → Int32) (k : Nat) (D : List aK) : List aK := puA D (cN (rT F k), cN (rC F k), cN (rL F k))
def rdS (F : Nat → Int32) (tt : Nat) : Nat → Nat → List aK → (Nat → Nat) → Int32 × Nat × List aK × (Nat → Nat)
  | 0, k, D, U => (0, k, D, U)
  | d + 1, k, D, U => if rdK F tt k D = 0 then rdS F tt d (k + 1) (rdN F k D) (uN U (cN (rT F k)) (cN (rL F k))) else (rdK F tt k D, k, D, U)
def IR (F : Nat → Int32) (tt k : Nat) (D : List aK) (U : Nat → Nat) : Prop := D.length = k ∧ Gc tt D ∧ (∀ t, t < 1000 → (fiA D t < D.length ↔ ∃ j, j < k ∧ rT F j = nI t)) ∧ sm U 1000 ≤ lwS D
theorem fi_mem {C : List aK} {t : Nat} : fiA C t < C.length ↔ ∃ c, c ∈ C ∧ c.1 = t := by
  constructor
  · intro h
    exact ⟨_, gC_mem h, fiA_at h⟩
  · intro ⟨c, h1, h2⟩
    obtain ⟨p, hp, rfl⟩ := gC_ex h1
    by_cases q : fiA C t < C.length
    · exact q
    · exact absurd h2 (fiA_ne (by omega))
theorem pu_memI {D : List aK} {x y : aK} : y ∈ puA D x ↔ y = x ∨ y ∈ D := by
  rw [show y ∈ puA D x ↔ y ∈ x :: D from (inA_perm D _ x).mem_iff, List.mem_cons]
theorem ahD_1 {tt : Nat} {D : List aK} (h : Gc tt D) : 1 ≤ ahD D := by
  unfold ahD
  by_cases q : D.length = 0
  · rw [if_pos q]
    exact Nat.le_refl _
  · rw [if_neg q]
    exact (Gc_at h (by omega)).2.1
theorem ahD_b {tt : Nat} {D : List aK} (h : Gc tt D) (ht : tt ≤ 1000000000) : ahD D ≤ 1000000000 := by
  unfold ahD
  by_cases q : D.length = 0
  · rw [if_pos q]
    omega
  · rw [if_neg q]
    have := (Gc_at h (show D.length - 1 < D.length by omega)).2.2.1
    omega
theorem pu_last {D : List aK} {t c l : Nat} (h : ahD D ≤ c) : ahD (puA D (t, c, l)) = c := by
  have e : bhA D c D.length = D.length := by
    cases q : D.length with
    | zero => rfl
    | succ n =>
      unfold ahD at h
      rw [q, if_neg (by omega), Nat.add_sub_cancel] at h
      rw [bhA, if_pos h]
  unfold ahD
  rw [puA_len, if_neg (by omega), Nat.add_sub_cancel]
  unfold puA
  try dsimp only
  rw [gC_in (bhA_le _ _ _), e, if_neg (by omega), if_pos rfl]
theorem IR_s {F : Nat → Int32} {tt k : Nat} {D : List aK} {U : Nat → Nat} (h : IR F tt k D U) (htt : tt ≤ 1000000000) (hk : rdK F tt k D = 0) : ∃ t c l, rT F k = nI t ∧ rC F k = nI c ∧ rL F k = nI l ∧ t < 1000 ∧ ¬ fiA D t < D.length ∧ 1 ≤ c ∧ c ≤ tt ∧ l ≤ c ∧ lwS D + l ≤ tt ∧ ahD D ≤ c ∧ rdN F k D = puA D (t, c, l) ∧ uN U (cN (rT F k)) (cN (rL F k)) = uN U t l ∧ IR F tt (k + 1) (puA D (t, c, l)) (uN U t l) ∧ lwS (puA D (t, c, l)) = lwS D + l := by
  obtain ⟨h1, h2, h3, h4⟩ := h
  unfold rdK at hk
  by_cases c5 : rgI (rT F k) 0 999 = 0 ∨ fiA D (cN (rT F k)) < D.length
  · rw [if_pos c5] at hk
    exact absurd hk (by decide)
  rw [if_neg c5] at hk
  by_cases c6 : rC F k < nI (ahD D) ∨ nI tt < rC F k
  · rw [if_pos c6] at hk
    exact absurd hk (by decide)
  rw [if_neg c6] at hk
  by_cases c7 : rgI (rL F k) 0 (rC F k).toInt = 0
  · rw [if_pos c7] at hk
    exact absurd hk (by decide)
  rw [if_neg c7] at hk
  by_cases c8 : tt < lwS D + cN (rL F k)
  · rw [if_pos c8] at hk
    exact absurd hk (by decide)
  have ha1 := ahD_1 h2
  have hab := ahD_b h2 htt
  obtain ⟨t, et, -, ht⟩ := rg_1 (lo := 0) (hi := 999) ((rg_01 (rT F k) 0 999).resolve_left (fun z => c5 (Or.inl z)))
  have c6a : nI (ahD D) ≤ rC F k := Int32.not_lt.mp (fun z => c6 (Or.inl z))
  have c6b : rC F k ≤ nI tt := Int32.not_lt.mp (fun z => c6 (Or.inr z))
  have hc0 : ¬ rC F k < 0 := by
    rw [Int32.lt_iff_toInt_lt, Int32.toInt_zero]
    rw [Int32.le_iff_toInt_le, nI_toInt (by omega)] at c6a
    omega
  obtain ⟨c, hc, ec⟩ := nI_of hc0
  rw [ec] at c6a c6b
  have c1 := (nI_leI (by omega) hc).mp c6a
  have c2 := (nI_leI hc (by omega)).mp c6b
  have c7' : ¬ (rL F k < 0 ∨ rC F k < rL F k) := fun z => c7 ((rg_c1 _ _).mpr z)
  obtain ⟨l, hl, el⟩ := nI_of (fun z => c7' (Or.inl z))
  have c7b : rL F k ≤ rC F k := Int32.not_lt.mp (fun z => c7' (Or.inr z))
  rw [ec, el] at c7b
  have c3 := (nI_leI hl hc).mp c7b
  have kt : cN (rT F k) = t := by unfold cN; rw [et, nI_clamp (by omega)]
  have kc : cN (rC F k) = c := by unfold cN; rw [ec, nI_clamp hc]
  have kl : cN (rL F k) = l := by unfold cN; rw [el, nI_clamp hl]
  rw [kl] at c8
  have c5' : ¬ fiA D t < D.length := fun z => c5 (Or.inr (by rw [kt]; exact z))
  have hn : ∀ y, y ∈ D → y.1 ≠ t := fun y hy z => c5' (fi_mem.mpr ⟨y, hy, z⟩)
  have hlw : lwS (puA D (t, c, l)) = lwS D + l := by
    rw [show lwS (puA D (t, c, l)) = lwS ((t, c, l) :: D) from lwS_perm (inA_perm D _ _), lwS_cons]
    exact Nat.add_comm _ _
  refine ⟨t, c, l, et, ec, el, by omega, c5', by omega, c2, c3, by omega, c1, ?_, ?_, ⟨?_, ?_, ?_, ?_⟩, hlw⟩
  · unfold rdN
    rw [kt, kc, kl]
  · rw [kt, kl]
  · rw [puA_len, h1]
  · exact Gc_pu h2 (by omega) hn (by omega) c2 c3 (by omega)
  · intro s hs
    have h3s := h3 s hs
    rw [fi_mem] at h3s ⊢
    constructor
    · intro ⟨y, y1, y2⟩
      rcases pu_memI.mp y1 with rfl | y1
      · exact ⟨k, by omega, by rw [et]; exact congrArg nI y2⟩
      · obtain ⟨j, j1, j2⟩ := h3s.mp ⟨y, y1, y2⟩
        exact ⟨j, by omega, j2⟩
    · intro ⟨j, j1, j2⟩
      by_cases q : j = k
      · rw [q, et] at j2
        exact ⟨(t, c, l), pu_memI.mpr (Or.inl rfl), (nI_eq (by omega) (by omega)).mp j2⟩
      · obtain ⟨y, y1, y2⟩ := h3s.mpr ⟨j, by omega, j2⟩
        exact ⟨y, pu_memI.mpr (Or.inr y1), y2⟩
  · have := sm_uN (f := U) (t := t) (v := l) (n := 1000) (by omega)
    rw [hlw]
    omega
theorem nw_5 {F : Nat → Int32} {tt k : Nat} {D : List aK} {U : Nat → Nat} (h : IR F tt k D U) : nwF F (rT F k) k 0 = 0 ↔ (rgI (rT F k) 0 999 = 0 ∨ fiA D (cN (rT F k)) < D.length) := by
  have key : ∀ d j, j + d = k → (nwF F (rT F k) d j = 0 ↔ rgI (rT F k) 0 999 = 0 ∨ ∃ i, j ≤ i ∧ i < k ∧ rT F i = rT F k) := by
    intro d
    induction d with
    | zero =>
      intro j hj
      rw [nwF]
      constructor
      · intro z; exact Or.inl z
      · rintro (z | ⟨i, i1, i2, -⟩)
        · exact z
        · omega
    | succ d ih =>
      intro j hj
      rw [nwF]
      by_cases q : rT F j = rT F k
      · rw [if_pos q]
        exact ⟨fun _ => Or.inr ⟨j, Nat.le_refl _, by omega, q⟩, fun _ => rfl⟩
      · rw [if_neg q, ih (j + 1) (by omega)]
        constructor
        · rintro (z | ⟨i, i1, i2, i3⟩)
          · exact Or.inl z
          · exact Or.inr ⟨i, by omega, i2, i3⟩
        · rintro (z | ⟨i, i1, i2, i3⟩)
          · exact Or.inl z
          · by_cases e : i = j
            · rw [e] at i3
              exact absurd i3 q
            · exact Or.inr ⟨i, by omega, i2, i3⟩
  rw [key k 0 (by omega)]
  by_cases q : rgI (rT F k) 0 999 = 0
  · exact ⟨fun _ => Or.inl q, fun _ => Or.inl q⟩
  · obtain ⟨t, et, -, ht⟩ := rg_1 (lo := 0) (hi := 999) ((rg_01 (rT F k) 0 999).resolve_left q)
    have kt : cN (rT F k) = t := by unfold cN; rw [et, nI_clamp (by omega)]
    have h3 := h.2.2.1 t (by omega)
    rw [kt, h3, et]
    constructor
    · rintro (z | ⟨i, -, i2, i3⟩)
      · exact Or.inl z
      · exact Or.inr ⟨i, i2, i3⟩
    · rintro (z | ⟨i, i2, i3⟩)
      · exact Or.inl z
      · exact Or.inr ⟨i, Nat.zero_le _, i2, i3⟩
section RXC
variable {E : hEn} {w : hWo} {N : Nat} {F : Nat → Int32}
set_option maxHeartbeats 4000000 in
theorem cnt_loop {m tt : Nat} (hT : TpC w N F) (hm : m ≤ 24) (htt : tt ≤ 1000000000) : ∀ d k D U (z7 z8 z9 : Value), k + d = m → IR F tt k D U → hRun 18 16 [.ref 59, .ref 57, .int (nI m), .int (nI tt), .int (nI (ahD D)), .long (lN (lwS D)), hU, .int (nI k), z7, z8, z9] [] (hW E w) (some (.int (if (rdS F tt d k D U).1 = 0 then 1 else 0))) (hW E (if (rdS F tt d k D U).1 = 0 then w else wFl w (rdS F tt d k D U).1 (nI (14 + 10 * (rdS F tt d k D U).2.1)))) := by
  intro d
  induction d with
  | zero =>
    intro k D U z7 z8 z9 hk hI
    rw [rdS, if_pos rfl, if_pos rfl]
    refine r_step rfl rfl rfl ?_
    refine r_step rfl rfl rfl ?_
    refine r_brT rfl rfl ?_ ?_
    · exact nI_le (by omega) (by omega)
    refine r_step rfl rfl rfl ?_
    (refine r_rtE rfl rfl ?_ ?_ ?_ <;> rfl)
  | succ d ih =>
    intro k D U z7 z8 z9 hk hI
    have h5 := nw_5 hI
    refine r_step rfl rfl rfl ?_
    refine r_step rfl rfl rfl ?_
    refine r_brF rfl rfl ?_ ?_
    · exact nle (by omega) (by omega)
    refine r_step rfl rfl rfl ?_
    refine r_step rfl rfl rfl ?_
    refine r_step rfl rfl rfl ?_
    refine r_step rfl rfl rfl ?_
    refine r_step rfl rfl rfl ?_
    try dsimp only
    rw [at14]
    refine r_step rfl rfl rfl ?_
    refine r_step rfl rfl rfl ?_
    refine r_step rfl rfl rfl ?_
    refine r_step rfl rfl rfl ?_
    refine r_step rfl rfl rfl ?_
    try dsimp only
    rw [na2]
    refine r_step rfl rfl rfl ?_
    refine wT_num (n := 4) rfl hT (by omega) (by omega) rfl ?_
    rw [show nuF F (14 + 10 * k + 2) 4 0 = rC F k from rfl]
    refine r_step rfl rfl rfl ?_
    refine r_step rfl rfl rfl ?_
    refine r_step rfl rfl rfl ?_
    refine r_step rfl rfl rfl ?_
    refine r_step rfl rfl rfl ?_
    try dsimp only
    rw [na6]
    refine r_step rfl rfl rfl ?_
    refine wT_num (n := 4) rfl hT (by omega) (by omega) rfl ?_
    rw [show nuF F (14 + 10 * k + 6) 4 0 = rL F k from rfl]
    refine r_step rfl rfl rfl ?_
    refine r_step rfl rfl rfl ?_
    refine r_step rfl rfl rfl ?_
    refine r_callS rfl rfl rfl rfl (x_isNew hT (by omega)) ?_
    by_cases c5 : rgI (rT F k) 0 999 = 0 ∨ fiA D (cN (rT F k)) < D.length
    · have e : rdK F tt k D = 5 := if_pos c5
      rw [show rdS F tt (d + 1) k D U = (5, k, D, U) by rw [rdS, if_neg (by rw [e]; decide), e]]
      dsimp only
      rw [if_neg (by decide), if_neg (by decide)]
      refine r_brT rfl rfl ?_ ?_
      · exact h5.mpr c5
      refine r_step rfl rfl rfl ?_
      refine r_step rfl rfl rfl ?_
      refine r_step rfl rfl rfl ?_
      refine rF_call rfl rfl rfl rfl rfl rfl (x_flawed _ _) ?_
      (refine r_rtE rfl rfl ?_ ?_ ?_ <;> rfl)
    refine r_brF rfl rfl ?_ ?_
    · exact fun z => c5 (h5.mp z)
    refine r_step rfl rfl rfl ?_
    refine r_step rfl rfl rfl ?_
    by_cases c6 : rC F k < nI (ahD D) ∨ nI tt < rC F k
    · have e : rdK F tt k D = 6 := (if_neg c5).trans (if_pos c6)
      rw [show rdS F tt (d + 1) k D U = (6, k, D, U) by rw [rdS, if_neg (by rw [e]; decide), e]]
      dsimp only
      rw [if_neg (by decide), if_neg (by decide)]
      by_cases z : rC F k < nI (ahD D)
      · refine r_brT rfl rfl ?_ ?_
        · exact z
        refine r_step rfl rfl rfl ?_
        refine r_step rfl rfl rfl ?_
        refine r_step rfl rfl rfl ?_
        refine rF_call rfl rfl rfl rfl rfl rfl (x_flawed _ _) ?_
        (refine r_rtE rfl rfl ?_ ?_ ?_ <;> rfl)
      · refine r_brF rfl rfl ?_ ?_
        · exact z
        refine r_step rfl rfl rfl ?_
        refine r_step rfl rfl rfl ?_
        refine r_brF rfl rfl ?_ ?_
        · exact Int32.not_le.mpr (c6.resolve_left z)
        refine r_step rfl rfl rfl ?_
        refine r_step rfl rfl rfl ?_
        refine r_step rfl rfl rfl ?_
        refine rF_call rfl rfl rfl rfl rfl rfl (x_flawed _ _) ?_
        (refine r_rtE rfl rfl ?_ ?_ ?_ <;> rfl)
    refine r_brF rfl rfl ?_ ?_
    · exact fun z => c6 (Or.inl z)
    refine r_step rfl rfl rfl ?_
    refine r_step rfl rfl rfl ?_
    refine r_brT rfl rfl ?_ ?_
    · exact Int32.not_lt.mp (fun z => c6 (Or.inr z))
    refine r_step rfl rfl rfl ?_
    refine r_step rfl rfl rfl ?_
    have h7 := rg_c1 (rL F k) (rC F k)
    by_cases c7 : rgI (rL F k) 0 (rC F k).toInt = 0
    · have e : rdK F tt k D = 7 := (if_neg c5).trans ((if_neg c6).trans (if_pos c7))
      rw [show rdS F tt (d + 1) k D U = (7, k, D, U) by rw [rdS, if_neg (by rw [e]; decide), e]]
      dsimp only
      rw [if_neg (by decide), if_neg (by decide)]
      by_cases z : rC F k < rL F k
      · refine r_brT rfl rfl ?_ ?_
        · exact z
        refine r_step rfl rfl rfl ?_
        refine r_step rfl rfl rfl ?_
        refine r_step rfl rfl rfl ?_
        refine rF_call rfl rfl rfl rfl rfl rfl (x_flawed _ _) ?_
        (refine r_rtE rfl rfl ?_ ?_ ?_ <;> rfl)
      · refine r_brF rfl rfl ?_ ?_
        · exact z
        refine r_step rfl rfl rfl ?_
        refine r_brF rfl rfl ?_ ?_
        · exact Int32.not_le.mpr ((h7.mp c7).resolve_right z)
        refine r_step rfl rfl rfl ?_
        refine r_step rfl rfl rfl ?_
        refine r_step rfl rfl rfl ?_
        refine rF_call rfl rfl rfl rfl rfl rfl (x_flawed _ _) ?_
        (refine r_rtE rfl rfl ?_ ?_ ?_ <;> rfl)
    have h7' : ¬ (rL F k < 0 ∨ rC F k < rL F k) := fun z => c7 (h7.mpr z)
    refine r_brF rfl rfl ?_ ?_
    · exact fun z => h7' (Or.inr z)
    refine r_step rfl rfl rfl ?_
    refine r_brT rfl rfl ?_ ?_
    · exact Int32.not_lt.mp (fun z => h7' (Or.inl z))
    have hlw := hI.2.1.2.2.2
    obtain ⟨l, hl, el⟩ := nI_of (fun z => h7' (Or.inl z))
    have kl : cN (rL F k) = l := by unfold cN; rw [el, nI_clamp hl]
    have hlt : l ≤ tt := by
      have a : rL F k ≤ rC F k := Int32.not_lt.mp (fun z => h7' (Or.inr z))
      have b : rC F k ≤ nI tt := Int32.not_lt.mp (fun z => c6 (Or.inr z))
      have := Int32.le_trans a b
      rw [el] at this
      exact (nI_leI hl (by omega)).mp this
    refine r_step rfl rfl rfl ?_
    refine r_step rfl rfl rfl ?_
    refine r_step rfl rfl rfl ?_
    refine r_step rfl rfl rfl ?_
    try dsimp only
    rw [show lN (lwS D) + (rL F k).toInt64 = lN (lwS D + l) by rw [el, nI_l hl, lN_add]]
    refine r_step rfl rfl rfl ?_
    refine r_step rfl rfl rfl ?_
    refine r_step rfl rfl rfl ?_
    refine r_step rfl rfl rfl ?_
    refine r_step rfl rfl rfl ?_
    try dsimp only
    rw [nI_l (show tt < 2 ^ 31 by omega)]
    by_cases c8 : tt < lwS D + cN (rL F k)
    · have e : rdK F tt k D = 8 := (if_neg c5).trans ((if_neg c6).trans ((if_neg c7).trans (if_pos c8)))
      rw [show rdS F tt (d + 1) k D U = (8, k, D, U) by rw [rdS, if_neg (by rw [e]; decide), e]]
      dsimp only
      rw [if_neg (by decide), if_neg (by decide)]
      rw [kl] at c8
      refine r_brF rfl rfl ?_ ?_
      · exact Int32.not_le.mpr (lcmp_gt.mpr ((lN_lt (by omega) (by omega)).mpr c8))
      refine r_step rfl rfl rfl ?_
      refine r_step rfl rfl rfl ?_
      refine r_step rfl rfl rfl ?_
      refine rF_call rfl rfl rfl rfl rfl rfl (x_flawed _ _) ?_
      (refine r_rtE rfl rfl ?_ ?_ ?_ <;> rfl)
    have e : rdK F tt k D = 0 := (if_neg c5).trans ((if_neg c6).trans ((if_neg c7).trans (if_neg c8)))
    obtain ⟨t, c, l', et, ec, el', ht, hf, q1, q2, q3, q4, q5, q6, q7, q8, q9⟩ := IR_s hI htt e
    rw [rdS, if_pos e, q6, q7]
    rw [kl] at c8
    have ell : l' = l := by
      rw [el] at el'
      exact ((nI_eq hl (by omega)).mp el').symm
    have := ih (k + 1) (puA D (t, c, l')) (uN U t l') (.int (nI (14 + 10 * k))) (.int (rC F k)) (.int (rL F k)) (by omega) q8
    rw [pu_last q5, q9, ell] at this
    refine r_brT rfl rfl ?_ ?_
    · exact Int32.not_lt.mp (fun z => c8 ((lN_lt (by omega) (by omega)).mp (lcmp_gt.mp z)))
    refine r_step rfl rfl rfl ?_
    refine r_step rfl rfl rfl ?_
    refine r_step rfl rfl rfl ?_
    try dsimp only
    rw [nI_1]
    refine r_step rfl rfl rfl ?_
    rw [ell]
    rw [ec] at this ⊢
    exact this
end RXC
