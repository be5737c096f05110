/-! read: all -/
section RKL
variable {h : hH} {M : hT2} {x : Int64} {N : Nat} {F : Nat → Int32} {tt m : Nat} {NN : Nat → Nat}
theorem rd_loop {sz : Int32} {z3 : Value} (hT : TpM M N F) (hF1 : F 1 = nI m) (hm : m ≤ 24) (hN : N = 15 + 10 * m) (htt : tt ≤ 1000000000) (hN2 : NN 2 = tt) (h0 : M 0 5 = 0) : ∀ d k D U (v : Nat → Int32), k + d = m → IR F tt k D U → RM (NN, D, U, []) v 34440 → ∃ v', (∀ i, Ot 34440 i → v' i = v i) ∧ ((rdS F tt d k D U).1 = 0 → RM (NN, (rdS F tt d k D U).2.2.1, (rdS F tt d k D U).2.2.2, []) v' 34440) ∧ ∀ r h', (∀ kk : Int32, hRun 270 132 [.ref 281, .int sz, .int kk, z3] [] (hpM h 281 (if (rdS F tt d k D U).1 = 0 then s1 M 1 v' else mF (s1 M 1 v') (rdS F tt d k D U).1 (nI (14 + 10 * (rdS F tt d k D U).2.1))) x) r h') → hRun 270 115 [.ref 281, .int sz, .int (nI k), z3] [] (hpM h 281 (s1 M 1 v) x) r h' := by
  have e10 : ∀ v : Nat → Int32, (s1 M 1 v) 10 = M 10 := fun v => by rw [s1_row, if_neg (by omega)]
  intro d
  induction d with
  | zero =>
    intro k D U v hk hI hM
    refine ⟨v, fun _ _ => rfl, fun _ => hM, fun r h' K => ?_⟩
    have K0 := K (nI k)
    rw [rdS, if_pos rfl] at K0
    refine r_step rfl rfl rfl ?_
    refine r_step rfl rfl rfl ?_
    refine r_step rfl rfl rfl ?_
    refine rM_call rfl rfl rfl rfl rfl (k_byte (p := 1) (TpM_r hT (e10 v)) (by omega)) ?_
    rw [hF1]
    refine r_brT rfl rfl ?_ ?_
    · exact nI_le (by omega) (by omega)
    exact K0
  | succ d ih =>
    intro k D U v hk hI hM
    have hKn : Kn (s1 M 1 v) N F tt k D U NN := ⟨TpM_r hT (e10 v), by rw [s1_at]; exact hM, hN2, htt, hI, by omega, by omega⟩
    have h05 : (s1 M 1 v) 0 5 = 0 := by rw [s1_row, if_neg (by omega)]; exact h0
    obtain ⟨v1, k1, k2, k3⟩ := k_one (h := h) (x := x) hKn h05
    rw [s1_s1] at k1
    rw [s1_at] at k2
    have pre : ∀ X, (if rdK F tt k D = 0 then s1 M 1 v1 else mF (s1 M 1 v) (rdK F tt k D) (nI (14 + 10 * k))) = X → ∀ r h', hRun 270 115 [.ref 281, .int sz, .int (nI (k + 1)), z3] [] (hpM h 281 X x) r h' → hRun 270 115 [.ref 281, .int sz, .int (nI k), z3] [] (hpM h 281 (s1 M 1 v) x) r h' := by
      intro X hX r h' K
      rw [hX] at k1
      refine r_step rfl rfl rfl ?_
      refine r_step rfl rfl rfl ?_
      refine r_step rfl rfl rfl ?_
      refine rM_call rfl rfl rfl rfl rfl (k_byte (p := 1) (TpM_r hT (e10 v)) (by omega)) ?_
      rw [hF1]
      refine r_brF rfl rfl ?_ ?_
      · exact nle (by omega) (by omega)
      refine r_step rfl rfl rfl ?_
      refine rM_get rfl rfl ?_
      refine r_brT rfl rfl ?_ ?_
      · exact h05
      refine r_step rfl rfl rfl ?_
      refine r_step rfl rfl rfl ?_
      refine r_step rfl rfl rfl ?_
      refine r_step rfl rfl rfl ?_
      refine r_step rfl rfl rfl ?_
      refine r_step rfl rfl rfl ?_
      try dsimp only
      rw [at14]
      refine rM_call rfl rfl rfl rfl rfl k1 ?_
      refine r_step rfl rfl rfl ?_
      try dsimp only
      rw [nI_1]
      refine r_step rfl rfl rfl ?_
      exact K
    by_cases e : rdK F tt k D = 0
    · obtain ⟨t, c, l', et, ec, el', ht, hf, q1, q2, q3, q4, q5, q6, q7, q8, q9⟩ := IR_s hI htt e
      obtain ⟨v', j1, j2, j3⟩ := ih (k + 1) (rdN F k D) (uN U (cN (rT F k)) (cN (rL F k))) v1 (by omega) (by rw [q6, q7]; exact q8) (k3 e)
      rw [rdS, if_pos e]
      refine ⟨v', fun i hi => (j1 i hi).trans (k2 i hi), j2, fun r h' K => pre (s1 M 1 v1) (if_pos e) r h' (j3 r h' K)⟩
    · rw [rdS, if_neg e]
      refine ⟨v, fun _ _ => rfl, fun z => absurd z e, fun r h' K => pre _ (if_neg e) r h' ?_⟩
      have K0 := K (nI (k + 1))
      dsimp only at K0
      rw [if_neg e] at K0
      have e10' : (mF (s1 M 1 v) (rdK F tt k D) (nI (14 + 10 * k))) 10 = M 10 := by rw [mF_row _ _ _ (by omega), e10]
      refine r_step rfl rfl rfl ?_
      refine r_step rfl rfl rfl ?_
      refine r_step rfl rfl rfl ?_
      refine rM_call rfl rfl rfl rfl rfl (k_byte (p := 1) (TpM_r hT e10') (by omega)) ?_
      rw [hF1]
      by_cases q : m ≤ k + 1
      · refine r_brT rfl rfl ?_ ?_
        · exact nI_le q (by omega)
        exact K0
      · refine r_brF rfl rfl ?_ ?_
        · exact nle (by omega) (by omega)
        refine r_step rfl rfl rfl ?_
        refine rM_get rfl rfl ?_
        refine r_brF rfl rfl ?_ ?_
        · rw [mF_5]; exact e
        exact K0
theorem rck_loop {r : Option Value} {h' : hH} (hT : TpM M N F) (hN : 1 ≤ N) {c : Int32} (K : hRun 270 153 [.ref 281, .int (nI N), .int c, .int (nI (N - 1))] [] (hpM h 281 M x) r h') : ∀ d j a, j + d = N - 1 → ckF F d j a = c → hRun 270 136 [.ref 281, .int (nI N), .int a, .int (nI j)] [] (hpM h 281 M x) r h' := by
  have h3 := hT.1
  intro d
  induction d with
  | zero =>
    intro j a hj e
    rw [ckF] at e
    subst e
    rw [show j = N - 1 by omega]
    refine r_step rfl rfl rfl ?_
    refine r_step rfl rfl rfl ?_
    refine r_step rfl rfl rfl ?_
    try dsimp only
    rw [nI_1, show N - 1 + 1 = N by omega]
    refine r_step rfl rfl rfl ?_
    refine r_brT rfl rfl ?_ ?_
    · exact Int32.le_refl _
    exact K
  | succ d ih =>
    intro j a hj e
    rw [ckF] at e
    refine r_step rfl rfl rfl ?_
    refine r_step rfl rfl rfl ?_
    refine r_step rfl rfl rfl ?_
    try dsimp only
    rw [nI_1]
    refine r_step rfl rfl rfl ?_
    refine r_brF rfl rfl ?_ ?_
    · exact nle (by omega) (by omega)
    refine r_step rfl rfl rfl ?_
    refine r_step rfl rfl rfl ?_
    refine r_step rfl rfl rfl ?_
    refine r_step rfl rfl rfl ?_
    refine r_step rfl rfl rfl ?_
    refine rM_call rfl rfl rfl rfl rfl (k_byte (p := j) hT (by omega)) ?_
    refine r_step rfl rfl rfl ?_
    refine r_step rfl rfl rfl ?_
    refine r_step rfl rfl rfl ?_
    refine r_step rfl rfl rfl ?_
    refine r_step rfl rfl rfl ?_
    try dsimp only
    rw [nI_1]
    refine r_step rfl rfl rfl ?_
    exact ih (j + 1) _ (by omega) e
theorem k_check {z2 z3 : Value} (hT : TpM M N F) (hN : 1 ≤ N) : hRun 270 132 [.ref 281, .int (nI N), z2, z3] [] (hpM h 281 M x) none (hpM h 281 (if ckF F (N - 1) 0 7 = F (N - 1) then M else mfl M 9 (nI (N - 1))) x) := by
  have h3 := hT.1
  refine r_step rfl rfl rfl ?_
  refine r_step rfl rfl rfl ?_
  refine r_step rfl rfl rfl ?_
  refine r_step rfl rfl rfl ?_
  refine rck_loop hT hN ?_ (N - 1) 0 7 (by omega) rfl
  refine r_step rfl rfl rfl ?_
  refine r_step rfl rfl rfl ?_
  refine r_step rfl rfl rfl ?_
  refine r_step rfl rfl rfl ?_
  refine r_step rfl rfl rfl ?_
  try dsimp only
  rw [show nI N - 1 = nI (N - 1) from pk_sub (b := 1) hN]
  refine rM_call rfl rfl rfl rfl rfl (k_byte (p := N - 1) hT (by omega)) ?_
  by_cases q : ckF F (N - 1) 0 7 = F (N - 1)
  · rw [if_pos q]
    refine r_brT rfl rfl ?_ ?_
    · exact q
    (refine r_rtE rfl rfl ?_ ?_ ?_ <;> rfl)
  · rw [if_neg q]
    refine r_brF rfl rfl ?_ ?_
    · exact q
    refine r_step rfl rfl rfl ?_
    refine r_step rfl rfl rfl ?_
    refine r_step rfl rfl rfl ?_
    refine r_step rfl rfl rfl ?_
    refine r_step rfl rfl rfl ?_
    try dsimp only
    rw [show nI N - 1 = nI (N - 1) from pk_sub (b := 1) hN]
    refine rM_call rfl rfl rfl rfl rfl (k_fail _ _) ?_
    (refine r_rtE rfl rfl ?_ ?_ ?_ <;> rfl)
/-- the verdict -/
def vdF (F : Nat → Int32) (N m tt : Nat) : Int32 × Int32 := if ¬ N = 15 + 10 * m then (1, nI N) else if ¬ (hdF F).1 = 0 then hdF F else if ¬ (rdS F tt m 0 [] (fun _ => 0)).1 = 0 then ((rdS F tt m 0 [] (fun _ => 0)).1, nI (14 + 10 * (rdS F tt m 0 [] (fun _ => 0)).2.1)) else if ¬ ckF F (N - 1) 0 7 = F (N - 1) then (9, nI (N - 1)) else (0, -1)
/-- what the head gives, where it is good -/
def bD (r tt ab ha : Nat) : Nat → Nat := uN (uN (uN (nwA r).1 2 tt) 3 ab) 4 ha
theorem hd_ok (h : (hdF F).1 = 0) {b0 : Nat} (h0 : F 0 = nI b0) (hb0 : b0 < 256) (h1 : F 1 = nI m) (hm : m < 256) : ∃ tt ab ha, (1 ≤ b0 ∧ b0 ≤ 24) ∧ m ≤ b0 ∧ nuF F 2 4 0 = nI tt ∧ nuF F 6 4 0 = nI ab ∧ nuF F 10 4 0 = nI ha ∧ tt ≤ 1000000000 ∧ ab ≤ tt ∧ ha ≤ 1000000000 := by
  unfold hdF at h
  by_cases q1 : rgI (F 0) 1 24 = 0
  · rw [if_pos q1] at h; exact absurd h (by decide)
  rw [if_neg q1] at h
  by_cases q2 : ¬ F 1 ≤ F 0
  · rw [if_pos q2] at h; exact absurd h (by decide)
  rw [if_neg q2] at h
  by_cases q3 : rgI (nuF F 2 4 0) 0 1000000000 = 0
  · rw [if_pos q3] at h; exact absurd h (by decide)
  rw [if_neg q3] at h
  by_cases q4 : rgI (nuF F 6 4 0) 0 (nuF F 2 4 0).toInt = 0
  · rw [if_pos q4] at h; exact absurd h (by decide)
  rw [if_neg q4] at h
  by_cases q5 : rgI (nuF F 10 4 0) 0 1000000000 = 0
  · rw [if_pos q5] at h; exact absurd h (by decide)
  obtain ⟨r, e0, r1, r2⟩ := rg_1 (lo := 1) (hi := 24) ((rg_01 _ 1 24).resolve_left q1)
  obtain ⟨tt, e2, -, t2⟩ := rg_1 (lo := 0) (hi := 1000000000) ((rg_01 _ 0 1000000000).resolve_left q3)
  obtain ⟨ha, e10, -, a2⟩ := rg_1 (lo := 0) (hi := 1000000000) ((rg_01 _ 0 1000000000).resolve_left q5)
  rw [e2, nI_toInt (show tt < 2 ^ 31 by omega)] at q4
  obtain ⟨ab, e6, -, b2⟩ := rg_1 (lo := 0) (hi := tt) ((rg_01 _ 0 (tt : Int)).resolve_left q4)
  rw [h0] at e0
  have := (nI_eq (by omega) (by omega)).mp e0
  rw [h0, h1] at q2
  have q2' : nI m ≤ nI b0 := by
    by_cases z : nI m ≤ nI b0
    · exact z
    · exact absurd z q2
  exact ⟨tt, ab, ha, ⟨by omega, by omega⟩, (nI_leI (by omega) (by omega)).mp q2', e2, e6, e10, t2, b2, a2⟩
theorem IR_0 {tt : Nat} : IR F tt 0 [] (fun _ => 0) := by
  refine ⟨rfl, ⟨fun c hc => absurd hc (by simp), List.nodup_nil, List.Pairwise.nil, Nat.zero_le _⟩, fun t ht => ?_, by rw [sm_0]; exact Nat.zero_le _⟩
  constructor
  · intro z
    exact absurd z (Nat.not_lt_zero _)
  · rintro ⟨j, j1, -⟩
    omega
/-- what is read is a summary -/
theorem rd_gd {tt : Nat} (htt : tt ≤ 1000000000) : ∀ d k D U, IR F tt k D U → (rdS F tt d k D U).1 = 0 → IR F tt (k + d) (rdS F tt d k D U).2.2.1 (rdS F tt d k D U).2.2.2
  | 0, k, D, U, h, _ => h
  | d + 1, k, D, U, h, e => by
    rw [rdS] at e ⊢
    by_cases q : rdK F tt k D = 0
    · rw [if_pos q] at e ⊢
      obtain ⟨t, c, l', et, ec, el', ht, hf, q1, q2, q3, q4, q5, q6, q7, q8, q9⟩ := IR_s h htt q
      have := rd_gd htt d (k + 1) _ _ (by rw [q6, q7]; exact q8) e
      rw [show k + (d + 1) = k + 1 + d by omega]
      exact this
    · rw [if_neg q] at e
      exact absurd e q
theorem rd_Gd {b0 tt ab ha Y : Nat} (hb : 1 ≤ b0 ∧ b0 ≤ 24) (hm : m ≤ b0) (h2 : tt ≤ 1000000000) (h3 : ab ≤ tt) (h4 : ha ≤ 1000000000) {D : List aK} {U : Nat → Nat} (hI : IR F tt m D U) : Gd 1000000000 Y (bD b0 tt ab ha, D, U, []) := by
  have e1 : bD b0 tt ab ha 1 = b0 := rfl
  have e2 : bD b0 tt ab ha 2 = tt := rfl
  have e3 : bD b0 tt ab ha 3 = ab := rfl
  have e4 : bD b0 tt ab ha 4 = ha := rfl
  have e7 : bD b0 tt ab ha 7 = 0 := rfl
  obtain ⟨i1, i2, i3, i4⟩ := hI
  refine ⟨⟨?_, ?_, ?_⟩, ⟨?_, ?_, ?_⟩, ⟨?_, ?_⟩, ?_, ?_⟩
  · show 1 ≤ bD b0 tt ab ha 1; rw [e1]; exact hb.1
  · show bD b0 tt ab ha 1 ≤ 24; rw [e1]; exact hb.2
  · show D.length ≤ bD b0 tt ab ha 1; rw [e1, i1]; exact hm
  · show bD b0 tt ab ha 2 ≤ _; rw [e2]; exact h2
  · show bD b0 tt ab ha 3 ≤ bD b0 tt ab ha 2; rw [e2, e3]; exact h3
  · show bD b0 tt ab ha 4 ≤ _; rw [e4]; exact h4
  · show bD b0 tt ab ha 7 ≤ _; rw [e7]; exact Nat.zero_le _
  · show 0 = min (bD b0 tt ab ha 7) 20; rw [e7]; rfl
  · show Gc (bD b0 tt ab ha 2) D; rw [e2]; exact i2
  · show sm U 1000 ≤ bD b0 tt ab ha 2; rw [e2]
    have := i2.2.2.2
    omega
/-- the reference's reading -/
theorem k_reads {b0 m : Nat} (hT : TpM M N F) (h0 : M 0 5 = 0) (h6 : M 0 6 = -1) (hb0 : 15 ≤ N → F 0 = nI b0) (hbb : b0 < 256) (hm1 : 15 ≤ N → F 1 = nI m) (hmb : m < 256) : ∃ v, hRun 270 0 [.ref 281, .int (nI N), hU, hU] [] (hpM h 281 M x) none (hpM h 281 (mF (s1 M 1 v) (vdF F N m (cN (nuF F 2 4 0))).1 (vdF F N m (cN (nuF F 2 4 0))).2) x) ∧ (∀ i, Ot 34440 i → v i = M 1 i) ∧ ((vdF F N m (cN (nuF F 2 4 0))).1 = 0 → ∃ tt ab ha, (1 ≤ b0 ∧ b0 ≤ 24) ∧ m ≤ b0 ∧ nuF F 2 4 0 = nI tt ∧ nuF F 6 4 0 = nI ab ∧ nuF F 10 4 0 = nI ha ∧ tt ≤ 1000000000 ∧ ab ≤ tt ∧ ha ≤ 1000000000 ∧ N = 15 + 10 * m ∧ (rdS F tt m 0 [] (fun _ => 0)).1 = 0 ∧ RM (bD b0 tt ab ha, (rdS F tt m 0 [] (fun _ => 0)).2.2.1, (rdS F tt m 0 [] (fun _ => 0)).2.2.2, []) v 34440) := by
  have hN3 := hT.1
  have same : mF (s1 M 1 (M 1)) 0 (-1) = M := by
    rw [s1_id]
    unfold mF
    funext a q
    rw [s2_at, s2_at]
    by_cases e : a = 0 ∧ q = 6
    · rw [if_pos e, e.1, e.2, h6]
    · rw [if_neg e]
      by_cases e2 : a = 0 ∧ q = 5
      · rw [if_pos e2, e2.1, e2.2, h0]
      · rw [if_neg e2]
  by_cases q0 : ¬ N = 15 + 10 * m
  · have e : vdF F N m (cN (nuF F 2 4 0)) = (1, nI N) := if_pos q0
    refine ⟨M 1, ?_, fun _ _ => rfl, fun z => absurd z (by rw [e]; exact (show ¬ (1 : Int32) = 0 by decide))⟩
    rw [e, s1_id]
    have tail : hRun 270 12 [.ref 281, .int (nI N), hU, hU] [] (hpM h 281 M x) none (hpM h 281 (mF M 1 (nI N)) x) := by
      refine r_step rfl rfl rfl ?_
      refine r_step rfl rfl rfl ?_
      refine r_step rfl rfl rfl ?_
      refine rM_call rfl rfl rfl rfl rfl (k_fail _ _) ?_
      rw [mfl_0 h0]
      refine r_step rfl rfl rfl ?_
      refine rM_get rfl rfl ?_
      refine r_brF rfl rfl ?_ ?_
      · rw [mF_5]; decide
      (refine r_rtE rfl rfl ?_ ?_ ?_ <;> rfl)
    refine r_step rfl rfl rfl ?_
    refine r_step rfl rfl rfl ?_
    by_cases q1 : 15 ≤ N
    · refine r_brF rfl rfl ?_ ?_
      · exact nI_nlt (b := 15) q1 (by omega)
      refine r_step rfl rfl rfl ?_
      refine r_step rfl rfl rfl ?_
      refine r_step rfl rfl rfl ?_
      refine r_step rfl rfl rfl ?_
      refine r_step rfl rfl rfl ?_
      refine rM_call rfl rfl rfl rfl rfl (k_byte (p := 1) hT (by omega)) ?_
      rw [hm1 q1]
      refine r_step rfl rfl rfl ?_
      refine r_step rfl rfl rfl ?_
      try dsimp only
      rw [show (15 : Int32) + 10 * nI m = nI (15 + 10 * m) by rw [show (10 : Int32) * nI m = nI (10 * m) from pk_mul 10 m]; exact nI_add 15 _]
      refine r_brF rfl rfl ?_ ?_
      · exact fun z => q0 ((nI_eq (by omega) (by omega)).mp z)
      exact tail
    · refine r_brT rfl rfl ?_ ?_
      · exact nI_lt (b := 15) (by omega) (by omega)
      exact tail
  have q0 : N = 15 + 10 * m := Decidable.not_not.mp q0
  have q1 : 15 ≤ N := by omega
  have pre : ∀ r h', hRun 270 82 [.ref 281, .int (nI N), hU, hU] [] (hpM h 281 (if (hdF F).1 = 0 then M else mF M (hdF F).1 (hdF F).2) x) r h' → hRun 270 0 [.ref 281, .int (nI N), hU, hU] [] (hpM h 281 M x) r h' := by
    intro r h' K
    refine r_step rfl rfl rfl ?_
    refine r_step rfl rfl rfl ?_
    refine r_brF rfl rfl ?_ ?_
    · exact nI_nlt (b := 15) q1 (by omega)
    refine r_step rfl rfl rfl ?_
    refine r_step rfl rfl rfl ?_
    refine r_step rfl rfl rfl ?_
    refine r_step rfl rfl rfl ?_
    refine r_step rfl rfl rfl ?_
    refine rM_call rfl rfl rfl rfl rfl (k_byte (p := 1) hT (by omega)) ?_
    rw [hm1 q1]
    refine r_step rfl rfl rfl ?_
    refine r_step rfl rfl rfl ?_
    try dsimp only
    rw [show (15 : Int32) + 10 * nI m = nI (15 + 10 * m) by rw [show (10 : Int32) * nI m = nI (10 * m) from pk_mul 10 m]; exact nI_add 15 _]
    refine r_brT rfl rfl ?_ ?_
    · rw [q0]
    refine r_step rfl rfl rfl ?_
    refine rM_get rfl rfl ?_
    refine r_brT rfl rfl ?_ ?_
    · exact h0
    exact hd_all hT q1 h0 K
  by_cases q2 : ¬ (hdF F).1 = 0
  · have e : vdF F N m (cN (nuF F 2 4 0)) = hdF F := (if_neg (fun z => z q0)).trans (if_pos q2)
    refine ⟨M 1, pre _ _ ?_, fun _ _ => rfl, fun z => absurd z (by rw [e]; exact q2)⟩
    rw [e, s1_id, if_neg q2]
    refine r_step rfl rfl rfl ?_
    refine rM_get rfl rfl ?_
    refine r_brF rfl rfl ?_ ?_
    · rw [mF_5]; exact q2
    (refine r_rtE rfl rfl ?_ ?_ ?_ <;> rfl)
  have q2 : (hdF F).1 = 0 := Decidable.not_not.mp q2
  obtain ⟨tt, ab, ha, hbr, hmb2, e2, e6, e10, t2, a2, b2⟩ := hd_ok q2 (hb0 q1) hbb (hm1 q1) hmb
  have ett : cN (nuF F 2 4 0) = tt := by unfold cN; rw [e2, nI_clamp (by omega)]
  rw [ett]
  have hbeg := RM_beg (M 1) 34440 b0
  have hr2 := RM_num (j := 2) (v := tt) hbeg (by omega)
  have hr3 := RM_num (j := 3) (v := ab) hr2 (by omega)
  have hr4 := RM_num (j := 4) (v := ha) hr3 (by omega)
  obtain ⟨v0, hv0⟩ : ∃ v0, v0 = upd (upd (upd (bgW (M 1) 34440 (nI b0)) 34443 (nI tt)) 34444 (nI ab)) 34445 (nI ha) := ⟨_, rfl⟩
  have hR : RM (bD b0 tt ab ha, [], fun _ => 0, []) v0 34440 := by rw [hv0]; exact hr4
  have hO : ∀ i, Ot 34440 i → v0 i = M 1 i := fun i hi => by
    have := bgW_o (w := M 1) (r := nI b0) hi
    unfold Ot at hi
    rw [hv0, pk_un (by omega), pk_un (by omega), pk_un (by omega), this]
  obtain ⟨v', j1, j2, j3⟩ := rd_loop (h := h) (M := M) (x := x) (NN := bD b0 tt ab ha) (sz := nI N) (z3 := hU) hT (hm1 q1) (by omega) q0 t2 rfl h0 m 0 [] (fun _ => 0) v0 (by omega) IR_0 hR
  have e10' : ∀ v : Nat → Int32, (s1 M 1 v) 10 = M 10 := fun v => by rw [s1_row, if_neg (by omega)]
  have go : ∀ r h', hRun 270 115 [.ref 281, .int (nI N), .int (nI 0), hU] [] (hpM h 281 (s1 M 1 v0) x) r h' → hRun 270 0 [.ref 281, .int (nI N), hU, hU] [] (hpM h 281 M x) r h' := by
    intro r h' K
    refine pre _ _ ?_
    rw [if_pos q2]
    refine r_step rfl rfl rfl ?_
    refine rM_get rfl rfl ?_
    refine r_brT rfl rfl ?_ ?_
    · exact h0
    refine r_step rfl rfl rfl ?_
    refine r_step rfl rfl rfl ?_
    refine r_step rfl rfl rfl ?_
    refine r_step rfl rfl rfl ?_
    refine rM_call rfl rfl rfl rfl rfl (k_byte (p := 0) hT (by omega)) ?_
    rw [hb0 q1]
    refine rM_call rfl rfl rfl rfl rfl (m_begins (B := 34440) _ (by omega)) ?_
    refine r_step rfl rfl rfl ?_
    refine rM_get rfl rfl ?_
    refine r_step rfl rfl rfl ?_
    refine r_step rfl rfl rfl ?_
    refine r_step rfl rfl rfl ?_
    refine rM_call rfl rfl rfl rfl rfl (k_four (p := 2) (TpM_r hT (e10' _)) (by omega)) ?_
    rw [e2]
    refine rM_ist (j := 1) (p := 34443) rfl rfl (by decide) ?_
    rw [s1_s1, s1_at]
    refine r_step rfl rfl rfl ?_
    refine rM_get rfl rfl ?_
    refine r_step rfl rfl rfl ?_
    refine r_step rfl rfl rfl ?_
    refine r_step rfl rfl rfl ?_
    refine rM_call rfl rfl rfl rfl rfl (k_four (p := 6) (TpM_r hT (e10' _)) (by omega)) ?_
    rw [e6]
    refine rM_ist (j := 1) (p := 34444) rfl rfl (by decide) ?_
    rw [s1_s1, s1_at]
    refine r_step rfl rfl rfl ?_
    refine rM_get rfl rfl ?_
    refine r_step rfl rfl rfl ?_
    refine r_step rfl rfl rfl ?_
    refine r_step rfl rfl rfl ?_
    refine rM_call rfl rfl rfl rfl rfl (k_four (p := 10) (TpM_r hT (e10' _)) (by omega)) ?_
    rw [e10]
    refine rM_ist (j := 1) (p := 34445) rfl rfl (by decide) ?_
    rw [s1_s1, s1_at, ← hv0]
    refine r_step rfl rfl rfl ?_
    refine r_step rfl rfl rfl ?_
    exact K
  by_cases q3 : ¬ (rdS F tt m 0 [] (fun _ => 0)).1 = 0
  · have e : vdF F N m tt = ((rdS F tt m 0 [] (fun _ => 0)).1, nI (14 + 10 * (rdS F tt m 0 [] (fun _ => 0)).2.1)) := (if_neg (fun z => z q0)).trans ((if_neg (fun z => z q2)).trans (if_pos q3))
    refine ⟨v', go _ _ (j3 _ _ (fun kk => ?_)), fun i hi => (j1 i hi).trans (hO i hi), fun z => absurd z (by rw [e]; exact q3)⟩
    rw [if_neg q3, e]
    have ck := k_check (h := h) (M := mF (s1 M 1 v') (rdS F tt m 0 [] (fun _ => 0)).1 (nI (14 + 10 * (rdS F tt m 0 [] (fun _ => 0)).2.1))) (x := x) (N := N) (F := F) (z2 := .int kk) (z3 := hU) (TpM_r hT (by rw [mF_row _ _ _ (by omega), e10'])) (by omega)
    rw [mfl_n (by rw [mF_5]; exact q3)] at ck
    rw [show (if ckF F (N - 1) 0 7 = F (N - 1) then mF (s1 M 1 v') (rdS F tt m 0 [] (fun _ => 0)).1 (nI (14 + 10 * (rdS F tt m 0 [] (fun _ => 0)).2.1)) else mF (s1 M 1 v') (rdS F tt m 0 [] (fun _ => 0)).1 (nI (14 + 10 * (rdS F tt m 0 [] (fun _ => 0)).2.1))) = mF (s1 M 1 v') (rdS F tt m 0 [] (fun _ => 0)).1 (nI (14 + 10 * (rdS F tt m 0 [] (fun _ => 0)).2.1)) by split <;> rfl] at ck
    exact ck
  have q3 : (rdS F tt m 0 [] (fun _ => 0)).1 = 0 := Decidable.not_not.mp q3
  have h5' : (s1 M 1 v') 0 5 = 0 := by rw [s1_row, if_neg (by omega)]; exact h0
  have same' : mF (s1 M 1 v') 0 (-1) = s1 M 1 v' := by
    unfold mF
    funext a q
    rw [s2_at, s2_at]
    by_cases e : a = 0 ∧ q = 6
    · rw [if_pos e, e.1, e.2, s1_row, if_neg (by omega), h6]
    · rw [if_neg e]
      by_cases e2 : a = 0 ∧ q = 5
      · rw [if_pos e2, e2.1, e2.2, h5']
      · rw [if_neg e2]
  refine ⟨v', go _ _ (j3 _ _ (fun kk => ?_)), fun i hi => (j1 i hi).trans (hO i hi), fun _ => ⟨tt, ab, ha, hbr, hmb2, e2, e6, e10, t2, a2, b2, q0, q3, j2 q3⟩⟩
  rw [if_pos q3]
  have ck := k_check (h := h) (M := s1 M 1 v') (x := x) (N := N) (F := F) (z2 := .int kk) (z3 := hU) (TpM_r hT (e10' _)) (by omega)
  by_cases q4 : ckF F (N - 1) 0 7 = F (N - 1)
  · have e : vdF F N m tt = (0, -1) := (if_neg (fun z => z q0)).trans ((if_neg (fun z => z q2)).trans ((if_neg (fun z => z q3)).trans (if_neg (fun z => z q4))))
    rw [if_pos q4] at ck
    rw [e, same']
    exact ck
  · have e : vdF F N m tt = (9, nI (N - 1)) := (if_neg (fun z => z q0)).trans ((if_neg (fun z => z q2)).trans ((if_neg (fun z => z q3)).trans (if_pos q4)))
    rw [if_neg q4, mfl_0 h5'] at ck
    rw [e]
    exact ck
end RKL
