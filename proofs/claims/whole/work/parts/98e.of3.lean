/-! off: the things missed -/
theorem sm_cg {f g : Nat → Nat} : ∀ n, (∀ t, t < n → f t = g t) → sm f n = sm g n
  | 0, _ => rfl
  | n + 1, h => by
    rw [sm, sm, sm_cg n (fun t ht => h t (by omega)), h n (by omega)]
/-- the place of a thing by truth -/
def plA (u : Nat → Nat) (t : Nat) : Nat := ctA u (u t) 1000 + ceA u (u t) t
theorem plA_inj {u : Nat → Nat} {s t : Nat} (hs : s < 1000) (ht : t < 1000) (h : plA u s = plA u t) : s = t := by
  unfold plA at h
  by_cases a : u s < u t
  · have := ct_lt (u := u) ht a
    omega
  · by_cases b : u t < u s
    · have := ct_lt (u := u) hs b
      omega
    · have e : u s = u t := by omega
      rw [e] at h
      by_cases c : s < t
      · have := ce_lt (u := u) (x := u t) c e
        omega
      · by_cases d : t < s
        · have := ce_lt (u := u) (x := u t) d rfl
          omega
        · omega
def twF (A : aS) (c t : Nat) : Nat := if 0 < A.2.2.1 t ∧ plA A.2.2.1 t < c ∧ A.2.1.length ≤ fiA A.2.1 t then 1 else 0
def woF (A : aS) (t : Nat) : Nat := if A.2.1.length ≤ fiA A.2.1 t then 1 else 0
theorem tw_sm {A : aS} {F : Nat → Nat} (hT : Tv A.2.2.1 1000 F) : ∀ c, c ≤ ctA A.2.2.1 0 1000 → sm (fun j => woF A (F j)) c = sm (twF A c) 1000
  | 0, _ => by
    have : sm (twF A 0) 1000 = sm (fun _ => 0) 1000 := sm_cg 1000 (fun t _ => if_neg (by omega))
    rw [this, sm_0]
    rfl
  | c + 1, h => by
    obtain ⟨t, t1, t2, t3, t4⟩ := hT c (by omega)
    have e := sm_uN (f := twF A c) (t := F c) (v := woF A (F c)) (n := 1000) (by omega)
    have e0 : twF A c (F c) = 0 := if_neg (by unfold plA; rw [t3]; omega)
    have e1 : sm (twF A (c + 1)) 1000 = sm (uN (twF A c) (F c) (woF A (F c))) 1000 := by
      refine sm_cg 1000 (fun s hs => ?_)
      rw [uN_at]
      by_cases q : s = F c
      · rw [if_pos q, q]
        unfold twF woF
        by_cases z : A.2.1.length ≤ fiA A.2.1 (F c)
        · rw [if_pos z, if_pos ⟨by rw [t3]; exact t2, by unfold plA; rw [t3]; omega, z⟩]
        · rw [if_neg z, if_neg (by omega)]
      · rw [if_neg q]
        have hn : plA A.2.2.1 s ≠ c := fun z => q (by
          rw [t3]
          exact plA_inj hs t1 (by rw [z]; exact t4))
        unfold twF
        by_cases z : 0 < A.2.2.1 s ∧ plA A.2.2.1 s < c ∧ A.2.1.length ≤ fiA A.2.1 s
        · rw [if_pos z, if_pos (by omega)]
        · rw [if_neg z, if_neg (by omega)]
    rw [sm, tw_sm hT c (by omega), e1]
    omega
section XTW
variable {E : hEn} {w : hWo}
theorem tw_loop {p c r o X Y : Nat} {A : aS} (hp : p < 31) (hS : Rp A (w.1 p)) (hG : Gd X Y A) (hX : X < 2 ^ 30) (hr : r < 2 ^ 31) (ho : o < 2 ^ 31) (hc : c < 2 ^ 31) (hf : ∀ t, t < 1000 → ((r < A.2.2.1 t ∨ (A.2.2.1 t = r ∧ ceA A.2.2.1 r t < o)) ↔ (0 < A.2.2.1 t ∧ plA A.2.2.1 t < c))) : ∀ d t (z6 : Value), t + d = 1000 → hRun 136 28 [.ref (bs p), .int (nI c), .int (nI r), .int (nI (o - ceA A.2.2.1 r t)), .int (nI (sm (twF A c) t)), .int (nI t), z6] [] (hW E w) (some (.int (nI (sm (twF A c) 1000)))) (hW E w) := by
  have h24 := Nat.le_trans hG.1.2.2 hG.1.2.1
  have hb := Gd_b hG hX
  intro d
  induction d with
  | zero =>
    intro t z6 ht
    have e : t = 1000 := by omega
    subst e
    refine r_step rfl rfl rfl ?_
    refine r_step rfl rfl rfl ?_
    refine r_brT rfl rfl ?_ ?_
    · decide
    refine r_step rfl rfl rfl ?_
    (refine r_rtE rfl rfl ?_ ?_ ?_ <;> rfl)
  | succ d ih =>
    intro t z6 ht
    have ht1 : t < 1000 := by omega
    have hu := (Gd_all hG ht1).1
    have e4 : w.1 p 4 t = nI (A.2.2.1 t) := hS.2.2.2 t ht1
    have hft := hf t ht1
    have fC := c_find (h := hW E w) (b := bs p) (nI t) hS.2.1 h24
    have tail0 : ¬ (0 < A.2.2.1 t ∧ plA A.2.2.1 t < c) → ∀ o' : Nat, o' = o - ceA A.2.2.1 r (t + 1) → hRun 136 52 [.ref (bs p), .int (nI c), .int (nI r), .int (nI o'), .int (nI (sm (twF A c) t)), .int (nI t), .int 0] [] (hW E w) (some (.int (nI (sm (twF A c) 1000)))) (hW E w) := by
      intro hn o' ho'
      have es : sm (twF A c) (t + 1) = sm (twF A c) t := by
        rw [sm, show twF A c t = 0 from if_neg (by omega), Nat.add_zero]
      have := ih (t + 1) (.int 0) (by omega)
      rw [es, ← ho'] at this
      refine r_step rfl rfl rfl ?_
      refine r_brT rfl rfl ?_ ?_
      · rfl
      refine r_step rfl rfl rfl ?_
      try dsimp only
      rw [nI_1]
      refine r_step rfl rfl rfl ?_
      exact this
    have tail1 : (0 < A.2.2.1 t ∧ plA A.2.2.1 t < c) → ∀ o' : Nat, o' = o - ceA A.2.2.1 r (t + 1) → hRun 136 52 [.ref (bs p), .int (nI c), .int (nI r), .int (nI o'), .int (nI (sm (twF A c) t)), .int (nI t), .int 1] [] (hW E w) (some (.int (nI (sm (twF A c) 1000)))) (hW E w) := by
      intro hn o' ho'
      have := ih (t + 1) (.int 1) (by omega)
      rw [sm, ← ho'] at this
      refine r_step rfl rfl rfl ?_
      refine r_brF rfl rfl ?_ ?_
      · decide
      refine r_step rfl rfl rfl ?_
      refine r_step rfl rfl rfl ?_
      refine wS_read (q := p) hp rfl rfl rfl rfl rfl fC ?_
      refine r_step rfl rfl rfl ?_
      rcases fn_A (t := t) hS.2.2.1 (fun c hc => (hb c hc).1) (by omega) h24 with ⟨g1, g2⟩ | ⟨g1, g2⟩
      · rw [show twF A c t = 0 from if_neg (by omega), Nat.add_zero] at this
        rw [g2]
        refine r_brF rfl rfl ?_ ?_
        · exact nI_m1 (by omega)
        refine r_step rfl rfl rfl ?_
        try dsimp only
        rw [nI_1]
        refine r_step rfl rfl rfl ?_
        exact this
      · rw [show twF A c t = 1 from if_pos ⟨hn.1, hn.2, by omega⟩] at this
        rw [g2]
        refine r_brT rfl rfl ?_ ?_
        · rfl
        refine r_step rfl rfl rfl ?_
        refine r_step rfl rfl rfl ?_
        try dsimp only
        rw [nI_1, nI_1]
        refine r_step rfl rfl rfl ?_
        exact this
    refine r_step rfl rfl rfl ?_
    refine r_step rfl rfl rfl ?_
    refine r_brF rfl rfl ?_ ?_
    · exact nle (b := 1000) ht1 (by omega)
    refine r_step rfl rfl rfl ?_
    refine wS_get (q := p) hp rfl rfl ?_
    refine r_step rfl rfl rfl ?_
    refine wS_ildE (q := p) (j := 4) hp rfl rfl (show t < 1000 from ht1) e4 ?_
    refine r_step rfl rfl rfl ?_
    by_cases a : A.2.2.1 t ≤ r
    · refine r_brT rfl rfl ?_ ?_
      · exact nI_le a hr
      refine r_step rfl rfl rfl ?_
      refine r_step rfl rfl rfl ?_
      refine r_step rfl rfl rfl ?_
      refine wS_get (q := p) hp rfl rfl ?_
      refine r_step rfl rfl rfl ?_
      refine wS_ildE (q := p) (j := 4) hp rfl rfl (show t < 1000 from ht1) e4 ?_
      refine r_step rfl rfl rfl ?_
      by_cases b : A.2.2.1 t = r
      · refine r_brT rfl rfl ?_ ?_
        · rw [b]
        refine r_step rfl rfl rfl ?_
        have ec : ceA A.2.2.1 r (t + 1) = ceA A.2.2.1 r t + 1 := by rw [ceA, if_pos b]
        by_cases q : ceA A.2.2.1 r t < o
        · refine r_brF rfl rfl ?_ ?_
          · exact nle (a := 0) (by omega) (by omega)
          refine r_step rfl rfl rfl ?_
          refine r_step rfl rfl rfl ?_
          refine r_step rfl rfl rfl ?_
          try dsimp only
          rw [show nI (o - ceA A.2.2.1 r t) + -1 = nI (o - ceA A.2.2.1 r (t + 1)) by rw [ec, show o - ceA A.2.2.1 r t = (o - (ceA A.2.2.1 r t + 1)) + 1 by omega]; exact pk_m1 _]
          exact tail1 (hft.mp (Or.inr ⟨b, q⟩)) _ rfl
        · refine r_brT rfl rfl ?_ ?_
          · exact nI_le (b := 0) (by omega) (by omega)
          exact tail0 (fun z => by have := hft.mpr z; omega) _ (by omega)
      · refine r_brF rfl rfl ?_ ?_
        · exact fun z => b ((nI_eq (by omega) hr).mp z)
        have ec : ceA A.2.2.1 r (t + 1) = ceA A.2.2.1 r t := by rw [ceA, if_neg b, Nat.add_zero]
        exact tail0 (fun z => by have := hft.mpr z; omega) _ (by omega)
    · refine r_brF rfl rfl ?_ ?_
      · exact nle (by omega) (by omega)
      refine r_step rfl rfl rfl ?_
      refine r_step rfl rfl rfl ?_
      refine r_step rfl rfl rfl ?_
      refine r_step rfl rfl rfl ?_
      refine wS_get (q := p) hp rfl rfl ?_
      refine r_step rfl rfl rfl ?_
      refine wS_ildE (q := p) (j := 4) hp rfl rfl (show t < 1000 from ht1) e4 ?_
      refine r_step rfl rfl rfl ?_
      have b : ¬ A.2.2.1 t = r := by omega
      refine r_brF rfl rfl ?_ ?_
      · exact fun z => b ((nI_eq (by omega) hr).mp z)
      have ec : ceA A.2.2.1 r (t + 1) = ceA A.2.2.1 r t := by rw [ceA, if_neg b, Nat.add_zero]
      exact tail1 (hft.mp (Or.inl (by omega))) _ (by omega)
theorem x_twi {p X Y : Nat} {A : aS} {F : Nat → Nat} (hp : p < 31) (hS : Rp A (w.1 p)) (hG : Gd X Y A) (hX : X < 2 ^ 30) (hT : Tv A.2.2.1 1000 F) : hRun 136 0 [.ref (bs p), hU, hU, hU, hU, hU, hU] [] (hW E w) (some (.int (nI (sm (twF A (min (ctA A.2.2.1 0 1000) A.2.1.length)) 1000)))) (hW E w) := by
  have h24 := Nat.le_trans hG.1.2.2 hG.1.2.1
  have hu4 : ∀ t, t < 1000 → w.1 p 4 t = nI (A.2.2.1 t) ∧ A.2.2.1 t < 2 ^ 31 := fun t ht => by
    have := Gd_all hG ht
    exact ⟨hS.2.2.2 t ht, by omega⟩
  have hcn := ctA_le A.2.2.1 0 1000
  have e0 : trAF (w.1 p) 0 = nI (ctA A.2.2.1 0 1000) := tr_ct (x := 0) (by omega) hu4
  obtain ⟨c, hc⟩ : ∃ c, c = min (ctA A.2.2.1 0 1000) A.2.1.length := ⟨_, rfl⟩
  have em : (if nI (ctA A.2.2.1 0 1000) < nI A.2.1.length then nI (ctA A.2.2.1 0 1000) else nI A.2.1.length) = nI c := by
    by_cases q : ctA A.2.2.1 0 1000 < A.2.1.length
    · rw [if_pos (nI_lt q (by omega)), show c = ctA A.2.2.1 0 1000 by omega]
    · rw [if_neg (nI_nlt (by omega) (by omega)), show c = A.2.1.length by omega]
  rw [← hc]
  refine r_step rfl rfl rfl ?_
  refine wS_getE (q := p) hp rfl rfl hS.2.1 ?_
  refine r_step rfl rfl rfl ?_
  refine r_step rfl rfl rfl ?_
  refine wS_read (q := p) hp rfl rfl rfl rfl rfl (c_truthsAbove _) ?_
  try dsimp only
  refine r_callS rfl rfl rfl rfl (c_min _ _) ?_
  rw [e0, em]
  refine r_step rfl rfl rfl ?_
  refine r_step rfl rfl rfl ?_
  refine r_step rfl rfl rfl ?_
  by_cases q : c = 0
  · have z : sm (twF A c) 1000 = 0 := by
      have := tw_sm hT 0 (Nat.zero_le _)
      rw [q, ← this]
      rfl
    rw [z]
    refine r_brF rfl rfl ?_ ?_
    · rw [q]; decide
    refine r_step rfl rfl rfl ?_
    (refine r_rtE rfl rfl ?_ ?_ ?_ <;> rfl)
  · obtain ⟨a1, a2, a3, a4⟩ := tru_A hG hX hS hT (show c - 1 < ctA A.2.2.1 0 1000 by omega)
    have hr := (hu4 _ a1).2
    refine r_brT rfl rfl ?_ ?_
    · exact nI_le (a := 1) (by omega) (by omega)
    refine r_step rfl rfl rfl ?_
    refine r_step rfl rfl rfl ?_
    refine r_step rfl rfl rfl ?_
    refine r_step rfl rfl rfl ?_
    try dsimp only
    rw [show nI c - 1 = nI (c - 1) from pk_sub (b := 1) (by omega)]
    refine wS_read (q := p) hp rfl rfl rfl rfl rfl (c_truthAt _) ?_
    rw [a2]
    refine r_step rfl rfl rfl ?_
    refine r_step rfl rfl rfl ?_
    refine r_step rfl rfl rfl ?_
    refine r_step rfl rfl rfl ?_
    refine wS_read (q := p) hp rfl rfl rfl rfl rfl (c_truthsAbove _) ?_
    rw [tr_ct hr hu4]
    refine r_step rfl rfl rfl ?_
    try dsimp only
    rw [show nI c - nI (ctA A.2.2.1 (A.2.2.1 (F (c - 1))) 1000) = nI (c - ctA A.2.2.1 (A.2.2.1 (F (c - 1))) 1000 - ceA A.2.2.1 (A.2.2.1 (F (c - 1))) 0) by rw [ceA, Nat.sub_zero]; exact pk_sub (by omega)]
    refine r_step rfl rfl rfl ?_
    refine r_step rfl rfl rfl ?_
    refine r_step rfl rfl rfl ?_
    refine r_step rfl rfl rfl ?_
    refine r_step rfl rfl rfl ?_
    refine tw_loop (c := c) (r := A.2.2.1 (F (c - 1))) (o := c - ctA A.2.2.1 (A.2.2.1 (F (c - 1))) 1000) hp hS hG hX hr (by omega) (by omega) (fun t ht => ?_) 1000 0 _ rfl
    have hpl : plA A.2.2.1 t = ctA A.2.2.1 (A.2.2.1 t) 1000 + ceA A.2.2.1 (A.2.2.1 t) t := rfl
    constructor
    · intro z
      rcases z with z | ⟨z1, z2⟩
      · have := ct_lt (u := A.2.2.1) ht z
        exact ⟨by omega, by omega⟩
      · rw [z1] at hpl
        exact ⟨by omega, by omega⟩
    · intro ⟨z1, z2⟩
      by_cases y : A.2.2.1 (F (c - 1)) < A.2.2.1 t
      · exact Or.inl y
      · by_cases y2 : A.2.2.1 t = A.2.2.1 (F (c - 1))
        · refine Or.inr ⟨y2, ?_⟩
          rw [y2] at hpl
          omega
        · have := ct_lt (u := A.2.2.1) (x := A.2.2.1 t) a1 (by omega)
          omega
end XTW
section KMS
variable {h : hH} {M : hT2} {x : Int64} {B : Nat}
theorem ms_loop {c X Y : Nat} {A : aS} {F : Nat → Nat} {v : Nat → Int32} (hB : B + 1148 ≤ 35588) (hM : RM A (M 1) B) (hG : Gd X Y A) (hX : X < 2 ^ 30) (hc : c ≤ 1000) (hv : ∀ j, j < c → v j = nI (F j) ∧ F j < 1000) : ∀ d k, k + d = c → hRun 244 16 [.ref 281, .int (nI B), .int (nI (sm (fun j => woF A (F j)) k)), .int (nI k)] [] (hpM h 281 (s2 (s1 M 5 v) 0 2 (nI c)) x) (some (.int (nI (sm (fun j => woF A (F j)) c)))) (hpM h 281 (s2 (s1 M 5 v) 0 2 (nI c)) x) := by
  have h24 := Nat.le_trans hG.1.2.2 hG.1.2.1
  have em : (s2 (s1 M 5 v) 0 2 (nI c)) 0 2 = nI c := by rw [s2_at, if_pos ⟨rfl, rfl⟩]
  have hN : RM A ((s2 (s1 M 5 v) 0 2 (nI c)) 1) B := by rw [s21]; exact hM
  intro d
  induction d with
  | zero =>
    intro k hk
    rw [show k = c by omega]
    refine r_step rfl rfl rfl ?_
    refine r_step rfl rfl rfl ?_
    refine rM_getE rfl rfl em ?_
    refine r_brT rfl rfl ?_ ?_
    · exact Int32.le_refl _
    refine r_step rfl rfl rfl ?_
    (refine r_rtE rfl rfl ?_ ?_ ?_ <;> rfl)
  | succ d ih =>
    intro k hk
    obtain ⟨a1, a2⟩ := hv k (by omega)
    have fM := k_pf (h := h) (b := 281) (M := s2 (s1 M 5 v) 0 2 (nI c)) (x := x) (t := F k) hN hG hX hB a2
    have := ih (k + 1) (by omega)
    rw [sm] at this
    try dsimp only at this
    refine r_step rfl rfl rfl ?_
    refine r_step rfl rfl rfl ?_
    refine rM_getE rfl rfl em ?_
    refine r_brF rfl rfl ?_ ?_
    · exact nle (by omega) (by omega)
    refine r_step rfl rfl rfl ?_
    refine r_step rfl rfl rfl ?_
    refine r_step rfl rfl rfl ?_
    refine r_step rfl rfl rfl ?_
    refine rM_get rfl rfl ?_
    refine r_step rfl rfl rfl ?_
    refine rM_ildE (j := 5) rfl rfl (show k < 1000 by omega) ((congrFun (s25 M v _) _).trans a1) ?_
    refine rM_call rfl rfl rfl rfl rfl fM ?_
    refine r_step rfl rfl rfl ?_
    by_cases q : fiA A.2.1 (F k) < A.2.1.length
    · rw [show woF A (F k) = 0 from if_neg (by omega), Nat.add_zero] at this
      rw [if_pos q]
      refine r_brF rfl rfl ?_ ?_
      · exact nI_m1 (by omega)
      refine r_step rfl rfl rfl ?_
      first | refine r_callS rfl rfl rfl rfl m_fl0 ?_ | refine r_callS rfl rfl rfl rfl m_fl1 ?_
      refine r_step rfl rfl rfl ?_
      refine r_step rfl rfl rfl ?_
      refine r_step rfl rfl rfl ?_
      try dsimp only
      rw [Int32.add_zero, nI_1]
      refine r_step rfl rfl rfl ?_
      exact this
    · rw [show woF A (F k) = 1 from if_pos (by omega)] at this
      rw [if_neg q]
      refine r_brT rfl rfl ?_ ?_
      · rfl
      refine r_step rfl rfl rfl ?_
      refine r_step rfl rfl rfl ?_
      first | refine r_callS rfl rfl rfl rfl m_fl0 ?_ | refine r_callS rfl rfl rfl rfl m_fl1 ?_
      refine r_step rfl rfl rfl ?_
      refine r_step rfl rfl rfl ?_
      refine r_step rfl rfl rfl ?_
      try dsimp only
      rw [nI_1, nI_1]
      refine r_step rfl rfl rfl ?_
      exact this
end KMS
section CE9
variable {J : Nat} {E : hEn} {w : hWo}
theorem A_off (I : Iv J w.1 w.2.2.2) (s y : Int32) : Ans J 132 243 [.ref 2, .int s, .int y, hU] [.ref 281, .int s, .int y, hU, hU, hU, hU, hU, hU, hU] E w := by
  by_cases hy3 : y = nI 3
  · subst hy3
    obtain ⟨M, hMd⟩ : ∃ M, M = s2 (w.1 36) 0 0 0 := ⟨_, rfl⟩
    rcases stand I hMd s with ⟨p, A, hp, rfl, hG, hS, hM⟩ | ⟨hno, hnm⟩
    · have hS0 := hS.1
      have hM0 := hM.1
      have hBp : 1148 * p + 1148 ≤ 35588 := by omega
      have h24 : A.2.1.length ≤ 24 := Nat.le_trans hG.1.2.2 hG.1.2.1
      have hn := hS.2.1.2.1
      have hm : M 1 (1148 * p + 2) = nI A.2.1.length := hM.2.1.2.1
      obtain ⟨w1, k1, k2, k3⟩ := x_spread (E := E) (w := w) (q := p) (by omega) hG hS
      have hS1 : Rp A (w1.1 p) := by rw [k2.1 p (by omega)]; exact hS.2.1
      have hu : ∀ t, t < 1000 → A.2.2.1 t < 2 ^ 31 := fun t ht => by
        have := Gd_all hG ht
        omega
      have hcn := ctA_le A.2.2.1 0 1000
      have k0 : nI 3 = 3 := rfl
      have hr : rgI (nI 3) 0 3 = 1 := rgI_t (by decide)
      by_cases q : A.2.1.length = 0
      · obtain ⟨v, F, j1, j2, j3⟩ := k_laysTrue (h := hW E w1) (M := M) (x := w.2.2.1) (B := 1148 * p) (m := 1) (u := A.2.2.1) hBp (by omega) (by omega) hu (fun t ht => hM.2.1.2.2.2 t ht)
        have tw := x_twi (E := E) (w := w1) (p := p) (by omega) hS1 hG (by omega) j2
        rw [← tw_sm j2 _ (by omega), show min (ctA A.2.2.1 0 1000) A.2.1.length = 0 by omega] at tw
        have hm0 : M 1 (1148 * p + 2) = 0 := by rw [hm, q]; rfl
        refine Ans_l (v := 0) (u := 0) (w1 := w1) hMd I rfl rfl rfl rfl (Sp2_wk k2) ?_ ?_ rfl
        · clear j1
          (repeat (first | refine r_fy rfl rfl rfl rfl ?_ | (refine r_rtE rfl rfl ?_ ?_ ?_ <;> rfl) | refine r_get rfl rfl rfl ?_ | refine wS_getE (by omega) rfl rfl (by with_reducible assumption) ?_ | refine wS_get (by omega) rfl rfl ?_ | refine r_brT rfl rfl (by with_reducible first | assumption | rfl | exact nz10 | exact nI_pos (by omega) | exact nI_lt (by omega) (by omega) | exact nI_nlt (by omega) (by omega) | exact nI_le (by omega) (by omega) | exact nI_ge (by omega) (by omega)) ?_ | refine r_brF rfl rfl (by with_reducible first | assumption | rfl | exact nz10 | exact nI_pos (by omega) | exact nI_lt (by omega) (by omega) | exact nI_nlt (by omega) (by omega) | exact nI_le (by omega) (by omega) | exact nI_ge (by omega) (by omega)) ?_ | refine wH_call rfl rfl rfl rfl rfl (x_standing_t (by with_reducible assumption) (by with_reducible assumption)) ?_ | refine wH_call rfl rfl rfl rfl rfl (x_standing_f (by with_reducible assumption)) ?_ | refine r_callS rfl rfl rfl rfl (p_isSummary (by with_reducible assumption)) ?_ | refine r_callS rfl rfl rfl rfl (p_isThing (by with_reducible assumption)) ?_ | refine r_callS rfl rfl rfl rfl (p_isRoom (by with_reducible assumption)) ?_ | refine r_callS rfl rfl rfl rfl (p_isTop (by with_reducible assumption)) ?_ | refine r_callS rfl rfl rfl rfl (p_isWeight (by with_reducible assumption)) ?_ | refine r_callS rfl rfl rfl rfl (p_isShare (by with_reducible assumption)) ?_ | refine r_callS rfl rfl rfl rfl (p_isWindow (by with_reducible assumption)) ?_ | refine r_callS rfl rfl rfl rfl (p_isImage (by with_reducible assumption)) ?_ | refine r_tswd rfl (by with_reducible assumption) ?_ | refine wS_ild (by omega) rfl rfl (by first | assumption | omega | (simp only [lS]; omega)) ?_)); try dsimp only
          refine wH_call rfl rfl rfl rfl rfl k1 ?_
          (repeat (first | refine r_fy rfl rfl rfl rfl ?_ | (refine r_rtE rfl rfl ?_ ?_ ?_ <;> rfl) | refine r_get rfl rfl rfl ?_ | refine wS_getE (by omega) rfl rfl (by with_reducible assumption) ?_ | refine wS_get (by omega) rfl rfl ?_ | refine r_brT rfl rfl (by with_reducible first | assumption | rfl | exact nz10 | exact nI_pos (by omega) | exact nI_lt (by omega) (by omega) | exact nI_nlt (by omega) (by omega) | exact nI_le (by omega) (by omega) | exact nI_ge (by omega) (by omega)) ?_ | refine r_brF rfl rfl (by with_reducible first | assumption | rfl | exact nz10 | exact nI_pos (by omega) | exact nI_lt (by omega) (by omega) | exact nI_nlt (by omega) (by omega) | exact nI_le (by omega) (by omega) | exact nI_ge (by omega) (by omega)) ?_ | refine wH_call rfl rfl rfl rfl rfl (x_standing_t (by with_reducible assumption) (by with_reducible assumption)) ?_ | refine wH_call rfl rfl rfl rfl rfl (x_standing_f (by with_reducible assumption)) ?_ | refine r_callS rfl rfl rfl rfl (p_isSummary (by with_reducible assumption)) ?_ | refine r_callS rfl rfl rfl rfl (p_isThing (by with_reducible assumption)) ?_ | refine r_callS rfl rfl rfl rfl (p_isRoom (by with_reducible assumption)) ?_ | refine r_callS rfl rfl rfl rfl (p_isTop (by with_reducible assumption)) ?_ | refine r_callS rfl rfl rfl rfl (p_isWeight (by with_reducible assumption)) ?_ | refine r_callS rfl rfl rfl rfl (p_isShare (by with_reducible assumption)) ?_ | refine r_callS rfl rfl rfl rfl (p_isWindow (by with_reducible assumption)) ?_ | refine r_callS rfl rfl rfl rfl (p_isImage (by with_reducible assumption)) ?_ | refine r_tswd rfl (by with_reducible assumption) ?_ | refine wS_ild (by omega) rfl rfl (by first | assumption | omega | (simp only [lS]; omega)) ?_)); try dsimp only
          refine r_callS rfl rfl rfl rfl tw ?_
          (refine r_rtE rfl rfl ?_ ?_ ?_ <;> rfl)
        · clear hm
          (repeat (first | refine r_fy rfl rfl rfl rfl ?_ | (refine r_rtE rfl rfl ?_ ?_ ?_ <;> rfl) | refine rM_get rfl rfl ?_ | refine r_brT rfl rfl (by with_reducible first | assumption | rfl | exact nz10 | exact nI_pos (by omega) | exact nI_lt (by omega) (by omega) | exact nI_nlt (by omega) (by omega) | exact nI_le (by omega) (by omega) | exact nI_ge (by omega) (by omega)) ?_ | refine r_brF rfl rfl (by with_reducible first | assumption | rfl | exact nz10 | exact nI_pos (by omega) | exact nI_lt (by omega) (by omega) | exact nI_nlt (by omega) (by omega) | exact nI_le (by omega) (by omega) | exact nI_ge (by omega) (by omega)) ?_ | refine rM_call rfl rfl rfl rfl rfl (k_isThere_t (by with_reducible assumption) (by with_reducible assumption)) ?_ | refine rM_call rfl rfl rfl rfl rfl (k_isThere_f (by with_reducible assumption)) ?_ | refine rM_call rfl rfl rfl rfl rfl (m_manyE (by omega) (by with_reducible assumption)) ?_ | refine rM_call rfl rfl rfl rfl rfl (q_isSummary (by with_reducible assumption)) ?_ | (refine r_callS rfl rfl rfl rfl (m_bank _) ?_; rw [nm1148]) | refine r_callS rfl rfl rfl rfl (q_isThing (by with_reducible assumption)) ?_ | refine r_callS rfl rfl rfl rfl (q_isTop (by with_reducible assumption)) ?_ | refine r_callS rfl rfl rfl rfl (q_isPart (by with_reducible assumption)) ?_ | refine r_callS rfl rfl rfl rfl (q_isIn (by with_reducible assumption) (by decide) (by first | exact lx_m1 (by omega) | decide)) ?_ | refine r_tswd rfl (by with_reducible assumption) ?_ | (simp only [Option.toList, List.drop, List.cons_append, List.nil_append, na0, na1, na2, na3, na4, na5, na6, na7, na8, na16, na88, na148, nm3, nI_add]; refine rM_ildE (j := 1) rfl rfl (show _ < 35588 by omega) (by with_reducible assumption) ?_) | (simp only [Option.toList, List.drop, List.cons_append, List.nil_append, na0, na1, na2, na3, na4, na5, na6, na7, na8, na16, na88, na148, nm3, nI_add]; refine rM_ild (j := 1) rfl rfl (show _ < 35588 by omega) ?_))); try simp only [Option.toList, List.drop, List.cons_append, List.nil_append, na0, na1, na2, na3, na4, na5, na6, na7, na8, na16, na88, na148, nm3, nI_add]
          refine rM_call rfl rfl rfl rfl rfl (r1 := some (.int 0)) (h1 := hpM (hW E w1) 281 M w.2.2.1) ?_ ?_
          · (repeat (first | refine r_fy rfl rfl rfl rfl ?_ | (refine r_rtE rfl rfl ?_ ?_ ?_ <;> rfl) | refine rM_get rfl rfl ?_ | refine r_brT rfl rfl (by with_reducible first | assumption | rfl | exact nz10 | exact nI_pos (by omega) | exact nI_lt (by omega) (by omega) | exact nI_nlt (by omega) (by omega) | exact nI_le (by omega) (by omega) | exact nI_ge (by omega) (by omega)) ?_ | refine r_brF rfl rfl (by with_reducible first | assumption | rfl | exact nz10 | exact nI_pos (by omega) | exact nI_lt (by omega) (by omega) | exact nI_nlt (by omega) (by omega) | exact nI_le (by omega) (by omega) | exact nI_ge (by omega) (by omega)) ?_ | refine rM_call rfl rfl rfl rfl rfl (k_isThere_t (by with_reducible assumption) (by with_reducible assumption)) ?_ | refine rM_call rfl rfl rfl rfl rfl (k_isThere_f (by with_reducible assumption)) ?_ | refine rM_call rfl rfl rfl rfl rfl (m_manyE (by omega) (by with_reducible assumption)) ?_ | refine rM_call rfl rfl rfl rfl rfl (q_isSummary (by with_reducible assumption)) ?_ | (refine r_callS rfl rfl rfl rfl (m_bank _) ?_; rw [nm1148]) | refine r_callS rfl rfl rfl rfl (q_isThing (by with_reducible assumption)) ?_ | refine r_callS rfl rfl rfl rfl (q_isTop (by with_reducible assumption)) ?_ | refine r_callS rfl rfl rfl rfl (q_isPart (by with_reducible assumption)) ?_ | refine r_callS rfl rfl rfl rfl (q_isIn (by with_reducible assumption) (by decide) (by first | exact lx_m1 (by omega) | decide)) ?_ | refine r_tswd rfl (by with_reducible assumption) ?_ | (simp only [Option.toList, List.drop, List.cons_append, List.nil_append, na0, na1, na2, na3, na4, na5, na6, na7, na8, na16, na88, na148, nm3, nI_add]; refine rM_ildE (j := 1) rfl rfl (show _ < 35588 by omega) (by with_reducible assumption) ?_) | (simp only [Option.toList, List.drop, List.cons_append, List.nil_append, na0, na1, na2, na3, na4, na5, na6, na7, na8, na16, na88, na148, nm3, nI_add]; refine rM_ild (j := 1) rfl rfl (show _ < 35588 by omega) ?_))); try simp only [Option.toList, List.drop, List.cons_append, List.nil_append, na0, na1, na2, na3, na4, na5, na6, na7, na8, na16, na88, na148, nm3, nI_add]
          · (refine r_rtE rfl rfl ?_ ?_ ?_ <;> rfl)
      · obtain ⟨v, F, j1, j2, j3⟩ := k_laysTrue (h := hW E w1) (M := M) (x := w.2.2.1) (B := 1148 * p) (m := A.2.1.length) (u := A.2.2.1) hBp (by omega) (by omega) hu (fun t ht => hM.2.1.2.2.2 t ht)
        obtain ⟨c, hc⟩ : ∃ c, c = min (ctA A.2.2.1 0 1000) A.2.1.length := ⟨_, rfl⟩
        have tw := x_twi (E := E) (w := w1) (p := p) (by omega) hS1 hG (by omega) j2
        rw [← tw_sm j2 _ (by omega), ← hc] at tw
        rw [← hc] at j1 j3
        have ml := ms_loop (h := hW E w1) (M := M) (x := w.2.2.1) (B := 1148 * p) (c := c) (A := A) (F := F) (v := v) hBp hM hG (by omega) (by omega) (fun j hj => ⟨j3 j hj, by
          obtain ⟨t, t1, t2, t3, t4⟩ := j2 j (by omega)
          omega⟩) c 0 (by omega)
        have hm0 : ¬ nI A.2.1.length = 0 := fun z => q ((nI_eq (b := 0) (by omega) (by omega)).mp z)
        refine Ans_w (q0 := 30) (v := nI (sm (fun j => woF A (F j)) c)) (u := nI (sm (fun j => woF A (F j)) c)) (w1 := w1) (M' := s2 (s1 M 5 v) 0 2 (nI c)) (x' := w.2.2.1) hMd I rfl rfl rfl rfl (Or.inr rfl) (Sp2_wk k2) (fun i _ _ => by rw [s21]) (fun j b1 _ => by rw [s2_row (by omega), s1_row, if_neg (by omega)]) (fun j _ => by rw [s2_at, if_neg (by omega), s1_row, if_neg (by omega)]) (fun h => absurd h (by omega)) ?_ ?_ rfl
        · clear j1 ml
          (repeat (first | refine r_fy rfl rfl rfl rfl ?_ | (refine r_rtE rfl rfl ?_ ?_ ?_ <;> rfl) | refine r_get rfl rfl rfl ?_ | refine wS_getE (by omega) rfl rfl (by with_reducible assumption) ?_ | refine wS_get (by omega) rfl rfl ?_ | refine r_brT rfl rfl (by with_reducible first | assumption | rfl | exact nz10 | exact nI_pos (by omega) | exact nI_lt (by omega) (by omega) | exact nI_nlt (by omega) (by omega) | exact nI_le (by omega) (by omega) | exact nI_ge (by omega) (by omega)) ?_ | refine r_brF rfl rfl (by with_reducible first | assumption | rfl | exact nz10 | exact nI_pos (by omega) | exact nI_lt (by omega) (by omega) | exact nI_nlt (by omega) (by omega) | exact nI_le (by omega) (by omega) | exact nI_ge (by omega) (by omega)) ?_ | refine wH_call rfl rfl rfl rfl rfl (x_standing_t (by with_reducible assumption) (by with_reducible assumption)) ?_ | refine wH_call rfl rfl rfl rfl rfl (x_standing_f (by with_reducible assumption)) ?_ | refine r_callS rfl rfl rfl rfl (p_isSummary (by with_reducible assumption)) ?_ | refine r_callS rfl rfl rfl rfl (p_isThing (by with_reducible assumption)) ?_ | refine r_callS rfl rfl rfl rfl (p_isRoom (by with_reducible assumption)) ?_ | refine r_callS rfl rfl rfl rfl (p_isTop (by with_reducible assumption)) ?_ | refine r_callS rfl rfl rfl rfl (p_isWeight (by with_reducible assumption)) ?_ | refine r_callS rfl rfl rfl rfl (p_isShare (by with_reducible assumption)) ?_ | refine r_callS rfl rfl rfl rfl (p_isWindow (by with_reducible assumption)) ?_ | refine r_callS rfl rfl rfl rfl (p_isImage (by with_reducible assumption)) ?_ | refine r_tswd rfl (by with_reducible assumption) ?_ | refine wS_ild (by omega) rfl rfl (by first | assumption | omega | (simp only [lS]; omega)) ?_)); try dsimp only
          refine wH_call rfl rfl rfl rfl rfl k1 ?_
          (repeat (first | refine r_fy rfl rfl rfl rfl ?_ | (refine r_rtE rfl rfl ?_ ?_ ?_ <;> rfl) | refine r_get rfl rfl rfl ?_ | refine wS_getE (by omega) rfl rfl (by with_reducible assumption) ?_ | refine wS_get (by omega) rfl rfl ?_ | refine r_brT rfl rfl (by with_reducible first | assumption | rfl | exact nz10 | exact nI_pos (by omega) | exact nI_lt (by omega) (by omega) | exact nI_nlt (by omega) (by omega) | exact nI_le (by omega) (by omega) | exact nI_ge (by omega) (by omega)) ?_ | refine r_brF rfl rfl (by with_reducible first | assumption | rfl | exact nz10 | exact nI_pos (by omega) | exact nI_lt (by omega) (by omega) | exact nI_nlt (by omega) (by omega) | exact nI_le (by omega) (by omega) | exact nI_ge (by omega) (by omega)) ?_ | refine wH_call rfl rfl rfl rfl rfl (x_standing_t (by with_reducible assumption) (by with_reducible assumption)) ?_ | refine wH_call rfl rfl rfl rfl rfl (x_standing_f (by with_reducible assumption)) ?_ | refine r_callS rfl rfl rfl rfl (p_isSummary (by with_reducible assumption)) ?_ | refine r_callS rfl rfl rfl rfl (p_isThing (by with_reducible assumption)) ?_ | refine r_callS rfl rfl rfl rfl (p_isRoom (by with_reducible assumption)) ?_ | refine r_callS rfl rfl rfl rfl (p_isTop (by with_reducible assumption)) ?_ | refine r_callS rfl rfl rfl rfl (p_isWeight (by with_reducible assumption)) ?_ | refine r_callS rfl rfl rfl rfl (p_isShare (by with_reducible assumption)) ?_ | refine r_callS rfl rfl rfl rfl (p_isWindow (by with_reducible assumption)) ?_ | refine r_callS rfl rfl rfl rfl (p_isImage (by with_reducible assumption)) ?_ | refine r_tswd rfl (by with_reducible assumption) ?_ | refine wS_ild (by omega) rfl rfl (by first | assumption | omega | (simp only [lS]; omega)) ?_)); try dsimp only
          refine r_callS rfl rfl rfl rfl tw ?_
          (refine r_rtE rfl rfl ?_ ?_ ?_ <;> rfl)
        · (repeat (first | refine r_fy rfl rfl rfl rfl ?_ | (refine r_rtE rfl rfl ?_ ?_ ?_ <;> rfl) | refine rM_get rfl rfl ?_ | refine r_brT rfl rfl (by with_reducible first | assumption | rfl | exact nz10 | exact nI_pos (by omega) | exact nI_lt (by omega) (by omega) | exact nI_nlt (by omega) (by omega) | exact nI_le (by omega) (by omega) | exact nI_ge (by omega) (by omega)) ?_ | refine r_brF rfl rfl (by with_reducible first | assumption | rfl | exact nz10 | exact nI_pos (by omega) | exact nI_lt (by omega) (by omega) | exact nI_nlt (by omega) (by omega) | exact nI_le (by omega) (by omega) | exact nI_ge (by omega) (by omega)) ?_ | refine rM_call rfl rfl rfl rfl rfl (k_isThere_t (by with_reducible assumption) (by with_reducible assumption)) ?_ | refine rM_call rfl rfl rfl rfl rfl (k_isThere_f (by with_reducible assumption)) ?_ | refine rM_call rfl rfl rfl rfl rfl (m_manyE (by omega) (by with_reducible assumption)) ?_ | refine rM_call rfl rfl rfl rfl rfl (q_isSummary (by with_reducible assumption)) ?_ | (refine r_callS rfl rfl rfl rfl (m_bank _) ?_; rw [nm1148]) | refine r_callS rfl rfl rfl rfl (q_isThing (by with_reducible assumption)) ?_ | refine r_callS rfl rfl rfl rfl (q_isTop (by with_reducible assumption)) ?_ | refine r_callS rfl rfl rfl rfl (q_isPart (by with_reducible assumption)) ?_ | refine r_callS rfl rfl rfl rfl (q_isIn (by with_reducible assumption) (by decide) (by first | exact lx_m1 (by omega) | decide)) ?_ | refine r_tswd rfl (by with_reducible assumption) ?_ | (simp only [Option.toList, List.drop, List.cons_append, List.nil_append, na0, na1, na2, na3, na4, na5, na6, na7, na8, na16, na88, na148, nm3, nI_add]; refine rM_ildE (j := 1) rfl rfl (show _ < 35588 by omega) (by with_reducible assumption) ?_) | (simp only [Option.toList, List.drop, List.cons_append, List.nil_append, na0, na1, na2, na3, na4, na5, na6, na7, na8, na16, na88, na148, nm3, nI_add]; refine rM_ild (j := 1) rfl rfl (show _ < 35588 by omega) ?_))); try simp only [Option.toList, List.drop, List.cons_append, List.nil_append, na0, na1, na2, na3, na4, na5, na6, na7, na8, na16, na88, na148, nm3, nI_add]
          refine rM_call rfl rfl rfl rfl rfl (r1 := some (.int (nI (sm (fun j => woF A (F j)) c)))) (h1 := hpM (hW E w1) 281 (s2 (s1 M 5 v) 0 2 (nI c)) w.2.2.1) ?_ ?_
          · (repeat (first | refine r_fy rfl rfl rfl rfl ?_ | (refine r_rtE rfl rfl ?_ ?_ ?_ <;> rfl) | refine rM_get rfl rfl ?_ | refine r_brT rfl rfl (by with_reducible first | assumption | rfl | exact nz10 | exact nI_pos (by omega) | exact nI_lt (by omega) (by omega) | exact nI_nlt (by omega) (by omega) | exact nI_le (by omega) (by omega) | exact nI_ge (by omega) (by omega)) ?_ | refine r_brF rfl rfl (by with_reducible first | assumption | rfl | exact nz10 | exact nI_pos (by omega) | exact nI_lt (by omega) (by omega) | exact nI_nlt (by omega) (by omega) | exact nI_le (by omega) (by omega) | exact nI_ge (by omega) (by omega)) ?_ | refine rM_call rfl rfl rfl rfl rfl (k_isThere_t (by with_reducible assumption) (by with_reducible assumption)) ?_ | refine rM_call rfl rfl rfl rfl rfl (k_isThere_f (by with_reducible assumption)) ?_ | refine rM_call rfl rfl rfl rfl rfl (m_manyE (by omega) (by with_reducible assumption)) ?_ | refine rM_call rfl rfl rfl rfl rfl (q_isSummary (by with_reducible assumption)) ?_ | (refine r_callS rfl rfl rfl rfl (m_bank _) ?_; rw [nm1148]) | refine r_callS rfl rfl rfl rfl (q_isThing (by with_reducible assumption)) ?_ | refine r_callS rfl rfl rfl rfl (q_isTop (by with_reducible assumption)) ?_ | refine r_callS rfl rfl rfl rfl (q_isPart (by with_reducible assumption)) ?_ | refine r_callS rfl rfl rfl rfl (q_isIn (by with_reducible assumption) (by decide) (by first | exact lx_m1 (by omega) | decide)) ?_ | refine r_tswd rfl (by with_reducible assumption) ?_ | (simp only [Option.toList, List.drop, List.cons_append, List.nil_append, na0, na1, na2, na3, na4, na5, na6, na7, na8, na16, na88, na148, nm3, nI_add]; refine rM_ildE (j := 1) rfl rfl (show _ < 35588 by omega) (by with_reducible assumption) ?_) | (simp only [Option.toList, List.drop, List.cons_append, List.nil_append, na0, na1, na2, na3, na4, na5, na6, na7, na8, na16, na88, na148, nm3, nI_add]; refine rM_ild (j := 1) rfl rfl (show _ < 35588 by omega) ?_))); try simp only [Option.toList, List.drop, List.cons_append, List.nil_append, na0, na1, na2, na3, na4, na5, na6, na7, na8, na16, na88, na148, nm3, nI_add]
            refine rM_call rfl rfl rfl rfl rfl j1 ?_
            refine r_step rfl rfl rfl ?_
            refine r_step rfl rfl rfl ?_
            refine r_step rfl rfl rfl ?_
            refine r_step rfl rfl rfl ?_
            exact ml
          · (refine r_rtE rfl rfl ?_ ?_ ?_ <;> rfl)
    · refine Ans_3 (v := -1) (u := -1) hMd I rfl rfl rfl rfl ?_ ?_ rfl
      · (repeat (first | refine r_fy rfl rfl rfl rfl ?_ | (refine r_rtE rfl rfl ?_ ?_ ?_ <;> rfl) | refine r_get rfl rfl rfl ?_ | refine wS_getE (by omega) rfl rfl (by with_reducible assumption) ?_ | refine wS_get (by omega) rfl rfl ?_ | refine r_brT rfl rfl (by with_reducible first | assumption | rfl | exact nz10 | exact nI_pos (by omega) | exact nI_lt (by omega) (by omega) | exact nI_nlt (by omega) (by omega) | exact nI_le (by omega) (by omega) | exact nI_ge (by omega) (by omega)) ?_ | refine r_brF rfl rfl (by with_reducible first | assumption | rfl | exact nz10 | exact nI_pos (by omega) | exact nI_lt (by omega) (by omega) | exact nI_nlt (by omega) (by omega) | exact nI_le (by omega) (by omega) | exact nI_ge (by omega) (by omega)) ?_ | refine wH_call rfl rfl rfl rfl rfl (x_standing_t (by with_reducible assumption) (by with_reducible assumption)) ?_ | refine wH_call rfl rfl rfl rfl rfl (x_standing_f (by with_reducible assumption)) ?_ | refine r_callS rfl rfl rfl rfl (p_isSummary (by with_reducible assumption)) ?_ | refine r_callS rfl rfl rfl rfl (p_isThing (by with_reducible assumption)) ?_ | refine r_callS rfl rfl rfl rfl (p_isRoom (by with_reducible assumption)) ?_ | refine r_callS rfl rfl rfl rfl (p_isTop (by with_reducible assumption)) ?_ | refine r_callS rfl rfl rfl rfl (p_isWeight (by with_reducible assumption)) ?_ | refine r_callS rfl rfl rfl rfl (p_isShare (by with_reducible assumption)) ?_ | refine r_callS rfl rfl rfl rfl (p_isWindow (by with_reducible assumption)) ?_ | refine r_callS rfl rfl rfl rfl (p_isImage (by with_reducible assumption)) ?_ | refine r_tswd rfl (by with_reducible assumption) ?_ | refine wS_ild (by omega) rfl rfl (by first | assumption | omega | (simp only [lS]; omega)) ?_)); try dsimp only
      · (repeat (first | refine r_fy rfl rfl rfl rfl ?_ | (refine r_rtE rfl rfl ?_ ?_ ?_ <;> rfl) | refine rM_get rfl rfl ?_ | refine r_brT rfl rfl (by with_reducible first | assumption | rfl | exact nz10 | exact nI_pos (by omega) | exact nI_lt (by omega) (by omega) | exact nI_nlt (by omega) (by omega) | exact nI_le (by omega) (by omega) | exact nI_ge (by omega) (by omega)) ?_ | refine r_brF rfl rfl (by with_reducible first | assumption | rfl | exact nz10 | exact nI_pos (by omega) | exact nI_lt (by omega) (by omega) | exact nI_nlt (by omega) (by omega) | exact nI_le (by omega) (by omega) | exact nI_ge (by omega) (by omega)) ?_ | refine rM_call rfl rfl rfl rfl rfl (k_isThere_t (by with_reducible assumption) (by with_reducible assumption)) ?_ | refine rM_call rfl rfl rfl rfl rfl (k_isThere_f (by with_reducible assumption)) ?_ | refine rM_call rfl rfl rfl rfl rfl (m_manyE (by omega) (by with_reducible assumption)) ?_ | refine rM_call rfl rfl rfl rfl rfl (q_isSummary (by with_reducible assumption)) ?_ | (refine r_callS rfl rfl rfl rfl (m_bank _) ?_; rw [nm1148]) | refine r_callS rfl rfl rfl rfl (q_isThing (by with_reducible assumption)) ?_ | refine r_callS rfl rfl rfl rfl (q_isTop (by with_reducible assumption)) ?_ | refine r_callS rfl rfl rfl rfl (q_isPart (by with_reducible assumption)) ?_ | refine r_callS rfl rfl rfl rfl (q_isIn (by with_reducible assumption) (by decide) (by first | exact lx_m1 (by omega) | decide)) ?_ | refine r_tswd rfl (by with_reducible assumption) ?_ | (simp only [Option.toList, List.drop, List.cons_append, List.nil_append, na0, na1, na2, na3, na4, na5, na6, na7, na8, na16, na88, na148, nm3, nI_add]; refine rM_ildE (j := 1) rfl rfl (show _ < 35588 by omega) (by with_reducible assumption) ?_) | (simp only [Option.toList, List.drop, List.cons_append, List.nil_append, na0, na1, na2, na3, na4, na5, na6, na7, na8, na16, na88, na148, nm3, nI_add]; refine rM_ild (j := 1) rfl rfl (show _ < 35588 by omega) ?_))); try simp only [Option.toList, List.drop, List.cons_append, List.nil_append, na0, na1, na2, na3, na4, na5, na6, na7, na8, na16, na88, na148, nm3, nI_add]
  · exact A_offn I s y hy3
end CE9
