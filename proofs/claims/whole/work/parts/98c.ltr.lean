/-! by truth: the reference's row -/
theorem s21 (M : hT2) (v : Nat → Int32) (c : Int32) : (s2 (s1 M 5 v) 0 2 c) 1 = M 1 := by
  rw [s2_row (by omega), s1_row, if_neg (by omega)]
theorem s25 (M : hT2) (v : Nat → Int32) (c : Int32) : (s2 (s1 M 5 v) 0 2 c) 5 = v := by
  rw [s2_row (by omega), s1_at]
theorem s22 (M : hT2) (v u : Nat → Int32) (c : Int32) : s1 (s2 (s1 M 5 v) 0 2 c) 5 u = s2 (s1 M 5 u) 0 2 c := by
  funext a q
  unfold s1 s2
  by_cases e : a = 5
  · simp [e]
  · simp [e]
theorem s23 (M : hT2) (v : Nat → Int32) (c d : Int32) : s2 (s2 (s1 M 5 v) 0 2 c) 0 2 d = s2 (s1 M 5 v) 0 2 d := by
  funext a q
  unfold s1 s2
  by_cases e : a = 0
  · by_cases e2 : q = 2
    · simp [e, e2]
    · simp [e, e2]
  · simp [e]
section KLT
variable {h : hH} {M : hT2} {x : Int64} {B m : Nat} {r : Option Value} {h' : hH}
/-- the walk down to the place -/
theorem lt_walk {v : Nat → Int32} {c : Int32} {t k w : Nat} {u : Nat → Nat} {F : Nat → Nat} {z6 z7 : Value} (hB : B + 1148 ≤ 35588) (hk : ∀ j, j < k → u (F j) ≥ w) (hu : ∀ j, j < 1000 → u j < 2 ^ 31) (hw : w < 2 ^ 31) (e4 : ∀ t, t < 1000 → M 1 (B + 148 + t) = nI (u t)) (K : hRun 242 34 [.ref 281, .int (nI B), .int (nI m), .int (nI t), .int (nI w), .int (nI k), z6, z7] [] (hpM h 281 (s2 (s1 M 5 v) 0 2 c) x) r h') : ∀ d, k + d ≤ 1000 → (∀ j, j < k + d → v j = nI (F j) ∧ F j < 1000) → (∀ j, k ≤ j → j < k + d → u (F j) < w) → hRun 242 19 [.ref 281, .int (nI B), .int (nI m), .int (nI t), .int (nI w), .int (nI (k + d)), z6, z7] [] (hpM h 281 (s2 (s1 M 5 v) 0 2 c) x) r h' := by
  intro d
  induction d with
  | zero =>
    intro h1 h2 h3
    rw [Nat.add_zero] at h1 h2 ⊢
    refine r_step rfl rfl rfl ?_
    by_cases e : k = 0
    · subst e
      refine r_brT rfl rfl ?_ ?_
      · decide
      exact K
    · obtain ⟨a1, a2⟩ := h2 (k - 1) (by omega)
      have a3 := hk (k - 1) (by omega)
      refine r_brF rfl rfl ?_ ?_
      · exact nle (a := 0) (by omega) (by omega)
      refine r_step rfl rfl rfl ?_
      refine r_step rfl rfl rfl ?_
      refine r_step rfl rfl rfl ?_
      refine rM_get rfl rfl ?_
      refine r_step rfl rfl rfl ?_
      refine r_step rfl rfl rfl ?_
      refine r_step rfl rfl rfl ?_
      dsimp only
      rw [show nI k - 1 = nI (k - 1) from pk_sub (b := 1) (by omega)]
      refine rM_ildE (j := 5) rfl rfl (show k - 1 < 1000 by omega) ((congrFun (s25 M v c) _).trans a1) ?_
      refine rM_call rfl rfl rfl rfl rfl (m_truthE a2 hB ((congrFun (s21 M v c) _).trans (e4 _ a2))) ?_
      refine r_step rfl rfl rfl ?_
      refine r_brT rfl rfl ?_ ?_
      · exact nI_le a3 (hu _ a2)
      exact K
  | succ d ih =>
    intro h1 h2 h3
    obtain ⟨a1, a2⟩ := h2 (k + d) (by omega)
    have a3 := h3 (k + d) (by omega) (by omega)
    refine r_step rfl rfl rfl ?_
    refine r_brF rfl rfl ?_ ?_
    · exact nle (a := 0) (by omega) (by omega)
    refine r_step rfl rfl rfl ?_
    refine r_step rfl rfl rfl ?_
    refine r_step rfl rfl rfl ?_
    refine rM_get rfl rfl ?_
    refine r_step rfl rfl rfl ?_
    refine r_step rfl rfl rfl ?_
    refine r_step rfl rfl rfl ?_
    dsimp only
    rw [show nI (k + (d + 1)) - 1 = nI (k + d) from pk_sub (b := 1) (by omega)]
    refine rM_ildE (j := 5) rfl rfl (show k + d < 1000 by omega) ((congrFun (s25 M v c) _).trans a1) ?_
    refine rM_call rfl rfl rfl rfl rfl (m_truthE a2 hB ((congrFun (s21 M v c) _).trans (e4 _ a2))) ?_
    refine r_step rfl rfl rfl ?_
    refine r_brF rfl rfl ?_ ?_
    · exact nle a3 hw
    refine r_step rfl rfl rfl ?_
    dsimp only
    rw [show nI (k + (d + 1)) + -1 = nI (k + d) from pk_m1 (k + d)]
    refine r_step rfl rfl rfl ?_
    exact ih (by omega) (fun j hj => h2 j (by omega)) (fun j a b => h3 j a (by omega))
/-- places move up by one -/
theorem lt_move {c : Int32} {t w z6 : Int32} {p : Nat} : ∀ d (v : Nat → Int32), p + d < 1000 → (∀ v' : Nat → Int32, (∀ j, v' j = if p < j ∧ j ≤ p + d then v (j - 1) else v j) → hRun 242 66 [.ref 281, .int (nI B), .int (nI m), .int t, .int w, .int (nI p), .int z6, .int (nI p)] [] (hpM h 281 (s2 (s1 M 5 v') 0 2 c) x) r h') → hRun 242 51 [.ref 281, .int (nI B), .int (nI m), .int t, .int w, .int (nI p), .int z6, .int (nI (p + d))] [] (hpM h 281 (s2 (s1 M 5 v) 0 2 c) x) r h' := by
  intro d
  induction d with
  | zero =>
    intro v h1 K
    rw [Nat.add_zero]
    refine r_step rfl rfl rfl ?_
    refine r_step rfl rfl rfl ?_
    refine r_brT rfl rfl ?_ ?_
    · exact Int32.le_refl _
    exact K v (fun j => by rw [if_neg (by omega)])
  | succ d ih =>
    intro v h1 K
    refine r_step rfl rfl rfl ?_
    refine r_step rfl rfl rfl ?_
    refine r_brF rfl rfl ?_ ?_
    · exact nle (by omega) (by omega)
    refine r_step rfl rfl rfl ?_
    refine rM_get rfl rfl ?_
    refine r_step rfl rfl rfl ?_
    refine r_step rfl rfl rfl ?_
    refine rM_get rfl rfl ?_
    refine r_step rfl rfl rfl ?_
    refine r_step rfl rfl rfl ?_
    refine r_step rfl rfl rfl ?_
    dsimp only
    rw [show nI (p + (d + 1)) - 1 = nI (p + d) from pk_sub (b := 1) (by omega)]
    refine rM_ildE (j := 5) (c := v (p + d)) rfl rfl (show p + d < 1000 by omega) (congrFun (s25 M v c) _) ?_
    refine rM_ist (j := 5) rfl rfl (show p + (d + 1) < 1000 by omega) ?_
    rw [s22, s25]
    refine r_step rfl rfl rfl ?_
    dsimp only
    rw [show nI (p + (d + 1)) + -1 = nI (p + d) from pk_m1 (p + d)]
    refine r_step rfl rfl rfl ?_
    refine ih _ (by omega) (fun v' hv' => K v' (fun j => ?_))
    rw [hv' j]
    unfold upd
    by_cases a : p < j ∧ j ≤ p + d
    · rw [if_pos a, if_neg (by omega), if_pos (by omega)]
    · rw [if_neg a]
      by_cases b : j = p + (d + 1)
      · subst b
        rw [if_pos rfl, if_pos (by omega)]
        rfl
      · rw [if_neg b, if_neg (by omega)]
theorem lt_loop {u : Nat → Nat} (hB : B + 1148 ≤ 35588) (hm1 : 1 ≤ m) (hm : m ≤ 1000) (hu : ∀ j, j < 1000 → u j < 2 ^ 31) (e4 : ∀ t, t < 1000 → M 1 (B + 148 + t) = nI (u t)) : ∀ d n (v : Nat → Int32) (F : Nat → Nat) (z4 z5 z6 z7 : Value), n + d = 1000 → Tv u n F → (∀ j, j < min (ctA u 0 n) m → v j = nI (F j)) → ∃ v' F', hRun 242 5 [.ref 281, .int (nI B), .int (nI m), .int (nI n), z4, z5, z6, z7] [] (hpM h 281 (s2 (s1 M 5 v) 0 2 (nI (min (ctA u 0 n) m))) x) none (hpM h 281 (s2 (s1 M 5 v') 0 2 (nI (min (ctA u 0 1000) m))) x) ∧ Tv u 1000 F' ∧ ∀ j, j < min (ctA u 0 1000) m → v' j = nI (F' j) := by
  intro d
  induction d with
  | zero =>
    intro n v F z4 z5 z6 z7 hn hT hv
    have e : n = 1000 := by omega
    subst e
    refine ⟨v, F, ?_, hT, hv⟩
    refine r_step rfl rfl rfl ?_
    refine r_step rfl rfl rfl ?_
    refine r_brT rfl rfl ?_ ?_
    · decide
    (refine r_rtE rfl rfl ?_ ?_ ?_ <;> rfl)
  | succ d ih =>
    intro n v F z4 z5 z6 z7 hn hT hv
    have hn1 : n < 1000 := by omega
    have hcl := ctA_le u 0 n
    have hF : ∀ j, j < min (ctA u 0 n) m → v j = nI (F j) ∧ F j < 1000 := fun j hj => by
      obtain ⟨t, t1, t2, t3, t4⟩ := hT j (by omega)
      exact ⟨hv j hj, by omega⟩
    have hun := hu n hn1
    have head : ∀ r h', hRun 242 13 [.ref 281, .int (nI B), .int (nI m), .int (nI n), .int (nI (u n)), z5, z6, z7] [] (hpM h 281 (s2 (s1 M 5 v) 0 2 (nI (min (ctA u 0 n) m))) x) r h' → hRun 242 5 [.ref 281, .int (nI B), .int (nI m), .int (nI n), z4, z5, z6, z7] [] (hpM h 281 (s2 (s1 M 5 v) 0 2 (nI (min (ctA u 0 n) m))) x) r h' := by
      intro r h' K
      refine r_step rfl rfl rfl ?_
      refine r_step rfl rfl rfl ?_
      refine r_brF rfl rfl ?_ ?_
      · exact nle (b := 1000) hn1 (by omega)
      refine r_step rfl rfl rfl ?_
      refine r_step rfl rfl rfl ?_
      refine r_step rfl rfl rfl ?_
      refine rM_call rfl rfl rfl rfl rfl (m_truthE hn1 hB ((congrFun (s21 M v _) _).trans (e4 n hn1))) ?_
      refine r_step rfl rfl rfl ?_
      exact K
    by_cases h0 : u n = 0
    · have ec : ctA u 0 (n + 1) = ctA u 0 n := ctA_s0 (by omega)
      obtain ⟨v', F', k1, k2, k3⟩ := ih (n + 1) v F (.int (nI (u n))) z5 z6 z7 (by omega) (Tv_skip h0 hT) (fun j hj => by
        rw [ec] at hj
        exact hv j hj)
      refine ⟨v', F', head _ _ ?_, k2, k3⟩
      rw [ec] at k1
      refine r_step rfl rfl rfl ?_
      refine r_brT rfl rfl ?_ ?_
      · rw [h0]; rfl
      refine r_step rfl rfl rfl ?_
      refine r_step rfl rfl rfl ?_
      dsimp only
      rw [nI_1]
      refine r_step rfl rfl rfl ?_
      exact k1
    · obtain ⟨p, hp⟩ : ∃ p, p = ctA u (u n) n + ceA u (u n) n := ⟨_, rfl⟩
      have hp0 := ct_ce (u := u) (show 0 < u n by omega) n
      have hcmp := fun j (hj : j < ctA u 0 n) => Tv_cmp (j := j) hp hT hj
      have ec : ctA u 0 (n + 1) = ctA u 0 n + 1 := ctA_s1 (by omega)
      obtain ⟨c, hc⟩ : ∃ c, c = min (ctA u 0 n) m := ⟨_, rfl⟩
      obtain ⟨k, hk⟩ : ∃ k, k = min p c := ⟨_, rfl⟩
      rw [← hc] at hv hF head ⊢
      have walk : ∀ r h', hRun 242 34 [.ref 281, .int (nI B), .int (nI m), .int (nI n), .int (nI (u n)), .int (nI k), z6, z7] [] (hpM h 281 (s2 (s1 M 5 v) 0 2 (nI c)) x) r h' → hRun 242 13 [.ref 281, .int (nI B), .int (nI m), .int (nI n), .int (nI (u n)), z5, z6, z7] [] (hpM h 281 (s2 (s1 M 5 v) 0 2 (nI c)) x) r h' := by
        intro r h' K
        have := lt_walk (v := v) (c := nI c) (t := n) (k := k) (w := u n) (u := u) (F := F) (z6 := z6) (z7 := z7) hB (fun j hj => (hcmp j (by omega)).mpr (by omega)) hu hun e4 K (c - k) (by omega) (fun j hj => hF j (by omega)) (fun j a b => by
          have := hcmp j (by omega)
          omega)
        rw [show k + (c - k) = c by omega] at this
        refine r_step rfl rfl rfl ?_
        refine r_brF rfl rfl ?_ ?_
        · exact fun z => h0 ((nI_eq (b := 0) hun (by omega)).mp z)
        refine r_step rfl rfl rfl ?_
        refine rM_getE rfl rfl (show s2 (s1 M 5 v) 0 2 (nI c) 0 2 = nI c by rw [s2_at, if_pos ⟨rfl, rfl⟩]) ?_
        refine r_step rfl rfl rfl ?_
        exact this
      by_cases hpm : p < m
      · have ek : k = p := by omega
        rw [ek] at walk
        obtain ⟨e, he⟩ : ∃ e, e = min (ctA u 0 n) (m - 1) := ⟨_, rfl⟩
        obtain ⟨v1, hv1⟩ : ∃ v1 : Nat → Int32, v1 = fun j => if p < j ∧ j ≤ e then v (j - 1) else v j := ⟨_, rfl⟩
        obtain ⟨v', F', k1, k2, k3⟩ := ih (n + 1) (upd v1 p (nI n)) (insR F p n) (.int (nI (u n))) (.int (nI p)) (.int (nI e)) (.int (nI p)) (by omega) (Tv_ins (by omega) hp hT) (fun j hj => by
          rw [ec] at hj
          unfold upd insR
          rw [hv1]
          dsimp only
          by_cases a : j < p
          · rw [if_neg (by omega), if_neg (by omega), if_pos a]
            exact hv j (by omega)
          · rw [if_neg a]
            by_cases b : j = p
            · rw [if_pos b, if_pos b]
            · rw [if_neg b, if_neg b, if_pos (by omega)]
              exact hv (j - 1) (by omega))
        rw [show min (ctA u 0 (n + 1)) m = e + 1 by omega] at k1
        refine ⟨v', F', head _ _ (walk _ _ ?_), k2, k3⟩
        have tail : hRun 242 48 [.ref 281, .int (nI B), .int (nI m), .int (nI n), .int (nI (u n)), .int (nI p), z6, z7] [.int (nI e)] (hpM h 281 (s2 (s1 M 5 v) 0 2 (nI c)) x) none (hpM h 281 (s2 (s1 M 5 v') 0 2 (nI (min (ctA u 0 1000) m))) x) := by
          have go : ∀ v2 : Nat → Int32, (∀ j, v2 j = if p < j ∧ j ≤ p + (e - p) then v (j - 1) else v j) → hRun 242 66 [.ref 281, .int (nI B), .int (nI m), .int (nI n), .int (nI (u n)), .int (nI p), .int (nI e), .int (nI p)] [] (hpM h 281 (s2 (s1 M 5 v2) 0 2 (nI c)) x) none (hpM h 281 (s2 (s1 M 5 v') 0 2 (nI (min (ctA u 0 1000) m))) x) := by
            intro v2 hv2
            have ev : v2 = v1 := by
              rw [hv1]
              funext j
              rw [hv2 j, show p + (e - p) = e by omega]
            rw [ev]
            refine r_step rfl rfl rfl ?_
            refine rM_get rfl rfl ?_
            refine r_step rfl rfl rfl ?_
            refine r_step rfl rfl rfl ?_
            refine rM_ist (j := 5) rfl rfl (show p < 1000 by omega) ?_
            rw [s22, s25]
            refine r_step rfl rfl rfl ?_
            refine r_step rfl rfl rfl ?_
            refine r_step rfl rfl rfl ?_
            refine r_step rfl rfl rfl ?_
            dsimp only
            rw [nI_1]
            refine rM_set rfl rfl ?_
            show hRun 242 76 _ _ (hpM h 281 (s2 (s2 (s1 M 5 _) 0 2 _) 0 2 _) x) _ _
            rw [s23]
            refine r_step rfl rfl rfl ?_
            dsimp only
            rw [nI_1]
            refine r_step rfl rfl rfl ?_
            exact k1
          have := lt_move (h := h) (M := M) (x := x) (B := B) (m := m) (c := nI c) (t := nI n) (w := nI (u n)) (z6 := nI e) (p := p) (e - p) v (by omega) go
          rw [show p + (e - p) = e by omega] at this
          refine r_step rfl rfl rfl ?_
          refine r_step rfl rfl rfl ?_
          refine r_step rfl rfl rfl ?_
          exact this
        refine r_step rfl rfl rfl ?_
        refine r_step rfl rfl rfl ?_
        refine r_brT rfl rfl ?_ ?_
        · exact nI_lt hpm (by omega)
        refine r_step rfl rfl rfl ?_
        refine rM_getE rfl rfl (show s2 (s1 M 5 v) 0 2 (nI c) 0 2 = nI c by rw [s2_at, if_pos ⟨rfl, rfl⟩]) ?_
        refine r_step rfl rfl rfl ?_
        by_cases q : c < m
        · refine r_brF rfl rfl ?_ ?_
          · exact nle q (by omega)
          refine r_step rfl rfl rfl ?_
          refine rM_getE rfl rfl (show s2 (s1 M 5 v) 0 2 (nI c) 0 2 = nI e by rw [s2_at, if_pos ⟨rfl, rfl⟩, show c = e by omega]) ?_
          refine r_step rfl rfl rfl ?_
          exact tail
        · refine r_brT rfl rfl ?_ ?_
          · exact nI_le (by omega) (by omega)
          refine r_step rfl rfl rfl ?_
          refine r_step rfl rfl rfl ?_
          refine r_step rfl rfl rfl ?_
          dsimp only
          rw [show nI m - 1 = nI e by rw [show e = m - 1 by omega]; exact pk_sub (b := 1) (by omega)]
          exact tail
      · have ek : k = m := by omega
        obtain ⟨v', F', k1, k2, k3⟩ := ih (n + 1) v (insR F p n) (.int (nI (u n))) (.int (nI k)) z6 z7 (by omega) (Tv_ins (by omega) hp hT) (fun j hj => by
          unfold insR
          rw [if_pos (by omega)]
          exact hv j (by omega))
        rw [show min (ctA u 0 (n + 1)) m = c by omega] at k1
        refine ⟨v', F', head _ _ (walk _ _ ?_), k2, k3⟩
        refine r_step rfl rfl rfl ?_
        refine r_step rfl rfl rfl ?_
        refine r_brF rfl rfl ?_ ?_
        · exact nI_nlt (by omega) (by omega)
        refine r_step rfl rfl rfl ?_
        refine r_step rfl rfl rfl ?_
        dsimp only
        rw [nI_1]
        refine r_step rfl rfl rfl ?_
        exact k1
theorem k_laysTrue {u : Nat → Nat} (hB : B + 1148 ≤ 35588) (hm1 : 1 ≤ m) (hm : m ≤ 1000) (hu : ∀ j, j < 1000 → u j < 2 ^ 31) (e4 : ∀ t, t < 1000 → M 1 (B + 148 + t) = nI (u t)) : ∃ v' F', hRun 242 0 [.ref 281, .int (nI B), .int (nI m), hU, hU, hU, hU, hU] [] (hpM h 281 M x) none (hpM h 281 (s2 (s1 M 5 v') 0 2 (nI (min (ctA u 0 1000) m))) x) ∧ Tv u 1000 F' ∧ ∀ j, j < min (ctA u 0 1000) m → v' j = nI (F' j) := by
  obtain ⟨v', F', k1, k2, k3⟩ := lt_loop (h := h) (M := M) (x := x) (B := B) (m := m) hB hm1 hm hu e4 1000 0 (M 5) (fun _ => 0) hU hU hU hU rfl Tv_0 (fun j hj => by rw [ctA] at hj; omega)
  refine ⟨v', F', ?_, k2, k3⟩
  rw [show min (ctA u 0 0) m = 0 by rw [ctA]; omega, s1_id] at k1
  refine r_step rfl rfl rfl ?_
  refine r_step rfl rfl rfl ?_
  refine rM_set rfl rfl ?_
  refine r_step rfl rfl rfl ?_
  refine r_step rfl rfl rfl ?_
  exact k1
end KLT
