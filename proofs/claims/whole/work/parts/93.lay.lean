/-! the tree of the reference -/
theorem fo_last {α : Type} (f : Nat → α → α) : ∀ d p a, fo f (d + 1) p a = f (p + d) (fo f d p a)
  | 0, p, a => rfl
  | d + 1, p, a => by
    rw [fo, fo_last f d (p + 1), fo, show p + 1 + d = p + (d + 1) by omega]
def lwR (C : List aK) : Nat → Nat → (Nat → Int32) → Nat → Int32
  | 0, _, v => v
  | d + 1, k, v => lwR C d (k + 1) (upd v (gC C k).1 (nI (gC C k).2.2))
theorem lwR_lo {A : aS} {X Y : Nat} (hG : Gd X Y A) : ∀ d k v, k + d = A.2.1.length → (∀ t, t < 1000 → v t = nI (if fiA A.2.1 t < k then (gC A.2.1 (fiA A.2.1 t)).2.2 else 0)) → (∀ t, t < 1000 → lwR A.2.1 d k v t = nI (loA A t)) ∧ ∀ t, 1000 ≤ t → lwR A.2.1 d k v t = v t := by
  intro d
  induction d with
  | zero =>
    intro k v hk h
    refine ⟨fun t ht => ?_, fun _ _ => rfl⟩
    rw [lwR, h t ht, show k = A.2.1.length by omega]
    rfl
  | succ d ih =>
    intro k v hk h
    have hkl : k < A.2.1.length := by omega
    obtain ⟨g1, -⟩ := Gc_at hG.2.2.2.1 hkl
    have hfi : ∀ t, (fiA A.2.1 t = k ↔ t = (gC A.2.1 k).1) := by
      intro t
      constructor
      · intro e
        have := fiA_at (C := A.2.1) (t := t) (by omega)
        rw [e] at this
        exact this.symm
      · intro e
        rw [e]
        exact fiA_of hG.2.2.2.1.2.1 hkl
    obtain ⟨a1, a2⟩ := ih (k + 1) (upd v (gC A.2.1 k).1 (nI (gC A.2.1 k).2.2)) (by omega) (fun t ht => by
      unfold upd
      by_cases e : t = (gC A.2.1 k).1
      · have ek := (hfi t).mpr e
        rw [if_pos e, ek, if_pos (by omega)]
      · have ek : fiA A.2.1 t ≠ k := fun z => e ((hfi t).mp z)
        rw [if_neg e, h t ht]
        by_cases b : fiA A.2.1 t < k
        · rw [if_pos b, if_pos (by omega)]
        · rw [if_neg b, if_neg (by omega)])
    refine ⟨fun t ht => ?_, fun t ht => ?_⟩
    · rw [lwR]; exact a1 t ht
    · rw [lwR, a2 t ht, pk_un (by omega)]
section KLO
variable {h : hH} {M : hT2} {x : Int64} {B : Nat} {f : Int32}
theorem lz_loop {VF : Nat → Int32} {z4 z5 z6 : Value} {r : Option Value} {h' : hH} (K : hRun 252 12 [.ref 281, .int (nI B), .int f, .int (nI 1111), z4, z5, z6] [] (hpM h 281 (s1 M 6 VF) x) r h') : ∀ d k v, k + d = 1111 → flF 0 d k v = VF → hRun 252 2 [.ref 281, .int (nI B), .int f, .int (nI k), z4, z5, z6] [] (hpM h 281 (s1 M 6 v) x) r h' := by
  intro d
  induction d with
  | zero =>
    intro k v hk e
    rw [flF] at e
    subst e
    rw [show k = 1111 by omega]
    refine r_step rfl rfl rfl ?_
    refine r_step rfl rfl rfl ?_
    refine r_brT rfl rfl ?_ ?_
    · decide
    exact K
  | succ d ih =>
    intro k v hk e
    rw [flF] at e
    refine r_step rfl rfl rfl ?_
    refine r_step rfl rfl rfl ?_
    refine r_brF rfl rfl ?_ ?_
    · exact nle (b := 1111) (by omega) (by omega)
    refine r_step rfl rfl rfl ?_
    refine rM_get rfl rfl ?_
    refine r_step rfl rfl rfl ?_
    refine r_step rfl rfl rfl ?_
    refine rM_ist (j := 6) rfl rfl (show k < 1111 by omega) ?_
    rw [s1_s1, s1_at]
    refine r_step rfl rfl rfl ?_
    dsimp only
    rw [nI_1]
    refine r_step rfl rfl rfl ?_
    exact ih (k + 1) _ (by omega) e
theorem ll_loop {A : aS} {VF : Nat → Int32} {z4 z5 z6 : Value} {r : Option Value} {h' : hH} {X Y : Nat} (hG : Gd X Y A) (hB : B + 1148 ≤ 35588) (hM : RM A (M 1) B) (K : hRun 252 34 [.ref 281, .int (nI B), .int f, .int (nI A.2.1.length), z4, z5, z6] [] (hpM h 281 (s1 M 6 VF) x) r h') : ∀ d k v, k + d = A.2.1.length → lwR A.2.1 d k v = VF → hRun 252 14 [.ref 281, .int (nI B), .int f, .int (nI k), z4, z5, z6] [] (hpM h 281 (s1 M 6 v) x) r h' := by
  have h24 := Nat.le_trans hG.1.2.2 hG.1.2.1
  have e1 : ∀ v : Nat → Int32, (s1 M 6 v) 1 = M 1 := fun v => by rw [s1_row, if_neg (by omega)]
  have hm : M 1 (B + 2) = nI A.2.1.length := hM.2.1.2.1
  intro d
  induction d with
  | zero =>
    intro k v hk e
    rw [lwR] at e
    subst e
    rw [show k = A.2.1.length by omega]
    refine r_step rfl rfl rfl ?_
    refine r_step rfl rfl rfl ?_
    refine r_step rfl rfl rfl ?_
    refine rM_call rfl rfl rfl rfl rfl (m_manyE hB ((congrFun (e1 _) _).trans hm)) ?_
    refine r_brT rfl rfl ?_ ?_
    · exact Int32.le_refl _
    exact K
  | succ d ih =>
    intro k v hk e
    rw [lwR] at e
    have hkl : k < A.2.1.length := by omega
    obtain ⟨g1, -⟩ := Gc_at hG.2.2.2.1 hkl
    obtain ⟨c1, -, c3⟩ := RM_k hM hkl
    refine r_step rfl rfl rfl ?_
    refine r_step rfl rfl rfl ?_
    refine r_step rfl rfl rfl ?_
    refine rM_call rfl rfl rfl rfl rfl (m_manyE hB ((congrFun (e1 _) _).trans hm)) ?_
    refine r_brF rfl rfl ?_ ?_
    · exact nle (by omega) (by omega)
    refine r_step rfl rfl rfl ?_
    refine rM_get rfl rfl ?_
    refine r_step rfl rfl rfl ?_
    refine r_step rfl rfl rfl ?_
    refine r_step rfl rfl rfl ?_
    refine r_step rfl rfl rfl ?_
    refine rM_call rfl rfl rfl rfl rfl (m_ofE (u := 0) (by omega) (by omega) hB ((congrFun (e1 _) _).trans c1)) ?_
    refine r_step rfl rfl rfl ?_
    refine r_step rfl rfl rfl ?_
    refine r_step rfl rfl rfl ?_
    refine r_step rfl rfl rfl ?_
    refine rM_call rfl rfl rfl rfl rfl (m_ofE (u := 2) (by omega) (by omega) hB ((congrFun (e1 _) _).trans c3)) ?_
    refine rM_ist (j := 6) rfl rfl (show (gC A.2.1 k).1 < 1111 by omega) ?_
    rw [s1_s1, s1_at]
    refine r_step rfl rfl rfl ?_
    dsimp only
    rw [nI_1]
    refine r_step rfl rfl rfl ?_
    exact ih (k + 1) _ (by omega) e
/-- one level: each child adds its own -/
theorem lo_in {L T : Nat} {g : Nat → Int32} (hB : B + 1148 ≤ 35588) (hL : L ≤ 2) (hT : M 1 (B + 3) = nI T) : ∀ d j (v : Nat → Int32), j + d = lU (3 + L) → (∀ n, n < lU (3 + L) → v (n + ofsF (L + 1)) = g n) → (∀ n, n < lU (2 + L) → v (n + ofsF L) = fo (oLs f (nI T) g) (min (j - n * 10) 10) (n * 10) 0) → ∃ v', (∀ r h' (z6 : Value), (∀ y6 : Value, hRun 252 79 [.ref 281, .int (nI B), .int f, .int (nI L), .int (nI (lU (3 + L))), .int (nI (lU (3 + L))), y6] [] (hpM h 281 (s1 M 6 v') x) r h') → hRun 252 47 [.ref 281, .int (nI B), .int f, .int (nI L), .int (nI (lU (3 + L))), .int (nI j), z6] [] (hpM h 281 (s1 M 6 v) x) r h') ∧ (∀ n, n < lU (2 + L) → v' (n + ofsF L) = fo (oLs f (nI T) g) 10 (n * 10) 0) ∧ ∀ i, (i < ofsF L ∨ ofsF L + lU (2 + L) ≤ i) → v' i = v i := by
  have hl2 : lU (2 + L) * 10 = lU (3 + L) := by
    have : L = 0 ∨ L = 1 ∨ L = 2 := by omega
    rcases this with rfl | rfl | rfl <;> rfl
  have hl := lU_le (3 + L)
  have hof : ofsF (L + 1) + lU (3 + L) ≤ ofsF L ∧ ofsF L + lU (2 + L) ≤ 1111 := by
    have : L = 0 ∨ L = 1 ∨ L = 2 := by omega
    rcases this with rfl | rfl | rfl <;> decide
  have e1 : ∀ v : Nat → Int32, (s1 M 6 v) 1 = M 1 := fun v => by rw [s1_row, if_neg (by omega)]
  intro d
  induction d with
  | zero =>
    intro j v hj h1 h2
    refine ⟨v, fun r h' z6 K => ?_, fun n hn => ?_, fun _ _ => rfl⟩
    · rw [show j = lU (3 + L) by omega]
      refine r_step rfl rfl rfl ?_
      refine r_step rfl rfl rfl ?_
      refine r_brT rfl rfl ?_ ?_
      · exact Int32.le_refl _
      exact K z6
    · rw [h2 n hn, show min (j - n * 10) 10 = 10 by omega]
  | succ d ih =>
    intro j v hj h1 h2
    have hjl : j < lU (3 + L) := by omega
    have hp : j / 10 < lU (2 + L) := by omega
    have c1 := h1 j hjl
    have c2 := h2 (j / 10) hp
    have e10 : nI j / 10 = nI (j / 10) := pk_div (d := 10) (by omega) (by omega) (by omega)
    obtain ⟨v1, hv1⟩ : ∃ v1, v1 = upd v (j / 10 + ofsF L) (oLs f (nI T) g j (v (j / 10 + ofsF L))) := ⟨_, rfl⟩
    obtain ⟨v', k1, k2, k3⟩ := ih (j + 1) v1 (by omega) (fun n hn => by rw [hv1, pk_un (by omega)]; exact h1 n hn) (fun n hn => by
      rw [hv1]
      unfold upd
      by_cases e : n = j / 10
      · subst e
        rw [if_pos rfl, c2, show min (j - j / 10 * 10) 10 = j - j / 10 * 10 by omega, show min (j + 1 - j / 10 * 10) 10 = (j - j / 10 * 10) + 1 by omega, fo_last, show j / 10 * 10 + (j - j / 10 * 10) = j by omega]
      · rw [if_neg (by omega), h2 n hn]
        rw [show min (j + 1 - n * 10) 10 = min (j - n * 10) 10 by omega])
    refine ⟨v', fun r h' z6 K => ?_, k2, fun i hi => ?_⟩
    · have hgo := k1 r h' (.int (g j)) K
      have pre : ∀ r h', hRun 252 64 [.ref 281, .int (nI B), .int f, .int (nI L), .int (nI (lU (3 + L))), .int (nI j), .int (g j)] [.int (reF (g j) f (nI T))] (hpM h 281 (s1 M 6 v) x) r h' → hRun 252 47 [.ref 281, .int (nI B), .int f, .int (nI L), .int (nI (lU (3 + L))), .int (nI j), z6] [] (hpM h 281 (s1 M 6 v) x) r h' := by
        intro r h' K
        refine r_step rfl rfl rfl ?_
        refine r_step rfl rfl rfl ?_
        refine r_brF rfl rfl ?_ ?_
        · exact nle (by omega) (by omega)
        refine r_step rfl rfl rfl ?_
        refine rM_get rfl rfl ?_
        refine r_step rfl rfl rfl ?_
        refine r_step rfl rfl rfl ?_
        refine r_step rfl rfl rfl ?_
        dsimp only
        rw [nI_1]
        refine r_step rfl rfl rfl ?_
        refine r_callS rfl rfl rfl rfl (m_placeOfNode (l := L + 1) (by omega)) ?_
        refine rM_ildE (j := 6) rfl rfl (show j + ofsF (L + 1) < 1111 by omega) (show (s1 M 6 v) 6 (j + ofsF (L + 1)) = g j by rw [s1_at]; exact c1) ?_
        refine r_step rfl rfl rfl ?_
        refine r_step rfl rfl rfl ?_
        refine r_step rfl rfl rfl ?_
        refine r_step rfl rfl rfl ?_
        refine r_step rfl rfl rfl ?_
        have hh := m_isHeavy (h := h) (b := 281) (M := s1 M 6 v) (x := x) (B := B) (g j) f hB
        rw [e1, hT] at hh
        refine rM_call rfl rfl rfl rfl rfl hh ?_
        exact K
      refine pre _ _ ?_
      by_cases c : reF (g j) f (nI T) = 0
      · have ev : oLs f (nI T) g j (v (j / 10 + ofsF L)) = v (j / 10 + ofsF L) + g j := if_pos c
        rw [ev] at hv1
        refine r_brT rfl rfl ?_ ?_
        · exact c
        refine r_step rfl rfl rfl ?_
        refine rM_get rfl rfl ?_
        refine r_step rfl rfl rfl ?_
        refine r_step rfl rfl rfl ?_
        refine r_step rfl rfl rfl ?_
        refine r_step rfl rfl rfl ?_
        dsimp only
        rw [e10]
        refine r_callS rfl rfl rfl rfl (m_placeOfNode (l := L) (by omega)) ?_
        refine r_step rfl rfl rfl ?_
        refine rM_ild (j := 6) rfl rfl (show j / 10 + ofsF L < 1111 by omega) ?_
        rw [s1_at]
        refine r_step rfl rfl rfl ?_
        refine r_step rfl rfl rfl ?_
        refine rM_ist (j := 6) rfl rfl (show j / 10 + ofsF L < 1111 by omega) ?_
        rw [s1_s1, s1_at, ← hv1]
        refine r_step rfl rfl rfl ?_
        dsimp only
        rw [nI_1]
        refine r_step rfl rfl rfl ?_
        exact hgo
      · have ev : oLs f (nI T) g j (v (j / 10 + ofsF L)) = v (j / 10 + ofsF L) := if_neg c
        have e0 : v1 = v := by
          rw [hv1, ev]
          funext i
          unfold upd
          split
          · rename_i z
            rw [z]
          · rfl
        rw [e0] at hgo
        refine r_brF rfl rfl ?_ ?_
        · exact c
        refine r_step rfl rfl rfl ?_
        dsimp only
        rw [nI_1]
        refine r_step rfl rfl rfl ?_
        exact hgo
    · rw [k3 i hi, hv1, pk_un (by omega)]
theorem k_owns {A : aS} {X Y T : Nat} (hG : Gd X Y A) (hB : B + 1148 ≤ 35588) (hM : RM A (M 1) B) (hT : M 1 (B + 3) = nI T) : ∃ v, hRun 252 0 [.ref 281, .int (nI B), .int f, hU, hU, hU, hU] [] (hpM h 281 M x) none (hpM h 281 (s1 M 6 v) x) ∧ ∀ L, L ≤ 3 → ∀ n, n < lU (2 + L) → v (n + ofsF L) = oL f (nI T) (fun t => nI (loA A t)) (3 - L) n := by
  obtain ⟨v0, hv0⟩ : ∃ v0, v0 = flF 0 1111 0 (M 6) := ⟨_, rfl⟩
  have z0 : ∀ t, t < 1111 → v0 t = 0 := fun t ht => by rw [hv0, flF_at, if_pos (by omega)]
  obtain ⟨v1, hv1⟩ : ∃ v1, v1 = lwR A.2.1 A.2.1.length 0 v0 := ⟨_, rfl⟩
  obtain ⟨a1, a2⟩ := lwR_lo hG A.2.1.length 0 v0 (by omega) (fun t ht => by rw [z0 t (by omega), if_neg (by omega)]; rfl)
  rw [← hv1] at a1 a2
  have g3 : ∀ n, n < 1000 → v1 n = oL f (nI T) (fun t => nI (loA A t)) 0 n := a1
  obtain ⟨v2, b1, b2, b3⟩ := lo_in (h := h) (M := M) (x := x) (B := B) (f := f) (L := 2) (T := T) (g := oL f (nI T) (fun t => nI (loA A t)) 0) hB (by omega) hT 1000 0 v1 rfl (fun n hn => g3 n hn) (fun n hn => by
    rw [show 0 - n * 10 = 0 by omega]
    exact (a2 (n + 1000) (by omega)).trans (z0 _ (by have : n < 100 := hn; omega)))
  obtain ⟨v3, c1, c2, c3⟩ := lo_in (h := h) (M := M) (x := x) (B := B) (f := f) (L := 1) (T := T) (g := oL f (nI T) (fun t => nI (loA A t)) 1) hB (by omega) hT 100 0 v2 rfl (fun n hn => b2 n hn) (fun n hn => by
    rw [show 0 - n * 10 = 0 by omega]
    have hn' : n < 10 := hn
    exact ((b3 (n + 1100) (Or.inr (show 1000 + 100 ≤ n + 1100 by omega))).trans (a2 (n + 1100) (by omega))).trans (z0 _ (by omega)))
  obtain ⟨v4, d1, d2, d3⟩ := lo_in (h := h) (M := M) (x := x) (B := B) (f := f) (L := 0) (T := T) (g := oL f (nI T) (fun t => nI (loA A t)) 2) hB (by omega) hT 10 0 v3 rfl (fun n hn => c2 n hn) (fun n hn => by
    rw [show 0 - n * 10 = 0 by omega]
    have hn' : n < 1 := hn
    exact (((c3 (n + 1110) (Or.inr (show 1100 + 10 ≤ n + 1110 by omega))).trans (b3 (n + 1110) (Or.inr (show 1000 + 100 ≤ n + 1110 by omega)))).trans (a2 (n + 1110) (by omega))).trans (z0 _ (by omega)))
  refine ⟨v4, ?_, fun L hL n hn => ?_⟩
  · have st : hpM h 281 M x = hpM h 281 (s1 M 6 (M 6)) x := by rw [s1_id]
    rw [st]
    refine r_step rfl rfl rfl ?_
    refine r_step rfl rfl rfl ?_
    refine lz_loop (M := M) (VF := v0) ?_ 1111 0 (M 6) (by omega) hv0.symm
    refine r_step rfl rfl rfl ?_
    refine r_step rfl rfl rfl ?_
    refine ll_loop (VF := v1) hG hB hM ?_ A.2.1.length 0 v0 (by omega) hv1.symm
    refine r_step rfl rfl rfl ?_
    refine r_step rfl rfl rfl ?_
    refine r_step rfl rfl rfl ?_
    refine r_brF rfl rfl ?_ ?_
    · decide
    refine r_step rfl rfl rfl ?_
    refine r_step rfl rfl rfl ?_
    refine r_step rfl rfl rfl ?_
    refine r_step rfl rfl rfl ?_
    dsimp only
    rw [show (2 : Int32) + 1 = nI 3 by decide]
    refine r_callS rfl rfl rfl rfl (m_wide (l := 3) (by omega)) ?_
    refine r_step rfl rfl rfl ?_
    dsimp only
    rw [show (1000 : Int32) / nI (wdF 3) = nI 1000 by decide]
    refine r_step rfl rfl rfl ?_
    refine r_step rfl rfl rfl ?_
    refine r_step rfl rfl rfl ?_
    refine b1 _ _ _ (fun y6 => ?_)
    refine r_step rfl rfl rfl ?_
    dsimp only
    rw [show nI 2 + -1 = nI 1 by decide]
    refine r_step rfl rfl rfl ?_
    refine r_step rfl rfl rfl ?_
    refine r_brF rfl rfl ?_ ?_
    · decide
    refine r_step rfl rfl rfl ?_
    refine r_step rfl rfl rfl ?_
    refine r_step rfl rfl rfl ?_
    refine r_step rfl rfl rfl ?_
    dsimp only
    rw [nI_1]
    refine r_callS rfl rfl rfl rfl (m_wide (l := 2) (by omega)) ?_
    refine r_step rfl rfl rfl ?_
    dsimp only
    rw [show (1000 : Int32) / nI (wdF 2) = nI 100 by decide]
    refine r_step rfl rfl rfl ?_
    refine r_step rfl rfl rfl ?_
    refine r_step rfl rfl rfl ?_
    refine c1 _ _ _ (fun y6 => ?_)
    refine r_step rfl rfl rfl ?_
    dsimp only
    rw [show nI 1 + -1 = nI 0 by decide]
    refine r_step rfl rfl rfl ?_
    refine r_step rfl rfl rfl ?_
    refine r_brF rfl rfl ?_ ?_
    · decide
    refine r_step rfl rfl rfl ?_
    refine r_step rfl rfl rfl ?_
    refine r_step rfl rfl rfl ?_
    refine r_step rfl rfl rfl ?_
    dsimp only
    rw [nI_1]
    refine r_callS rfl rfl rfl rfl (m_wide (l := 1) (by omega)) ?_
    refine r_step rfl rfl rfl ?_
    dsimp only
    rw [show (1000 : Int32) / nI (wdF 1) = nI 10 by decide]
    refine r_step rfl rfl rfl ?_
    refine r_step rfl rfl rfl ?_
    refine r_step rfl rfl rfl ?_
    refine d1 _ _ _ (fun y6 => ?_)
    refine r_step rfl rfl rfl ?_
    refine r_step rfl rfl rfl ?_
    refine r_step rfl rfl rfl ?_
    refine r_brT rfl rfl ?_ ?_
    · decide
    (refine r_rtE rfl rfl ?_ ?_ ?_ <;> rfl)
  · have : L = 0 ∨ L = 1 ∨ L = 2 ∨ L = 3 := by omega
    rcases this with rfl | rfl | rfl | rfl
    · exact d2 n hn
    · have hn' : n < 10 := hn
      rw [show v4 (n + ofsF 1) = v3 (n + ofsF 1) from d3 _ (Or.inl (show n + 1100 < 1110 by omega))]
      exact c2 n hn
    · have hn' : n < 100 := hn
      rw [show v4 (n + ofsF 2) = v3 (n + ofsF 2) from d3 _ (Or.inl (show n + 1000 < 1110 by omega)), show v3 (n + ofsF 2) = v2 (n + ofsF 2) from c3 _ (Or.inl (show n + 1000 < 1100 by omega))]
      exact b2 n hn
    · have hn' : n < 1000 := hn
      rw [show v4 (n + ofsF 3) = v3 (n + ofsF 3) from d3 _ (Or.inl (show n + 0 < 1110 by omega)), show v3 (n + ofsF 3) = v2 (n + ofsF 3) from c3 _ (Or.inl (show n + 0 < 1100 by omega)), show v2 (n + ofsF 3) = v1 (n + ofsF 3) from b3 _ (Or.inl (show n + 0 < 1000 by omega))]
      exact g3 n hn'
end KLO
section CE5
variable {J : Nat} {E : hEn} {w : hWo}
theorem A_own (I : Iv J w.1 w.2.2.2) (s l n f : Int32) : Ans J 140 251 [.ref 2, .int s, .int l, .int n, .int f, hU] [.ref 281, .int s, .int l, .int n, .int f] E w := by
  obtain ⟨M, hMd⟩ : ∃ M, M = s2 (w.1 36) 0 0 0 := ⟨_, rfl⟩
  rcases stand I hMd s with ⟨p, A, hp, rfl, hG, hS, hM⟩ | ⟨hno, hnm⟩
  · have hS0 := hS.1
    have hM0 := hM.1
    have hBp : 1148 * p + 1148 ≤ 35588 := by omega
    have h24 : A.2.1.length ≤ 24 := Nat.le_trans hG.1.2.2 hG.1.2.1
    have hn := hS.2.1.2.1
    have hm : M 1 (1148 * p + 2) = nI A.2.1.length := hM.2.1.2.1
    rcases nx l n with ⟨L, N, hL, hN, rfl, rfl⟩ | ⟨hf1, hf2⟩
    · rcases rg_01 f 1 1000 with hf | hf
      · refine Ans_3 (v := -1) (u := -1) hMd I rfl rfl rfl rfl ?_ ?_ rfl
        · (repeat (first | refine r_fy rfl rfl rfl rfl ?_ | (refine r_rtE rfl rfl ?_ ?_ ?_ <;> rfl) | refine r_get rfl rfl rfl ?_ | refine wS_getE (by omega) rfl rfl (by with_reducible assumption) ?_ | refine wS_get (by omega) rfl rfl ?_ | refine r_brT rfl rfl (by with_reducible first | assumption | rfl | exact nz10 | exact nI_pos (by omega) | exact nI_lt (by omega) (by omega) | exact nI_nlt (by omega) (by omega) | exact nI_le (by omega) (by omega) | exact nI_ge (by omega) (by omega)) ?_ | refine r_brF rfl rfl (by with_reducible first | assumption | rfl | exact nz10 | exact nI_pos (by omega) | exact nI_lt (by omega) (by omega) | exact nI_nlt (by omega) (by omega) | exact nI_le (by omega) (by omega) | exact nI_ge (by omega) (by omega)) ?_ | refine wH_call rfl rfl rfl rfl rfl (x_standing_t (by with_reducible assumption) (by with_reducible assumption)) ?_ | refine wH_call rfl rfl rfl rfl rfl (x_standing_f (by with_reducible assumption)) ?_ | refine r_callS rfl rfl rfl rfl (p_isSummary (by with_reducible assumption)) ?_ | refine r_callS rfl rfl rfl rfl (p_isThing (by with_reducible assumption)) ?_ | refine r_callS rfl rfl rfl rfl (p_isRoom (by with_reducible assumption)) ?_ | refine r_callS rfl rfl rfl rfl (p_isTop (by with_reducible assumption)) ?_ | refine r_callS rfl rfl rfl rfl (p_isWeight (by with_reducible assumption)) ?_ | refine r_callS rfl rfl rfl rfl (p_isShare (by with_reducible assumption)) ?_ | refine r_callS rfl rfl rfl rfl (p_isWindow (by with_reducible assumption)) ?_ | refine r_callS rfl rfl rfl rfl (p_isImage (by with_reducible assumption)) ?_ | refine r_tswd rfl (by with_reducible assumption) ?_ | refine wS_ild (by omega) rfl rfl (by first | assumption | omega | (simp only [lS]; omega)) ?_)); try dsimp only
        · (repeat (first | refine r_fy rfl rfl rfl rfl ?_ | (refine r_rtE rfl rfl ?_ ?_ ?_ <;> rfl) | refine rM_get rfl rfl ?_ | refine r_brT rfl rfl (by with_reducible first | assumption | rfl | exact nz10 | exact nI_pos (by omega) | exact nI_lt (by omega) (by omega) | exact nI_nlt (by omega) (by omega) | exact nI_le (by omega) (by omega) | exact nI_ge (by omega) (by omega)) ?_ | refine r_brF rfl rfl (by with_reducible first | assumption | rfl | exact nz10 | exact nI_pos (by omega) | exact nI_lt (by omega) (by omega) | exact nI_nlt (by omega) (by omega) | exact nI_le (by omega) (by omega) | exact nI_ge (by omega) (by omega)) ?_ | refine rM_call rfl rfl rfl rfl rfl (k_isThere_t (by with_reducible assumption) (by with_reducible assumption)) ?_ | refine rM_call rfl rfl rfl rfl rfl (k_isThere_f (by with_reducible assumption)) ?_ | refine rM_call rfl rfl rfl rfl rfl (m_manyE (by omega) (by with_reducible assumption)) ?_ | refine rM_call rfl rfl rfl rfl rfl (q_isSummary (by with_reducible assumption)) ?_ | (refine r_callS rfl rfl rfl rfl (m_bank _) ?_; rw [nm1148]) | refine r_callS rfl rfl rfl rfl (q_isThing (by with_reducible assumption)) ?_ | refine r_callS rfl rfl rfl rfl (q_isTop (by with_reducible assumption)) ?_ | refine r_callS rfl rfl rfl rfl (q_isPart (by with_reducible assumption)) ?_ | refine r_callS rfl rfl rfl rfl (q_isIn (by with_reducible assumption) (by decide) (by first | exact lx_m1 (by omega) | decide)) ?_ | refine r_tswd rfl (by with_reducible assumption) ?_ | (simp only [Option.toList, List.drop, List.cons_append, List.nil_append, na0, na1, na2, na3, na4, na5, na6, na7, na8, na16, na88, na148, nm3, nI_add]; refine rM_ildE (j := 1) rfl rfl (show _ < 35588 by omega) (by with_reducible assumption) ?_) | (simp only [Option.toList, List.drop, List.cons_append, List.nil_append, na0, na1, na2, na3, na4, na5, na6, na7, na8, na16, na88, na148, nm3, nI_add]; refine rM_ild (j := 1) rfl rfl (show _ < 35588 by omega) ?_))); try simp only [Option.toList, List.drop, List.cons_append, List.nil_append, na0, na1, na2, na3, na4, na5, na6, na7, na8, na16, na88, na148, nm3, nI_add]
          refine r_callS rfl rfl rfl rfl (k_isNode_t hL hN) ?_
          (repeat (first | refine r_fy rfl rfl rfl rfl ?_ | (refine r_rtE rfl rfl ?_ ?_ ?_ <;> rfl) | refine rM_get rfl rfl ?_ | refine r_brT rfl rfl (by with_reducible first | assumption | rfl | exact nz10 | exact nI_pos (by omega) | exact nI_lt (by omega) (by omega) | exact nI_nlt (by omega) (by omega) | exact nI_le (by omega) (by omega) | exact nI_ge (by omega) (by omega)) ?_ | refine r_brF rfl rfl (by with_reducible first | assumption | rfl | exact nz10 | exact nI_pos (by omega) | exact nI_lt (by omega) (by omega) | exact nI_nlt (by omega) (by omega) | exact nI_le (by omega) (by omega) | exact nI_ge (by omega) (by omega)) ?_ | refine rM_call rfl rfl rfl rfl rfl (k_isThere_t (by with_reducible assumption) (by with_reducible assumption)) ?_ | refine rM_call rfl rfl rfl rfl rfl (k_isThere_f (by with_reducible assumption)) ?_ | refine rM_call rfl rfl rfl rfl rfl (m_manyE (by omega) (by with_reducible assumption)) ?_ | refine rM_call rfl rfl rfl rfl rfl (q_isSummary (by with_reducible assumption)) ?_ | (refine r_callS rfl rfl rfl rfl (m_bank _) ?_; rw [nm1148]) | refine r_callS rfl rfl rfl rfl (q_isThing (by with_reducible assumption)) ?_ | refine r_callS rfl rfl rfl rfl (q_isTop (by with_reducible assumption)) ?_ | refine r_callS rfl rfl rfl rfl (q_isPart (by with_reducible assumption)) ?_ | refine r_callS rfl rfl rfl rfl (q_isIn (by with_reducible assumption) (by decide) (by first | exact lx_m1 (by omega) | decide)) ?_ | refine r_tswd rfl (by with_reducible assumption) ?_ | (simp only [Option.toList, List.drop, List.cons_append, List.nil_append, na0, na1, na2, na3, na4, na5, na6, na7, na8, na16, na88, na148, nm3, nI_add]; refine rM_ildE (j := 1) rfl rfl (show _ < 35588 by omega) (by with_reducible assumption) ?_) | (simp only [Option.toList, List.drop, List.cons_append, List.nil_append, na0, na1, na2, na3, na4, na5, na6, na7, na8, na16, na88, na148, nm3, nI_add]; refine rM_ild (j := 1) rfl rfl (show _ < 35588 by omega) ?_))); try simp only [Option.toList, List.drop, List.cons_append, List.nil_append, na0, na1, na2, na3, na4, na5, na6, na7, na8, na16, na88, na148, nm3, nI_add]
      · have hlN : lU (2 + L) = ndN L := by
          have : L = 0 ∨ L = 1 ∨ L = 2 ∨ L = 3 := by omega
          rcases this with rfl | rfl | rfl | rfl <;> rfl
        have hof : ofsF L + lU (2 + L) ≤ 1111 := by
          have : L = 0 ∨ L = 1 ∨ L = 2 ∨ L = 3 := by omega
          rcases this with rfl | rfl | rfl | rfl <;> decide
        have m2' : M 1 (1148 * p + 3) = nI (A.1 2) := hM.2.1.1 2 (by omega) (by omega) (by omega)
        obtain ⟨w1, k1, k2, k3⟩ := x_grow (E := E) (w := w) (q := p) (f := f) (by omega) hG hS
        obtain ⟨v, j1, j2⟩ := k_owns (h := hW E w1) (M := M) (x := w.2.2.1) (B := 1148 * p) (f := f) hG hBp hM m2'
        have a1 := k3 L hL N (by omega)
        have a2 := j2 L hL N (by omega)
        refine Ans_w (q0 := 30) (v := oL f (nI (A.1 2)) (fun t => nI (loA A t)) (3 - L) N) (u := oL f (nI (A.1 2)) (fun t => nI (loA A t)) (3 - L) N) (w1 := w1) (M' := s1 M 6 v) (x' := w.2.2.1) hMd I rfl rfl rfl rfl (Or.inr rfl) (Sp2_wk k2) (fun i _ _ => by rw [s1_row, if_neg (by omega)]) (fun j b1 _ => by rw [s1_row, if_neg (by omega)]) (fun j _ => by rw [s1_row, if_neg (by omega)]) (fun h => absurd h (by omega)) ?_ ?_ rfl
        · (repeat (first | refine r_fy rfl rfl rfl rfl ?_ | (refine r_rtE rfl rfl ?_ ?_ ?_ <;> rfl) | refine r_get rfl rfl rfl ?_ | refine wS_getE (by omega) rfl rfl (by with_reducible assumption) ?_ | refine wS_get (by omega) rfl rfl ?_ | refine r_brT rfl rfl (by with_reducible first | assumption | rfl | exact nz10 | exact nI_pos (by omega) | exact nI_lt (by omega) (by omega) | exact nI_nlt (by omega) (by omega) | exact nI_le (by omega) (by omega) | exact nI_ge (by omega) (by omega)) ?_ | refine r_brF rfl rfl (by with_reducible first | assumption | rfl | exact nz10 | exact nI_pos (by omega) | exact nI_lt (by omega) (by omega) | exact nI_nlt (by omega) (by omega) | exact nI_le (by omega) (by omega) | exact nI_ge (by omega) (by omega)) ?_ | refine wH_call rfl rfl rfl rfl rfl (x_standing_t (by with_reducible assumption) (by with_reducible assumption)) ?_ | refine wH_call rfl rfl rfl rfl rfl (x_standing_f (by with_reducible assumption)) ?_ | refine r_callS rfl rfl rfl rfl (p_isSummary (by with_reducible assumption)) ?_ | refine r_callS rfl rfl rfl rfl (p_isThing (by with_reducible assumption)) ?_ | refine r_callS rfl rfl rfl rfl (p_isRoom (by with_reducible assumption)) ?_ | refine r_callS rfl rfl rfl rfl (p_isTop (by with_reducible assumption)) ?_ | refine r_callS rfl rfl rfl rfl (p_isWeight (by with_reducible assumption)) ?_ | refine r_callS rfl rfl rfl rfl (p_isShare (by with_reducible assumption)) ?_ | refine r_callS rfl rfl rfl rfl (p_isWindow (by with_reducible assumption)) ?_ | refine r_callS rfl rfl rfl rfl (p_isImage (by with_reducible assumption)) ?_ | refine r_tswd rfl (by with_reducible assumption) ?_ | refine wS_ild (by omega) rfl rfl (by first | assumption | omega | (simp only [lS]; omega)) ?_)); try dsimp only
          refine rF_call rfl rfl rfl rfl rfl rfl (x_isNode_t hL hN) ?_
          (repeat (first | refine r_fy rfl rfl rfl rfl ?_ | (refine r_rtE rfl rfl ?_ ?_ ?_ <;> rfl) | refine r_get rfl rfl rfl ?_ | refine wS_getE (by omega) rfl rfl (by with_reducible assumption) ?_ | refine wS_get (by omega) rfl rfl ?_ | refine r_brT rfl rfl (by with_reducible first | assumption | rfl | exact nz10 | exact nI_pos (by omega) | exact nI_lt (by omega) (by omega) | exact nI_nlt (by omega) (by omega) | exact nI_le (by omega) (by omega) | exact nI_ge (by omega) (by omega)) ?_ | refine r_brF rfl rfl (by with_reducible first | assumption | rfl | exact nz10 | exact nI_pos (by omega) | exact nI_lt (by omega) (by omega) | exact nI_nlt (by omega) (by omega) | exact nI_le (by omega) (by omega) | exact nI_ge (by omega) (by omega)) ?_ | refine wH_call rfl rfl rfl rfl rfl (x_standing_t (by with_reducible assumption) (by with_reducible assumption)) ?_ | refine wH_call rfl rfl rfl rfl rfl (x_standing_f (by with_reducible assumption)) ?_ | refine r_callS rfl rfl rfl rfl (p_isSummary (by with_reducible assumption)) ?_ | refine r_callS rfl rfl rfl rfl (p_isThing (by with_reducible assumption)) ?_ | refine r_callS rfl rfl rfl rfl (p_isRoom (by with_reducible assumption)) ?_ | refine r_callS rfl rfl rfl rfl (p_isTop (by with_reducible assumption)) ?_ | refine r_callS rfl rfl rfl rfl (p_isWeight (by with_reducible assumption)) ?_ | refine r_callS rfl rfl rfl rfl (p_isShare (by with_reducible assumption)) ?_ | refine r_callS rfl rfl rfl rfl (p_isWindow (by with_reducible assumption)) ?_ | refine r_callS rfl rfl rfl rfl (p_isImage (by with_reducible assumption)) ?_ | refine r_tswd rfl (by with_reducible assumption) ?_ | refine wS_ild (by omega) rfl rfl (by first | assumption | omega | (simp only [lS]; omega)) ?_)); try dsimp only
          refine rF_call rfl rfl rfl rfl rfl rfl k1 ?_
          refine r_step rfl rfl rfl ?_
          refine r_get rfl rfl rfl ?_
          refine r_get rfl rfl rfl ?_
          refine r_step rfl rfl rfl ?_
          refine w74_ld (p := L) (by omega) rfl ?_
          rw [show 75 + L = 73 + (2 + L) by omega]
          refine r_step rfl rfl rfl ?_
          refine wU_ild (j := 2 + L) (by omega) (by omega) rfl (by omega) a1 ?_
          (refine r_rtE rfl rfl ?_ ?_ ?_ <;> rfl)
        · (repeat (first | refine r_fy rfl rfl rfl rfl ?_ | (refine r_rtE rfl rfl ?_ ?_ ?_ <;> rfl) | refine rM_get rfl rfl ?_ | refine r_brT rfl rfl (by with_reducible first | assumption | rfl | exact nz10 | exact nI_pos (by omega) | exact nI_lt (by omega) (by omega) | exact nI_nlt (by omega) (by omega) | exact nI_le (by omega) (by omega) | exact nI_ge (by omega) (by omega)) ?_ | refine r_brF rfl rfl (by with_reducible first | assumption | rfl | exact nz10 | exact nI_pos (by omega) | exact nI_lt (by omega) (by omega) | exact nI_nlt (by omega) (by omega) | exact nI_le (by omega) (by omega) | exact nI_ge (by omega) (by omega)) ?_ | refine rM_call rfl rfl rfl rfl rfl (k_isThere_t (by with_reducible assumption) (by with_reducible assumption)) ?_ | refine rM_call rfl rfl rfl rfl rfl (k_isThere_f (by with_reducible assumption)) ?_ | refine rM_call rfl rfl rfl rfl rfl (m_manyE (by omega) (by with_reducible assumption)) ?_ | refine rM_call rfl rfl rfl rfl rfl (q_isSummary (by with_reducible assumption)) ?_ | (refine r_callS rfl rfl rfl rfl (m_bank _) ?_; rw [nm1148]) | refine r_callS rfl rfl rfl rfl (q_isThing (by with_reducible assumption)) ?_ | refine r_callS rfl rfl rfl rfl (q_isTop (by with_reducible assumption)) ?_ | refine r_callS rfl rfl rfl rfl (q_isPart (by with_reducible assumption)) ?_ | refine r_callS rfl rfl rfl rfl (q_isIn (by with_reducible assumption) (by decide) (by first | exact lx_m1 (by omega) | decide)) ?_ | refine r_tswd rfl (by with_reducible assumption) ?_ | (simp only [Option.toList, List.drop, List.cons_append, List.nil_append, na0, na1, na2, na3, na4, na5, na6, na7, na8, na16, na88, na148, nm3, nI_add]; refine rM_ildE (j := 1) rfl rfl (show _ < 35588 by omega) (by with_reducible assumption) ?_) | (simp only [Option.toList, List.drop, List.cons_append, List.nil_append, na0, na1, na2, na3, na4, na5, na6, na7, na8, na16, na88, na148, nm3, nI_add]; refine rM_ild (j := 1) rfl rfl (show _ < 35588 by omega) ?_))); try simp only [Option.toList, List.drop, List.cons_append, List.nil_append, na0, na1, na2, na3, na4, na5, na6, na7, na8, na16, na88, na148, nm3, nI_add]
          refine r_callS rfl rfl rfl rfl (k_isNode_t hL hN) ?_
          (repeat (first | refine r_fy rfl rfl rfl rfl ?_ | (refine r_rtE rfl rfl ?_ ?_ ?_ <;> rfl) | refine rM_get rfl rfl ?_ | refine r_brT rfl rfl (by with_reducible first | assumption | rfl | exact nz10 | exact nI_pos (by omega) | exact nI_lt (by omega) (by omega) | exact nI_nlt (by omega) (by omega) | exact nI_le (by omega) (by omega) | exact nI_ge (by omega) (by omega)) ?_ | refine r_brF rfl rfl (by with_reducible first | assumption | rfl | exact nz10 | exact nI_pos (by omega) | exact nI_lt (by omega) (by omega) | exact nI_nlt (by omega) (by omega) | exact nI_le (by omega) (by omega) | exact nI_ge (by omega) (by omega)) ?_ | refine rM_call rfl rfl rfl rfl rfl (k_isThere_t (by with_reducible assumption) (by with_reducible assumption)) ?_ | refine rM_call rfl rfl rfl rfl rfl (k_isThere_f (by with_reducible assumption)) ?_ | refine rM_call rfl rfl rfl rfl rfl (m_manyE (by omega) (by with_reducible assumption)) ?_ | refine rM_call rfl rfl rfl rfl rfl (q_isSummary (by with_reducible assumption)) ?_ | (refine r_callS rfl rfl rfl rfl (m_bank _) ?_; rw [nm1148]) | refine r_callS rfl rfl rfl rfl (q_isThing (by with_reducible assumption)) ?_ | refine r_callS rfl rfl rfl rfl (q_isTop (by with_reducible assumption)) ?_ | refine r_callS rfl rfl rfl rfl (q_isPart (by with_reducible assumption)) ?_ | refine r_callS rfl rfl rfl rfl (q_isIn (by with_reducible assumption) (by decide) (by first | exact lx_m1 (by omega) | decide)) ?_ | refine r_tswd rfl (by with_reducible assumption) ?_ | (simp only [Option.toList, List.drop, List.cons_append, List.nil_append, na0, na1, na2, na3, na4, na5, na6, na7, na8, na16, na88, na148, nm3, nI_add]; refine rM_ildE (j := 1) rfl rfl (show _ < 35588 by omega) (by with_reducible assumption) ?_) | (simp only [Option.toList, List.drop, List.cons_append, List.nil_append, na0, na1, na2, na3, na4, na5, na6, na7, na8, na16, na88, na148, nm3, nI_add]; refine rM_ild (j := 1) rfl rfl (show _ < 35588 by omega) ?_))); try simp only [Option.toList, List.drop, List.cons_append, List.nil_append, na0, na1, na2, na3, na4, na5, na6, na7, na8, na16, na88, na148, nm3, nI_add]
          refine rM_call rfl rfl rfl rfl rfl j1 ?_
          (repeat (first | refine r_fw rfl rfl rfl rfl ?_ | refine rM_get rfl rfl ?_)); try dsimp only
          try simp only [na0, na1, na2, na3, na4, na5, na6, na7, na8, na16, na88, na148, nm3, nI_add]
          refine r_callS rfl rfl rfl rfl (m_placeOfNode (l := L) (by omega)) ?_
          refine rM_ildE (j := 6) rfl rfl (show N + ofsF L < 1111 by omega) (show (s1 M 6 v) 6 (N + ofsF L) = oL f (nI (A.1 2)) (fun t => nI (loA A t)) (3 - L) N by rw [s1_at]; exact a2) ?_
          (refine r_rtE rfl rfl ?_ ?_ ?_ <;> rfl)
    · rcases rg_01 f 1 1000 with hf | hf
      · refine Ans_3 (v := -1) (u := -1) hMd I rfl rfl rfl rfl ?_ ?_ rfl
        · (repeat (first | refine r_fy rfl rfl rfl rfl ?_ | (refine r_rtE rfl rfl ?_ ?_ ?_ <;> rfl) | refine r_get rfl rfl rfl ?_ | refine wS_getE (by omega) rfl rfl (by with_reducible assumption) ?_ | refine wS_get (by omega) rfl rfl ?_ | refine r_brT rfl rfl (by with_reducible first | assumption | rfl | exact nz10 | exact nI_pos (by omega) | exact nI_lt (by omega) (by omega) | exact nI_nlt (by omega) (by omega) | exact nI_le (by omega) (by omega) | exact nI_ge (by omega) (by omega)) ?_ | refine r_brF rfl rfl (by with_reducible first | assumption | rfl | exact nz10 | exact nI_pos (by omega) | exact nI_lt (by omega) (by omega) | exact nI_nlt (by omega) (by omega) | exact nI_le (by omega) (by omega) | exact nI_ge (by omega) (by omega)) ?_ | refine wH_call rfl rfl rfl rfl rfl (x_standing_t (by with_reducible assumption) (by with_reducible assumption)) ?_ | refine wH_call rfl rfl rfl rfl rfl (x_standing_f (by with_reducible assumption)) ?_ | refine r_callS rfl rfl rfl rfl (p_isSummary (by with_reducible assumption)) ?_ | refine r_callS rfl rfl rfl rfl (p_isThing (by with_reducible assumption)) ?_ | refine r_callS rfl rfl rfl rfl (p_isRoom (by with_reducible assumption)) ?_ | refine r_callS rfl rfl rfl rfl (p_isTop (by with_reducible assumption)) ?_ | refine r_callS rfl rfl rfl rfl (p_isWeight (by with_reducible assumption)) ?_ | refine r_callS rfl rfl rfl rfl (p_isShare (by with_reducible assumption)) ?_ | refine r_callS rfl rfl rfl rfl (p_isWindow (by with_reducible assumption)) ?_ | refine r_callS rfl rfl rfl rfl (p_isImage (by with_reducible assumption)) ?_ | refine r_tswd rfl (by with_reducible assumption) ?_ | refine wS_ild (by omega) rfl rfl (by first | assumption | omega | (simp only [lS]; omega)) ?_)); try dsimp only
        · (repeat (first | refine r_fy rfl rfl rfl rfl ?_ | (refine r_rtE rfl rfl ?_ ?_ ?_ <;> rfl) | refine rM_get rfl rfl ?_ | refine r_brT rfl rfl (by with_reducible first | assumption | rfl | exact nz10 | exact nI_pos (by omega) | exact nI_lt (by omega) (by omega) | exact nI_nlt (by omega) (by omega) | exact nI_le (by omega) (by omega) | exact nI_ge (by omega) (by omega)) ?_ | refine r_brF rfl rfl (by with_reducible first | assumption | rfl | exact nz10 | exact nI_pos (by omega) | exact nI_lt (by omega) (by omega) | exact nI_nlt (by omega) (by omega) | exact nI_le (by omega) (by omega) | exact nI_ge (by omega) (by omega)) ?_ | refine rM_call rfl rfl rfl rfl rfl (k_isThere_t (by with_reducible assumption) (by with_reducible assumption)) ?_ | refine rM_call rfl rfl rfl rfl rfl (k_isThere_f (by with_reducible assumption)) ?_ | refine rM_call rfl rfl rfl rfl rfl (m_manyE (by omega) (by with_reducible assumption)) ?_ | refine rM_call rfl rfl rfl rfl rfl (q_isSummary (by with_reducible assumption)) ?_ | (refine r_callS rfl rfl rfl rfl (m_bank _) ?_; rw [nm1148]) | refine r_callS rfl rfl rfl rfl (q_isThing (by with_reducible assumption)) ?_ | refine r_callS rfl rfl rfl rfl (q_isTop (by with_reducible assumption)) ?_ | refine r_callS rfl rfl rfl rfl (q_isPart (by with_reducible assumption)) ?_ | refine r_callS rfl rfl rfl rfl (q_isIn (by with_reducible assumption) (by decide) (by first | exact lx_m1 (by omega) | decide)) ?_ | refine r_tswd rfl (by with_reducible assumption) ?_ | (simp only [Option.toList, List.drop, List.cons_append, List.nil_append, na0, na1, na2, na3, na4, na5, na6, na7, na8, na16, na88, na148, nm3, nI_add]; refine rM_ildE (j := 1) rfl rfl (show _ < 35588 by omega) (by with_reducible assumption) ?_) | (simp only [Option.toList, List.drop, List.cons_append, List.nil_append, na0, na1, na2, na3, na4, na5, na6, na7, na8, na16, na88, na148, nm3, nI_add]; refine rM_ild (j := 1) rfl rfl (show _ < 35588 by omega) ?_))); try simp only [Option.toList, List.drop, List.cons_append, List.nil_append, na0, na1, na2, na3, na4, na5, na6, na7, na8, na16, na88, na148, nm3, nI_add]
          refine r_callS rfl rfl rfl rfl (k_isNode_f hf2) ?_
          (repeat (first | refine r_fy rfl rfl rfl rfl ?_ | (refine r_rtE rfl rfl ?_ ?_ ?_ <;> rfl) | refine rM_get rfl rfl ?_ | refine r_brT rfl rfl (by with_reducible first | assumption | rfl | exact nz10 | exact nI_pos (by omega) | exact nI_lt (by omega) (by omega) | exact nI_nlt (by omega) (by omega) | exact nI_le (by omega) (by omega) | exact nI_ge (by omega) (by omega)) ?_ | refine r_brF rfl rfl (by with_reducible first | assumption | rfl | exact nz10 | exact nI_pos (by omega) | exact nI_lt (by omega) (by omega) | exact nI_nlt (by omega) (by omega) | exact nI_le (by omega) (by omega) | exact nI_ge (by omega) (by omega)) ?_ | refine rM_call rfl rfl rfl rfl rfl (k_isThere_t (by with_reducible assumption) (by with_reducible assumption)) ?_ | refine rM_call rfl rfl rfl rfl rfl (k_isThere_f (by with_reducible assumption)) ?_ | refine rM_call rfl rfl rfl rfl rfl (m_manyE (by omega) (by with_reducible assumption)) ?_ | refine rM_call rfl rfl rfl rfl rfl (q_isSummary (by with_reducible assumption)) ?_ | (refine r_callS rfl rfl rfl rfl (m_bank _) ?_; rw [nm1148]) | refine r_callS rfl rfl rfl rfl (q_isThing (by with_reducible assumption)) ?_ | refine r_callS rfl rfl rfl rfl (q_isTop (by with_reducible assumption)) ?_ | refine r_callS rfl rfl rfl rfl (q_isPart (by with_reducible assumption)) ?_ | refine r_callS rfl rfl rfl rfl (q_isIn (by with_reducible assumption) (by decide) (by first | exact lx_m1 (by omega) | decide)) ?_ | refine r_tswd rfl (by with_reducible assumption) ?_ | (simp only [Option.toList, List.drop, List.cons_append, List.nil_append, na0, na1, na2, na3, na4, na5, na6, na7, na8, na16, na88, na148, nm3, nI_add]; refine rM_ildE (j := 1) rfl rfl (show _ < 35588 by omega) (by with_reducible assumption) ?_) | (simp only [Option.toList, List.drop, List.cons_append, List.nil_append, na0, na1, na2, na3, na4, na5, na6, na7, na8, na16, na88, na148, nm3, nI_add]; refine rM_ild (j := 1) rfl rfl (show _ < 35588 by omega) ?_))); try simp only [Option.toList, List.drop, List.cons_append, List.nil_append, na0, na1, na2, na3, na4, na5, na6, na7, na8, na16, na88, na148, nm3, nI_add]
      · refine Ans_3 (v := -1) (u := -1) hMd I rfl rfl rfl rfl ?_ ?_ rfl
        · (repeat (first | refine r_fy rfl rfl rfl rfl ?_ | (refine r_rtE rfl rfl ?_ ?_ ?_ <;> rfl) | refine r_get rfl rfl rfl ?_ | refine wS_getE (by omega) rfl rfl (by with_reducible assumption) ?_ | refine wS_get (by omega) rfl rfl ?_ | refine r_brT rfl rfl (by with_reducible first | assumption | rfl | exact nz10 | exact nI_pos (by omega) | exact nI_lt (by omega) (by omega) | exact nI_nlt (by omega) (by omega) | exact nI_le (by omega) (by omega) | exact nI_ge (by omega) (by omega)) ?_ | refine r_brF rfl rfl (by with_reducible first | assumption | rfl | exact nz10 | exact nI_pos (by omega) | exact nI_lt (by omega) (by omega) | exact nI_nlt (by omega) (by omega) | exact nI_le (by omega) (by omega) | exact nI_ge (by omega) (by omega)) ?_ | refine wH_call rfl rfl rfl rfl rfl (x_standing_t (by with_reducible assumption) (by with_reducible assumption)) ?_ | refine wH_call rfl rfl rfl rfl rfl (x_standing_f (by with_reducible assumption)) ?_ | refine r_callS rfl rfl rfl rfl (p_isSummary (by with_reducible assumption)) ?_ | refine r_callS rfl rfl rfl rfl (p_isThing (by with_reducible assumption)) ?_ | refine r_callS rfl rfl rfl rfl (p_isRoom (by with_reducible assumption)) ?_ | refine r_callS rfl rfl rfl rfl (p_isTop (by with_reducible assumption)) ?_ | refine r_callS rfl rfl rfl rfl (p_isWeight (by with_reducible assumption)) ?_ | refine r_callS rfl rfl rfl rfl (p_isShare (by with_reducible assumption)) ?_ | refine r_callS rfl rfl rfl rfl (p_isWindow (by with_reducible assumption)) ?_ | refine r_callS rfl rfl rfl rfl (p_isImage (by with_reducible assumption)) ?_ | refine r_tswd rfl (by with_reducible assumption) ?_ | refine wS_ild (by omega) rfl rfl (by first | assumption | omega | (simp only [lS]; omega)) ?_)); try dsimp only
          refine rF_call rfl rfl rfl rfl rfl rfl (x_isNode_f hf1) ?_
          (repeat (first | refine r_fy rfl rfl rfl rfl ?_ | (refine r_rtE rfl rfl ?_ ?_ ?_ <;> rfl) | refine r_get rfl rfl rfl ?_ | refine wS_getE (by omega) rfl rfl (by with_reducible assumption) ?_ | refine wS_get (by omega) rfl rfl ?_ | refine r_brT rfl rfl (by with_reducible first | assumption | rfl | exact nz10 | exact nI_pos (by omega) | exact nI_lt (by omega) (by omega) | exact nI_nlt (by omega) (by omega) | exact nI_le (by omega) (by omega) | exact nI_ge (by omega) (by omega)) ?_ | refine r_brF rfl rfl (by with_reducible first | assumption | rfl | exact nz10 | exact nI_pos (by omega) | exact nI_lt (by omega) (by omega) | exact nI_nlt (by omega) (by omega) | exact nI_le (by omega) (by omega) | exact nI_ge (by omega) (by omega)) ?_ | refine wH_call rfl rfl rfl rfl rfl (x_standing_t (by with_reducible assumption) (by with_reducible assumption)) ?_ | refine wH_call rfl rfl rfl rfl rfl (x_standing_f (by with_reducible assumption)) ?_ | refine r_callS rfl rfl rfl rfl (p_isSummary (by with_reducible assumption)) ?_ | refine r_callS rfl rfl rfl rfl (p_isThing (by with_reducible assumption)) ?_ | refine r_callS rfl rfl rfl rfl (p_isRoom (by with_reducible assumption)) ?_ | refine r_callS rfl rfl rfl rfl (p_isTop (by with_reducible assumption)) ?_ | refine r_callS rfl rfl rfl rfl (p_isWeight (by with_reducible assumption)) ?_ | refine r_callS rfl rfl rfl rfl (p_isShare (by with_reducible assumption)) ?_ | refine r_callS rfl rfl rfl rfl (p_isWindow (by with_reducible assumption)) ?_ | refine r_callS rfl rfl rfl rfl (p_isImage (by with_reducible assumption)) ?_ | refine r_tswd rfl (by with_reducible assumption) ?_ | refine wS_ild (by omega) rfl rfl (by first | assumption | omega | (simp only [lS]; omega)) ?_)); try dsimp only
        · (repeat (first | refine r_fy rfl rfl rfl rfl ?_ | (refine r_rtE rfl rfl ?_ ?_ ?_ <;> rfl) | refine rM_get rfl rfl ?_ | refine r_brT rfl rfl (by with_reducible first | assumption | rfl | exact nz10 | exact nI_pos (by omega) | exact nI_lt (by omega) (by omega) | exact nI_nlt (by omega) (by omega) | exact nI_le (by omega) (by omega) | exact nI_ge (by omega) (by omega)) ?_ | refine r_brF rfl rfl (by with_reducible first | assumption | rfl | exact nz10 | exact nI_pos (by omega) | exact nI_lt (by omega) (by omega) | exact nI_nlt (by omega) (by omega) | exact nI_le (by omega) (by omega) | exact nI_ge (by omega) (by omega)) ?_ | refine rM_call rfl rfl rfl rfl rfl (k_isThere_t (by with_reducible assumption) (by with_reducible assumption)) ?_ | refine rM_call rfl rfl rfl rfl rfl (k_isThere_f (by with_reducible assumption)) ?_ | refine rM_call rfl rfl rfl rfl rfl (m_manyE (by omega) (by with_reducible assumption)) ?_ | refine rM_call rfl rfl rfl rfl rfl (q_isSummary (by with_reducible assumption)) ?_ | (refine r_callS rfl rfl rfl rfl (m_bank _) ?_; rw [nm1148]) | refine r_callS rfl rfl rfl rfl (q_isThing (by with_reducible assumption)) ?_ | refine r_callS rfl rfl rfl rfl (q_isTop (by with_reducible assumption)) ?_ | refine r_callS rfl rfl rfl rfl (q_isPart (by with_reducible assumption)) ?_ | refine r_callS rfl rfl rfl rfl (q_isIn (by with_reducible assumption) (by decide) (by first | exact lx_m1 (by omega) | decide)) ?_ | refine r_tswd rfl (by with_reducible assumption) ?_ | (simp only [Option.toList, List.drop, List.cons_append, List.nil_append, na0, na1, na2, na3, na4, na5, na6, na7, na8, na16, na88, na148, nm3, nI_add]; refine rM_ildE (j := 1) rfl rfl (show _ < 35588 by omega) (by with_reducible assumption) ?_) | (simp only [Option.toList, List.drop, List.cons_append, List.nil_append, na0, na1, na2, na3, na4, na5, na6, na7, na8, na16, na88, na148, nm3, nI_add]; refine rM_ild (j := 1) rfl rfl (show _ < 35588 by omega) ?_))); try simp only [Option.toList, List.drop, List.cons_append, List.nil_append, na0, na1, na2, na3, na4, na5, na6, na7, na8, na16, na88, na148, nm3, nI_add]
          refine r_callS rfl rfl rfl rfl (k_isNode_f hf2) ?_
          (repeat (first | refine r_fy rfl rfl rfl rfl ?_ | (refine r_rtE rfl rfl ?_ ?_ ?_ <;> rfl) | refine rM_get rfl rfl ?_ | refine r_brT rfl rfl (by with_reducible first | assumption | rfl | exact nz10 | exact nI_pos (by omega) | exact nI_lt (by omega) (by omega) | exact nI_nlt (by omega) (by omega) | exact nI_le (by omega) (by omega) | exact nI_ge (by omega) (by omega)) ?_ | refine r_brF rfl rfl (by with_reducible first | assumption | rfl | exact nz10 | exact nI_pos (by omega) | exact nI_lt (by omega) (by omega) | exact nI_nlt (by omega) (by omega) | exact nI_le (by omega) (by omega) | exact nI_ge (by omega) (by omega)) ?_ | refine rM_call rfl rfl rfl rfl rfl (k_isThere_t (by with_reducible assumption) (by with_reducible assumption)) ?_ | refine rM_call rfl rfl rfl rfl rfl (k_isThere_f (by with_reducible assumption)) ?_ | refine rM_call rfl rfl rfl rfl rfl (m_manyE (by omega) (by with_reducible assumption)) ?_ | refine rM_call rfl rfl rfl rfl rfl (q_isSummary (by with_reducible assumption)) ?_ | (refine r_callS rfl rfl rfl rfl (m_bank _) ?_; rw [nm1148]) | refine r_callS rfl rfl rfl rfl (q_isThing (by with_reducible assumption)) ?_ | refine r_callS rfl rfl rfl rfl (q_isTop (by with_reducible assumption)) ?_ | refine r_callS rfl rfl rfl rfl (q_isPart (by with_reducible assumption)) ?_ | refine r_callS rfl rfl rfl rfl (q_isIn (by with_reducible assumption) (by decide) (by first | exact lx_m1 (by omega) | decide)) ?_ | refine r_tswd rfl (by with_reducible assumption) ?_ | (simp only [Option.toList, List.drop, List.cons_append, List.nil_append, na0, na1, na2, na3, na4, na5, na6, na7, na8, na16, na88, na148, nm3, nI_add]; refine rM_ildE (j := 1) rfl rfl (show _ < 35588 by omega) (by with_reducible assumption) ?_) | (simp only [Option.toList, List.drop, List.cons_append, List.nil_append, na0, na1, na2, na3, na4, na5, na6, na7, na8, na16, na88, na148, nm3, nI_add]; refine rM_ild (j := 1) rfl rfl (show _ < 35588 by omega) ?_))); try simp only [Option.toList, List.drop, List.cons_append, List.nil_append, na0, na1, na2, na3, na4, na5, na6, na7, na8, na16, na88, na148, nm3, nI_add]
  · refine Ans_3 (v := -1) (u := -1) hMd I rfl rfl rfl rfl ?_ ?_ rfl
    · (repeat (first | refine r_fy rfl rfl rfl rfl ?_ | (refine r_rtE rfl rfl ?_ ?_ ?_ <;> rfl) | refine r_get rfl rfl rfl ?_ | refine wS_getE (by omega) rfl rfl (by with_reducible assumption) ?_ | refine wS_get (by omega) rfl rfl ?_ | refine r_brT rfl rfl (by with_reducible first | assumption | rfl | exact nz10 | exact nI_pos (by omega) | exact nI_lt (by omega) (by omega) | exact nI_nlt (by omega) (by omega) | exact nI_le (by omega) (by omega) | exact nI_ge (by omega) (by omega)) ?_ | refine r_brF rfl rfl (by with_reducible first | assumption | rfl | exact nz10 | exact nI_pos (by omega) | exact nI_lt (by omega) (by omega) | exact nI_nlt (by omega) (by omega) | exact nI_le (by omega) (by omega) | exact nI_ge (by omega) (by omega)) ?_ | refine wH_call rfl rfl rfl rfl rfl (x_standing_t (by with_reducible assumption) (by with_reducible assumption)) ?_ | refine wH_call rfl rfl rfl rfl rfl (x_standing_f (by with_reducible assumption)) ?_ | refine r_callS rfl rfl rfl rfl (p_isSummary (by with_reducible assumption)) ?_ | refine r_callS rfl rfl rfl rfl (p_isThing (by with_reducible assumption)) ?_ | refine r_callS rfl rfl rfl rfl (p_isRoom (by with_reducible assumption)) ?_ | refine r_callS rfl rfl rfl rfl (p_isTop (by with_reducible assumption)) ?_ | refine r_callS rfl rfl rfl rfl (p_isWeight (by with_reducible assumption)) ?_ | refine r_callS rfl rfl rfl rfl (p_isShare (by with_reducible assumption)) ?_ | refine r_callS rfl rfl rfl rfl (p_isWindow (by with_reducible assumption)) ?_ | refine r_callS rfl rfl rfl rfl (p_isImage (by with_reducible assumption)) ?_ | refine r_tswd rfl (by with_reducible assumption) ?_ | refine wS_ild (by omega) rfl rfl (by first | assumption | omega | (simp only [lS]; omega)) ?_)); try dsimp only
    · (repeat (first | refine r_fy rfl rfl rfl rfl ?_ | (refine r_rtE rfl rfl ?_ ?_ ?_ <;> rfl) | refine rM_get rfl rfl ?_ | refine r_brT rfl rfl (by with_reducible first | assumption | rfl | exact nz10 | exact nI_pos (by omega) | exact nI_lt (by omega) (by omega) | exact nI_nlt (by omega) (by omega) | exact nI_le (by omega) (by omega) | exact nI_ge (by omega) (by omega)) ?_ | refine r_brF rfl rfl (by with_reducible first | assumption | rfl | exact nz10 | exact nI_pos (by omega) | exact nI_lt (by omega) (by omega) | exact nI_nlt (by omega) (by omega) | exact nI_le (by omega) (by omega) | exact nI_ge (by omega) (by omega)) ?_ | refine rM_call rfl rfl rfl rfl rfl (k_isThere_t (by with_reducible assumption) (by with_reducible assumption)) ?_ | refine rM_call rfl rfl rfl rfl rfl (k_isThere_f (by with_reducible assumption)) ?_ | refine rM_call rfl rfl rfl rfl rfl (m_manyE (by omega) (by with_reducible assumption)) ?_ | refine rM_call rfl rfl rfl rfl rfl (q_isSummary (by with_reducible assumption)) ?_ | (refine r_callS rfl rfl rfl rfl (m_bank _) ?_; rw [nm1148]) | refine r_callS rfl rfl rfl rfl (q_isThing (by with_reducible assumption)) ?_ | refine r_callS rfl rfl rfl rfl (q_isTop (by with_reducible assumption)) ?_ | refine r_callS rfl rfl rfl rfl (q_isPart (by with_reducible assumption)) ?_ | refine r_callS rfl rfl rfl rfl (q_isIn (by with_reducible assumption) (by decide) (by first | exact lx_m1 (by omega) | decide)) ?_ | refine r_tswd rfl (by with_reducible assumption) ?_ | (simp only [Option.toList, List.drop, List.cons_append, List.nil_append, na0, na1, na2, na3, na4, na5, na6, na7, na8, na16, na88, na148, nm3, nI_add]; refine rM_ildE (j := 1) rfl rfl (show _ < 35588 by omega) (by with_reducible assumption) ?_) | (simp only [Option.toList, List.drop, List.cons_append, List.nil_append, na0, na1, na2, na3, na4, na5, na6, na7, na8, na16, na88, na148, nm3, nI_add]; refine rM_ild (j := 1) rfl rfl (show _ < 35588 by omega) ?_))); try simp only [Option.toList, List.drop, List.cons_append, List.nil_append, na0, na1, na2, na3, na4, na5, na6, na7, na8, na16, na88, na148, nm3, nI_add]
end CE5
