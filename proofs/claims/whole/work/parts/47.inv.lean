/-! WHAT HOLDS BETWEEN CALLS: every summary of the class and its bank are one summary as lists -/
def cq (q : Nat) : Nat := if q < 6 then q else q + 1
def Rq (Y : Nat) (S : hT2) (v : Nat → Int32) (B : Nat) : Prop := (S 0 0 = 0 ∧ v B = 0) ∨ ∃ A, Gd 1000000000 Y A ∧ RS A S ∧ RM A v B
def Rw (Y : Nat) (W : Nat → hT2) (P : Nat → Nat → Nat) (v : Nat) : Prop := (W 35 1 (4 * v) = 0 ∧ W 36 7 v = 0) ∨ (W 35 1 (4 * v) = 1 ∧ ∃ rm mo nu : Nat, (1 ≤ rm ∧ rm ≤ 24 ∧ 1 ≤ nu ∧ nu ≤ mo ∧ mo ≤ 6) ∧ (W 35 1 (4 * v + 1) = nI rm ∧ W 35 1 (4 * v + 2) = nI mo ∧ W 35 1 (4 * v + 3) = nI nu) ∧ (W 36 7 v = nI mo ∧ W 36 8 v = nI nu) ∧ ∀ k, k < nu → ∃ A, Gd 1000000000 Y A ∧ RS A (W (P v k)) ∧ RM A (W 36 1) (1148 * (18 + 6 * v + k)) ∧ (k = 0 → A.1 1 = rm))
def Io (W : Nat → hT2) : Prop := ∃ n, n ≤ 255 ∧ W 32 0 0 = nI n ∧ W 36 0 3 = nI n ∧ ∀ i, i < n → W 32 1 i = W 36 9 i
def It (W : Nat → hT2) : Prop := ∃ (n : Nat) (b : Nat → Nat), n ≤ 300 ∧ W 33 0 0 = nI n ∧ W 36 0 4 = nI n ∧ ∀ i, i < n → b i < 256 ∧ W 33 1 i = nI (b i) ∧ W 36 10 i = (nI (b i)).toInt8.toInt32
def Ir (W : Nat → hT2) : Prop := (W 34 0 0 = W 36 0 5 ∧ W 34 0 1 = W 36 0 6) ∧ (W 35 0 1 = W 36 11 0 ∧ W 35 0 2 = W 36 11 1) ∧ (W 36 11 0 = 0 ∨ W 36 11 0 = 1) ∧ (W 36 11 1 = 0 ∨ W 36 11 1 = 1)
def Ip (P : Nat → Nat → Nat) : Prop := (∀ v, v < 2 → ∀ k, k < 6 → 19 + 6 * v ≤ P v k ∧ P v k < 25 + 6 * v) ∧ ∀ v, v < 2 → ∀ k l, k < 6 → l < 6 → P v k = P v l → k = l
def Iv (J : Nat) (W : Nat → hT2) (P : Nat → Nat → Nat) : Prop := (∀ q, q < 18 → Rq (100 * J) (W (cq q)) (W 36 1) (1148 * q)) ∧ (∀ v, v < 2 → Rw (100 * J) W P v) ∧ Ip P ∧ Io W ∧ It W ∧ Ir W
/-- nothing changed but one component, one bank and what is only used in between -/
def Chg (c0 q0 : Nat) (W V : Nat → hT2) : Prop := (∀ c, c ≠ c0 → c ≠ 6 → c ≠ 31 → c < 35 → V c = W c) ∧ (∀ j, j ≤ 1 → V 35 j = W 35 j) ∧ (∀ i, i < 34440 → (i < 1148 * q0 ∨ 1148 * q0 + 1148 ≤ i) → V 36 1 i = W 36 1 i) ∧ (∀ j, 7 ≤ j → j ≤ 11 → V 36 j = W 36 j) ∧ ∀ j, 3 ≤ j → V 36 0 j = W 36 0 j
theorem RM_same {A : aS} {v u : Nat → Int32} {B X Y : Nat} (hG : Gd X Y A) (h : RM A v B) (e : ∀ i, i < 1148 → u (B + i) = v (B + i)) : RM A u B := RM_cong h (Nat.le_trans hG.1.2.2 hG.1.2.1) (by have := hG.2.2.1.2; omega) e
theorem Rq_same {Y Y' : Nat} {S T : hT2} {v u : Nat → Int32} {B : Nat} (h : Rq Y S v B) (hY : Y ≤ Y') (hT : T = S) (e : ∀ i, i < 1148 → u (B + i) = v (B + i)) : Rq Y' T u B := by
  subst hT
  rcases h with ⟨h1, h2⟩ | ⟨A, hG, h1, h2⟩
  · exact Or.inl ⟨h1, by have := e 0 (by omega); rw [Nat.add_zero] at this; rw [this]; exact h2⟩
  · exact Or.inr ⟨A, Gd_mono hG (Nat.le_refl _) hY, h1, RM_same hG h2 e⟩
theorem Rw_same {Y Y' : Nat} {W V : Nat → hT2} {P : Nat → Nat → Nat} {v : Nat} (hv : v < 2) (hP : Ip P) (h : Rw Y W P v) (hY : Y ≤ Y') (h5 : V 35 1 = W 35 1) (h7 : V 36 7 = W 36 7) (h8 : V 36 8 = W 36 8) (hc : ∀ c, 19 + 6 * v ≤ c → c < 25 + 6 * v → V c = W c) (e : ∀ i, 1148 * (18 + 6 * v) ≤ i → i < 1148 * (24 + 6 * v) → V 36 1 i = W 36 1 i) : Rw Y' V P v := by
  unfold Rw at h ⊢
  rw [h5, h7, h8]
  rcases h with h | ⟨h1, rm, mo, nu, a, b, c, d⟩
  · exact Or.inl h
  · refine Or.inr ⟨h1, rm, mo, nu, a, b, c, fun k hk => ?_⟩
    obtain ⟨A, hG, r1, r2, r3⟩ := d k hk
    have hp := hP.1 v hv k (by omega)
    rw [hc _ hp.1 hp.2]
    exact ⟨A, Gd_mono hG (Nat.le_refl _) hY, r1, RM_same hG r2 (fun i hi => e _ (by omega) (by omega)), r3⟩
theorem Iv_chg {J q0 : Nat} {W V : Nat → hT2} {P : Nat → Nat → Nat} (h : Iv J W P) (hq : q0 < 18 ∨ q0 = 30) (hc : Chg (if q0 = 30 then 6 else cq q0) q0 W V) (hr : q0 < 18 → Rq (100 * (J + 1)) (V (cq q0)) (V 36 1) (1148 * q0)) : Iv (J + 1) V P := by
  obtain ⟨h1, h2, h3, h4, h5, h6⟩ := h
  obtain ⟨c1, c2, c3, c4, c5⟩ := hc
  have hcq : ∀ q, cq q = q ∧ q < 6 ∨ cq q = q + 1 ∧ 6 ≤ q := by
    intro q
    unfold cq
    by_cases h : q < 6
    · rw [if_pos h]; exact Or.inl ⟨rfl, h⟩
    · rw [if_neg h]; exact Or.inr ⟨rfl, by omega⟩
  have hn : (if q0 = 30 then 6 else cq q0) < 19 := by
    have := hcq q0
    split <;> omega
  refine ⟨fun q hq2 => ?_, fun v hv => ?_, h3, ?_, ?_, ?_⟩
  · by_cases e : q = q0
    · subst e
      exact hr hq2
    · have a := hcq q
      have b := hcq q0
      refine Rq_same (h1 q hq2) (by omega) (c1 _ ?_ (by omega) (by omega) (by omega)) (fun i hi => c3 _ (by omega) (by omega))
      split <;> omega
  · refine Rw_same hv h3 (h2 v hv) (by omega) (c2 1 (by omega)) (c4 7 (by omega) (by omega)) (c4 8 (by omega) (by omega)) (fun c a b => c1 c (by omega) (by omega) (by omega) (by omega)) (fun i a b => c3 i (by omega) (by omega))
  · obtain ⟨n, a1, a2, a3, a4⟩ := h4
    exact ⟨n, a1, by rw [c1 32 (by omega) (by omega) (by omega) (by omega)]; exact a2, by rw [c5 3 (by omega)]; exact a3, by rw [c1 32 (by omega) (by omega) (by omega) (by omega), c4 9 (by omega) (by omega)]; exact a4⟩
  · obtain ⟨n, b, a1, a2, a3, a4⟩ := h5
    exact ⟨n, b, a1, by rw [c1 33 (by omega) (by omega) (by omega) (by omega)]; exact a2, by rw [c5 4 (by omega)]; exact a3, by rw [c1 33 (by omega) (by omega) (by omega) (by omega), c4 10 (by omega) (by omega)]; exact a4⟩
  · unfold Ir at h6 ⊢
    rw [c1 34 (by omega) (by omega) (by omega) (by omega), c5 5 (by omega), c5 6 (by omega), c2 0 (by omega), c4 11 (by omega) (by omega)]
    exact h6
/-- a call of the class and the same of the reference: one answer, and all holds again -/
def Ans (J cm mm : Nat) (Lc Lm : List Value) (E : hEn) (w : hWo) : Prop := ∃ v w1 w2, hRun cm 0 Lc [] (hW E w) (some (.int v)) (hW E w1) ∧ hRun mm 0 Lm [] (hW E w1) (some (.int v)) (hW E w2) ∧ Iv (J + 1) w2.1 w2.2.2.2
theorem hW_Mid {E : hEn} {w : hWo} : hpM (hW E w) 281 (w.1 36) w.2.2.1 = hW E w := by rw [hW_M, wM_id]
/-- out of the two runs -/
theorem Ans_of {J cm mm : Nat} {Lc Lm : List Value} {E : hEn} {w w1 : hWo} {v : Int32} {M : hT2} {x : Int64} (C : hRun cm 0 Lc [] (hW E w) (some (.int v)) (hW E w1)) (D : hRun mm 0 Lm [] (hpM (hW E w1) 281 (w1.1 36) w1.2.2.1) (some (.int v)) (hpM (hW E w1) 281 M x)) (I : Iv (J + 1) (wM w1 M x).1 w1.2.2.2) : Ans J cm mm Lc Lm E w := by
  refine ⟨v, w1, wM w1 M x, C, ?_, I⟩
  rw [hW_Mid, hW_M] at D
  exact D
theorem Chg_of {w w1 : hWo} {M : hT2} {x : Int64} {c0 q0 : Nat} (h1 : ∀ c, c ≠ c0 → c ≠ 6 → c ≠ 31 → c < 35 → w1.1 c = w.1 c) (h2 : ∀ j, j ≤ 1 → w1.1 35 j = w.1 35 j) (h3 : ∀ i, i < 34440 → (i < 1148 * q0 ∨ 1148 * q0 + 1148 ≤ i) → M 1 i = w.1 36 1 i) (h4 : ∀ j, 7 ≤ j → j ≤ 11 → M j = w.1 36 j) (h5 : ∀ j, 3 ≤ j → M 0 j = w.1 36 0 j) : Chg c0 q0 w.1 (wM w1 M x).1 := by
  have e : ∀ c, c ≠ 36 → (wM w1 M x).1 c = w1.1 c := fun c h => if_neg h
  refine ⟨fun c a b d f => by rw [e c (by omega)]; exact h1 c a b d f, fun j hj => by rw [e 35 (by omega)]; exact h2 j hj, h3, h4, h5⟩
/-- a call that only asks: the class leaves all alone -/
theorem Ans_ask {J cm mm : Nat} {Lc Lm : List Value} {E : hEn} {w : hWo} {v : Int32} {M : hT2} {x : Int64} (I : Iv J w.1 w.2.2.2) (C : hRun cm 0 Lc [] (hW E w) (some (.int v)) (hW E w)) (D : hRun mm 0 Lm [] (hpM (hW E w) 281 (w.1 36) w.2.2.1) (some (.int v)) (hpM (hW E w) 281 M x)) (h3 : ∀ i, i < 34440 → M 1 i = w.1 36 1 i) (h4 : ∀ j, 7 ≤ j → j ≤ 11 → M j = w.1 36 j) (h5 : ∀ j, 3 ≤ j → M 0 j = w.1 36 0 j) : Ans J cm mm Lc Lm E w :=
  Ans_of C D (Iv_chg I (Or.inr rfl) (Chg_of (fun _ _ _ _ _ => rfl) (fun _ _ => rfl) (fun i a _ => h3 i a) h4 h5) (fun h => absurd h (by omega)))
/-- nothing of the reference changed but 'thrown' -/
theorem Ans_t {J cm mm : Nat} {Lc Lm : List Value} {E : hEn} {w : hWo} {v : Int32} (I : Iv J w.1 w.2.2.2) (C : hRun cm 0 Lc [] (hW E w) (some (.int v)) (hW E w)) (D : hRun mm 0 Lm [] (hpM (hW E w) 281 (w.1 36) w.2.2.1) (some (.int v)) (hpM (hW E w) 281 (s2 (w.1 36) 0 0 0) w.2.2.1)) : Ans J cm mm Lc Lm E w :=
  Ans_ask I C D (fun i _ => rfl) (fun j h1 _ => s2_row (by omega)) (fun j h => by rw [s2_at, if_neg (by omega)])
