/-! WINDOWS: rules; pane, flow, window -/
section WWR
variable {mi k : Nat} {L : List Value} {h' : hH} {r : Option Value} {E : hEn} {w : hWo} {v : Nat}
def fWin (w : hWo) (v : Nat) : List Value := [.int (w.1 35 1 (4 * v)), .int (w.1 35 1 (4 * v + 1)), .int (w.1 35 1 (4 * v + 2)), .int (w.1 35 1 (4 * v + 3)), .ref (182 + 50 * v)]
theorem wc_win (hv : v < 2) : (hW E w).2.2 (181 + 50 * v) = .inl (7, fWin w v) := by
  have : v = 0 ∨ v = 1 := by omega
  rcases this with rfl | rfl <;> rfl
theorem wc_pan (hv : v < 2) : (hW E w).2.2 (182 + 50 * v) = .inr (5, 6, .inr fun s => if s < 6 then some (bs (w.2.2.2 v s)) else none) := by
  have : v = 0 ∨ v = 1 := by omega
  rcases this with rfl | rfl <;> rfl
theorem wW_get {i len pc f : Nat} {z : Int32} {zl : Int64} {ts : List Nat} {x : Value} {st : List Value} (hv : v < 2) (he : hI mi k = some (.getfield i, len, pc, 7, f, z, zl, ts)) (hx : (fWin w v)[f]? = some x) (K : hRun mi (k + 1) L (x :: st) (hW E w) r h') : hRun mi k L (.ref (181 + 50 * v) :: st) (hW E w) r h' := r_get he (wc_win hv) hx K
theorem wW_getE {i len pc f : Nat} {z : Int32} {zl : Int64} {ts : List Nat} {x c : Int32} {st : List Value} (hv : v < 2) (he : hI mi k = some (.getfield i, len, pc, 7, f, z, zl, ts)) (hx : (fWin w v)[f]? = some (.int x)) (e : x = c) (K : hRun mi (k + 1) L (.int c :: st) (hW E w) r h') : hRun mi k L (.ref (181 + 50 * v) :: st) (hW E w) r h' := wW_get hv he hx (e ▸ K)
theorem wP_ld {len pc x y p : Nat} {z : Int32} {zl : Int64} {ts : List Nat} {st : List Value} (hv : v < 2) (hp : p < 6) (he : hI mi k = some (.aaload, len, pc, x, y, z, zl, ts)) (K : hRun mi (k + 1) L (.ref (bs (w.2.2.2 v p)) :: st) (hW E w) r h') : hRun mi k L (.int (nI p) :: .ref (182 + 50 * v) :: st) (hW E w) r h' := r_ald (t := 5) (n := 6) (g := fun s => if s < 6 then some (bs (w.2.2.2 v s)) else none) he (wc_pan hv) rfl hp (if_pos hp) K
theorem wW_st {f : Nat} {x : Int32} (hv : v < 2) (hf : f ≤ 3) : hSt (hW E w) (181 + 50 * v) (.inl (7, (fWin w v).set f (.int x))) = hW E (wS w 35 (s2 (w.1 35) 1 (4 * v + f) x)) := by
  unfold hSt hW
  refine congrArg (fun z => (E.1, E.2.1, z)) (funext fun a => ?_)
  dsimp only
  have hv2 : v = 0 ∨ v = 1 := by omega
  have hf2 : f = 0 ∨ f = 1 ∨ f = 2 ∨ f = 3 := by omega
  by_cases e : a = 181 + 50 * v
  · subst e
    rw [if_pos rfl]
    rcases hv2 with rfl | rfl <;> rcases hf2 with rfl | rfl | rfl | rfl <;> rfl
  · rw [if_neg e]
    unfold wCl
    have en : ∀ c, c ≠ 35 → (wS w 35 (s2 (w.1 35) 1 (4 * v + f) x)).1 c = w.1 c := fun c hc => wS_ne hc
    by_cases c1 : (hZ a).1 < 31
    · rw [if_pos c1, if_pos c1, en _ (by omega)]
    · rw [if_neg c1, if_neg c1, en 31 (by omega), en 32 (by omega), en 33 (by omega), en 34 (by omega), en 36 (by omega)]
      have ew : wSt E (wS w 35 (s2 (w.1 35) 1 (4 * v + f) x)) a = wSt E w a := by
        unfold wSt
        have e0 : ∀ j i, j ≠ 1 → (wS w 35 (s2 (w.1 35) 1 (4 * v + f) x)).1 35 j i = w.1 35 j i := fun j i hj => by rw [wS_at, s2_at, if_neg (by omega)]
        have e1 : ∀ j, j ≠ 1 → (wS w 35 (s2 (w.1 35) 1 (4 * v + f) x)).1 35 j = w.1 35 j := fun j hj => by rw [wS_at, s2_row hj]
        have e2 : ∀ i, i ≠ 4 * v + f → (wS w 35 (s2 (w.1 35) 1 (4 * v + f) x)).1 35 1 i = w.1 35 1 i := fun i hi => by rw [wS_at, s2_at, if_neg (by omega)]
        split <;> first | rfl | rw [e0 0 _ (by omega)] | rw [e1 _ (by omega)] | (rw [e2 _ (by omega), e2 _ (by omega), e2 _ (by omega), e2 _ (by omega)])
      rw [ew]
      rfl
theorem wW_set {i len pc f : Nat} {z : Int32} {zl : Int64} {ts : List Nat} {x : Int32} {st : List Value} (hv : v < 2) (he : hI mi k = some (.putfield i, len, pc, 7, f, z, zl, ts)) (hf : decide (f ≤ 3) = true) (hfit : hFit (hTy 7 f) (.int x) = true) (K : hRun mi (k + 1) L st (hW E (wS w 35 (s2 (w.1 35) 1 (4 * v + f) x))) r h') : hRun mi k L (.int x :: .ref (181 + 50 * v) :: st) (hW E w) r h' := by
  have hf := of_decide_eq_true hf
  refine r_put he (wc_win hv) hfit (decide_eq_true (by show f < 5; omega)) ?_
  rw [wW_st hv hf]
  exact K
/-- another pane at a place -/
def wP (w : hWo) (v p c : Nat) : hWo := (w.1, w.2.1, w.2.2.1, fun a s => if a = v ∧ s = p then c else w.2.2.2 a s)
theorem wP_hst {p c : Nat} (hv : v < 2) (hp : p < 6) : hSt (hW E w) (182 + 50 * v) (.inr (5, 6, .inr (va_up (fun s => if s < 6 then some (bs (w.2.2.2 v s)) else none) p (some (bs c))))) = hW E (wP w v p c) := by
  unfold hSt hW
  refine congrArg (fun z => (E.1, E.2.1, z)) (funext fun a => ?_)
  dsimp only
  have hv2 : v = 0 ∨ v = 1 := by omega
  have ef : va_up (fun s => if s < 6 then some (bs (w.2.2.2 v s)) else none) p (some (bs c)) = fun s => if s < 6 then some (bs ((wP w v p c).2.2.2 v s)) else none := by
    funext s
    unfold va_up
    by_cases e : s = p
    · subst e
      rw [if_pos rfl, if_pos hp]
      show some (bs c) = some (bs (if v = v ∧ s = s then c else w.2.2.2 v s))
      rw [if_pos ⟨rfl, rfl⟩]
    · rw [if_neg e]
      show _ = if s < 6 then some (bs (if v = v ∧ s = p then c else w.2.2.2 v s)) else none
      rw [if_neg (show ¬ (v = v ∧ s = p) from fun z => e z.2)]
  rw [ef]
  by_cases e : a = 182 + 50 * v
  · subst e
    rw [if_pos rfl]
    rcases hv2 with rfl | rfl <;> rfl
  · rw [if_neg e]
    unfold wCl
    have ew : wSt E (wP w v p c) a = wSt E w a := by
      have eo : ∀ u s, u ≠ v → (wP w v p c).2.2.2 u s = w.2.2.2 u s := fun u s hu => if_neg (fun z => hu z.1)
      rcases hv2 with rfl | rfl
      · unfold wSt
        split <;> first | rfl | (exfalso; omega) | (simp only [eo 1 _ (by omega)])
      · unfold wSt
        split <;> first | rfl | (exfalso; omega) | (simp only [eo 0 _ (by omega)])
    rw [ew]
    rfl
theorem wP_ist {len pc x y p c : Nat} {z : Int32} {zl : Int64} {ts : List Nat} {st : List Value} (hv : v < 2) (hp : p < 6) (hc : c < 31) (he : hI mi k = some (.aastore, len, pc, x, y, z, zl, ts)) (K : hRun mi (k + 1) L st (hW E (wP w v p c)) r h') : hRun mi k L (.ref (bs c) :: .int (nI p) :: .ref (182 + 50 * v) :: st) (hW E w) r h' := by
  refine r_step he rfl ?_ K
  have h1 := nI_in hp (show 6 < 2 ^ 31 by omega)
  have h2 : hAs 5 ((hW E w).2.2 (bs c)) = true := by rw [wc_0 hc]; rfl
  simp only [hStep, hAst, wc_pan hv, if_pos (show 3 ≤ 5 ∧ 5 ≤ 6 by omega), if_pos h1, if_pos h2]
  rw [nI_clamp (by omega), wP_hst hv hp]
end WWR
/-- a call of the reference from behind 'thrown = 0' on, all that holds given -/
theorem Ans_i {J cm mm : Nat} {Lc Lm : List Value} {E : hEn} {w w1 : hWo} {v u : Int32} {M M' : hT2} {x' : Int64} {l0 p0 y0 l1 p1 x1 y1 l2 p2 i2 : Nat} {z0 : Int32} {a0 a1 a2 : Int64} {t0 t1 t2 : List Nat} {z2 : Int32} {i1 : Int} (hM : M = s2 (w.1 36) 0 0 0) (hL : Lm[0]? = some (.ref 281)) (e0 : hI mm 0 = some (.aload_n 0, l0, p0, 0, y0, z0, a0, t0)) (e1 : hI mm 1 = some (.iconst i1, l1, p1, x1, y1, 0, a1, t1)) (e2 : hI mm 2 = some (.putfield i2, l2, p2, 9, 0, z2, a2, t2)) (h36 : w1.1 36 = w.1 36) (hx : w1.2.2.1 = w.2.2.1) (I : Iv (J + 1) (wM w1 M' x').1 w1.2.2.2) (C : hRun cm 0 Lc [] (hW E w) (some (.int v)) (hW E w1)) (D : hRun mm 3 Lm [] (hpM (hW E w1) 281 M w.2.2.1) (some (.int u)) (hpM (hW E w1) 281 M' x')) (hv : u = v) : Ans J cm mm Lc Lm E w := by
  subst hv
  refine Ans_of (M := M') (x := x') C ?_ I
  rw [h36, hx]
  subst hM
  exact m_start hL e0 e1 e2 D
/-- only one window's own changed -/
def WCh (v : Nat) (W V : Nat → hT2) (P P' : Nat → Nat → Nat) : Prop := (∀ c, c < 35 → c ≠ 6 → c ≠ 31 → (c < 19 + 6 * v ∨ 25 + 6 * v ≤ c) → V c = W c) ∧ (V 35 0 = W 35 0 ∧ ∀ i, (i < 4 * v ∨ 4 * v + 4 ≤ i) → V 35 1 i = W 35 1 i) ∧ (∀ i, i < 34440 → (i < 1148 * (18 + 6 * v) ∨ 1148 * (24 + 6 * v) ≤ i) → V 36 1 i = W 36 1 i) ∧ (∀ u, u ≠ v → V 36 7 u = W 36 7 u ∧ V 36 8 u = W 36 8 u) ∧ (∀ j, 9 ≤ j → j ≤ 11 → V 36 j = W 36 j) ∧ (∀ j, 3 ≤ j → V 36 0 j = W 36 0 j) ∧ ∀ u, u ≠ v → P' u = P u
theorem Rw_oth {Y Y' : Nat} {W V : Nat → hT2} {P P' : Nat → Nat → Nat} {v : Nat} (hv : v < 2) (hP : Ip P) (hPP : P' v = P v) (h : Rw Y W P v) (hY : Y ≤ Y') (h5 : ∀ i, 4 * v ≤ i → i < 4 * v + 4 → V 35 1 i = W 35 1 i) (h7 : V 36 7 v = W 36 7 v) (h8 : V 36 8 v = W 36 8 v) (hc : ∀ c, 19 + 6 * v ≤ c → c < 25 + 6 * v → V c = W c) (e : ∀ i, 1148 * (18 + 6 * v) ≤ i → i < 1148 * (24 + 6 * v) → V 36 1 i = W 36 1 i) : Rw Y' V P' v := by
  unfold Rw at h ⊢
  rw [h5 (4 * v) (by omega) (by omega), h5 (4 * v + 1) (by omega) (by omega), h5 (4 * v + 2) (by omega) (by omega), h5 (4 * v + 3) (by omega) (by omega), h7, h8, hPP]
  rcases h with h | ⟨h1, rm, mo, nu, a, b, c, d⟩
  · exact Or.inl h
  · refine Or.inr ⟨h1, rm, mo, nu, a, b, c, fun k hk => ?_⟩
    obtain ⟨A, hG, r1, r2, r3⟩ := d k hk
    have hp := hP.1 v hv k (by omega)
    rw [hc _ hp.1 hp.2]
    exact ⟨A, Gd_mono hG (Nat.le_refl _) hY, r1, RM_same hG r2 (fun i hi => e _ (by omega) (by omega)), r3⟩
theorem Iv_win {J v : Nat} {W V : Nat → hT2} {P P' : Nat → Nat → Nat} (h : Iv J W P) (hv : v < 2) (hc : WCh v W V P P') (hP : Ip P') (hr : Rw (100 * (J + 1)) V P' v) : Iv (J + 1) V P' := by
  obtain ⟨h1, h2, h3, h4, h5, h6⟩ := h
  obtain ⟨c1, ⟨c2, c2b⟩, c3, c4, c5, c6, c7⟩ := hc
  refine ⟨fun q hq => ?_, fun u hu => ?_, hP, ?_, ?_, ?_⟩
  · have a : cq q = q ∧ q < 6 ∨ cq q = q + 1 ∧ 6 ≤ q := by
      unfold cq
      by_cases h : q < 6
      · rw [if_pos h]; exact Or.inl ⟨rfl, h⟩
      · rw [if_neg h]; exact Or.inr ⟨rfl, by omega⟩
    exact Rq_same (h1 q hq) (by omega) (c1 _ (by omega) (by omega) (by omega) (by omega)) (fun i hi => c3 _ (by omega) (by omega))
  · by_cases e : u = v
    · subst e
      exact hr
    · exact Rw_oth hu h3 (c7 u e) (h2 u hu) (by omega) (fun i a b => c2b i (by omega)) (c4 u e).1 (c4 u e).2 (fun c a b => c1 c (by omega) (by omega) (by omega) (by omega)) (fun i a b => c3 i (by omega) (by omega))
  · obtain ⟨n, a1, a2, a3, a4⟩ := h4
    exact ⟨n, a1, by rw [c1 32 (by omega) (by omega) (by omega) (by omega)]; exact a2, by rw [c6 3 (by omega)]; exact a3, by rw [c1 32 (by omega) (by omega) (by omega) (by omega), c5 9 (by omega) (by omega)]; exact a4⟩
  · obtain ⟨n, b, a1, a2, a3, a4⟩ := h5
    exact ⟨n, b, a1, by rw [c1 33 (by omega) (by omega) (by omega) (by omega)]; exact a2, by rw [c6 4 (by omega)]; exact a3, by rw [c1 33 (by omega) (by omega) (by omega) (by omega), c5 10 (by omega) (by omega)]; exact a4⟩
  · unfold Ir at h6 ⊢
    rw [c1 34 (by omega) (by omega) (by omega) (by omega), c6 5 (by omega), c6 6 (by omega), c2, c5 11 (by omega) (by omega)]
    exact h6
/-- the window of a number: opened or not -/
theorem winst {J : Nat} {w : hWo} {M : hT2} (I : Iv J w.1 w.2.2.2) (hM : M = s2 (w.1 36) 0 0 0) (s : Int32) : (∃ v rm mo nu : Nat, v < 2 ∧ s = nI v ∧ w.1 35 1 (4 * v) = 1 ∧ (1 ≤ rm ∧ rm ≤ 24 ∧ 1 ≤ nu ∧ nu ≤ mo ∧ mo ≤ 6) ∧ (w.1 35 1 (4 * v + 1) = nI rm ∧ w.1 35 1 (4 * v + 2) = nI mo ∧ w.1 35 1 (4 * v + 3) = nI nu) ∧ (M 7 v = nI mo ∧ M 8 v = nI nu) ∧ ∀ k, k < nu → ∃ A, Gd 1000000000 (100 * J) A ∧ RS A (w.1 (w.2.2.2 v k)) ∧ RM A (M 1) (1148 * (18 + 6 * v + k)) ∧ (k = 0 → A.1 1 = rm)) ∨ ((∀ p, p < 2 → s = nI p → w.1 35 1 (4 * p) = 0) ∧ ∀ p, p < 2 → s = nI p → M 7 p = 0) := by
  subst hM
  by_cases c : (0 : Int) ≤ s.toInt ∧ s.toInt ≤ (1 : Nat)
  · obtain ⟨v, rfl, -, h2⟩ := rg_of (lo := 0) (hi := 1) c
    rcases I.2.1 v (by omega) with ⟨h3, h4⟩ | ⟨h3, rm, mo, nu, a, b, c, d⟩
    · refine Or.inr ⟨fun q hq e => ?_, fun q hq e => ?_⟩
      · have := (nI_eq (by omega) (by omega)).mp e
        subst this
        exact h3
      · have := (nI_eq (by omega) (by omega)).mp e
        subst this
        exact h4
    · exact Or.inl ⟨v, rm, mo, nu, by omega, rfl, h3, a, b, c, d⟩
  · refine Or.inr ⟨fun q hq e => ?_, fun q hq e => ?_⟩
    · subst e
      exact absurd (by rw [nI_toInt (by omega)]; omega) c
    · subst e
      exact absurd (by rw [nI_toInt (by omega)]; omega) c
theorem pane_eq (v k : Nat) : 20664 + 1148 * (6 * v + k) = 1148 * (18 + 6 * v + k) := by omega
