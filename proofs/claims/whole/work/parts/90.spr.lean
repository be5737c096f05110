/-! spread: the rows of the class that are only used in between -/
def lU (j : Nat) : Nat := match j with
  | 2 => 1
  | 3 => 10
  | 4 => 100
  | _ => 1000
theorem lU_le (j : Nat) : 1 ≤ lU j ∧ lU j ≤ 1000 := by
  unfold lU
  split <;> omega
section URW
variable {mi k : Nat} {L : List Value} {E : hEn} {w : hWo} {h' : hH} {r : Option Value}
theorem wU_c {j : Nat} (h1 : 2 ≤ j) (h2 : j ≤ 7) (w : hWo) : (hW E w).2.2 (73 + j) = .inr (0, lU j, .inl (w.1 35 j)) := by
  have : j = 2 ∨ j = 3 ∨ j = 4 ∨ j = 5 ∨ j = 6 ∨ j = 7 := by omega
  rcases this with rfl | rfl | rfl | rfl | rfl | rfl <;> rfl
theorem wU_st {j : Nat} {f : Nat → Int32} (h1 : 2 ≤ j) (h2 : j ≤ 7) : hSt (hW E w) (73 + j) (.inr (0, lU j, .inl f)) = hW E (wS w 35 (s1 (w.1 35) j f)) := by
  have hj : j = 2 ∨ j = 3 ∨ j = 4 ∨ j = 5 ∨ j = 6 ∨ j = 7 := by omega
  unfold hSt hW
  refine congrArg (fun z => (E.1, E.2.1, z)) (funext fun a => ?_)
  dsimp only
  by_cases e : a = 73 + j
  · subst e
    rw [if_pos rfl]
    rcases hj with rfl | rfl | rfl | rfl | rfl | rfl <;> rfl
  · rw [if_neg e]
    unfold wCl
    have en : ∀ c, c ≠ 35 → (wS w 35 (s1 (w.1 35) j f)).1 c = w.1 c := fun c hc => wS_ne hc
    by_cases c1 : (hZ a).1 < 31
    · rw [if_pos c1, if_pos c1, en _ (by omega)]
    · rw [if_neg c1, if_neg c1, en 31 (by omega), en 32 (by omega), en 33 (by omega), en 34 (by omega), en 36 (by omega)]
      have ew : wSt E (wS w 35 (s1 (w.1 35) j f)) a = wSt E w a := by
        unfold wSt
        have e1 : ∀ i, i ≠ j → (wS w 35 (s1 (w.1 35) j f)).1 35 i = w.1 35 i := fun i hi => by rw [wS_at, s1_row, if_neg hi]
        split <;> first | rfl | rw [e1 _ (by omega)]
      rw [ew]
      rfl
theorem wU_ild {len pc x y p j : Nat} {z c : Int32} {zl : Int64} {ts : List Nat} {st : List Value} (h1 : 2 ≤ j) (h2 : j ≤ 7) (he : hI mi k = some (.iaload, len, pc, x, y, z, zl, ts)) (hp : p < lU j) (e : w.1 35 j p = c) (K : hRun mi (k + 1) L (.int c :: st) (hW E w) r h') : hRun mi k L (.int (nI p) :: .ref (73 + j) :: st) (hW E w) r h' := r_ildE he (wU_c h1 h2 w) rfl hp (by have := lU_le j; omega) e K
theorem wU_ist {len pc x y p j : Nat} {z v : Int32} {zl : Int64} {ts : List Nat} {st : List Value} (h1 : 2 ≤ j) (h2 : j ≤ 7) (he : hI mi k = some (.iastore, len, pc, x, y, z, zl, ts)) (hp : p < lU j) (K : hRun mi (k + 1) L st (hW E (wS w 35 (s1 (w.1 35) j (upd (w.1 35 j) p v)))) r h') : hRun mi k L (.int v :: .int (nI p) :: .ref (73 + j) :: st) (hW E w) r h' := by
  refine r_ist he (wU_c h1 h2 w) hp (by have := lU_le j; omega) ?_
  rw [wU_st h1 h2]
  exact K
theorem ufill_loop {j : Nat} {v : Int32} (h1 : 2 ≤ j) (h2 : j ≤ 7) : ∀ d p (w : hWo), p + d = lU j → hRun 282 5 [.ref (73 + j), .int v, .int (nI p), .int (nI (lU j))] [] (hW E w) none (hW E (wS w 35 (s1 (w.1 35) j (flF v d p (w.1 35 j))))) := by
  have hl := lU_le j
  intro d
  induction d with
  | zero =>
    intro p w hp
    rw [flF, s1_id, wS_id]
    rw [show p = lU j by omega]
    refine r_step rfl rfl rfl ?_
    refine r_step rfl rfl rfl ?_
    refine r_brT rfl rfl ?_ ?_
    · exact Int32.le_refl _
    (refine r_rtE rfl rfl ?_ ?_ ?_ <;> rfl)
  | succ d ih =>
    intro p w hp
    have := ih (p + 1) (wS w 35 (s1 (w.1 35) j (upd (w.1 35 j) p v))) (by omega)
    rw [wS_wS, wS_at, s1_s1, s1_at] at this
    refine r_step rfl rfl rfl ?_
    refine r_step rfl rfl rfl ?_
    refine r_brF rfl rfl ?_ ?_
    · exact nle (by omega) (by omega)
    refine r_step rfl rfl rfl ?_
    refine r_step rfl rfl rfl ?_
    refine r_step rfl rfl rfl ?_
    refine wU_ist h1 h2 rfl (by omega) ?_
    refine r_step rfl rfl rfl ?_
    dsimp only
    rw [nI_1]
    refine r_step rfl rfl rfl ?_
    rw [flF]
    exact this
theorem u_fill {j : Nat} (v : Int32) (h1 : 2 ≤ j) (h2 : j ≤ 7) : hRun 282 0 [.ref (73 + j), .int v, hU, hU] [] (hW E w) none (hW E (wS w 35 (s1 (w.1 35) j (flF v (lU j) 0 (w.1 35 j))))) := by
  refine r_step rfl rfl rfl ?_
  refine r_step rfl rfl rfl ?_
  refine r_step rfl rfl rfl ?_
  refine r_len rfl (wU_c h1 h2 w) rfl ?_
  refine r_step rfl rfl rfl ?_
  exact ufill_loop h1 h2 (lU j) 0 w (by omega)
/-- how the rows stand after so many counters -/
def Spr (A : aS) (k : Nat) (w : hWo) : Prop := ∀ t, t < 1000 → w.1 35 6 t = nI (if fiA A.2.1 t < k then (gC A.2.1 (fiA A.2.1 t)).2.1 else A.1 3) ∧ w.1 35 7 t = nI (if fiA A.2.1 t < k then (gC A.2.1 (fiA A.2.1 t)).2.2 else 0)
def Sp2 (w w' : hWo) : Prop := (∀ c, c ≠ 35 → w'.1 c = w.1 c) ∧ (∀ j, j ≤ 1 → w'.1 35 j = w.1 35 j) ∧ w'.2 = w.2
theorem Sp2_u {w w' : hWo} {j : Nat} {f : Nat → Int32} (h : Sp2 w w') (hj : 2 ≤ j) : Sp2 w (wS w' 35 (s1 (w'.1 35) j f)) := ⟨fun c hc => by rw [wS_ne hc]; exact h.1 c hc, fun i hi => by rw [wS_at, s1_row, if_neg (by omega)]; exact h.2.1 i hi, h.2.2⟩
theorem Sp2_wk {w w' : hWo} (h : Sp2 w w') : Wk 6 w w' := ⟨fun d _ _ _ b => h.1 d (by omega), h.2.1, h.1 36 (by omega), by rw [h.2.2]⟩
theorem spread_loop {w0 : hWo} {A : aS} {q X Y : Nat} (hq : q < 31) (hG : Gd X Y A) (hS : RS A (w0.1 q)) : ∀ d k (w : hWo), k + d = A.2.1.length → Sp2 w0 w → Spr A k w → ∃ w', hRun 133 14 [.ref 2, .ref (bs q), .int (nI k)] [.int (nI A.2.1.length), .int (nI k)] (hW E w) none (hW E w') ∧ Sp2 w0 w' ∧ Spr A A.2.1.length w' := by
  have h24 := Nat.le_trans hG.1.2.2 hG.1.2.1
  intro d
  induction d with
  | zero =>
    intro k w hk h1 h2
    refine ⟨w, ?_, h1, ?_⟩
    · rw [show k = A.2.1.length by omega]
      refine r_brT rfl rfl ?_ ?_
      · exact Int32.le_refl _
      (refine r_rtE rfl rfl ?_ ?_ ?_ <;> rfl)
    · rw [show A.2.1.length = k by omega]; exact h2
  | succ d ih =>
    intro k w hk h1 h2
    have hkl : k < A.2.1.length := by omega
    obtain ⟨g1, -⟩ := Gc_at hG.2.2.2.1 hkl
    obtain ⟨c1, c2, c3⟩ := hS.2.1.2.2.1 k hkl
    have eq : w.1 q = w0.1 q := h1.1 q (by omega)
    obtain ⟨w1, hw1⟩ : ∃ w1, w1 = wS w 35 (s1 (w.1 35) 6 (upd (w.1 35 6) (gC A.2.1 k).1 (nI (gC A.2.1 k).2.1))) := ⟨_, rfl⟩
    obtain ⟨w2, hw2⟩ : ∃ w2, w2 = wS w1 35 (s1 (w1.1 35) 7 (upd (w1.1 35 7) (gC A.2.1 k).1 (nI (gC A.2.1 k).2.2))) := ⟨_, rfl⟩
    have s1' : Sp2 w0 w1 := by rw [hw1]; exact Sp2_u h1 (by omega)
    have s2' : Sp2 w0 w2 := by rw [hw2]; exact Sp2_u s1' (by omega)
    have hfi : ∀ t, (fiA A.2.1 t = k ↔ t = (gC A.2.1 k).1) := by
      intro t
      constructor
      · intro e
        have := fiA_at (C := A.2.1) (t := t) (by omega)
        rw [e] at this
        exact this.symm
      · intro e
        rw [e]
        exact fiA_of hG.2.2.2.1.2.1 hkl
    have hsp : Spr A (k + 1) w2 := by
      intro t ht
      obtain ⟨a1, a2⟩ := h2 t ht
      have r6 : w2.1 35 6 t = if t = (gC A.2.1 k).1 then nI (gC A.2.1 k).2.1 else w.1 35 6 t := by
        rw [hw2, wS_at, s1_row, if_neg (by omega), hw1, wS_at, s1_at]
        rfl
      have r7 : w2.1 35 7 t = if t = (gC A.2.1 k).1 then nI (gC A.2.1 k).2.2 else w.1 35 7 t := by
        have e17 : w1.1 35 7 = w.1 35 7 := by rw [hw1, wS_at, s1_row, if_neg (by omega)]
        rw [hw2, wS_at, s1_at, e17]
        rfl
      rw [r6, r7, a1, a2]
      by_cases e : t = (gC A.2.1 k).1
      · have ek := (hfi t).mpr e
        rw [if_pos e, if_pos e, ek, if_pos (by omega), if_pos (by omega)]
        exact ⟨rfl, rfl⟩
      · have ek : fiA A.2.1 t ≠ k := fun z => e ((hfi t).mp z)
        rw [if_neg e, if_neg e]
        by_cases b : fiA A.2.1 t < k
        · rw [if_pos b, if_pos b, if_pos (by omega), if_pos (by omega)]
          exact ⟨rfl, rfl⟩
        · rw [if_neg b, if_neg b, if_neg (by omega), if_neg (by omega)]
          exact ⟨rfl, rfl⟩
    obtain ⟨w', j1, j2, j3⟩ := ih (k + 1) w2 (by omega) s2' hsp
    refine ⟨w', ?_, j2, j3⟩
    have eq1 : w1.1 q = w0.1 q := s1'.1 q (by omega)
    have eq2 : w2.1 q = w0.1 q := s2'.1 q (by omega)
    refine r_brF rfl rfl ?_ ?_
    · exact nle (by omega) (by omega)
    refine r_step rfl rfl rfl ?_
    refine r_get rfl rfl rfl ?_
    refine r_step rfl rfl rfl ?_
    refine wS_get (q := q) hq rfl rfl ?_
    refine r_step rfl rfl rfl ?_
    refine wS_ildE (q := q) (j := 1) hq rfl rfl (show k < 24 by omega) (show w.1 q 1 k = nI (gC A.2.1 k).1 by rw [eq]; exact c1) ?_
    refine r_step rfl rfl rfl ?_
    refine wS_get (q := q) hq rfl rfl ?_
    refine r_step rfl rfl rfl ?_
    refine wS_ildE (q := q) (j := 2) hq rfl rfl (show k < 24 by omega) (show w.1 q 2 k = nI (gC A.2.1 k).2.1 by rw [eq]; exact c2) ?_
    refine wU_ist (j := 6) (by omega) (by omega) rfl (show _ < 1000 from g1) ?_
    rw [← hw1]
    refine r_step rfl rfl rfl ?_
    refine r_get rfl rfl rfl ?_
    refine r_step rfl rfl rfl ?_
    refine wS_get (q := q) hq rfl rfl ?_
    refine r_step rfl rfl rfl ?_
    refine wS_ildE (q := q) (j := 1) hq rfl rfl (show k < 24 by omega) (show w1.1 q 1 k = nI (gC A.2.1 k).1 by rw [eq1]; exact c1) ?_
    refine r_step rfl rfl rfl ?_
    refine wS_get (q := q) hq rfl rfl ?_
    refine r_step rfl rfl rfl ?_
    refine wS_ildE (q := q) (j := 3) hq rfl rfl (show k < 24 by omega) (show w1.1 q 3 k = nI (gC A.2.1 k).2.2 by rw [eq1]; exact c3) ?_
    refine wU_ist (j := 7) (by omega) (by omega) rfl (show _ < 1000 from g1) ?_
    rw [← hw2]
    refine r_step rfl rfl rfl ?_
    dsimp only
    rw [nI_1]
    refine r_step rfl rfl rfl ?_
    refine r_step rfl rfl rfl ?_
    refine r_step rfl rfl rfl ?_
    refine wS_getE (q := q) hq rfl rfl (show w2.1 q 0 5 = nI A.2.1.length by rw [eq2]; exact hS.2.1.2.1) ?_
    exact j1
theorem x_spread {A : aS} {q X Y : Nat} (hq : q < 31) (hG : Gd X Y A) (hS : RS A (w.1 q)) : ∃ w', hRun 133 0 [.ref 2, .ref (bs q), hU] [] (hW E w) none (hW E w') ∧ Sp2 w w' ∧ ∀ t, t < 1000 → w'.1 35 6 t = nI (hiA A t) ∧ w'.1 35 7 t = nI (loA A t) := by
  obtain ⟨w1, hw1⟩ : ∃ w1, w1 = wS w 35 (s1 (w.1 35) 6 (flF (nI (A.1 3)) 1000 0 (w.1 35 6))) := ⟨_, rfl⟩
  obtain ⟨w2, hw2⟩ : ∃ w2, w2 = wS w1 35 (s1 (w1.1 35) 7 (flF 0 1000 0 (w1.1 35 7))) := ⟨_, rfl⟩
  have s1' : Sp2 w w1 := by rw [hw1]; exact Sp2_u ⟨fun _ _ => rfl, fun _ _ => rfl, rfl⟩ (by omega)
  have s2' : Sp2 w w2 := by rw [hw2]; exact Sp2_u s1' (by omega)
  have h0 : Spr A 0 w2 := by
    intro t ht
    rw [if_neg (by omega), if_neg (by omega)]
    constructor
    · rw [hw2, wS_at, s1_row, if_neg (by omega), hw1, wS_at, s1_at, flF_at, if_pos (by omega)]
    · rw [hw2, wS_at, s1_at, flF_at, if_pos (by omega)]
      rfl
  obtain ⟨w', j1, j2, j3⟩ := spread_loop (E := E) hq hG hS A.2.1.length 0 w2 (by omega) s2' h0
  refine ⟨w', ?_, j2, fun t ht => ?_⟩
  · have eq2 : w2.1 q = w.1 q := s2'.1 q (by omega)
    refine r_step rfl rfl rfl ?_
    refine r_get rfl rfl rfl ?_
    refine r_step rfl rfl rfl ?_
    refine wS_getE (q := q) hq rfl rfl (hS.2.1.1 3 (by omega) (by omega) (by omega)) ?_
    refine r_callS rfl rfl rfl rfl (u_fill (j := 6) (nI (A.1 3)) (by omega) (by omega)) ?_
    change hRun 133 _ _ _ (hW E (wS w 35 (s1 (w.1 35) 6 (flF (nI (A.1 3)) 1000 0 (w.1 35 6))))) _ _
    rw [← hw1]
    refine r_step rfl rfl rfl ?_
    refine r_get rfl rfl rfl ?_
    refine r_step rfl rfl rfl ?_
    refine r_callS rfl rfl rfl rfl (u_fill (j := 7) 0 (by omega) (by omega)) ?_
    change hRun 133 _ _ _ (hW E (wS w1 35 (s1 (w1.1 35) 7 (flF 0 1000 0 (w1.1 35 7))))) _ _
    rw [← hw2]
    refine r_step rfl rfl rfl ?_
    refine r_step rfl rfl rfl ?_
    refine r_step rfl rfl rfl ?_
    refine r_step rfl rfl rfl ?_
    refine wS_getE (q := q) hq rfl rfl (show w2.1 q 0 5 = nI A.2.1.length by rw [eq2]; exact hS.2.1.2.1) ?_
    exact j1
  · obtain ⟨a1, a2⟩ := j3 t ht
    exact ⟨a1, a2⟩
end URW
