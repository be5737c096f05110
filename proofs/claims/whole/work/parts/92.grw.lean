/-! the tree: grow -/
def oLs (f T : Int32) (g : Nat → Int32) : Nat → Int32 → Int32 := fun j a => if reF (g j) f T = 0 then a + g j else a
/-- what nodes own; 0 is the lowest level -/
def oL (f T : Int32) (lo : Nat → Int32) : Nat → Nat → Int32
  | 0, i => lo i
  | e + 1, i => fo (oLs f T (oL f T lo e)) 10 (i * 10) 0
section XGR
variable {E : hEn} {w : hWo}
theorem nl_loop {j s : Nat} {f T : Int32} (h1 : 2 ≤ j) (h2 : j ≤ 7) (hs : s + 10 ≤ lU j) : ∀ d k a, k + d = s + 10 → hRun 75 4 [.ref (73 + j), .int (nI s), .int f, .int T, .int a, .int (nI k)] [] (hW E w) (some (.int (fo (oLs f T (w.1 35 j)) d k a))) (hW E w) := by
  have hl := lU_le j
  have e10 : nI s + 10 = nI (s + 10) := nI_add s 10
  intro d
  induction d with
  | zero =>
    intro k a hk
    refine r_step rfl rfl rfl ?_
    refine r_step rfl rfl rfl ?_
    refine r_step rfl rfl rfl ?_
    refine r_step rfl rfl rfl ?_
    dsimp only
    rw [e10, show k = s + 10 by omega]
    refine r_brT rfl rfl ?_ ?_
    · exact Int32.le_refl _
    refine r_step rfl rfl rfl ?_
    (refine r_rtE rfl rfl ?_ ?_ ?_ <;> rfl)
  | succ d ih =>
    intro k a hk
    refine r_step rfl rfl rfl ?_
    refine r_step rfl rfl rfl ?_
    refine r_step rfl rfl rfl ?_
    refine r_step rfl rfl rfl ?_
    dsimp only
    rw [e10]
    refine r_brF rfl rfl ?_ ?_
    · exact nle (by omega) (by omega)
    refine r_step rfl rfl rfl ?_
    refine r_step rfl rfl rfl ?_
    refine wU_ild h1 h2 rfl (by omega) rfl ?_
    refine r_step rfl rfl rfl ?_
    refine r_step rfl rfl rfl ?_
    refine r_callS rfl rfl rfl rfl (c_reaches _ _ _) ?_
    rw [fo]
    by_cases c : reF (w.1 35 j k) f T = 0
    · rw [show oLs f T (w.1 35 j) k a = a + w.1 35 j k from if_pos c]
      refine r_brT rfl rfl ?_ ?_
      · exact c
      refine r_step rfl rfl rfl ?_
      refine r_step rfl rfl rfl ?_
      refine r_step rfl rfl rfl ?_
      refine wU_ild h1 h2 rfl (by omega) rfl ?_
      refine r_step rfl rfl rfl ?_
      refine r_step rfl rfl rfl ?_
      refine r_step rfl rfl rfl ?_
      dsimp only
      rw [nI_1]
      refine r_step rfl rfl rfl ?_
      exact ih (k + 1) _ (by omega)
    · rw [show oLs f T (w.1 35 j) k a = a from if_neg c]
      refine r_brF rfl rfl ?_ ?_
      · exact c
      refine r_step rfl rfl rfl ?_
      dsimp only
      rw [nI_1]
      refine r_step rfl rfl rfl ?_
      exact ih (k + 1) _ (by omega)
theorem x_notLeading {j i : Nat} {f T : Int32} (h1 : 2 ≤ j) (h2 : j ≤ 7) (hs : i * 10 + 10 ≤ lU j) : hRun 75 0 [.ref (73 + j), .int (nI (i * 10)), .int f, .int T, hU, hU] [] (hW E w) (some (.int (fo (oLs f T (w.1 35 j)) 10 (i * 10) 0))) (hW E w) := by
  refine r_step rfl rfl rfl ?_
  refine r_step rfl rfl rfl ?_
  refine r_step rfl rfl rfl ?_
  refine r_step rfl rfl rfl ?_
  exact nl_loop h1 h2 hs 10 (i * 10) 0 rfl
/-- one level -/
theorem grow_in {w0 : hWo} {q L : Nat} {f T : Int32} (hq : q < 31) (hL : L ≤ 2) (hT : w0.1 q 0 2 = T) : ∀ d i (w : hWo), i + d = lU (2 + L) → Sp2 w0 w → ∃ w', (∀ r h', hRun 74 61 [.ref 73, .ref (bs q), .int f, .int (nI L), .int (nI (lU (2 + L)))] [] (hW E w') r h' → hRun 74 33 [.ref 73, .ref (bs q), .int f, .int (nI L), .int (nI i)] [] (hW E w) r h') ∧ Sp2 w0 w' ∧ (∀ j, j ≠ 2 + L → w'.1 35 j = w.1 35 j) ∧ (∀ n, n < i → w'.1 35 (2 + L) n = w.1 35 (2 + L) n) ∧ ∀ n, i ≤ n → n < lU (2 + L) → w'.1 35 (2 + L) n = fo (oLs f T (w.1 35 (3 + L))) 10 (n * 10) 0 := by
  have hl := lU_le (2 + L)
  have hl2 : lU (2 + L) * 10 = lU (3 + L) := by
    have : L = 0 ∨ L = 1 ∨ L = 2 := by omega
    rcases this with rfl | rfl | rfl <;> rfl
  have hl3 := lU_le (3 + L)
  intro d
  induction d with
  | zero =>
    intro i w hi h1
    refine ⟨w, fun r h' K => ?_, h1, fun _ _ => rfl, fun _ _ => rfl, fun n a b => absurd b (by omega)⟩
    rw [show i = lU (2 + L) by omega]
    refine r_step rfl rfl rfl ?_
    refine r_step rfl rfl rfl ?_
    refine r_get rfl rfl rfl ?_
    refine r_step rfl rfl rfl ?_
    refine w74_ld (p := L) (by omega) rfl ?_
    rw [show 75 + L = 73 + (2 + L) by omega]
    refine r_len rfl (wU_c (by omega) (by omega) w) rfl ?_
    refine r_brT rfl rfl ?_ ?_
    · exact Int32.le_refl _
    exact K
  | succ d ih =>
    intro i w hi h1
    obtain ⟨w1, hw1⟩ : ∃ w1, w1 = wS w 35 (s1 (w.1 35) (2 + L) (upd (w.1 35 (2 + L)) i (fo (oLs f T (w.1 35 (3 + L))) 10 (i * 10) 0))) := ⟨_, rfl⟩
    have s1' : Sp2 w0 w1 := by rw [hw1]; exact Sp2_u h1 (by omega)
    obtain ⟨w', j1, j2, j3, j4, j5⟩ := ih (i + 1) w1 (by omega) s1'
    have er : ∀ j, j ≠ 2 + L → w1.1 35 j = w.1 35 j := fun j hj => by rw [hw1, wS_at, s1_row, if_neg hj]
    have eu : w1.1 35 (2 + L) = upd (w.1 35 (2 + L)) i (fo (oLs f T (w.1 35 (3 + L))) 10 (i * 10) 0) := by rw [hw1, wS_at, s1_at]
    refine ⟨w', fun r h' K => ?_, j2, fun j hj => ?_, fun n hn => ?_, fun n a b => ?_⟩
    · have eT : w.1 q 0 2 = T := by rw [h1.1 q (by omega)]; exact hT
      have e10 : nI i * 10 = nI (i * 10) := pk_mul i 10
      refine r_step rfl rfl rfl ?_
      refine r_step rfl rfl rfl ?_
      refine r_get rfl rfl rfl ?_
      refine r_step rfl rfl rfl ?_
      refine w74_ld (p := L) (by omega) rfl ?_
      rw [show 75 + L = 73 + (2 + L) by omega]
      refine r_len rfl (wU_c (by omega) (by omega) w) rfl ?_
      refine r_brF rfl rfl ?_ ?_
      · exact nle (by omega) (by omega)
      refine r_step rfl rfl rfl ?_
      refine r_get rfl rfl rfl ?_
      refine r_step rfl rfl rfl ?_
      refine w74_ld (p := L) (by omega) rfl ?_
      rw [show 75 + L = 73 + (2 + L) by omega]
      refine r_step rfl rfl rfl ?_
      refine r_step rfl rfl rfl ?_
      refine r_get rfl rfl rfl ?_
      refine r_step rfl rfl rfl ?_
      refine r_step rfl rfl rfl ?_
      refine r_step rfl rfl rfl ?_
      dsimp only
      rw [nI_1]
      refine w74_ld (p := L + 1) (by omega) rfl ?_
      rw [show 75 + (L + 1) = 73 + (3 + L) by omega]
      refine r_step rfl rfl rfl ?_
      refine r_step rfl rfl rfl ?_
      refine r_step rfl rfl rfl ?_
      dsimp only
      rw [e10]
      refine r_step rfl rfl rfl ?_
      refine r_step rfl rfl rfl ?_
      refine wS_getE (q := q) hq rfl rfl eT ?_
      refine r_callS rfl rfl rfl rfl (x_notLeading (j := 3 + L) (by omega) (by omega) (by omega)) ?_
      refine wU_ist (j := 2 + L) (by omega) (by omega) rfl (by omega) ?_
      rw [← hw1]
      refine r_step rfl rfl rfl ?_
      dsimp only
      rw [nI_1]
      refine r_step rfl rfl rfl ?_
      exact j1 r h' K
    · rw [j3 j hj, er j hj]
    · rw [j4 n (by omega), eu, pk_un (by omega)]
    · by_cases e : n = i
      · subst e
        rw [j4 n (by omega), eu, pk_us]
      · rw [j5 n (by omega) b, er (3 + L) (by omega)]
/-- the lows under their things -/
def Grw (A : aS) (k : Nat) (w : hWo) : Prop := ∀ t, t < 1000 → w.1 35 5 t = nI (if fiA A.2.1 t < k then (gC A.2.1 (fiA A.2.1 t)).2.2 else 0)
theorem growl_loop {w0 : hWo} {A : aS} {q X Y : Nat} {f : Int32} (hq : q < 31) (hG : Gd X Y A) (hS : RS A (w0.1 q)) : ∀ d k (w : hWo), k + d = A.2.1.length → Sp2 w0 w → Grw A k w → ∃ w', (∀ r h', hRun 74 27 [.ref 73, .ref (bs q), .int f, .int (nI A.2.1.length), hU] [] (hW E w') r h' → hRun 74 8 [.ref 73, .ref (bs q), .int f, .int (nI k), hU] [] (hW E w) r h') ∧ Sp2 w0 w' ∧ Grw A A.2.1.length w' := by
  have h24 := Nat.le_trans hG.1.2.2 hG.1.2.1
  intro d
  induction d with
  | zero =>
    intro k w hk h1 h2
    have eq : w.1 q = w0.1 q := h1.1 q (by omega)
    refine ⟨w, fun r h' K => ?_, h1, ?_⟩
    · rw [show k = A.2.1.length by omega]
      refine r_step rfl rfl rfl ?_
      refine r_step rfl rfl rfl ?_
      refine wS_getE (q := q) hq rfl rfl (show w.1 q 0 5 = nI A.2.1.length by rw [eq]; exact hS.2.1.2.1) ?_
      refine r_brT rfl rfl ?_ ?_
      · exact Int32.le_refl _
      exact K
    · rw [show A.2.1.length = k by omega]; exact h2
  | succ d ih =>
    intro k w hk h1 h2
    have hkl : k < A.2.1.length := by omega
    obtain ⟨g1, -⟩ := Gc_at hG.2.2.2.1 hkl
    obtain ⟨c1, c2, c3⟩ := hS.2.1.2.2.1 k hkl
    have eq : w.1 q = w0.1 q := h1.1 q (by omega)
    obtain ⟨w1, hw1⟩ : ∃ w1, w1 = wS w 35 (s1 (w.1 35) 5 (upd (w.1 35 5) (gC A.2.1 k).1 (nI (gC A.2.1 k).2.2))) := ⟨_, rfl⟩
    have s1' : Sp2 w0 w1 := by rw [hw1]; exact Sp2_u h1 (by omega)
    have hfi : ∀ t, (fiA A.2.1 t = k ↔ t = (gC A.2.1 k).1) := by
      intro t
      constructor
      · intro e
        have := fiA_at (C := A.2.1) (t := t) (by omega)
        rw [e] at this
        exact this.symm
      · intro e
        rw [e]
        exact fiA_of hG.2.2.2.1.2.1 hkl
    have hsp : Grw A (k + 1) w1 := by
      intro t ht
      have a2 := h2 t ht
      have r7 : w1.1 35 5 t = if t = (gC A.2.1 k).1 then nI (gC A.2.1 k).2.2 else w.1 35 5 t := by
        rw [hw1, wS_at, s1_at]
        rfl
      rw [r7, a2]
      by_cases e : t = (gC A.2.1 k).1
      · have ek := (hfi t).mpr e
        rw [if_pos e, ek, if_pos (by omega)]
      · have ek : fiA A.2.1 t ≠ k := fun z => e ((hfi t).mp z)
        rw [if_neg e]
        by_cases b : fiA A.2.1 t < k
        · rw [if_pos b, if_pos (by omega)]
        · rw [if_neg b, if_neg (by omega)]
    obtain ⟨w', j1, j2, j3⟩ := ih (k + 1) w1 (by omega) s1' hsp
    refine ⟨w', fun r h' K => ?_, j2, j3⟩
    refine r_step rfl rfl rfl ?_
    refine r_step rfl rfl rfl ?_
    refine wS_getE (q := q) hq rfl rfl (show w.1 q 0 5 = nI A.2.1.length by rw [eq]; exact hS.2.1.2.1) ?_
    refine r_brF rfl rfl ?_ ?_
    · exact nle (by omega) (by omega)
    refine r_step rfl rfl rfl ?_
    refine r_get rfl rfl rfl ?_
    refine r_step rfl rfl rfl ?_
    refine w74_ld (p := 3) (by omega) rfl ?_
    refine r_step rfl rfl rfl ?_
    refine wS_get (q := q) hq rfl rfl ?_
    refine r_step rfl rfl rfl ?_
    refine wS_ildE (q := q) (j := 1) hq rfl rfl (show k < 24 by omega) (show w.1 q 1 k = nI (gC A.2.1 k).1 by rw [eq]; exact c1) ?_
    refine r_step rfl rfl rfl ?_
    refine wS_get (q := q) hq rfl rfl ?_
    refine r_step rfl rfl rfl ?_
    refine wS_ildE (q := q) (j := 3) hq rfl rfl (show k < 24 by omega) (show w.1 q 3 k = nI (gC A.2.1 k).2.2 by rw [eq]; exact c3) ?_
    refine wU_ist (j := 5) (by omega) (by omega) rfl (show _ < 1000 from g1) ?_
    rw [← hw1]
    refine r_step rfl rfl rfl ?_
    dsimp only
    rw [nI_1]
    refine r_step rfl rfl rfl ?_
    exact j1 r h' K
theorem x_grow {A : aS} {q X Y : Nat} {f : Int32} (hq : q < 31) (hG : Gd X Y A) (hS : RS A (w.1 q)) : ∃ w', hRun 74 0 [.ref 73, .ref (bs q), .int f, hU, hU] [] (hW E w) none (hW E w') ∧ Sp2 w w' ∧ ∀ L, L ≤ 3 → ∀ n, n < lU (2 + L) → w'.1 35 (2 + L) n = oL f (nI (A.1 2)) (fun t => nI (loA A t)) (3 - L) n := by
  obtain ⟨w1, hw1⟩ : ∃ w1, w1 = wS w 35 (s1 (w.1 35) 5 (flF 0 1000 0 (w.1 35 5))) := ⟨_, rfl⟩
  have s1' : Sp2 w w1 := by rw [hw1]; exact Sp2_u ⟨fun _ _ => rfl, fun _ _ => rfl, rfl⟩ (by omega)
  have h0 : Grw A 0 w1 := by
    intro t ht
    rw [if_neg (by omega), hw1, wS_at, s1_at, flF_at, if_pos (by omega)]
    rfl
  have hT : w.1 q 0 2 = nI (A.1 2) := hS.2.1.1 2 (by omega) (by omega) (by omega)
  obtain ⟨w2, j1, j2, j3⟩ := growl_loop (E := E) (f := f) hq hG hS A.2.1.length 0 w1 (by omega) s1' h0
  obtain ⟨w3, k1, k2, k3, -, k5⟩ := grow_in (E := E) (f := f) (L := 2) hq (by omega) hT 100 0 w2 rfl j2
  obtain ⟨w4, l1, l2, l3, -, l5⟩ := grow_in (E := E) (f := f) (L := 1) hq (by omega) hT 10 0 w3 rfl k2
  obtain ⟨w5, m1, m2, m3, -, m5⟩ := grow_in (E := E) (f := f) (L := 0) hq (by omega) hT 1 0 w4 rfl l2
  have e3 : ∀ n, n < 1000 → w2.1 35 5 n = oL f (nI (A.1 2)) (fun t => nI (loA A t)) 0 n := j3
  have e2 : ∀ n, n < 100 → w3.1 35 4 n = oL f (nI (A.1 2)) (fun t => nI (loA A t)) 1 n := by
    intro n hn
    refine (k5 n (Nat.zero_le _) hn).trans ?_
    rw [oL]
    refine fo_cong _ _ _ (fun t a b y => ?_)
    unfold oLs
    rw [show w2.1 35 (3 + 2) t = _ from e3 t (by omega)]
  have e1 : ∀ n, n < 10 → w4.1 35 3 n = oL f (nI (A.1 2)) (fun t => nI (loA A t)) 2 n := by
    intro n hn
    refine (l5 n (Nat.zero_le _) hn).trans ?_
    rw [oL]
    refine fo_cong _ _ _ (fun t a b y => ?_)
    unfold oLs
    rw [show w3.1 35 (3 + 1) t = _ from e2 t (by omega)]
  have e0 : ∀ n, n < 1 → w5.1 35 2 n = oL f (nI (A.1 2)) (fun t => nI (loA A t)) 3 n := by
    intro n hn
    refine (m5 n (Nat.zero_le _) hn).trans ?_
    rw [oL]
    refine fo_cong _ _ _ (fun t a b y => ?_)
    unfold oLs
    rw [show w4.1 35 (3 + 0) t = _ from e1 t (by omega)]
  refine ⟨w5, ?_, m2, fun L hL n hn => ?_⟩
  · refine r_step rfl rfl rfl ?_
    refine r_get rfl rfl rfl ?_
    refine r_step rfl rfl rfl ?_
    refine w74_ld (p := 3) (by omega) rfl ?_
    refine r_step rfl rfl rfl ?_
    refine r_callS rfl rfl rfl rfl (u_fill (j := 5) 0 (by omega) (by omega)) ?_
    change hRun 74 _ _ _ (hW E (wS w 35 (s1 (w.1 35) 5 (flF 0 1000 0 (w.1 35 5))))) _ _
    rw [← hw1]
    refine r_step rfl rfl rfl ?_
    refine r_step rfl rfl rfl ?_
    refine j1 _ _ ?_
    refine r_step rfl rfl rfl ?_
    refine r_step rfl rfl rfl ?_
    refine r_step rfl rfl rfl ?_
    refine r_brF rfl rfl ?_ ?_
    · decide
    refine r_step rfl rfl rfl ?_
    refine r_step rfl rfl rfl ?_
    refine k1 _ _ ?_
    refine r_step rfl rfl rfl ?_
    dsimp only
    rw [show nI 2 + -1 = nI 1 by decide]
    refine r_step rfl rfl rfl ?_
    refine r_step rfl rfl rfl ?_
    refine r_brF rfl rfl ?_ ?_
    · decide
    refine r_step rfl rfl rfl ?_
    refine r_step rfl rfl rfl ?_
    refine l1 _ _ ?_
    refine r_step rfl rfl rfl ?_
    dsimp only
    rw [show nI 1 + -1 = nI 0 by decide]
    refine r_step rfl rfl rfl ?_
    refine r_step rfl rfl rfl ?_
    refine r_brF rfl rfl ?_ ?_
    · decide
    refine r_step rfl rfl rfl ?_
    refine r_step rfl rfl rfl ?_
    refine m1 _ _ ?_
    refine r_step rfl rfl rfl ?_
    refine r_step rfl rfl rfl ?_
    refine r_step rfl rfl rfl ?_
    refine r_brT rfl rfl ?_ ?_
    · decide
    (refine r_rtE rfl rfl ?_ ?_ ?_ <;> rfl)
  · have : L = 0 ∨ L = 1 ∨ L = 2 ∨ L = 3 := by omega
    rcases this with rfl | rfl | rfl | rfl
    · exact e0 n hn
    · rw [m3 3 (by omega)]; exact e1 n hn
    · rw [m3 4 (by omega), l3 4 (by omega)]; exact e2 n hn
    · rw [m3 5 (by omega), l3 5 (by omega), k3 5 (by omega)]; exact e3 n hn
end XGR
