/-! keep, back -/
def Cpy (X Y : hT2) : Prop := (X 0 0 = 0 ∧ Y 0 0 = 0) ∨ (X 0 0 = 1 ∧ Bc X Y)
theorem Rq_cpy {Y Y' : Nat} {X Z : hT2} {v v' : Nat → Int32} {B T : Nat} (h : Rq Y X v B) (hY : Y ≤ Y') (hc : Cpy X Z) (e : ∀ i, i < 1148 → v' (T + i) = v (B + i)) : Rq Y' Z v' T := by
  have e0 := e 0 (by omega)
  rw [Nat.add_zero, Nat.add_zero] at e0
  rcases h with ⟨h1, h2⟩ | ⟨A, hG, h1, h2⟩
  · rcases hc with ⟨_, c2⟩ | ⟨c1, _⟩
    · exact Or.inl ⟨c2, e0.trans h2⟩
    · rw [h1] at c1
      exact absurd c1 (by decide)
  · rcases hc with ⟨c1, _⟩ | ⟨_, c2⟩
    · rw [h1.1] at c1
      exact absurd c1 (by decide)
    · have k24 := Nat.le_trans hG.1.2.2 hG.1.2.1
      exact Or.inr ⟨A, Gd_mono hG (Nat.le_refl _) hY, RS_bec h1 k24 c2, RM_cong h2 k24 (by have := hG.2.2.1.2; omega) e⟩
section SHF
variable {E : hEn}
theorem r_aldc {mi k : Nat} {L : List Value} {h h' : hH} {r : Option Value} {len pc x y p a : Nat} {z : Int32} {zl : Int64} {ts : List Nat} {st : List Value} {f : Nat → Nat} (hp : p < 6) (hc : h.2.2 a = .inr (5, 6, .inr fun s => if s < 6 then some (bs (f s)) else none)) (he : hI mi k = some (.aaload, len, pc, x, y, z, zl, ts)) (K : hRun mi (k + 1) L (.ref (bs (f p)) :: st) h r h') : hRun mi k L (.int (nI p) :: .ref a :: st) h r h' := r_ald (t := 5) (n := 6) (g := fun s => if s < 6 then some (bs (f s)) else none) he hc rfl hp (if_pos hp) K
theorem shelf_loop {T RT S RS' : Nat} {tc sc : Nat → Nat} (hT : ∀ w : hWo, ∃ v, (hW E w).2.2 T = .inl (4, [.ref RT, v])) (hRT : ∀ w : hWo, (hW E w).2.2 RT = .inr (5, 6, .inr fun s => if s < 6 then some (bs (tc s)) else none)) (hS : ∀ w : hWo, ∃ v, (hW E w).2.2 S = .inl (4, [.ref RS', v])) (hRS : ∀ w : hWo, (hW E w).2.2 RS' = .inr (5, 6, .inr fun s => if s < 6 then some (bs (sc s)) else none)) (ht : ∀ s, s < 6 → tc s < 31 ∧ sc s < 31) (hn : ∀ s t, s < 6 → t < 6 → tc s ≠ sc t) (hi : ∀ s t, s < 6 → t < 6 → tc s = tc t → s = t) : ∀ d k (w : hWo), k + d = 6 → (∀ s, s < 6 → w.1 (sc s) 0 0 = 0 ∨ w.1 (sc s) 0 0 = 1) → ∃ w', hRun 25 4 [.ref T, .ref S, .int (nI k)] [.int 6, .int (nI k)] (hW E w) none (hW E w') ∧ (∀ c, (∀ s, s < 6 → c ≠ tc s) → w'.1 c = w.1 c) ∧ (∀ s, s < k → w'.1 (tc s) = w.1 (tc s)) ∧ w'.2 = w.2 ∧ ∀ s, k ≤ s → s < 6 → Cpy (w.1 (sc s)) (w'.1 (tc s)) := by
  intro d
  induction d with
  | zero =>
    intro k w hk hf
    refine ⟨w, ?_, fun _ _ => rfl, fun _ _ => rfl, rfl, fun s a b => absurd b (by omega)⟩
    rw [show k = 6 by omega]
    refine r_brT rfl rfl ?_ ?_
    · decide
    (refine r_rtE rfl rfl ?_ ?_ ?_ <;> rfl)
  | succ d ih =>
    intro k w hk hf
    obtain ⟨a1, a2⟩ := ht k (by omega)
    have a3 := hn k k (by omega) (by omega)
    obtain ⟨X, x1, x2⟩ : ∃ X, Cpy (w.1 (sc k)) X ∧ hRun 50 0 [.ref (bs (tc k)), .ref (bs (sc k))] [] (hpS (hW E w) (bs (tc k)) (w.1 (tc k))) none (hpS (hW E w) (bs (tc k)) X) := by
      rcases hf k (by omega) with h0 | h0
      · refine ⟨s2 (w.1 (tc k)) 0 0 0, Or.inl ⟨h0, ?_⟩, x_become_f a1 a2 a3 h0⟩
        rw [s2_at, if_pos ⟨rfl, rfl⟩]
      · obtain ⟨X, b1, b2⟩ := x_become (E := E) a1 a2 a3 h0
        exact ⟨X, Or.inr ⟨h0, b1⟩, b2⟩
    have es : ∀ s, s < 6 → (wS w (tc k) X).1 (sc s) = w.1 (sc s) := fun s hs => wS_ne (fun z => hn k s (by omega) hs z.symm)
    obtain ⟨w', j1, j2, j3, j4, j5⟩ := ih (k + 1) (wS w (tc k) X) (by omega) (fun s hs => by rw [es s hs]; exact hf s hs)
    refine ⟨w', ?_, fun c hc => ?_, fun s hs => ?_, j4, fun s b1 b2 => ?_⟩
    · obtain ⟨v1, c1⟩ := hT w
      obtain ⟨v2, c2⟩ := hS w
      refine r_brF rfl rfl ?_ ?_
      · exact nle (b := 6) (by omega) (by omega)
      refine r_step rfl rfl rfl ?_
      refine r_get rfl c1 rfl ?_
      refine r_step rfl rfl rfl ?_
      refine r_aldc (by omega) (hRT w) rfl ?_
      refine r_step rfl rfl rfl ?_
      refine r_get rfl c2 rfl ?_
      refine r_step rfl rfl rfl ?_
      refine r_aldc (by omega) (hRS w) rfl ?_
      refine wS_call a1 rfl rfl rfl rfl rfl x2 ?_
      refine r_step rfl rfl rfl ?_
      dsimp only
      rw [nI_1]
      refine r_step rfl rfl rfl ?_
      refine r_step rfl rfl rfl ?_
      refine r_step rfl rfl rfl ?_
      exact j1
    · rw [j2 c hc, wS_ne (hc k (by omega))]
    · rw [j3 s (by omega), wS_ne (fun z => by have := hi s k (by omega) (by omega) z; omega)]
    · by_cases e : s = k
      · subst e
        rw [j3 s (by omega), wS_at]
        exact x1
      · have := j5 s (by omega) b2
        rw [es s b2] at this
        exact this
theorem im_c {i : Nat} (hi : i < 2) (w : hWo) : (hW E w).2.2 (81 + 50 * i) = .inl (4, [.ref (82 + 50 * i), .int (w.1 35 0 (1 + i))]) := by
  have : i = 0 ∨ i = 1 := by omega
  rcases this with rfl | rfl <;> rfl
theorem im_r {i : Nat} (hi : i < 2) (w : hWo) : (hW E w).2.2 (82 + 50 * i) = .inr (5, 6, .inr fun s => if s < 6 then some (bs (7 + 6 * i + s)) else none) := by
  have : i = 0 ∨ i = 1 := by omega
  rcases this with rfl | rfl <;> rfl
theorem im_st {w : hWo} {i : Nat} {x : Int32} (hi : i < 2) : hSt (hW E w) (81 + 50 * i) (.inl (4, [.ref (82 + 50 * i), .int x])) = hW E (wS w 35 (s2 (w.1 35) 0 (1 + i) x)) := by
  unfold hSt hW
  refine congrArg (fun z => (E.1, E.2.1, z)) (funext fun a => ?_)
  dsimp only
  have hv2 : i = 0 ∨ i = 1 := by omega
  by_cases e : a = 81 + 50 * i
  · subst e
    rw [if_pos rfl]
    rcases hv2 with rfl | rfl <;> rfl
  · rw [if_neg e]
    unfold wCl
    have en : ∀ c, c ≠ 35 → (wS w 35 (s2 (w.1 35) 0 (1 + i) x)).1 c = w.1 c := fun c hc => wS_ne hc
    by_cases c1 : (hZ a).1 < 31
    · rw [if_pos c1, if_pos c1, en _ (by omega)]
    · rw [if_neg c1, if_neg c1, en 31 (by omega), en 32 (by omega), en 33 (by omega), en 34 (by omega), en 36 (by omega)]
      have ew : wSt E (wS w 35 (s2 (w.1 35) 0 (1 + i) x)) a = wSt E w a := by
        unfold wSt
        have e0 : ∀ j k, j ≠ 0 → (wS w 35 (s2 (w.1 35) 0 (1 + i) x)).1 35 j k = w.1 35 j k := fun j k hj => by rw [wS_at, s2_at, if_neg (by omega)]
        have e1 : ∀ j, j ≠ 0 → (wS w 35 (s2 (w.1 35) 0 (1 + i) x)).1 35 j = w.1 35 j := fun j hj => by rw [wS_at, s2_row hj]
        have e2 : ∀ k, k ≠ 1 + i → (wS w 35 (s2 (w.1 35) 0 (1 + i) x)).1 35 0 k = w.1 35 0 k := fun k hk => by rw [wS_at, s2_at, if_neg (by omega)]
        split <;> first | rfl | rw [e2 _ (by omega)] | rw [e1 _ (by omega)] | (rw [e0 1 _ (by omega), e0 1 _ (by omega), e0 1 _ (by omega), e0 1 _ (by omega)])
      rw [ew]
      rfl
end SHF
section KSH
variable {h : hH} {M : hT2} {x : Int64}
/-- six banks copied -/
theorem nk8 {i k : Nat} (hi : i < 2) (hk : k < 6) : (6888 : Int32) + 1148 * (6 * nI i + nI k) = nI (1148 * (6 + 6 * i + k)) := by
  have a : i = 0 ∨ i = 1 := by omega
  have b : k = 0 ∨ k = 1 ∨ k = 2 ∨ k = 3 ∨ k = 4 ∨ k = 5 := by omega
  rcases a with rfl | rfl <;> rcases b with rfl | rfl | rfl | rfl | rfl | rfl <;> decide
def cpS (tb sb : Nat) : Nat → Nat → (Nat → Int32) → Nat → Int32
  | 0, _, v => v
  | d + 1, k, v => cpS tb sb d (k + 1) (cpW (1148 * (tb + k)) (1148 * (sb + k)) 1148 0 v)
theorem cpS_f {tb sb : Nat} (hd : tb + 6 ≤ sb ∨ sb + 6 ≤ tb) : ∀ d k (v : Nat → Int32), k + d = 6 → (∀ s, k ≤ s → s < 6 → ∀ j, j < 1148 → cpS tb sb d k v (1148 * (tb + s) + j) = v (1148 * (sb + s) + j)) ∧ ∀ j, (j < 1148 * (tb + k) ∨ 1148 * (tb + 6) ≤ j) → cpS tb sb d k v j = v j := by
  intro d
  induction d with
  | zero =>
    intro k v hk
    exact ⟨fun s a b => absurd b (by omega), fun _ _ => rfl⟩
  | succ d ih =>
    intro k v hk
    have hsep : 1148 * (sb + k) + 1148 ≤ 1148 * (tb + k) ∨ 1148 * (tb + k) + 1148 ≤ 1148 * (sb + k) := by omega
    obtain ⟨a1, a2⟩ := ih (k + 1) (cpW (1148 * (tb + k)) (1148 * (sb + k)) 1148 0 v) (by omega)
    refine ⟨fun s b1 b2 j hj => ?_, fun j hj => ?_⟩
    · rw [cpS]
      by_cases e : s = k
      · subst e
        rw [a2 _ (by omega), cpW_in hsep _ hj]
      · rw [a1 s (by omega) b2 j hj, cpW_o hsep _ (by unfold Ot; omega)]
    · rw [cpS, a2 j (by omega), cpW_o hsep _ (by unfold Ot; omega)]
theorem kkeep_loop {i : Nat} {r : Option Value} {h' : hH} {VF : Nat → Int32} (hi : i < 2) (K : hRun 276 31 [.ref 281, .int (nI i), .int (nI 6)] [] (hpM h 281 (s1 M 1 VF) x) r h') : ∀ d k (v : Nat → Int32), k + d = 6 → cpS (6 + 6 * i) 0 d k v = VF → hRun 276 15 [.ref 281, .int (nI i), .int (nI k)] [.int 6, .int (nI k)] (hpM h 281 (s1 M 1 v) x) r h' := by
  intro d
  induction d with
  | zero =>
    intro k v hk e
    rw [cpS] at e
    subst e
    rw [show k = 6 by omega]
    refine r_brT rfl rfl ?_ ?_
    · decide
    exact K
  | succ d ih =>
    intro k v hk e
    rw [cpS, Nat.zero_add] at e
    refine r_brF rfl rfl ?_ ?_
    · exact nle (b := 6) (by omega) (by omega)
    refine r_step rfl rfl rfl ?_
    refine r_step rfl rfl rfl ?_
    refine r_step rfl rfl rfl ?_
    refine r_step rfl rfl rfl ?_
    refine r_step rfl rfl rfl ?_
    refine r_step rfl rfl rfl ?_
    refine r_step rfl rfl rfl ?_
    refine r_step rfl rfl rfl ?_
    refine r_step rfl rfl rfl ?_
    refine r_step rfl rfl rfl ?_
    dsimp only
    rw [nk8 hi (by omega)]
    refine r_step rfl rfl rfl ?_
    refine r_callS rfl rfl rfl rfl (m_bank _) ?_
    rw [nm1148]
    refine rM_call rfl rfl rfl rfl rfl (m_copies (T := 1148 * (6 + 6 * i + k)) (F := 1148 * k) (by omega) (by omega)) ?_
    rw [s1_s1, s1_at]
    refine r_step rfl rfl rfl ?_
    dsimp only
    rw [nI_1]
    refine r_step rfl rfl rfl ?_
    refine r_step rfl rfl rfl ?_
    refine r_step rfl rfl rfl ?_
    exact ih (k + 1) _ (by omega) e
theorem kback_loop {i : Nat} {r : Option Value} {h' : hH} {VF : Nat → Int32} (hi : i < 2) (K : hRun 277 38 [.ref 281, .int (nI i), .int (nI 6)] [] (hpM h 281 (s1 M 1 VF) x) r h') : ∀ d k (v : Nat → Int32), k + d = 6 → cpS 0 (6 + 6 * i) d k v = VF → hRun 277 22 [.ref 281, .int (nI i), .int (nI k)] [.int 6, .int (nI k)] (hpM h 281 (s1 M 1 v) x) r h' := by
  intro d
  induction d with
  | zero =>
    intro k v hk e
    rw [cpS] at e
    subst e
    rw [show k = 6 by omega]
    refine r_brT rfl rfl ?_ ?_
    · decide
    exact K
  | succ d ih =>
    intro k v hk e
    rw [cpS, Nat.zero_add] at e
    refine r_brF rfl rfl ?_ ?_
    · exact nle (b := 6) (by omega) (by omega)
    refine r_step rfl rfl rfl ?_
    refine r_step rfl rfl rfl ?_
    refine r_callS rfl rfl rfl rfl (m_bank _) ?_
    rw [nm1148]
    refine r_step rfl rfl rfl ?_
    refine r_step rfl rfl rfl ?_
    refine r_step rfl rfl rfl ?_
    refine r_step rfl rfl rfl ?_
    refine r_step rfl rfl rfl ?_
    refine r_step rfl rfl rfl ?_
    refine r_step rfl rfl rfl ?_
    refine r_step rfl rfl rfl ?_
    refine r_step rfl rfl rfl ?_
    dsimp only
    rw [nk8 hi (by omega)]
    refine rM_call rfl rfl rfl rfl rfl (m_copies (F := 1148 * (6 + 6 * i + k)) (T := 1148 * k) (by omega) (by omega)) ?_
    rw [s1_s1, s1_at]
    refine r_step rfl rfl rfl ?_
    dsimp only
    rw [nI_1]
    refine r_step rfl rfl rfl ?_
    refine r_step rfl rfl rfl ?_
    refine r_step rfl rfl rfl ?_
    exact ih (k + 1) _ (by omega) e
end KSH
