/-! CALLS: rules for whole calls -/
theorem rg_01 (x : Int32) (lo hi : Int) : rgI x lo hi = 0 ∨ rgI x lo hi = 1 := by
  unfold rgI
  split
  · exact Or.inr rfl
  · exact Or.inl rfl
theorem rg_1 {x : Int32} {lo hi : Nat} (h : rgI x lo hi = 1) : ∃ p : Nat, x = nI p ∧ lo ≤ p ∧ p ≤ hi := by
  unfold rgI at h
  by_cases c : (lo : Int) ≤ x.toInt ∧ x.toInt ≤ (hi : Int)
  · exact rg_of c
  · rw [if_neg c] at h
    exact absurd h (by decide)
theorem rg_0 {x : Int32} {lo hi : Int} (h : rgI x lo hi = 0) : ¬ (lo ≤ x.toInt ∧ x.toInt ≤ hi) := by
  unfold rgI at h
  intro c
  rw [if_pos c] at h
  exact absurd h (by decide)
theorem rg_p {p lo hi : Nat} (h1 : lo ≤ p) (h2 : p ≤ hi) (h3 : hi < 2 ^ 31) : rgI (nI p) lo hi = 1 := rgI_t (by rw [nI_toInt (by omega)]; omega)
section GP
variable {h : hH} {b : Nat} {M : hT2} {x : Int64} {y v : Int32}
theorem p_isSummary (e : rgI y 0 5 = v) : hRun 82 0 [.int y] [] h (some (.int v)) h := e ▸ g_isSummary y
theorem p_isThing (e : rgI y 0 999 = v) : hRun 90 0 [.int y] [] h (some (.int v)) h := e ▸ g_isThing y
theorem p_isWindow (e : rgI y 0 1 = v) : hRun 143 0 [.int y] [] h (some (.int v)) h := e ▸ g_isWindow y
theorem p_isImage (e : rgI y 0 1 = v) : hRun 156 0 [.int y] [] h (some (.int v)) h := e ▸ g_isImage y
theorem p_isRoom (e : rgI y 1 24 = v) : hRun 83 0 [.int y] [] h (some (.int v)) h := e ▸ g_isRoom y
theorem p_isTop (e : rgI y 1 24 = v) : hRun 106 0 [.int y] [] h (some (.int v)) h := e ▸ g_isTop y
theorem p_isWeight (e : rgI y 1 9999 = v) : hRun 91 0 [.int y] [] h (some (.int v)) h := e ▸ g_isWeight y
theorem p_isShare (e : rgI y 1 1000 = v) : hRun 111 0 [.int y] [] h (some (.int v)) h := e ▸ g_isShare y
theorem q_isIn {u w : Int64} {lo hi : Int} (e : rgI y lo hi = v) (hv : u.toInt = lo) (hy : w.toInt = hi) : hRun 161 0 [.long y.toInt64, hU, .long u, hU, .long w, hU] [] h (some (.int v)) h := e ▸ k_isIn y u w hv hy
theorem q_isSummary (e : rgI y 0 5 = v) : hRun 160 0 [.ref b, .int y] [] (hpM h b M x) (some (.int v)) (hpM h b M x) := e ▸ k_isSummary y
theorem q_isThing (e : rgI y 0 999 = v) : hRun 179 0 [.int y] [] h (some (.int v)) h := e ▸ k_isThing y
theorem q_isTop (e : rgI y 1 24 = v) : hRun 211 0 [.int y] [] h (some (.int v)) h := e ▸ k_isTop y
theorem q_isPart (e : rgI y 1 1000 = v) : hRun 221 0 [.int y] [] h (some (.int v)) h := e ▸ k_isPart y
end GP
/-- a switch's other ways -/
theorem r_tswd {mi k : Nat} {L st : List Value} {h h' : hH} {r : Option Value} {d lo hi : Int} {of : Array Int} {len pc x y : Nat} {z : Int32} {zl : Int64} {ts : List Nat} {v : Int32} (he : hI mi k = some (.tableswitch d lo hi of, len, pc, x, y, z, zl, ts)) (hv : v.toInt < lo ∨ hi < v.toInt) (K : hRun mi x L st h r h') : hRun mi k L (.int v :: st) h r h' := by
  refine r_step he rfl ?_ K
  simp only [hStep, hTsw, if_pos hv]
theorem sw_in {x : Int32} (n : Nat) (hn : n < 2 ^ 31) : (∃ p, p ≤ n ∧ x = nI p) ∨ (x.toInt < 0 ∨ (n : Int) < x.toInt) := by
  by_cases c : (0 : Int) ≤ x.toInt ∧ x.toInt ≤ (n : Int)
  · obtain ⟨p, e, -, h2⟩ := rg_of (lo := 0) (hi := n) c
    exact Or.inl ⟨p, h2, e⟩
  · exact Or.inr (by omega)
theorem sw1 (x : Int32) : x = nI 0 ∨ x = nI 1 ∨ (x.toInt < 0 ∨ 1 < x.toInt) := by
  rcases sw_in (x := x) 1 (by omega) with ⟨p, h, rfl⟩ | h
  · have : p = 0 ∨ p = 1 := by omega
    rcases this with rfl | rfl <;> simp
  · exact Or.inr (Or.inr h)
theorem sw2 (x : Int32) : x = nI 0 ∨ x = nI 1 ∨ x = nI 2 ∨ (x.toInt < 0 ∨ 2 < x.toInt) := by
  rcases sw_in (x := x) 2 (by omega) with ⟨p, h, rfl⟩ | h
  · have : p = 0 ∨ p = 1 ∨ p = 2 := by omega
    rcases this with rfl | rfl | rfl <;> simp
  · exact Or.inr (Or.inr (Or.inr h))
theorem sw3 (x : Int32) : x = nI 0 ∨ x = nI 1 ∨ x = nI 2 ∨ x = nI 3 ∨ (x.toInt < 0 ∨ 3 < x.toInt) := by
  rcases sw_in (x := x) 3 (by omega) with ⟨p, h, rfl⟩ | h
  · have : p = 0 ∨ p = 1 ∨ p = 2 ∨ p = 3 := by omega
    rcases this with rfl | rfl | rfl | rfl <;> simp
  · exact Or.inr (Or.inr (Or.inr (Or.inr h)))
theorem sw4 (x : Int32) : x = nI 0 ∨ x = nI 1 ∨ x = nI 2 ∨ x = nI 3 ∨ x = nI 4 ∨ (x.toInt < 0 ∨ 4 < x.toInt) := by
  rcases sw_in (x := x) 4 (by omega) with ⟨p, h, rfl⟩ | h
  · have : p = 0 ∨ p = 1 ∨ p = 2 ∨ p = 3 ∨ p = 4 := by omega
    rcases this with rfl | rfl | rfl | rfl | rfl <;> simp
  · exact Or.inr (Or.inr (Or.inr (Or.inr (Or.inr h))))
theorem sw10 (x : Int32) : (∃ p, p ≤ 10 ∧ x = nI p) ∨ (x.toInt < 0 ∨ 10 < x.toInt) := sw_in 10 (by omega)
/-- the summary of a number: there or not -/
theorem stand {J : Nat} {w : hWo} {M : hT2} (I : Iv J w.1 w.2.2.2) (hM : M = s2 (w.1 36) 0 0 0) (s : Int32) : (∃ p A, p < 6 ∧ s = nI p ∧ Gd 1000000000 (100 * J) A ∧ RS A (w.1 p) ∧ RM A (M 1) (1148 * p)) ∨ ((∀ p, p < 6 → s = nI p → w.1 p 0 0 = 0) ∧ ∀ p, p < 6 → s = nI p → M 1 (1148 * p) = 0) := by
  subst hM
  by_cases c : (0 : Int) ≤ s.toInt ∧ s.toInt ≤ (5 : Nat)
  · obtain ⟨p, rfl, -, h2⟩ := rg_of (lo := 0) (hi := 5) c
    have hq := I.1 p (by omega)
    rw [show cq p = p from if_pos (by omega)] at hq
    rcases hq with ⟨h3, h4⟩ | ⟨A, hG, h3, h4⟩
    · refine Or.inr ⟨fun q hq e => ?_, fun q hq e => ?_⟩
      · have := (nI_eq (by omega) (by omega)).mp e
        subst this
        exact h3
      · have := (nI_eq (by omega) (by omega)).mp e
        subst this
        exact h4
    · exact Or.inl ⟨p, A, by omega, rfl, hG, h3, h4⟩
  · refine Or.inr ⟨fun q hq e => ?_, fun q hq e => ?_⟩
    · subst e
      exact absurd (by rw [nI_toInt (by omega)]; omega) c
    · subst e
      exact absurd (by rw [nI_toInt (by omega)]; omega) c
theorem m_start {mm b : Nat} {Lm : List Value} {h h' : hH} {M : hT2} {x : Int64} {r : Option Value} {l0 p0 y0 l1 p1 x1 y1 l2 p2 i2 : Nat} {z0 : Int32} {a0 a1 a2 : Int64} {t0 t1 t2 : List Nat} {z2 : Int32} {i1 : Int} (hL : Lm[0]? = some (.ref b)) (e0 : hI mm 0 = some (.aload_n 0, l0, p0, 0, y0, z0, a0, t0)) (e1 : hI mm 1 = some (.iconst i1, l1, p1, x1, y1, 0, a1, t1)) (e2 : hI mm 2 = some (.putfield i2, l2, p2, 9, 0, z2, a2, t2)) (K : hRun mm 3 Lm [] (hpM h b (s2 M 0 0 0) x) r h') : hRun mm 0 Lm [] (hpM h b M x) r h' := by
  have s0 : hStep (.aload_n 0, l0, p0, 0, y0, z0, a0, t0) 0 Lm [] (hpM h b M x) = some (1, Lm, [.ref b], hpM h b M x) := by
    simp only [hStep, hLoad, hL, hIsA, if_true]
  refine r_step e0 rfl s0 ?_
  have s1 : hStep (.iconst i1, l1, p1, x1, y1, 0, a1, t1) 1 Lm [.ref b] (hpM h b M x) = some (2, Lm, [.int 0, .ref b], hpM h b M x) := rfl
  refine r_step e1 rfl s1 ?_
  exact rM_set e2 rfl K
/-- out of the class's run and the reference's from behind 'thrown = 0' on -/
theorem Ans_m {J cm mm : Nat} {Lc Lm : List Value} {E : hEn} {w w1 : hWo} {v u : Int32} {M M' : hT2} {x' : Int64} {q0 : Nat} {l0 p0 y0 l1 p1 x1 y1 l2 p2 i2 : Nat} {z0 : Int32} {a0 a1 a2 : Int64} {t0 t1 t2 : List Nat} {z2 : Int32} {i1 : Int} (hM : M = s2 (w.1 36) 0 0 0) (I : Iv J w.1 w.2.2.2) (C : hRun cm 0 Lc [] (hW E w) (some (.int v)) (hW E w1)) (hL : Lm[0]? = some (.ref 281)) (e0 : hI mm 0 = some (.aload_n 0, l0, p0, 0, y0, z0, a0, t0)) (e1 : hI mm 1 = some (.iconst i1, l1, p1, x1, y1, 0, a1, t1)) (e2 : hI mm 2 = some (.putfield i2, l2, p2, 9, 0, z2, a2, t2)) (h36 : w1.1 36 = w.1 36) (hx : w1.2.2.1 = w.2.2.1) (hP : w1.2.2.2 = w.2.2.2) (D : hRun mm 3 Lm [] (hpM (hW E w1) 281 M w.2.2.1) (some (.int u)) (hpM (hW E w1) 281 M' x')) (hv : u = v) (hq : q0 < 18 ∨ q0 = 30) (hc : Chg (if q0 = 30 then 6 else cq q0) q0 w.1 (wM w1 M' x').1) (hr : q0 < 18 → Rq (100 * (J + 1)) ((wM w1 M' x').1 (cq q0)) ((wM w1 M' x').1 36 1) (1148 * q0)) : Ans J cm mm Lc Lm E w := by
  subst hv
  refine Ans_of (M := M') (x := x') C ?_ (by rw [hP]; exact Iv_chg I hq hc hr)
  rw [h36, hx]
  subst hM
  exact m_start hL e0 e1 e2 D
theorem Chg_s {w : hWo} {M : hT2} {x : Int64} (hM : M = s2 (w.1 36) 0 0 0) : Chg (if 30 = 30 then 6 else cq 30) 30 w.1 (wM w M x).1 := by
  subst hM
  exact Chg_of (fun _ _ _ _ _ => rfl) (fun _ _ => rfl) (fun i _ _ => rfl) (fun j h1 _ => s2_row (by omega)) (fun j h => by rw [s2_at, if_neg (by omega)])
/-- of calls that only ask -/
theorem Ans_3 {J cm mm : Nat} {Lc Lm : List Value} {E : hEn} {w : hWo} {v u : Int32} {M : hT2} {l0 p0 y0 l1 p1 x1 y1 l2 p2 i2 : Nat} {z0 : Int32} {a0 a1 a2 : Int64} {t0 t1 t2 : List Nat} {z2 : Int32} {i1 : Int} (hM : M = s2 (w.1 36) 0 0 0) (I : Iv J w.1 w.2.2.2) (hL : Lm[0]? = some (.ref 281)) (e0 : hI mm 0 = some (.aload_n 0, l0, p0, 0, y0, z0, a0, t0)) (e1 : hI mm 1 = some (.iconst i1, l1, p1, x1, y1, 0, a1, t1)) (e2 : hI mm 2 = some (.putfield i2, l2, p2, 9, 0, z2, a2, t2)) (C : hRun cm 0 Lc [] (hW E w) (some (.int v)) (hW E w)) (D : hRun mm 3 Lm [] (hpM (hW E w) 281 M w.2.2.1) (some (.int u)) (hpM (hW E w) 281 M w.2.2.1)) (hv : u = v) : Ans J cm mm Lc Lm E w :=
  Ans_m hM I C hL e0 e1 e2 rfl rfl rfl D hv (Or.inr rfl) (Chg_s hM) (fun h => absurd h (by omega))
section GQ
variable {mi k : Nat} {L : List Value} {h h' : hH} {r : Option Value} {E : hEn} {w : hWo} {b : Nat} {M : hT2} {x : Int64}
theorem wS_getE {i len pc y q : Nat} {z : Int32} {zl : Int64} {ts : List Nat} {a c : Int32} {st : List Value} (hq : q < 31) (he : hI mi k = some (.getfield i, len, pc, 5, y, z, zl, ts)) (hv : (oS (bs q) (w.1 q))[y]? = some (.int a)) (e : a = c) (K : hRun mi (k + 1) L (.int c :: st) (hW E w) r h') : hRun mi k L (.ref (bs q) :: st) (hW E w) r h' := wS_get hq he hv (e ▸ K)
theorem rM_ildE {len pc u y j p : Nat} {z : Int32} {zl : Int64} {ts : List Nat} {st : List Value} {c : Int32} (he : hI mi k = some (.iaload, len, pc, u, y, z, zl, ts)) (hj : decide (1 ≤ j ∧ j ≤ 9) = true) (hp : p < lM j) (e : M j p = c) (K : hRun mi (k + 1) L (.int c :: st) (hpM h b M x) r h') : hRun mi k L (.int (nI p) :: .ref (b + j) :: st) (hpM h b M x) r h' := rM_ild he hj hp (e ▸ K)
theorem m_manyE {B : Nat} {c : Int32} (hB : B + 1148 ≤ 35588) (e : M 1 (B + 2) = c) : hRun 168 0 [.ref b, .int (nI B)] [] (hpM h b M x) (some (.int c)) (hpM h b M x) := e ▸ m_many hB
end GQ
theorem lx_m1 {n : Nat} (h : n < 2 ^ 30) : (nI n - 1).toInt64.toInt = (n : Int) - 1 := by
  rw [Int32.toInt_toInt64]
  exact pk_sub_toInt (b := 1) h (by omega)
/-- a place in a list of n -/
theorem kx (k : Int32) {n : Nat} (hn : n < 2 ^ 30) : (∃ q, q < n ∧ k = nI q ∧ rgI k 0 ((n : Int) - 1) = 1) ∨ (k < 0 ∧ rgI k 0 ((n : Int) - 1) = 0) ∨ (¬ k < 0 ∧ ¬ k < nI n ∧ nI n ≤ k ∧ rgI k 0 ((n : Int) - 1) = 0) := by
  rcases pk_ix k (n := n) (by omega) with h | h | ⟨q, h, rfl⟩
  · refine Or.inr (Or.inl ⟨h, rgI_f ?_⟩)
    rw [Int32.lt_iff_toInt_lt] at h
    have : (0 : Int32).toInt = 0 := by decide
    omega
  · refine Or.inr (Or.inr ⟨?_, ?_, h, rgI_f ?_⟩)
    · rw [Int32.le_iff_toInt_le, nI_toInt (by omega)] at h
      rw [Int32.lt_iff_toInt_lt]
      have : (0 : Int32).toInt = 0 := by decide
      omega
    · exact Int32.not_lt.mpr h
    · rw [Int32.le_iff_toInt_le, nI_toInt (by omega)] at h
      omega
  · exact Or.inl ⟨q, h, rfl, rgI_t (by rw [nI_toInt (by omega)]; omega)⟩
/-! answers that are one, of a summary and its bank -/
theorem Rp_eq {A : aS} {S T : hT2} (h : Rp A S) (k : Rp A T) : (∀ j, 1 ≤ j → j ≤ 7 → S 0 j = T 0 j) ∧ (∀ r p, 1 ≤ r → r ≤ 3 → p < A.2.1.length → S r p = T r p) ∧ ∀ t, t < 1000 → S 4 t = T 4 t := by
  refine ⟨fun j a b => ?_, fun r p a b c => ?_, fun t ht => by rw [h.2.2.2 t ht, k.2.2.2 t ht]⟩
  · by_cases e : j = 5
    · rw [e, h.2.1, k.2.1]
    · rw [h.1 j a b e, k.1 j a b e]
  · have h1 := h.2.2.1 p c
    have k1 := k.2.2.1 p c
    have : r = 1 ∨ r = 2 ∨ r = 3 := by omega
    rcases this with rfl | rfl | rfl
    · rw [h1.1, k1.1]
    · rw [h1.2.1, k1.2.1]
    · rw [h1.2.2, k1.2.2]
section QE
variable {A : aS} {S T : hT2}
theorem E_fn (h : Rp A S) (k : Rp A T) (t : Int32) : fnF (S 1) t A.2.1.length 0 = fnF (T 1) t A.2.1.length 0 := fnF_cong _ _ (fun q _ h2 => (Rp_eq h k).2.1 1 q (by omega) (by omega) (by omega))
theorem E_at (h : Rp A S) (k : Rp A T) (hn : A.2.1.length ≤ 24) (t : Int32) {r : Nat} (h1 : 1 ≤ r) (h2 : r ≤ 3) (hc : ¬ fnF (T 1) t A.2.1.length 0 = -1) : S r (fnF (T 1) t A.2.1.length 0).toNatClampNeg = T r (fnF (T 1) t A.2.1.length 0).toNatClampNeg := by
  obtain ⟨q, a, -, e⟩ := fnF_at hn hc
  rw [e]
  exact (Rp_eq h k).2.1 r q h1 h2 a
theorem E_high (h : Rp A S) (k : Rp A T) (hn : A.2.1.length ≤ 24) (t : Int32) : highF S A.2.1.length t = highF T A.2.1.length t := by
  unfold highF
  rw [E_fn h k]
  by_cases c : fnF (T 1) t A.2.1.length 0 = -1
  · rw [if_pos c, if_pos c]
    exact (Rp_eq h k).1 3 (by omega) (by omega)
  · rw [if_neg c, if_neg c]
    exact E_at h k hn t (by omega) (by omega) c
theorem E_low (h : Rp A S) (k : Rp A T) (hn : A.2.1.length ≤ 24) (t : Int32) : lowF S A.2.1.length t = lowF T A.2.1.length t := by
  unfold lowF
  rw [E_fn h k]
  by_cases c : fnF (T 1) t A.2.1.length 0 = -1
  · rw [if_pos c, if_pos c]
  · rw [if_neg c, if_neg c]
    exact E_at h k hn t (by omega) (by omega) c
theorem E_fa (h : Rp A S) (k : Rp A T) (c t : Int32) : faF S A.2.1.length c t = faF T A.2.1.length c t := by
  unfold faF
  refine fo_cong _ _ _ (fun q _ h2 a => ?_)
  rw [(Rp_eq h k).2.1 1 q (by omega) (by omega) (by omega), (Rp_eq h k).2.1 2 q (by omega) (by omega) (by omega)]
theorem E_fp (h : Rp A S) (k : Rp A T) (hn : A.2.1.length ≤ 24) (t : Int32) : fpF S A.2.1.length t = fpF T A.2.1.length t := by
  unfold fpF
  rw [E_fn h k]
  by_cases c : fnF (T 1) t A.2.1.length 0 = -1
  · rw [if_pos c, if_pos c]
  · rw [if_neg c, if_neg c, E_at h k hn t (by omega) (by omega) c, E_fa h k]
theorem fo_add (f : Nat → Int32 → Int32) (hf : ∀ p a c, f p (a + c) = f p a + c) : ∀ d p a c, fo f d p (a + c) = fo f d p a + c
  | 0, _, _, _ => rfl
  | d + 1, p, a, c => by rw [fo, fo, hf, fo_add f hf d]
theorem E_bk (h : Rp A S) (k : Rp A T) {m : Nat} (hm : m ≤ A.2.1.length) (h24 : A.2.1.length ≤ 24) : bkF S m = fo (mb1 T) m 0 0 := by
  unfold bkF
  refine fo_cong _ _ _ (fun q _ h2 a => ?_)
  unfold bb mb1
  by_cases e : q = 0
  · subst e
    rw [if_pos (show nI 0 = 0 from rfl), if_pos (show nI 0 = 0 from rfl), if_neg (by decide)]
  · rw [if_neg (nI_ne0 (by omega) (by omega)), if_neg (nI_ne0 (by omega) (by omega)), (Rp_eq h k).2.1 2 q (by omega) (by omega) (by omega), (Rp_eq h k).2.1 2 (q - 1) (by omega) (by omega) (by omega)]
    by_cases c : T 2 q = T 2 (q - 1)
    · rw [if_pos c, if_pos c, if_pos rfl]
    · rw [if_neg c, if_neg c, if_neg (by decide)]
theorem mb12 (T : hT2) {q : Nat} (hq : q ≤ 24) : fo (mb1 T) (q + 1) 0 0 - 1 = fo (mb2 T) q 1 0 := by
  have e1 : mb1 T 0 0 = 0 + 1 := if_pos rfl
  rw [fo, e1]
  have e2 : fo (mb1 T) q (0 + 1) (0 + 1) = fo (mb2 T) q 1 (0 + 1) := by
    refine fo_cong _ _ _ (fun p h1 h2 a => ?_)
    unfold mb1 mb2
    rw [if_neg (nI_ne0 (by omega) (by omega))]
  rw [e2, fo_add (mb2 T) (fun p a c => ?_)]
  · rw [Int32.add_sub_cancel]
  · unfold mb2
    split
    · rfl
    · rw [Int32.add_assoc, Int32.add_comm c 1, ← Int32.add_assoc]
theorem E_tr (h : Rp A S) (k : Rp A T) : trAF S 0 = fo (fun p a => if T 4 p ≤ 0 then a + 0 else a + 1) 1000 0 0 := by
  unfold trAF
  refine fo_cong _ _ _ (fun q _ h2 a => ?_)
  rw [(Rp_eq h k).2.2 q (by omega), Int32.add_zero]
theorem rem1 (x : Int32) : x - x / 1 * 1 = 0 := by
  rw [Int32.div_one, Int32.mul_one, Int32.sub_self]
theorem E_lw (h : Rp A S) (k : Rp A T) : lwTF S A.2.1.length 1 0 = fo (fun p a => a + T 3 p) A.2.1.length 0 0 := by
  unfold lwTF
  refine fo_cong _ _ _ (fun q _ h2 a => ?_)
  rw [rem1, if_pos rfl, (Rp_eq h k).2.1 3 q (by omega) (by omega) (by omega)]
theorem cap_held (v : Int64) : capF v = if v ≤ 1000000000 then v.toInt32 else 1000000000 := by
  unfold capF
  by_cases c : v ≤ 1000000000
  · rw [if_pos c, if_neg (fun z => absurd z (by rw [Int64.lt_iff_toInt_lt]; rw [Int64.le_iff_toInt_le] at c; omega))]
  · rw [if_neg c, if_pos (by rw [Int64.lt_iff_toInt_lt]; rw [Int64.le_iff_toInt_le] at c; omega)]
    rfl
theorem E_ct (h : Rp A S) (k : Rp A T) : capF (ctTF S A.2.1.length 1 0) = if fo (fun p a => a + (T 2 p).toInt64) A.2.1.length 0 (0 : Int64) ≤ 1000000000 then (fo (fun p a => a + (T 2 p).toInt64) A.2.1.length 0 (0 : Int64)).toInt32 else 1000000000 := by
  rw [cap_held]
  have : ctTF S A.2.1.length 1 0 = fo (fun p a => a + (T 2 p).toInt64) A.2.1.length 0 (0 : Int64) := by
    unfold ctTF
    refine fo_cong _ _ _ (fun q _ h2 a => ?_)
    rw [rem1, if_pos rfl, (Rp_eq h k).2.1 2 q (by omega) (by omega) (by omega)]
  rw [this]
end QE
/-- an instruction of stack and locals alone, going on -/
def hFy (e : hE) (k : Nat) : Bool := match e.1 with
  | .putfield _ => false
  | .getfield _ => false
  | .iastore => false
  | .aastore => false
  | .iaload => false
  | .aaload => false
  | .baload => false
  | .bastore => false
  | .arraylength => false
  | _ => hFw e k
theorem r_fy {mi k : Nat} {L st : List Value} {h h' : hH} {r : Option Value} {e : hE} {k1 : Nat} {L1 st1 : List Value} {h1 : hH} (he : hI mi k = some e) (hk : hKd e = 0) (hf : hFy e k = true) (hs : hStep e k L st h = some (k1, L1, st1, h1)) (K : hRun mi k1 L1 st1 h1 r h') : hRun mi k L st h r h' := r_step he hk hs K
theorem nz10 : ¬ (1 : Int32) = 0 := by decide
