/-! rules for runs in the world; what numbers can be -/
section WRU
variable {mi k : Nat} {L st : List Value} {h' : hH} {r : Option Value} {E : hEn} {w : hWo}
theorem wc_0 {q : Nat} (hq : q < 31) : (hW E w).2.2 (bs q) = .inl (5, oS (bs q) (w.1 q)) := by
  rw [← hW_S0 (E := E) (w := w) hq]
  exact hpS_0
theorem wc_j {q j : Nat} (hq : q < 31) (h1 : 1 ≤ j) (h2 : j ≤ 7) : (hW E w).2.2 (bs q + j) = .inr (0, lS j, .inl (w.1 q j)) := by
  rw [← hW_S0 (E := E) (w := w) hq]
  exact hpS_j h1 h2
theorem wS_get {i len pc y q : Nat} {z : Int32} {zl : Int64} {ts : List Nat} {v : Value} {st : List Value} (hq : q < 31) (he : hI mi k = some (.getfield i, len, pc, 5, y, z, zl, ts)) (hv : (oS (bs q) (w.1 q))[y]? = some v) (K : hRun mi (k + 1) L (v :: st) (hW E w) r h') : hRun mi k L (.ref (bs q) :: st) (hW E w) r h' := r_get he (wc_0 hq) hv K
theorem lS_lt (j : Nat) : lS j < 2 ^ 31 := by
  unfold lS
  split <;> omega
theorem wS_ild {len pc x y j p q : Nat} {z : Int32} {zl : Int64} {ts : List Nat} {st : List Value} (hq : q < 31) (he : hI mi k = some (.iaload, len, pc, x, y, z, zl, ts)) (hj : decide (1 ≤ j ∧ j ≤ 7) = true) (hp : p < lS j) (K : hRun mi (k + 1) L (.int (w.1 q j p) :: st) (hW E w) r h') : hRun mi k L (.int (nI p) :: .ref (bs q + j) :: st) (hW E w) r h' := by
  have hj := of_decide_eq_true hj
  exact r_ild he (wc_j hq hj.1 hj.2) rfl hp (lS_lt j) K
theorem wS_set {i len pc y q : Nat} {z : Int32} {zl : Int64} {ts : List Nat} {v : Int32} {st : List Value} (hq : q < 31) (he : hI mi k = some (.putfield i, len, pc, 5, y, z, zl, ts)) (hf : hFit (hTy 5 y) (.int v) = true) (hl : decide (y < 7 ∨ y = 11) = true) (K : hRun mi (k + 1) L st (hW E (wS w q (s2 (w.1 q) 0 (jS y) v))) r h') : hRun mi k L (.int v :: .ref (bs q) :: st) (hW E w) r h' := by
  rw [← hW_S0 (E := E) (w := w) hq]
  refine rS_set he hf hl ?_
  rw [hW_S hq]
  exact K
theorem wS_ist {len pc x y j p q : Nat} {z : Int32} {zl : Int64} {ts : List Nat} {v : Int32} {st : List Value} (hq : q < 31) (he : hI mi k = some (.iastore, len, pc, x, y, z, zl, ts)) (hj : decide (1 ≤ j ∧ j ≤ 7) = true) (hp : p < lS j) (K : hRun mi (k + 1) L st (hW E (wS w q (s1 (w.1 q) j (upd (w.1 q j) p v)))) r h') : hRun mi k L (.int v :: .int (nI p) :: .ref (bs q + j) :: st) (hW E w) r h' := by
  rw [← hW_S0 (E := E) (w := w) hq]
  refine rS_ist he hj hp ?_
  rw [hW_S hq]
  exact K
/-- a call of a method of a summary, that changes it -/
theorem wS_call {i len pc x y q : Nat} {z : Int32} {zl : Int64} {ts : List Nat} {Q : hR} {r1 : Option Value} {T : hT2} {as : List Value} (hq : q < 31) (he : hI mi k = some (.invokevirtual i, len, pc, x, y, z, zl, ts)) (hQ : hmR x = some Q) (h5 : Q.2.2.2.2.2.1 = 5) (ha : (st.take y).reverse = .ref (bs q) :: as) (hs : decide (hCats (st.drop y) ≤ 8 ∧ (st.take y).length = y ∧ (hFl (st.take y).reverse).length ≤ Q.2.2.1) = true) (C : hRun x 0 (hEnt (.ref (bs q) :: as) Q.2.2.1) [] (hpS (hW E w) (bs q) (w.1 q)) r1 (hpS (hW E w) (bs q) T)) (K : hRun mi (k + 1) L (r1.toList ++ st.drop y) (hW E (wS w q T)) r h') : hRun mi k L st (hW E w) r h' := by
  rw [← hW_S0 (E := E) (w := w) hq]
  refine rS_call he hQ h5 ha hs C ?_
  rw [hW_S hq]
  exact K
/-- one that changes nothing -/
theorem wS_read {i len pc x y q : Nat} {z : Int32} {zl : Int64} {ts : List Nat} {Q : hR} {r1 : Option Value} {as : List Value} (hq : q < 31) (he : hI mi k = some (.invokevirtual i, len, pc, x, y, z, zl, ts)) (hQ : hmR x = some Q) (h5 : Q.2.2.2.2.2.1 = 5) (ha : (st.take y).reverse = .ref (bs q) :: as) (hs : decide (hCats (st.drop y) ≤ 8 ∧ (st.take y).length = y ∧ (hFl (st.take y).reverse).length ≤ Q.2.2.1) = true) (C : hRun x 0 (hEnt (.ref (bs q) :: as) Q.2.2.1) [] (hpS (hW E w) (bs q) (w.1 q)) r1 (hpS (hW E w) (bs q) (w.1 q))) (K : hRun mi (k + 1) L (r1.toList ++ st.drop y) (hW E w) r h') : hRun mi k L st (hW E w) r h' := by
  refine wS_call hq he hQ h5 ha hs C ?_
  rw [wS_id]
  exact K
/-- the list: a call that changes it, one that doesn't -/
theorem wL_call {i len pc x y : Nat} {z : Int32} {zl : Int64} {ts : List Nat} {Q : hR} {r1 : Option Value} {T : hT2} {as : List Value} (he : hI mi k = some (.invokevirtual i, len, pc, x, y, z, zl, ts)) (hQ : hmR x = some Q) (h5 : Q.2.2.2.2.2.1 = 1) (ha : (st.take y).reverse = .ref 68 :: as) (hs : decide (hCats (st.drop y) ≤ 8 ∧ (st.take y).length = y ∧ (hFl (st.take y).reverse).length ≤ Q.2.2.1) = true) (C : hRun x 0 (hEnt (.ref 68 :: as) Q.2.2.1) [] (hpG yL (hW E w) 68 (w.1 31)) r1 (hpG yL (hW E w) 68 T)) (K : hRun mi (k + 1) L (r1.toList ++ st.drop y) (hW E (wS w 31 T)) r h') : hRun mi k L st (hW E w) r h' := by
  have e : hpG yL (hW E w) 68 (w.1 31) = hW E w := by rw [hW_L, wS_id]
  rw [← e]
  refine rG_call he hQ h5 ha hs C ?_
  rw [hW_L]
  exact K
theorem wL_read {i len pc x y : Nat} {z : Int32} {zl : Int64} {ts : List Nat} {Q : hR} {r1 : Option Value} {as : List Value} (he : hI mi k = some (.invokevirtual i, len, pc, x, y, z, zl, ts)) (hQ : hmR x = some Q) (h5 : Q.2.2.2.2.2.1 = 1) (ha : (st.take y).reverse = .ref 68 :: as) (hs : decide (hCats (st.drop y) ≤ 8 ∧ (st.take y).length = y ∧ (hFl (st.take y).reverse).length ≤ Q.2.2.1) = true) (C : hRun x 0 (hEnt (.ref 68 :: as) Q.2.2.1) [] (hpG yL (hW E w) 68 (w.1 31)) r1 (hpG yL (hW E w) 68 (w.1 31))) (K : hRun mi (k + 1) L (r1.toList ++ st.drop y) (hW E w) r h') : hRun mi k L st (hW E w) r h' := by
  refine wL_call he hQ h5 ha hs C ?_
  rw [wS_id]
  exact K
/-- a call of a method of the class itself -/
theorem wH_call {i len pc x y : Nat} {z : Int32} {zl : Int64} {ts : List Nat} {Q : hR} {r1 : Option Value} {h1 : hH} {as : List Value} (he : hI mi k = some (.invokevirtual i, len, pc, x, y, z, zl, ts)) (hQ : hmR x = some Q) (h5 : Q.2.2.2.2.2.1 = 8) (ha : (st.take y).reverse = .ref 2 :: as) (hs : decide (hCats (st.drop y) ≤ 8 ∧ (st.take y).length = y ∧ (hFl (st.take y).reverse).length ≤ Q.2.2.1) = true) (C : hRun x 0 (hEnt (.ref 2 :: as) Q.2.2.1) [] (hW E w) r1 h1) (K : hRun mi (k + 1) L (r1.toList ++ st.drop y) h1 r h') : hRun mi k L st (hW E w) r h' := by
  refine r_call he rfl rfl rfl hQ ?_ hs ?_ K
  · rw [ha, h5]
    rfl
  · dsimp only
    rw [ha]
    exact C
/-- a place of a row of references -/
theorem r_ald {h : hH} {len pc x y a p n t v : Nat} {z : Int32} {zl : Int64} {ts : List Nat} {g : Nat → Option Nat} {st : List Value} (he : hI mi k = some (.aaload, len, pc, x, y, z, zl, ts)) (ha : h.2.2 a = .inr (t, n, .inr g)) (ht : decide (3 ≤ t ∧ t ≤ 6 ∧ n < 2147483648) = true) (hp : p < n) (hg : g p = some v) (K : hRun mi (k + 1) L (.ref v :: st) h r h') : hRun mi k L (.int (nI p) :: .ref a :: st) h r h' := by
  have ht := of_decide_eq_true ht
  refine r_step he rfl ?_ K
  have h1 := nI_in hp ht.2.2
  simp only [hStep, hAld, ha, if_pos (show 3 ≤ t ∧ t ≤ 6 from ⟨ht.1, ht.2.1⟩), if_pos h1]
  rw [nI_clamp (by omega), hg]
  rfl
theorem w4_ld {len pc x y p : Nat} {z : Int32} {zl : Int64} {ts : List Nat} {st : List Value} (hp : p < 6) (he : hI mi k = some (.aaload, len, pc, x, y, z, zl, ts)) (K : hRun mi (k + 1) L (.ref (bs p) :: st) (hW E w) r h') : hRun mi k L (.int (nI p) :: .ref 4 :: st) (hW E w) r h' := r_ald (t := 5) (n := 6) (g := fun p => if p < 6 then some (bs p) else none) he rfl rfl hp (if_pos hp) K
theorem w53_ld {len pc x y p : Nat} {z : Int32} {zl : Int64} {ts : List Nat} {st : List Value} (hp : p < 2) (he : hI mi k = some (.aaload, len, pc, x, y, z, zl, ts)) (K : hRun mi (k + 1) L (.ref (81 + 50 * p) :: st) (hW E w) r h') : hRun mi k L (.int (nI p) :: .ref 53 :: st) (hW E w) r h' := r_ald (t := 4) (n := 2) (g := fun p => if p < 2 then some (81 + 50 * p) else none) he rfl rfl hp (if_pos hp) K
theorem w54_ld {len pc x y p : Nat} {z : Int32} {zl : Int64} {ts : List Nat} {st : List Value} (hp : p < 2) (he : hI mi k = some (.aaload, len, pc, x, y, z, zl, ts)) (K : hRun mi (k + 1) L (.ref (181 + 50 * p) :: st) (hW E w) r h') : hRun mi k L (.int (nI p) :: .ref 54 :: st) (hW E w) r h' := r_ald (t := 6) (n := 2) (g := fun p => if p < 2 then some (181 + 50 * p) else none) he rfl rfl hp (if_pos hp) K
theorem w74_ld {len pc x y p : Nat} {z : Int32} {zl : Int64} {ts : List Nat} {st : List Value} (hp : p < 4) (he : hI mi k = some (.aaload, len, pc, x, y, z, zl, ts)) (K : hRun mi (k + 1) L (.ref (75 + p) :: st) (hW E w) r h') : hRun mi k L (.int (nI p) :: .ref 74 :: st) (hW E w) r h' := r_ald (t := 3) (n := 4) (g := fun p => if p < 4 then some (75 + p) else none) he rfl rfl hp (if_pos hp) K
theorem w82_ld {len pc x y p : Nat} {z : Int32} {zl : Int64} {ts : List Nat} {st : List Value} (hp : p < 6) (he : hI mi k = some (.aaload, len, pc, x, y, z, zl, ts)) (K : hRun mi (k + 1) L (.ref (bs (7 + p)) :: st) (hW E w) r h') : hRun mi k L (.int (nI p) :: .ref 82 :: st) (hW E w) r h' := r_ald (t := 5) (n := 6) (g := fun p => if p < 6 then some (bs (7 + p)) else none) he rfl rfl hp (if_pos hp) K
theorem w132_ld {len pc x y p : Nat} {z : Int32} {zl : Int64} {ts : List Nat} {st : List Value} (hp : p < 6) (he : hI mi k = some (.aaload, len, pc, x, y, z, zl, ts)) (K : hRun mi (k + 1) L (.ref (bs (13 + p)) :: st) (hW E w) r h') : hRun mi k L (.int (nI p) :: .ref 132 :: st) (hW E w) r h' := r_ald (t := 5) (n := 6) (g := fun p => if p < 6 then some (bs (13 + p)) else none) he rfl rfl hp (if_pos hp) K
theorem w182_ld {len pc x y p : Nat} {z : Int32} {zl : Int64} {ts : List Nat} {st : List Value} (hp : p < 6) (he : hI mi k = some (.aaload, len, pc, x, y, z, zl, ts)) (K : hRun mi (k + 1) L (.ref (bs (w.2.2.2 0 p)) :: st) (hW E w) r h') : hRun mi k L (.int (nI p) :: .ref 182 :: st) (hW E w) r h' := r_ald (t := 5) (n := 6) (g := fun p => if p < 6 then some (bs (w.2.2.2 0 p)) else none) he rfl rfl hp (if_pos hp) K
theorem w232_ld {len pc x y p : Nat} {z : Int32} {zl : Int64} {ts : List Nat} {st : List Value} (hp : p < 6) (he : hI mi k = some (.aaload, len, pc, x, y, z, zl, ts)) (K : hRun mi (k + 1) L (.ref (bs (w.2.2.2 1 p)) :: st) (hW E w) r h') : hRun mi k L (.int (nI p) :: .ref 232 :: st) (hW E w) r h' := r_ald (t := 5) (n := 6) (g := fun p => if p < 6 then some (bs (w.2.2.2 1 p)) else none) he rfl rfl hp (if_pos hp) K
end WRU
/-- is a number between two -/
def rgI (x : Int32) (lo hi : Int) : Int32 := if lo ≤ x.toInt ∧ x.toInt ≤ hi then 1 else 0
theorem rgI_t {x : Int32} {lo hi : Int} (h : lo ≤ x.toInt ∧ x.toInt ≤ hi) : rgI x lo hi = 1 := if_pos h
theorem rgI_f {x : Int32} {lo hi : Int} (h : ¬ (lo ≤ x.toInt ∧ x.toInt ≤ hi)) : rgI x lo hi = 0 := if_neg h
theorem rg_le {x a b : Int32} {lo hi : Int} (ha : a.toInt = lo) (hb : b.toInt = hi + 1) : (if x < a then 0 else if b ≤ x then 0 else 1 : Int32) = rgI x lo hi := by
  unfold rgI
  simp only [Int32.lt_iff_toInt_lt, Int32.le_iff_toInt_le, ha, hb]
  by_cases h1 : x.toInt < lo
  · rw [if_pos h1, if_neg (by omega)]
  · rw [if_neg h1]
    by_cases h2 : hi + 1 ≤ x.toInt
    · rw [if_pos h2, if_neg (by omega)]
    · rw [if_neg h2, if_pos (by omega)]
theorem rg_lt {x a b : Int32} {lo hi : Int} (ha : a.toInt = lo) (hb : b.toInt = hi) : (if x < a then 0 else if b < x then 0 else 1 : Int32) = rgI x lo hi := by
  unfold rgI
  simp only [Int32.lt_iff_toInt_lt, ha, hb]
  by_cases h1 : x.toInt < lo
  · rw [if_pos h1, if_neg (by omega)]
  · rw [if_neg h1]
    by_cases h2 : hi < x.toInt
    · rw [if_pos h2, if_neg (by omega)]
    · rw [if_neg h2, if_pos (by omega)]
theorem rg_in {x : Int32} {a b : Int64} {lo hi : Int} (ha : a.toInt = lo) (hb : b.toInt = hi) : inL3 x.toInt64 a b = rgI x lo hi := by
  unfold inL3 rgI
  simp only [Int64.lt_iff_toInt_lt, Int32.toInt_toInt64, ha, hb]
  by_cases h1 : x.toInt < lo
  · rw [if_pos h1, if_neg (by omega)]
  · rw [if_neg h1]
    by_cases h2 : hi < x.toInt
    · rw [if_pos h2, if_neg (by omega)]
    · rw [if_neg h2, if_pos (by omega)]
/-- a number that is not below 0 -/
theorem rg_nI {x : Int32} (h : 0 ≤ x.toInt) : ∃ p : Nat, x = nI p ∧ (p : Int) = x.toInt ∧ p < 2 ^ 31 := by
  obtain ⟨j, hj, e⟩ := nI_of (x := x) (by rw [Int32.lt_iff_toInt_lt, Int32.toInt_zero]; omega)
  exact ⟨j, e, by rw [e, nI_toInt hj], hj⟩
theorem rg_of {x : Int32} {lo hi : Nat} (h : (lo : Int) ≤ x.toInt ∧ x.toInt ≤ (hi : Int)) : ∃ p : Nat, x = nI p ∧ lo ≤ p ∧ p ≤ hi := by
  obtain ⟨p, h1, h2, -⟩ := rg_nI (x := x) (by omega)
  exact ⟨p, h1, by omega, by omega⟩
section WGD
variable {h : hH} {b : Nat} {M : hT2} {x : Int64}
theorem g_isSummary (x : Int32) : hRun 82 0 [.int x] [] h (some (.int (rgI x 0 5))) h := by
  have := c_isSummary (h := h) x
  rwa [rg_le (lo := 0) (hi := 5) (by decide) (by decide)] at this
theorem g_isThing (x : Int32) : hRun 90 0 [.int x] [] h (some (.int (rgI x 0 999))) h := by
  have := c_isThing (h := h) x
  rwa [rg_le (lo := 0) (hi := 999) (by decide) (by decide)] at this
theorem g_isWindow (x : Int32) : hRun 143 0 [.int x] [] h (some (.int (rgI x 0 1))) h := by
  have := c_isWindow (h := h) x
  rwa [rg_le (lo := 0) (hi := 1) (by decide) (by decide)] at this
theorem g_isImage (x : Int32) : hRun 156 0 [.int x] [] h (some (.int (rgI x 0 1))) h := by
  have := c_isImage (h := h) x
  rwa [rg_le (lo := 0) (hi := 1) (by decide) (by decide)] at this
theorem g_isRoom (x : Int32) : hRun 83 0 [.int x] [] h (some (.int (rgI x 1 24))) h := by
  have := c_isRoom (h := h) x
  rwa [rg_lt (lo := 1) (hi := 24) (by decide) (by decide)] at this
theorem g_isTop (x : Int32) : hRun 106 0 [.int x] [] h (some (.int (rgI x 1 24))) h := by
  have := c_isTop (h := h) x
  rwa [rg_lt (lo := 1) (hi := 24) (by decide) (by decide)] at this
theorem g_isWeight (x : Int32) : hRun 91 0 [.int x] [] h (some (.int (rgI x 1 9999))) h := by
  have := c_isWeight (h := h) x
  rwa [rg_lt (lo := 1) (hi := 9999) (by decide) (by decide)] at this
theorem g_isShare (x : Int32) : hRun 111 0 [.int x] [] h (some (.int (rgI x 1 1000))) h := by
  have := c_isShare (h := h) x
  rwa [rg_lt (lo := 1) (hi := 1000) (by decide) (by decide)] at this
theorem k_isIn (u : Int32) (v y : Int64) {lo hi : Int} (hv : v.toInt = lo) (hy : y.toInt = hi) : hRun 161 0 [.long u.toInt64, hU, .long v, hU, .long y, hU] [] h (some (.int (rgI u lo hi))) h := by
  have := m_isIn (h := h) u.toInt64 v y
  rwa [show (if u.toInt64 < v then 0 else if y < u.toInt64 then 0 else 1 : Int32) = rgI u lo hi from rg_in hv hy] at this
theorem k_isSummary (s : Int32) : hRun 160 0 [.ref b, .int s] [] (hpM h b M x) (some (.int (rgI s 0 5))) (hpM h b M x) := by
  have := m_isSummary (h := h) (b := b) (M := M) (x := x) s
  rwa [rg_in (lo := 0) (hi := 5) (by decide) (by decide)] at this
theorem k_isThing (t : Int32) : hRun 179 0 [.int t] [] h (some (.int (rgI t 0 999))) h := by
  have := m_isThing (h := h) t
  rwa [rg_in (lo := 0) (hi := 999) (by decide) (by decide)] at this
theorem k_isTop (t : Int32) : hRun 211 0 [.int t] [] h (some (.int (rgI t 1 24))) h := by
  have := m_isTop (h := h) t
  rwa [rg_in (lo := 1) (hi := 24) (by decide) (by decide)] at this
theorem k_isPart (t : Int32) : hRun 221 0 [.int t] [] h (some (.int (rgI t 1 1000))) h := by
  have := m_isPart (h := h) t
  rwa [rg_in (lo := 1) (hi := 1000) (by decide) (by decide)] at this
theorem k_canCome (t v : Int32) : hRun 178 0 [.int t, .int v] [] h (some (.int (if rgI t 0 999 = 0 then 0 else if rgI v 1 9999 = 0 then 0 else 1))) h := by
  have := m_canCome (h := h) t v
  rwa [rg_in (lo := 0) (hi := 999) (by decide) (by decide), rg_in (lo := 1) (hi := 9999) (by decide) (by decide)] at this
end WGD
