/-! ONE INSTRUCTION: arrays, new cells -/
section HSV
variable {g : hV} {p : Program} {l : Launch} {en : Env} {R : Room} {s : State} {m : MethodId} {args : Array Value} {below : List Frame} {meth : Method} {c : Code} {Q : State → Prop} {q : hR} {Ts : List Jvm.Cond} {mi k : Nat} {H : Heap} {locs : List Loc} {cells slots : Nat} {ls : Array Slot} {L st : List Value} {h : hH}
def hPt (t : Nat) : FieldType := match t with
  | 0 => .int
  | 1 => .byte
  | _ => .boolean
theorem hArr_of (X : hCtx g p R s m args meth c q Ts) {t : Nat} (ht : t ≤ 2) : ArrOfT s (g.2.1 t) (hPt t) ∧ va_RA s (g.2.1 t) (hPt t) := by
  have hK := X.2.2.2.2.2.2.1.1
  match t, ht with
  | 0, _ => exact hK.2 0 _ rfl
  | 1, _ => exact hK.2 1 _ rfl
  | 2, _ => exact hK.2 2 _ rfl
theorem hArrQ (X : hCtx g p R s m args meth c q Ts) {t : Nat} (h1 : 3 ≤ t) (h2 : t ≤ 6) : ArrOfT s (g.2.1 t) (hAty t) := by
  obtain ⟨⟨kA, comp, kc, k1, k2, -⟩, -⟩ := X.2.2.2.2.2.2.1.2.1 t h1 h2
  exact fun N z => ⟨(fun k h => by cases h), kA, k1, comp, k2⟩
theorem hAty_ref {t : Nat} (h1 : 3 ≤ t) (h2 : t ≤ 6) : (hAty t).isReference = true := by
  match t, h1, h2 with
  | 3, _, _ => rfl
  | 4, _, _ => rfl
  | 5, _, _ => rfl
  | 6, _, _ => rfl
theorem hIld_inv {k' : Nat} {L' st' : List Value} {h1 : hH} (hs : hIld k L st h = some (k', L', st', h1)) : ∃ i a r t n f, st = .int i :: .ref a :: r ∧ h.2.2 a = .inr (t, n, .inl f) ∧ (t = 0 ∨ t = 7) ∧ ¬ (i < 0 ∨ n ≤ i.toNatClampNeg) ∧ k' = k + 1 ∧ L' = L ∧ st' = .int (f i.toNatClampNeg) :: r ∧ h1 = h := by
  unfold hIld at hs
  split at hs
  · rename_i i a r
    split at hs
    · rename_i t n f ho
      split at hs
      · rename_i hc
        split at hs
        · rename_i hv
          simp only [Option.some.injEq, Prod.mk.injEq] at hs
          obtain ⟨a1, b1, c1, d1⟩ := hs
          exact ⟨i, a, r, t, n, f, rfl, ho, hc, hv, a1.symm, b1.symm, c1.symm, d1.symm⟩
        · cases hs
      · cases hs
    · cases hs
  · cases hs
theorem hBld_inv {k' : Nat} {L' st' : List Value} {h1 : hH} (hs : hBld k L st h = some (k', L', st', h1)) : ∃ i a r t n f, st = .int i :: .ref a :: r ∧ h.2.2 a = .inr (t, n, .inl f) ∧ (t = 1 ∨ t = 2) ∧ ¬ (i < 0 ∨ n ≤ i.toNatClampNeg) ∧ k' = k + 1 ∧ L' = L ∧ st' = .int (f i.toNatClampNeg) :: r ∧ h1 = h := by
  unfold hBld at hs
  split at hs
  · rename_i i a r
    split at hs
    · rename_i t n f ho
      split at hs
      · rename_i hc
        split at hs
        · rename_i hv
          simp only [Option.some.injEq, Prod.mk.injEq] at hs
          obtain ⟨a1, b1, c1, d1⟩ := hs
          exact ⟨i, a, r, t, n, f, rfl, ho, hc, hv, a1.symm, b1.symm, c1.symm, d1.symm⟩
        · cases hs
      · cases hs
    · cases hs
  · cases hs
theorem hIst_inv {k' : Nat} {L' st' : List Value} {h1 : hH} (hs : hIst k L st h = some (k', L', st', h1)) : ∃ v i a r n f, st = .int v :: .int i :: .ref a :: r ∧ h.2.2 a = .inr (0, n, .inl f) ∧ ¬ (i < 0 ∨ n ≤ i.toNatClampNeg) ∧ k' = k + 1 ∧ L' = L ∧ st' = r ∧ h1 = hSt h a (.inr (0, n, .inl (upd f i.toNatClampNeg v))) := by
  unfold hIst at hs
  split at hs
  · rename_i v i a r
    split at hs
    · rename_i t n f ho
      split at hs
      · rename_i hc
        split at hs
        · rename_i hv
          simp only [Option.some.injEq, Prod.mk.injEq] at hs
          obtain ⟨a1, b1, c1, d1⟩ := hs
          subst hc
          exact ⟨v, i, a, r, n, f, rfl, ho, hv, a1.symm, b1.symm, c1.symm, d1.symm⟩
        · cases hs
      · cases hs
    · cases hs
  · cases hs
theorem hBst_inv {k' : Nat} {L' st' : List Value} {h1 : hH} (hs : hBst k L st h = some (k', L', st', h1)) : ∃ v i a r t n f, st = .int v :: .int i :: .ref a :: r ∧ h.2.2 a = .inr (t, n, .inl f) ∧ ¬ (i < 0 ∨ n ≤ i.toNatClampNeg) ∧ k' = k + 1 ∧ L' = L ∧ st' = r ∧ ((t = 1 ∧ h1 = hSt h a (.inr (1, n, .inl (upd f i.toNatClampNeg v.toInt8.toInt32)))) ∨ (t = 2 ∧ (v = 0 ∨ v = 1) ∧ h1 = hSt h a (.inr (2, n, .inl (upd f i.toNatClampNeg v))))) := by
  unfold hBst at hs
  split at hs
  · rename_i v i a r
    split at hs
    · rename_i t n f ho
      split at hs
      · rename_i hv
        split at hs
        · rename_i hc
          simp only [Option.some.injEq, Prod.mk.injEq] at hs
          obtain ⟨a1, b1, c1, d1⟩ := hs
          exact ⟨v, i, a, r, t, n, f, rfl, ho, hv, a1.symm, b1.symm, c1.symm, Or.inl ⟨hc, d1.symm⟩⟩
        · split at hs
          · rename_i hc
            split at hs
            · rename_i hb
              simp only [Option.some.injEq, Prod.mk.injEq] at hs
              obtain ⟨a1, b1, c1, d1⟩ := hs
              exact ⟨v, i, a, r, t, n, f, rfl, ho, hv, a1.symm, b1.symm, c1.symm, Or.inr ⟨hc, hb, d1.symm⟩⟩
            · cases hs
          · cases hs
      · cases hs
    · cases hs
  · cases hs
theorem hAld_inv {k' : Nat} {L' st' : List Value} {h1 : hH} (hs : hAld k L st h = some (k', L', st', h1)) : ∃ i a r t n f, st = .int i :: .ref a :: r ∧ h.2.2 a = .inr (t, n, .inr f) ∧ ¬ (i < 0 ∨ n ≤ i.toNatClampNeg) ∧ k' = k + 1 ∧ L' = L ∧ st' = va_rf (f i.toNatClampNeg) :: r ∧ h1 = h := by
  unfold hAld at hs
  split at hs
  · rename_i i a r
    split at hs
    · rename_i t n f ho
      split at hs
      · split at hs
        · rename_i hv
          simp only [Option.some.injEq, Prod.mk.injEq] at hs
          obtain ⟨a1, b1, c1, d1⟩ := hs
          exact ⟨i, a, r, t, n, f, rfl, ho, hv, a1.symm, b1.symm, c1.symm, d1.symm⟩
        · cases hs
      · cases hs
    · cases hs
  · cases hs
theorem hAst_inv {k' : Nat} {L' st' : List Value} {h1 : hH} (hs : hAst k L st h = some (k', L', st', h1)) : ∃ v i a r t n f, st = .ref v :: .int i :: .ref a :: r ∧ h.2.2 a = .inr (t, n, .inr f) ∧ ¬ (i < 0 ∨ n ≤ i.toNatClampNeg) ∧ hAs t (h.2.2 v) = true ∧ k' = k + 1 ∧ L' = L ∧ st' = r ∧ h1 = hSt h a (.inr (t, n, .inr (va_up f i.toNatClampNeg (some v)))) := by
  unfold hAst at hs
  split at hs
  · rename_i v i a r
    split at hs
    · rename_i t n f ho
      split at hs
      · split at hs
        · rename_i hv
          split at hs
          · rename_i has
            simp only [Option.some.injEq, Prod.mk.injEq] at hs
            obtain ⟨a1, b1, c1, d1⟩ := hs
            exact ⟨v, i, a, r, t, n, f, rfl, ho, hv, has, a1.symm, b1.symm, c1.symm, d1.symm⟩
          · cases hs
        · cases hs
      · cases hs
    · cases hs
  · cases hs
theorem hLen_inv {k' : Nat} {L' st' : List Value} {h1 : hH} (hs : hLen k L st h = some (k', L', st', h1)) : ∃ a r t n w, st = .ref a :: r ∧ h.2.2 a = .inr (t, n, w) ∧ t ≤ 7 ∧ k' = k + 1 ∧ L' = L ∧ st' = .int (Int32.ofNat n) :: r ∧ h1 = h := by
  unfold hLen at hs
  split at hs
  · rename_i a r
    split at hs
    · rename_i t n w ho
      split at hs
      · rename_i hv
        simp only [Option.some.injEq, Prod.mk.injEq] at hs
        obtain ⟨a1, b1, c1, d1⟩ := hs
        exact ⟨a, r, t, n, w, rfl, ho, hv, a1.symm, b1.symm, c1.symm, d1.symm⟩
      · cases hs
    · cases hs
  · cases hs
/-- what is read alone: the cell, as the machine has it -/
theorem hRo (X : hCtx g p R s m args meth c q Ts) (hh : hHR g h H) {a n : Nat} {f : Nat → Int32} (ha : h.2.2 a = .inr (7, n, .inl f)) : ∃ cell : Cell, H[g.2.2.1 a]? = some cell ∧ s.isArrayOf cell .int ∧ cell.vm ≠ .unknown ∧ n ≤ cell.slots.size ∧ cell.slots.size.toInt32 = Int32.ofNat n ∧ ∀ j, j < n → cell.slots[j]? = some (.int (f j)) := by
  have hc := hh.2.2.1 a
  rw [ha] at hc
  rcases hc.2.1 rfl with ⟨rfl, rfl, hf⟩ | ⟨rfl, rfl, hf⟩
  · obtain ⟨cell, h1, h2, h3, h4, h5⟩ := X.2.2.2.2.2.2.1.2.2.1
    refine ⟨cell, by rw [hh.2.2.2 _ (Array.getElem?_eq_some_iff.mp h1).1]; exact h1, h2, h3, by omega, by rw [h4] <;> rfl, fun j hj => ?_⟩
    rw [h5 j hj, hf j hj]
  · obtain ⟨cell, h1, h2, h3, h4, h5, h6, h7⟩ := X.2.2.2.2.2.2.1.2.2.2.1
    refine ⟨cell, by rw [hh.2.2.2 _ (Array.getElem?_eq_some_iff.mp h1).1]; exact h1, h2, h3, h4, h5, fun j hj => ?_⟩
    rw [h6 j hj, hf j hj]
theorem hx_iaload {len pc x y : Nat} {z : Int32} {zl : Int64} {ts : List Nat}  {k' : Nat} {L' st' : List Value} {h1 : hH} (hq : hmR mi = some q) (he : hI mi k = some (.iaload, len, pc, x, y, z, zl, ts)) (X : hCtx g p R s m args meth c q Ts) (hh : hHR g h H) (hl : hLR g.2.2.1 L ls q.2.2.1) (hlo : ∀ z ∈ locs, g.2.2.2.2.2.size ≤ z.base) (hs : hStep (.iaload, len, pc, x, y, z, zl, ts) k L st h = some (k', L', st', h1)) (kk : hGo g p l en R s m args below meth c Q q.2.2.1 (hPc mi k') L' st' h h1 cells slots) : W p l en R s m args below meth c H locs cells slots Q (F0 m pc ls (st.map (hcz g.2.2.1))) := by
  have hdg := hdec hq he
  have ok := hok hq he
  simp only [hOK, hNx, hTg, Bool.and_eq_true, beq_iff_eq, decide_eq_true_eq] at ok
  obtain ⟨ok1, ok3⟩ := ok
  subst ok1
  obtain ⟨i, a, r, t, n, f, rfl, ha, ht, hi, rfl, rfl, rfl, rfl⟩ := hIld_inv hs
  rw [ok3] at kk
  have hlt : i.toNatClampNeg < n := Nat.not_le.mp fun w => hi (Or.inr w)
  rcases ht with rfl | rfl
  · have hc := hh.2.2.1 a
    rw [ha] at hc
    obtain ⟨c3, c4⟩ := hc.1 (by omega)
    exact W.iald (v := .int (f i.toNatClampNeg)) X.1 X.2.1 c4 ((hArr_of X (t := 0) (by omega)).1 n _) (fun w => by cases w) (by rw [arrV_size]; exact hi) (by rw [arrV_read _ _ hlt]) rfl rfl hdg (kk.at hh hl hlo)
  · obtain ⟨cell, h1, h2, h3, h4, -, h6⟩ := hRo X hh ha
    exact W.iald (v := .int (f i.toNatClampNeg)) X.1 X.2.1 h1 h2 h3 (fun w => by rcases w with w | w; exact hi (Or.inl w); omega) (h6 _ hlt) rfl rfl hdg (kk.at hh hl hlo)
theorem hx_baload {len pc x y : Nat} {z : Int32} {zl : Int64} {ts : List Nat}  {k' : Nat} {L' st' : List Value} {h1 : hH} (hq : hmR mi = some q) (he : hI mi k = some (.baload, len, pc, x, y, z, zl, ts)) (X : hCtx g p R s m args meth c q Ts) (hh : hHR g h H) (hl : hLR g.2.2.1 L ls q.2.2.1) (hlo : ∀ z ∈ locs, g.2.2.2.2.2.size ≤ z.base) (hs : hStep (.baload, len, pc, x, y, z, zl, ts) k L st h = some (k', L', st', h1)) (kk : hGo g p l en R s m args below meth c Q q.2.2.1 (hPc mi k') L' st' h h1 cells slots) : W p l en R s m args below meth c H locs cells slots Q (F0 m pc ls (st.map (hcz g.2.2.1))) := by
  have hdg := hdec hq he
  have ok := hok hq he
  simp only [hOK, hNx, hTg, Bool.and_eq_true, beq_iff_eq, decide_eq_true_eq] at ok
  obtain ⟨ok1, ok3⟩ := ok
  subst ok1
  obtain ⟨i, a, r, t, n, f, rfl, ha, ht, hi, rfl, rfl, rfl, rfl⟩ := hBld_inv hs
  rw [ok3] at kk
  have hlt : i.toNatClampNeg < n := Nat.not_le.mp fun w => hi (Or.inr w)
  have hc := hh.2.2.1 a
  rw [ha] at hc
  obtain ⟨c3, c4⟩ := hc.1 (by omega)
  rcases ht with rfl | rfl
  · exact W.bald (v := .int (f i.toNatClampNeg)) X.1 X.2.1 c4 ((hArr_of X (t := 1) (by omega)).1 n _) (fun w => by cases w) (by rw [arrV_size]; exact hi) (by rw [arrV_read _ _ hlt]) rfl rfl hdg (kk.at hh hl hlo)
  · exact W.zald (v := .int (f i.toNatClampNeg)) X.1 X.2.1 c4 ((hArr_of X (t := 2) (by omega)).1 n _) (fun w => by cases w) (by rw [arrV_size]; exact hi) (by rw [arrV_read _ _ hlt]) rfl rfl hdg (kk.at hh hl hlo)
theorem hst_cell {cA : ClassId} {n j : Nat} {f : Nat → Int32} {v : Int32} : (arrV cA n (fun i => .int (f i))).setSlot j (.int v) = arrV cA n (fun i => .int (upd f j v i)) := by
  rw [arrV_store]
  congr 2
  funext i
  by_cases hi : i = j
  · simp [updV, upd, hi]
  · simp [updV, upd, hi]
theorem hx_iastore {len pc x y : Nat} {z : Int32} {zl : Int64} {ts : List Nat}  {k' : Nat} {L' st' : List Value} {h1 : hH} (hq : hmR mi = some q) (he : hI mi k = some (.iastore, len, pc, x, y, z, zl, ts)) (X : hCtx g p R s m args meth c q Ts) (hh : hHR g h H) (hl : hLR g.2.2.1 L ls q.2.2.1) (hlo : ∀ z ∈ locs, g.2.2.2.2.2.size ≤ z.base) (hs : hStep (.iastore, len, pc, x, y, z, zl, ts) k L st h = some (k', L', st', h1)) (kk : hGo g p l en R s m args below meth c Q q.2.2.1 (hPc mi k') L' st' h h1 cells slots) : W p l en R s m args below meth c H locs cells slots Q (F0 m pc ls (st.map (hcz g.2.2.1))) := by
  have hdg := hdec hq he
  have ok := hok hq he
  simp only [hOK, hNx, hTg, Bool.and_eq_true, beq_iff_eq, decide_eq_true_eq] at ok
  obtain ⟨ok1, ok3⟩ := ok
  subst ok1
  obtain ⟨v, i, a, r, n, f, rfl, ha, hi, rfl, rfl, rfl, rfl⟩ := hIst_inv hs
  rw [ok3] at kk
  have hc := hh.2.2.1 a
  rw [ha] at hc
  obtain ⟨c3, c4⟩ := hc.1 (by omega)
  refine W.iast X.1 X.2.1 c4 ((hArr_of X (t := 0) (by omega)).1 n _) (fun w => by cases w) (by rw [arrV_size]; exact hi) rfl rfl hdg fun H1 e z oq => ?_
  rw [hst_cell] at e
  exact kk H1 _ ls cells slots rfl rfl (hh.put X.2.2.2.2.2.2.2.2.2.2 c3 z oq ⟨fun _ => ⟨c3, e⟩, fun w => by omega, hc.2.2⟩) hl (hloc hlo c3)
theorem hx_bastore {len pc x y : Nat} {z : Int32} {zl : Int64} {ts : List Nat}  {k' : Nat} {L' st' : List Value} {h1 : hH} (hq : hmR mi = some q) (he : hI mi k = some (.bastore, len, pc, x, y, z, zl, ts)) (X : hCtx g p R s m args meth c q Ts) (hh : hHR g h H) (hl : hLR g.2.2.1 L ls q.2.2.1) (hlo : ∀ z ∈ locs, g.2.2.2.2.2.size ≤ z.base) (hs : hStep (.bastore, len, pc, x, y, z, zl, ts) k L st h = some (k', L', st', h1)) (kk : hGo g p l en R s m args below meth c Q q.2.2.1 (hPc mi k') L' st' h h1 cells slots) : W p l en R s m args below meth c H locs cells slots Q (F0 m pc ls (st.map (hcz g.2.2.1))) := by
  have hdg := hdec hq he
  have ok := hok hq he
  simp only [hOK, hNx, hTg, Bool.and_eq_true, beq_iff_eq, decide_eq_true_eq] at ok
  obtain ⟨ok1, ok3⟩ := ok
  subst ok1
  obtain ⟨v, i, a, r, t, n, f, rfl, ha, hi, rfl, rfl, rfl, hd⟩ := hBst_inv hs
  rw [ok3] at kk
  have hc := hh.2.2.1 a
  rw [ha] at hc
  rcases hd with ⟨rfl, rfl⟩ | ⟨rfl, hb, rfl⟩
  · obtain ⟨c3, c4⟩ := hc.1 (by omega)
    refine W.bast X.1 X.2.1 c4 ((hArr_of X (t := 1) (by omega)).1 n _) (fun w => by cases w) (by rw [arrV_size]; exact hi) rfl rfl hdg fun H1 e z oq => ?_
    have e2 : narrow .byte (.int v) = .int v.toInt8.toInt32 := by
      have := vp_nar_byte v
      unfold vp_nar at this
      revert this
      cases hn : narrow .byte (.int v) <;> simp [narrow] at hn ⊢
    rw [e2, hst_cell] at e
    exact kk H1 _ ls cells slots rfl rfl (hh.put X.2.2.2.2.2.2.2.2.2.2 c3 z oq ⟨fun _ => ⟨c3, e⟩, fun w => by omega, hc.2.2⟩) hl (hloc hlo c3)
  · obtain ⟨c3, c4⟩ := hc.1 (by omega)
    refine W.zast X.1 X.2.1 c4 ((hArr_of X (t := 2) (by omega)).1 n _) (fun w => by cases w) (by rw [arrV_size]; exact hi) rfl rfl hdg fun H1 e z oq => ?_
    have e2 : narrow .boolean (.int v) = .int v := by
      rcases hb with rfl | rfl
      · decide
      · decide
    rw [e2, hst_cell] at e
    exact kk H1 _ ls cells slots rfl rfl (hh.put X.2.2.2.2.2.2.2.2.2.2 c3 z oq ⟨fun _ => ⟨c3, e⟩, fun w => by omega, hc.2.2⟩) hl (hloc hlo c3)
theorem hx_aaload {len pc x y : Nat} {z : Int32} {zl : Int64} {ts : List Nat}  {k' : Nat} {L' st' : List Value} {h1 : hH} (hq : hmR mi = some q) (he : hI mi k = some (.aaload, len, pc, x, y, z, zl, ts)) (X : hCtx g p R s m args meth c q Ts) (hh : hHR g h H) (hl : hLR g.2.2.1 L ls q.2.2.1) (hlo : ∀ z ∈ locs, g.2.2.2.2.2.size ≤ z.base) (hs : hStep (.aaload, len, pc, x, y, z, zl, ts) k L st h = some (k', L', st', h1)) (kk : hGo g p l en R s m args below meth c Q q.2.2.1 (hPc mi k') L' st' h h1 cells slots) : W p l en R s m args below meth c H locs cells slots Q (F0 m pc ls (st.map (hcz g.2.2.1))) := by
  have hdg := hdec hq he
  have ok := hok hq he
  simp only [hOK, hNx, hTg, Bool.and_eq_true, beq_iff_eq, decide_eq_true_eq] at ok
  obtain ⟨ok1, ok3⟩ := ok
  subst ok1
  obtain ⟨i, a, r, t, n, f, rfl, ha, hi, rfl, rfl, rfl, rfl⟩ := hAld_inv hs
  rw [ok3] at kk
  have hlt : i.toNatClampNeg < n := Nat.not_le.mp fun w => hi (Or.inr w)
  have hc := hh.2.2.1 a
  rw [ha] at hc
  obtain ⟨⟨t1, t2⟩, c3, c4⟩ := hc
  refine W.aald (v := va_rf ((f i.toNatClampNeg).map g.2.2.1)) (ty := hAty t) X.1 X.2.1 c4 (hArrQ X t1 t2 n _) (hAty_ref t1 t2) (fun w => by cases w) (by rw [arrV_size]; exact hi) (by rw [arrV_read _ _ hlt]) rfl rfl hdg ?_
  have := kk.at hh hl hlo
  rw [List.map_cons, hcz_rf] at this
  exact this
theorem hx_aastore {len pc x y : Nat} {z : Int32} {zl : Int64} {ts : List Nat}  {k' : Nat} {L' st' : List Value} {h1 : hH} (hq : hmR mi = some q) (he : hI mi k = some (.aastore, len, pc, x, y, z, zl, ts)) (X : hCtx g p R s m args meth c q Ts) (hh : hHR g h H) (hl : hLR g.2.2.1 L ls q.2.2.1) (hlo : ∀ z ∈ locs, g.2.2.2.2.2.size ≤ z.base) (hs : hStep (.aastore, len, pc, x, y, z, zl, ts) k L st h = some (k', L', st', h1)) (kk : hGo g p l en R s m args below meth c Q q.2.2.1 (hPc mi k') L' st' h h1 cells slots) : W p l en R s m args below meth c H locs cells slots Q (F0 m pc ls (st.map (hcz g.2.2.1))) := by
  have hdg := hdec hq he
  have ok := hok hq he
  simp only [hOK, hNx, hTg, Bool.and_eq_true, beq_iff_eq, decide_eq_true_eq] at ok
  obtain ⟨ok1, ok3⟩ := ok
  subst ok1
  obtain ⟨v, i, a, r, t, n, f, rfl, ha, hi, has, rfl, rfl, rfl, rfl⟩ := hAst_inv hs
  rw [ok3] at kk
  have hlt : i.toNatClampNeg < n := Nat.not_le.mp fun w => hi (Or.inr w)
  have hc := hh.2.2.1 a
  rw [ha] at hc
  obtain ⟨⟨t1, t2⟩, c3, c4⟩ := hc
  obtain ⟨⟨kA, comp, kc, k1, k2, k3, k4, k5⟩, -⟩ := X.2.2.2.2.2.2.1.2.1 t t1 t2
  have hval : ∃ cv : Cell, H[g.2.2.1 v]? = some cv ∧ (∀ w, cv.vm ≠ .statics w) ∧ cv.cls = comp := by
    have hcv := hh.2.2.1 v
    cases hv : h.2.2 v with
    | inl ob =>
      rw [hv] at hcv has
      simp only [hAs, Bool.and_eq_true, decide_eq_true_eq, beq_iff_eq] at has
      obtain ⟨b1, b2, b3, cell, q1, q2, q3, -⟩ := hcv
      refine ⟨cell, q1, (fun w => by rw [q3]; intro z; cases z), ?_⟩
      rw [q2]
      have hcl := (X.2.2.2.2.2.2.1.1.1 ob.1 _ (hcl_at b1)).2.1
      have hn : hNm ob.1 = hAn t := by
        rw [has.2]
        match t, has.1 with
        | 4, _ => rfl
        | 5, _ => rfl
        | 6, _ => rfl
      rw [hn] at hcl
      exact Option.some.inj (hcl.symm.trans k3)
    | inr w =>
      obtain ⟨t', n', w⟩ := w
      cases w with
      | inl f' =>
        rw [hv] at hcv has
        simp only [hAs, Bool.and_eq_true, beq_iff_eq] at has
        obtain ⟨rfl, rfl⟩ := has
        obtain ⟨b3, b4⟩ := hcv.1 (by omega)
        refine ⟨_, b4, (fun w => by intro z; cases z), ?_⟩
        have hcl : s.vm.findClass ("[" ++ FieldType.int.toString) = some (g.2.1 0) := (hArr_of X (t := 0) (by omega)).2
        have hn : "[" ++ FieldType.int.toString = hAn 3 := by decide +kernel
        rw [hn] at hcl
        exact Option.some.inj (hcl.symm.trans k3)
      | inr f' =>
        rw [hv] at has
        simp [hAs] at has
  obtain ⟨cv, v1, v2, v3⟩ := hval
  refine W.aast X.1 X.2.1 c4 (fun w z => by cases z) (fun z => by cases z) k1 k2 (hAty_ref t1 t2) k4 ⟨fun w => hi (Or.inl w), by show _ < (arrV _ _ _).slots.size; rw [arrV_size]; exact hlt⟩ v1 v2 (by rw [v3]; exact k4) (by rw [v3]; exact va_asg _ _) rfl rfl hdg fun H1 e z oq => ?_
  refine kk H1 _ ls cells slots rfl rfl (hh.put X.2.2.2.2.2.2.2.2.2.2 c3 z oq ⟨⟨t1, t2⟩, c3, ?_⟩) hl (hloc hlo c3)
  rw [e, arrV_store]
  congr 2
  funext j
  by_cases hj : j = i.toNatClampNeg
  · simp [updV, va_up, va_rf, hj]
  · simp [updV, va_up, hj]
theorem hx_arraylength {len pc x y : Nat} {z : Int32} {zl : Int64} {ts : List Nat}  {k' : Nat} {L' st' : List Value} {h1 : hH} (hq : hmR mi = some q) (he : hI mi k = some (.arraylength, len, pc, x, y, z, zl, ts)) (X : hCtx g p R s m args meth c q Ts) (hh : hHR g h H) (hl : hLR g.2.2.1 L ls q.2.2.1) (hlo : ∀ z ∈ locs, g.2.2.2.2.2.size ≤ z.base) (hs : hStep (.arraylength, len, pc, x, y, z, zl, ts) k L st h = some (k', L', st', h1)) (kk : hGo g p l en R s m args below meth c Q q.2.2.1 (hPc mi k') L' st' h h1 cells slots) : W p l en R s m args below meth c H locs cells slots Q (F0 m pc ls (st.map (hcz g.2.2.1))) := by
  have hdg := hdec hq he
  have ok := hok hq he
  simp only [hOK, hNx, hTg, Bool.and_eq_true, beq_iff_eq, decide_eq_true_eq] at ok
  obtain ⟨ok1, ok3⟩ := ok
  subst ok1
  obtain ⟨a, r, t, n, w, rfl, ha, ht, rfl, rfl, rfl, rfl⟩ := hLen_inv hs
  rw [ok3] at kk
  cases w with
  | inl f =>
    have hc := hh.2.2.1 a
    rw [ha] at hc
    by_cases h7 : t = 7
    · subst h7
      obtain ⟨cell, h1, h2, h3, h4, h5, h6⟩ := hRo X hh ha
      exact W.alen X.1 X.2.1 h1 h2 h5 rfl rfl hdg (kk.at hh hl hlo)
    · have ht2 : t ≤ 2 := by
        rcases Nat.lt_or_ge t 3 with w | w
        · omega
        · exact (hc.2.2 w (by omega)).elim
      obtain ⟨c3, c4⟩ := hc.1 ht2
      exact W.alen X.1 X.2.1 c4 ((hArr_of X ht2).1 n _) (by rw [arrV_size] <;> rfl) rfl rfl hdg (kk.at hh hl hlo)
  | inr f =>
    have hc := hh.2.2.1 a
    rw [ha] at hc
    obtain ⟨⟨t1, t2⟩, c3, c4⟩ := hc
    exact W.alen X.1 X.2.1 c4 (hArrQ X t1 t2 n _) (by rw [arrV_size] <;> rfl) rfl rfl hdg (kk.at hh hl hlo)
theorem hx_new {len pc x y : Nat} {z : Int32} {zl : Int64} {ts : List Nat} {i : Nat} {k' : Nat} {L' st' : List Value} {h1 : hH} (hq : hmR mi = some q) (he : hI mi k = some (.new i, len, pc, x, y, z, zl, ts)) (X : hCtx g p R s m args meth c q Ts) (hh : hHR g h H) (hl : hLR g.2.2.1 L ls q.2.2.1) (hlo : ∀ z ∈ locs, g.2.2.2.2.2.size ≤ z.base) (hs : hStep (.new i, len, pc, x, y, z, zl, ts) k L st h = some (k', L', st', h1)) (hc : cells + h1.1 ≤ R.cells + h.1) (hsl : slots + h1.2.1 ≤ R.slots + h.2.1) (kk : hGo g p l en R s m args below meth c Q q.2.2.1 (hPc mi k') L' st' h h1 cells slots) : W p l en R s m args below meth c H locs cells slots Q (F0 m pc ls (st.map (hcz g.2.2.1))) := by
  have hdg := hdec hq he
  have ok := hok hq he
  simp only [hOK, hNx, hTg, Bool.and_eq_true, beq_iff_eq, decide_eq_true_eq] at ok
  obtain ⟨⟨⟨ok1, ok2⟩, ok4⟩, ok3⟩ := ok
  subst ok1
  simp only [hStep, hNewO, Option.some.injEq, Prod.mk.injEq] at hs
  obtain ⟨rfl, rfl, rfl, rfl⟩ := hs
  rw [ok3] at kk
  obtain ⟨r, hr, hb⟩ := List.any_eq_true.mp ok2
  simp only [Bool.and_eq_true, beq_iff_eq] at hb
  have hw := List.all_eq_true.mp hwc_all r hr
  simp only [decide_eq_true_eq] at hw
  rw [hb.1.1, hb.1.2, hb.2] at hw
  have hi := List.all_eq_true.mp hwi_all x (List.mem_range.mpr ok4)
  obtain ⟨r2, hr2, hb2⟩ := List.any_eq_true.mp hi
  simp only [Bool.and_eq_true, beq_iff_eq, decide_eq_true_eq] at hb2
  have hKn := X.2.2.2.2.2.2.1.1.1 x _ (hcl_at ok4)
  obtain ⟨z1, z2, z3⟩ := hAd_sz X.2.2.2.2.2.2.2.2.2.2 hh.1
  simp only [hNw] at hc hsl
  refine W.newcK X.1 X.2.1 X.2.2.2.1 (X.word hw rfl) (X.word hb2.1.2 rfl) (X.word hb2.2 rfl) rfl hdg (by omega) (by omega) hKn.2.1 hh.2.1 fun H1 kC hkC e1 e2 e3 => ?_
  refine kk H1 locs ls _ _ (by show cells + 1 + h.1 = cells + (h.1 + 1); omega) (by show slots + _ + h.2.1 = slots + (h.2.1 + _); omega) (hh.new X.2.2.2.2.2.2.2.2.2.2 e2 e3 ⟨ok4, by simp [hDf], z1, ?_⟩) hl hlo
  refine (u_born (hTy x) X.2.2.2.2.1 (hin_ok X ok4) hKn hkC e1 (hty_at ok4)).to (fun j hj => ?_)
  simp only [vp_V, hDf, List.map_map]
  have : ((List.range (hNf x)).map (hcz g.2.2.1 ∘ fun k => defaultValue (hTy x k))).getD j .null = hcz g.2.2.1 (defaultValue (hTy x j)) := by
    simp [List.getD, List.getElem?_map, List.getElem?_range hj]
  rw [this]
  cases hTy x j <;> rfl
theorem hx_newarray {len pc x y : Nat} {z : Int32} {zl : Int64} {ts : List Nat} {t : ArrayType} {k' : Nat} {L' st' : List Value} {h1 : hH} (hq : hmR mi = some q) (he : hI mi k = some (.newarray t, len, pc, x, y, z, zl, ts)) (X : hCtx g p R s m args meth c q Ts) (hh : hHR g h H) (hl : hLR g.2.2.1 L ls q.2.2.1) (hlo : ∀ z ∈ locs, g.2.2.2.2.2.size ≤ z.base) (hs : hStep (.newarray t, len, pc, x, y, z, zl, ts) k L st h = some (k', L', st', h1)) (hc : cells + h1.1 ≤ R.cells + h.1) (hsl : slots + h1.2.1 ≤ R.slots + h.2.1) (kk : hGo g p l en R s m args below meth c Q q.2.2.1 (hPc mi k') L' st' h h1 cells slots) : W p l en R s m args below meth c H locs cells slots Q (F0 m pc ls (st.map (hcz g.2.2.1))) := by
  have hdg := hdec hq he
  have ok := hok hq he
  simp only [hOK, hNx, hTg, Bool.and_eq_true, beq_iff_eq, decide_eq_true_eq] at ok
  obtain ⟨⟨ok1, ok2⟩, ok3⟩ := ok
  subst ok1
  unfold hStep at hs
  dsimp only at hs
  unfold hNewA at hs
  split at hs
  · rename_i n r
    split at hs
    · cases hs
    · rename_i hn
      split at hs
      · rename_i hz
        simp only [Option.some.injEq, Prod.mk.injEq] at hs
        obtain ⟨rfl, rfl, rfl, rfl⟩ := hs
        rw [ok3] at kk
        obtain ⟨z1, z2, z3⟩ := hAd_sz X.2.2.2.2.2.2.2.2.2.2 hh.1
        simp only [hNw] at hc hsl
        have hlk := hwv_all
        simp only [Bool.and_eq_true, decide_eq_true_eq] at hlk
        have hx2 : x ≤ 2 ∧ newarray.typeOf t = hPt x ∧ (Jvm.Cond.arrayClass (newarray.typeOf t)).before args s = true := by
          cases t <;> simp at ok2
          · subst ok2; exact ⟨by omega, rfl, X.word hlk.1.1.1.1.1.1.1.1.1.1.1.1.1.2 rfl⟩
          · subst ok2; exact ⟨by omega, rfl, X.word hlk.1.1.1.1.1.1.1.1.1.1.1.1.1.1.2 rfl⟩
          · subst ok2; exact ⟨by omega, rfl, X.word hlk.1.1.1.1.1.1.1.1.1.1.1.1.1.1.1 rfl⟩
        obtain ⟨x2, ty2, ac2⟩ := hx2
        have hcb : componentBytes (newarray.typeOf t) ≤ 4 := by
          rw [ty2]
          match x, x2 with
          | 0, _ => decide
          | 1, _ => decide
          | 2, _ => decide
        refine va_newaK X.1 X.2.1 ac2 rfl hdg rfl hn rfl (by have := Nat.mul_le_mul hz hcb; omega) (by omega) (by omega) hh.2.1 fun H1 cA e1 e2 e3 hAr hNm => ?_
        have hcA : cA = g.2.1 x := by
          have h2 := (hArr_of X x2).2
          rw [ty2] at hNm
          match x, x2, h2 with
          | 0, _, h2 => exact Option.some.inj (hNm.symm.trans h2)
          | 1, _, h2 => exact Option.some.inj (hNm.symm.trans h2)
          | 2, _, h2 => exact Option.some.inj (hNm.symm.trans h2)
        have hdv : defaultValue (newarray.typeOf t) = .int 0 := by
          rw [ty2]
          match x, x2 with
          | 0, _ => rfl
          | 1, _ => rfl
          | 2, _ => rfl
        rw [hcA, hdv] at e1
        exact kk H1 locs ls _ _ (by show cells + 1 + h.1 = cells + (h.1 + 1); omega) (by show slots + _ + h.2.1 = slots + (h.2.1 + _); omega) (hh.new X.2.2.2.2.2.2.2.2.2.2 e2 e3 ⟨fun _ => ⟨z1, e1⟩, fun w => by omega, fun w1 w2 => by omega⟩) hl hlo
      · cases hs
  · cases hs
theorem hx_anewarray {len pc x y : Nat} {z : Int32} {zl : Int64} {ts : List Nat} {i : Nat} {k' : Nat} {L' st' : List Value} {h1 : hH} (hq : hmR mi = some q) (he : hI mi k = some (.anewarray i, len, pc, x, y, z, zl, ts)) (X : hCtx g p R s m args meth c q Ts) (hh : hHR g h H) (hl : hLR g.2.2.1 L ls q.2.2.1) (hlo : ∀ z ∈ locs, g.2.2.2.2.2.size ≤ z.base) (hs : hStep (.anewarray i, len, pc, x, y, z, zl, ts) k L st h = some (k', L', st', h1)) (hc : cells + h1.1 ≤ R.cells + h.1) (hsl : slots + h1.2.1 ≤ R.slots + h.2.1) (kk : hGo g p l en R s m args below meth c Q q.2.2.1 (hPc mi k') L' st' h h1 cells slots) : W p l en R s m args below meth c H locs cells slots Q (F0 m pc ls (st.map (hcz g.2.2.1))) := by
  have hdg := hdec hq he
  have ok := hok hq he
  simp only [hOK, hNx, hTg, Bool.and_eq_true, beq_iff_eq, decide_eq_true_eq] at ok
  obtain ⟨⟨ok1, ok2⟩, ok3⟩ := ok
  subst ok1
  unfold hStep at hs
  dsimp only at hs
  unfold hNewQ at hs
  split at hs
  · rename_i n r
    split at hs
    · cases hs
    · rename_i hn
      split at hs
      · rename_i hz
        simp only [Option.some.injEq, Prod.mk.injEq] at hs
        obtain ⟨rfl, rfl, rfl, rfl⟩ := hs
        rw [ok3] at kk
        obtain ⟨z1, z2, z3⟩ := hAd_sz X.2.2.2.2.2.2.2.2.2.2 hh.1
        simp only [hNw] at hc hsl
        obtain ⟨r2, hr, hb⟩ := List.any_eq_true.mp ok2
        simp only [Bool.and_eq_true, beq_iff_eq] at hb
        have hw := List.all_eq_true.mp hwq_all r2 hr
        simp only [Bool.and_eq_true, decide_eq_true_eq] at hw
        rw [hb.1.1, hb.1.2, hb.2] at hw
        obtain ⟨⟨hw, t1⟩, t2⟩ := hw
        obtain ⟨⟨kA, comp, kc, k1, k2, k3, k4, k5⟩, hao⟩ := X.2.2.2.2.2.2.1.2.1 x t1 t2
        have hlink := X.word hw rfl
        have main : ∀ cA : ClassId, s.vm.findClass ("[" ++ (hAty x).toString) = some cA → W p l en R s m args below meth c (H.push { cls := cA, slots := Array.replicate n.toNatClampNeg .null, vm := .none }) locs (cells + 1) (slots + n.toNatClampNeg) Q (F0 m (pc + 3) ls (.ref H.size :: r.map (hcz g.2.2.1))) := by
          intro cA hcA
          have hcA : cA = g.2.1 x := Option.some.inj (hcA.symm.trans k5)
          subst hcA
          have hge := hh.2.1
          have := kk (H.push { cls := g.2.1 x, slots := Array.replicate n.toNatClampNeg .null, vm := .none }) locs ls (cells + 1) (slots + n.toNatClampNeg) (by show cells + 1 + h.1 = cells + (h.1 + 1); omega) (by show slots + _ + h.2.1 = slots + (h.2.1 + _); omega) (hh.new X.2.2.2.2.2.2.2.2.2.2 (by rw [Array.size_push, hge]) (fun z hz => by rw [Array.getElem?_push, if_neg (by omega)]) ⟨⟨t1, t2⟩, z1, by rw [← hge, Array.getElem?_push_size, arrV_new]; rfl⟩) hl hlo
          rw [List.map_cons] at this
          rw [hge]
          exact this
        match x, t1, t2, hao, hlink, main with
        | 3, _, _, hao, hlink, main => exact W.anewA (t := .int) X.1 X.2.1 X.2.2.2.1 hlink (show (Jvm.Cond.arrayOver (.array .int)).before args s = true from hao) rfl hdg rfl hn (by omega) (by omega) (by omega) fun cA _ _ f1 _ _ _ => main cA f1
        | 4, _, _, hao, hlink, main => exact W.anew X.1 X.2.1 X.2.2.2.1 hlink (va_AO.use hao) rfl hdg rfl hn (by omega) (by omega) (by omega) fun cA _ _ f1 _ _ _ => main cA f1
        | 5, _, _, hao, hlink, main => exact W.anew X.1 X.2.1 X.2.2.2.1 hlink (va_AO.use hao) rfl hdg rfl hn (by omega) (by omega) (by omega) fun cA _ _ f1 _ _ _ => main cA f1
        | 6, _, _, hao, hlink, main => exact W.anew X.1 X.2.1 X.2.2.2.1 hlink (va_AO.use hao) rfl hdg rfl hn (by omega) (by omega) (by omega) fun cA _ _ f1 _ _ _ => main cA f1
      · cases hs
  · cases hs
end HSV
