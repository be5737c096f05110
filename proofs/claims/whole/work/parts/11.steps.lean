/-! ONE INSTRUCTION -/
theorem hLoad_inv {e : hE} {k : Nat} {L st : List Value} {h : hH} {f : Value → Bool} {k' : Nat} {L' st' : List Value} {h1 : hH} (hs : hLoad e k L st h f = some (k', L', st', h1)) : ∃ v, L[e.2.2.2.1]? = some v ∧ f v = true ∧ k' = k + 1 ∧ L' = L ∧ st' = v :: st ∧ h1 = h := by
  unfold hLoad at hs
  split at hs
  · rename_i v hv
    split at hs
    · rename_i hf
      simp only [Option.some.injEq, Prod.mk.injEq] at hs
      obtain ⟨a, b, c, d⟩ := hs
      exact ⟨v, hv, hf, a.symm, b.symm, c.symm, d.symm⟩
    · cases hs
  · cases hs
theorem hSto1_inv {e : hE} {k : Nat} {L st : List Value} {h : hH} {f : Value → Bool} {k' : Nat} {L' st' : List Value} {h1 : hH} (hs : hSto1 e k L st h f = some (k', L', st', h1)) : ∃ v r, st = v :: r ∧ f v = true ∧ k' = k + 1 ∧ L' = hS1 L e.2.2.2.1 v ∧ st' = r ∧ h1 = h := by
  unfold hSto1 at hs
  split at hs
  · rename_i v r
    split at hs
    · rename_i hf
      simp only [Option.some.injEq, Prod.mk.injEq] at hs
      obtain ⟨a, b, c, d⟩ := hs
      exact ⟨v, r, rfl, hf, a.symm, b.symm, c.symm, d.symm⟩
    · cases hs
  · cases hs
theorem hSto2_inv {e : hE} {k : Nat} {L st : List Value} {h : hH} {k' : Nat} {L' st' : List Value} {h1 : hH} (hs : hSto2 e k L st h = some (k', L', st', h1)) : ∃ v r, st = .long v :: r ∧ k' = k + 1 ∧ L' = hS2 L e.2.2.2.1 (.long v) ∧ st' = r ∧ h1 = h := by
  unfold hSto2 at hs
  split at hs
  · rename_i v r
    simp only [Option.some.injEq, Prod.mk.injEq] at hs
    obtain ⟨a, b, c, d⟩ := hs
    exact ⟨v, r, rfl, a.symm, b.symm, c.symm, d.symm⟩
  · cases hs
theorem hInc_inv {e : hE} {k : Nat} {L st : List Value} {h : hH} {k' : Nat} {L' st' : List Value} {h1 : hH} (hs : hInc e k L st h = some (k', L', st', h1)) : ∃ v, L[e.2.2.2.1]? = some (.int v) ∧ k' = k + 1 ∧ L' = hS1 L e.2.2.2.1 (.int (v + e.2.2.2.2.2.1)) ∧ st' = st ∧ h1 = h := by
  unfold hInc at hs
  split at hs
  · rename_i v hv
    simp only [Option.some.injEq, Prod.mk.injEq] at hs
    obtain ⟨a, b, c, d⟩ := hs
    exact ⟨v, hv, a.symm, b.symm, c.symm, d.symm⟩
  · cases hs
theorem hOp2_inv {k : Nat} {L st : List Value} {h : hH} {f : Int32 → Int32 → Int32} {k' : Nat} {L' st' : List Value} {h1 : hH} (hs : hOp2 k L st h f = some (k', L', st', h1)) : ∃ y x r, st = .int y :: .int x :: r ∧ k' = k + 1 ∧ L' = L ∧ st' = .int (f x y) :: r ∧ h1 = h := by
  unfold hOp2 at hs
  split at hs
  · rename_i y x r
    simp only [Option.some.injEq, Prod.mk.injEq] at hs
    obtain ⟨a, b, c, d⟩ := hs
    exact ⟨y, x, r, rfl, a.symm, b.symm, c.symm, d.symm⟩
  · cases hs
theorem hOpD_inv {k : Nat} {L st : List Value} {h : hH} {f : Int32 → Int32 → Int32} {k' : Nat} {L' st' : List Value} {h1 : hH} (hs : hOpD k L st h f = some (k', L', st', h1)) : ∃ y x r, st = .int y :: .int x :: r ∧ ¬ y = 0 ∧ k' = k + 1 ∧ L' = L ∧ st' = .int (f x y) :: r ∧ h1 = h := by
  unfold hOpD at hs
  split at hs
  · rename_i y x r
    split at hs
    · cases hs
    · rename_i hy
      simp only [Option.some.injEq, Prod.mk.injEq] at hs
      obtain ⟨a, b, c, d⟩ := hs
      exact ⟨y, x, r, rfl, hy, a.symm, b.symm, c.symm, d.symm⟩
  · cases hs
theorem hOp1_inv {k : Nat} {L st : List Value} {h : hH} {f : Int32 → Value} {k' : Nat} {L' st' : List Value} {h1 : hH} (hs : hOp1 k L st h f = some (k', L', st', h1)) : ∃ x r, st = .int x :: r ∧ k' = k + 1 ∧ L' = L ∧ st' = f x :: r ∧ h1 = h := by
  unfold hOp1 at hs
  split at hs
  · rename_i x r
    simp only [Option.some.injEq, Prod.mk.injEq] at hs
    obtain ⟨a, b, c, d⟩ := hs
    exact ⟨x, r, rfl, a.symm, b.symm, c.symm, d.symm⟩
  · cases hs
theorem hL2i_inv {k : Nat} {L st : List Value} {h : hH} {k' : Nat} {L' st' : List Value} {h1 : hH} (hs : hL2i k L st h = some (k', L', st', h1)) : ∃ x r, st = .long x :: r ∧ k' = k + 1 ∧ L' = L ∧ st' = .int x.toInt32 :: r ∧ h1 = h := by
  unfold hL2i at hs
  split at hs
  · rename_i x r
    simp only [Option.some.injEq, Prod.mk.injEq] at hs
    obtain ⟨a, b, c, d⟩ := hs
    exact ⟨x, r, rfl, a.symm, b.symm, c.symm, d.symm⟩
  · cases hs
theorem hOpL_inv {k : Nat} {L st : List Value} {h : hH} {f : Int64 → Int64 → Value} {k' : Nat} {L' st' : List Value} {h1 : hH} (hs : hOpL k L st h f = some (k', L', st', h1)) : ∃ y x r, st = .long y :: .long x :: r ∧ k' = k + 1 ∧ L' = L ∧ st' = f x y :: r ∧ h1 = h := by
  unfold hOpL at hs
  split at hs
  · rename_i y x r
    simp only [Option.some.injEq, Prod.mk.injEq] at hs
    obtain ⟨a, b, c, d⟩ := hs
    exact ⟨y, x, r, rfl, a.symm, b.symm, c.symm, d.symm⟩
  · cases hs
theorem hOpLD_inv {k : Nat} {L st : List Value} {h : hH} {f : Int64 → Int64 → Int64} {k' : Nat} {L' st' : List Value} {h1 : hH} (hs : hOpLD k L st h f = some (k', L', st', h1)) : ∃ y x r, st = .long y :: .long x :: r ∧ ¬ y = 0 ∧ k' = k + 1 ∧ L' = L ∧ st' = .long (f x y) :: r ∧ h1 = h := by
  unfold hOpLD at hs
  split at hs
  · rename_i y x r
    split at hs
    · cases hs
    · rename_i hy
      simp only [Option.some.injEq, Prod.mk.injEq] at hs
      obtain ⟨a, b, c, d⟩ := hs
      exact ⟨y, x, r, rfl, hy, a.symm, b.symm, c.symm, d.symm⟩
  · cases hs
theorem hDup_inv {k : Nat} {L st : List Value} {h : hH} {k' : Nat} {L' st' : List Value} {h1 : hH} (hs : hDup k L st h = some (k', L', st', h1)) : ∃ v r, st = v :: r ∧ v.category = 1 ∧ k' = k + 1 ∧ L' = L ∧ st' = v :: v :: r ∧ h1 = h := by
  unfold hDup at hs
  split at hs
  · rename_i v r
    split at hs
    · rename_i hv
      simp only [Option.some.injEq, Prod.mk.injEq] at hs
      obtain ⟨a, b, c, d⟩ := hs
      exact ⟨v, r, rfl, hv, a.symm, b.symm, c.symm, d.symm⟩
    · cases hs
  · cases hs
theorem hDup2_inv {k : Nat} {L st : List Value} {h : hH} {k' : Nat} {L' st' : List Value} {h1 : hH} (hs : hDup2 k L st h = some (k', L', st', h1)) : ∃ v w r, st = v :: w :: r ∧ v.category = 1 ∧ w.category = 1 ∧ k' = k + 1 ∧ L' = L ∧ st' = v :: w :: v :: w :: r ∧ h1 = h := by
  unfold hDup2 at hs
  split at hs
  · rename_i v w r
    split at hs
    · rename_i hv
      split at hs
      · rename_i hw
        simp only [Option.some.injEq, Prod.mk.injEq] at hs
        obtain ⟨a, b, c, d⟩ := hs
        exact ⟨v, w, r, rfl, hv, hw, a.symm, b.symm, c.symm, d.symm⟩
      · cases hs
    · cases hs
  · cases hs
theorem hPop_inv {k : Nat} {L st : List Value} {h : hH} {k' : Nat} {L' st' : List Value} {h1 : hH} (hs : hPop k L st h = some (k', L', st', h1)) : ∃ v r, st = v :: r ∧ v.category = 1 ∧ k' = k + 1 ∧ L' = L ∧ st' = r ∧ h1 = h := by
  unfold hPop at hs
  split at hs
  · rename_i v r
    split at hs
    · rename_i hv
      simp only [Option.some.injEq, Prod.mk.injEq] at hs
      obtain ⟨a, b, c, d⟩ := hs
      exact ⟨v, r, rfl, hv, a.symm, b.symm, c.symm, d.symm⟩
    · cases hs
  · cases hs
theorem hIf1_inv {e : hE} {cn : ClassFile.Cond} {k : Nat} {L st : List Value} {h : hH} {k' : Nat} {L' st' : List Value} {h1 : hH} (hs : hIf1 e cn k L st h = some (k', L', st', h1)) : ∃ x r, st = .int x :: r ∧ k' = cond (hCmp cn x 0) e.2.2.2.1 (k + 1) ∧ L' = L ∧ st' = r ∧ h1 = h := by
  unfold hIf1 at hs
  split at hs
  · rename_i x r
    simp only [Option.some.injEq, Prod.mk.injEq] at hs
    obtain ⟨a, b, c, d⟩ := hs
    exact ⟨x, r, rfl, a.symm, b.symm, c.symm, d.symm⟩
  · cases hs
theorem hIf2_inv {e : hE} {cn : ClassFile.Cond} {k : Nat} {L st : List Value} {h : hH} {k' : Nat} {L' st' : List Value} {h1 : hH} (hs : hIf2 e cn k L st h = some (k', L', st', h1)) : ∃ y x r, st = .int y :: .int x :: r ∧ k' = cond (hCmp cn x y) e.2.2.2.1 (k + 1) ∧ L' = L ∧ st' = r ∧ h1 = h := by
  unfold hIf2 at hs
  split at hs
  · rename_i y x r
    simp only [Option.some.injEq, Prod.mk.injEq] at hs
    obtain ⟨a, b, c, d⟩ := hs
    exact ⟨y, x, r, rfl, a.symm, b.symm, c.symm, d.symm⟩
  · cases hs
theorem hNull_inv {t u : Nat} {L st : List Value} {h : hH} {k' : Nat} {L' st' : List Value} {h1 : hH} (hs : hNull t u L st h = some (k', L', st', h1)) : (∃ r, st = .null :: r ∧ k' = t ∧ L' = L ∧ st' = r ∧ h1 = h) ∨ ∃ a r, st = .ref a :: r ∧ k' = u ∧ L' = L ∧ st' = r ∧ h1 = h := by
  unfold hNull at hs
  split at hs
  · rename_i r
    simp only [Option.some.injEq, Prod.mk.injEq] at hs
    obtain ⟨a, b, c, d⟩ := hs
    exact Or.inl ⟨r, rfl, a.symm, b.symm, c.symm, d.symm⟩
  · rename_i z r
    simp only [Option.some.injEq, Prod.mk.injEq] at hs
    obtain ⟨a, b, c, d⟩ := hs
    exact Or.inr ⟨z, r, rfl, a.symm, b.symm, c.symm, d.symm⟩
  · cases hs
section HST
variable {g : hV} {p : Program} {l : Launch} {en : Env} {R : Room} {s : State} {m : MethodId} {args : Array Value} {below : List Frame} {meth : Method} {c : Code} {Q : State → Prop} {q : hR} {Ts : List Jvm.Cond} {mi k : Nat} {H : Heap} {locs : List Loc} {cells slots : Nat} {ls : Array Slot} {L st : List Value} {h : hH}
/-- the rest of the run, from a place on, for a heap on paper that has grown from h to h1 -/
def hGo (g : hV) (p : Program) (l : Launch) (en : Env) (R : Room) (s : State) (m : MethodId) (args : Array Value) (below : List Frame) (meth : Method) (c : Code) (Q : State → Prop) (nL pc : Nat) (L st : List Value) (h h1 : hH) (cells slots : Nat) : Prop := ∀ (H1 : Heap) (locs1 : List Loc) (ls1 : Array Slot) (cells1 slots1 : Nat), cells1 + h.1 = cells + h1.1 → slots1 + h.2.1 = slots + h1.2.1 → hHR g h1 H1 → hLR g.2.2.1 L ls1 nL → (∀ z ∈ locs1, g.2.2.2.2.2.size ≤ z.base) → W p l en R s m args below meth c H1 locs1 cells1 slots1 Q (F0 m pc ls1 (st.map (hcz g.2.2.1)))
theorem hGo.at {nL pc : Nat} (kk : hGo g p l en R s m args below meth c Q nL pc L st h h cells slots) (hh : hHR g h H) (hl : hLR g.2.2.1 L ls nL) (hlo : ∀ z ∈ locs, g.2.2.2.2.2.size ≤ z.base) : W p l en R s m args below meth c H locs cells slots Q (F0 m pc ls (st.map (hcz g.2.2.1))) := kk H locs ls cells slots rfl rfl hh hl hlo

theorem hx_iload {len pc x y : Nat} {z : Int32} {zl : Int64} {ts : List Nat} {i : Nat} {k' : Nat} {L' st' : List Value} {h1 : hH} (hq : hmR mi = some q) (he : hI mi k = some (.iload i, len, pc, x, y, z, zl, ts)) (X : hCtx g p R s m args meth c q Ts) (hh : hHR g h H) (hl : hLR g.2.2.1 L ls q.2.2.1) (hlo : ∀ z ∈ locs, g.2.2.2.2.2.size ≤ z.base) (hs : hStep (.iload i, len, pc, x, y, z, zl, ts) k L st h = some (k', L', st', h1)) (kk : hGo g p l en R s m args below meth c Q q.2.2.1 (hPc mi k') L' st' h h1 cells slots) : W p l en R s m args below meth c H locs cells slots Q (F0 m pc ls (st.map (hcz g.2.2.1))) := by
  have hdg := hdec hq he
  have ok := hok hq he
  simp only [hOK, hNx, hTg, Bool.and_eq_true, beq_iff_eq, decide_eq_true_eq] at ok
  obtain ⟨⟨ok1, ok2⟩, ok3⟩ := ok
  subst ok1
  obtain ⟨v, hv, hf, rfl, rfl, rfl, rfl⟩ := hLoad_inv hs
  rw [ok3] at kk
  cases v with
  | int v =>
    exact lv_iload X.1 X.2.1 hdg (by rw [← ok2]; exact hl.2.2 _ _ hv rfl) (kk.at hh hl hlo)
  | _ => cases hf
theorem hx_iload_n {len pc x y : Nat} {z : Int32} {zl : Int64} {ts : List Nat} {i : Fin 4} {k' : Nat} {L' st' : List Value} {h1 : hH} (hq : hmR mi = some q) (he : hI mi k = some (.iload_n i, len, pc, x, y, z, zl, ts)) (X : hCtx g p R s m args meth c q Ts) (hh : hHR g h H) (hl : hLR g.2.2.1 L ls q.2.2.1) (hlo : ∀ z ∈ locs, g.2.2.2.2.2.size ≤ z.base) (hs : hStep (.iload_n i, len, pc, x, y, z, zl, ts) k L st h = some (k', L', st', h1)) (kk : hGo g p l en R s m args below meth c Q q.2.2.1 (hPc mi k') L' st' h h1 cells slots) : W p l en R s m args below meth c H locs cells slots Q (F0 m pc ls (st.map (hcz g.2.2.1))) := by
  have hdg := hdec hq he
  have ok := hok hq he
  simp only [hOK, hNx, hTg, Bool.and_eq_true, beq_iff_eq, decide_eq_true_eq] at ok
  obtain ⟨⟨ok1, ok2⟩, ok3⟩ := ok
  subst ok1
  obtain ⟨v, hv, hf, rfl, rfl, rfl, rfl⟩ := hLoad_inv hs
  rw [ok3] at kk
  cases v with
  | int v =>
    exact lv_iload_n X.1 X.2.1 hdg ok2.symm (hl.2.2 _ _ hv rfl) (kk.at hh hl hlo)
  | _ => cases hf
theorem hx_lload {len pc x y : Nat} {z : Int32} {zl : Int64} {ts : List Nat} {i : Nat} {k' : Nat} {L' st' : List Value} {h1 : hH} (hq : hmR mi = some q) (he : hI mi k = some (.lload i, len, pc, x, y, z, zl, ts)) (X : hCtx g p R s m args meth c q Ts) (hh : hHR g h H) (hl : hLR g.2.2.1 L ls q.2.2.1) (hlo : ∀ z ∈ locs, g.2.2.2.2.2.size ≤ z.base) (hs : hStep (.lload i, len, pc, x, y, z, zl, ts) k L st h = some (k', L', st', h1)) (kk : hGo g p l en R s m args below meth c Q q.2.2.1 (hPc mi k') L' st' h h1 cells slots) : W p l en R s m args below meth c H locs cells slots Q (F0 m pc ls (st.map (hcz g.2.2.1))) := by
  have hdg := hdec hq he
  have ok := hok hq he
  simp only [hOK, hNx, hTg, Bool.and_eq_true, beq_iff_eq, decide_eq_true_eq] at ok
  obtain ⟨⟨ok1, ok2⟩, ok3⟩ := ok
  subst ok1
  obtain ⟨v, hv, hf, rfl, rfl, rfl, rfl⟩ := hLoad_inv hs
  rw [ok3] at kk
  cases v with
  | long v =>
    exact lv_lload X.1 X.2.1 hdg (by rw [← ok2]; exact hl.2.2 _ _ hv rfl) (kk.at hh hl hlo)
  | _ => cases hf
theorem hx_lload_n {len pc x y : Nat} {z : Int32} {zl : Int64} {ts : List Nat} {i : Fin 4} {k' : Nat} {L' st' : List Value} {h1 : hH} (hq : hmR mi = some q) (he : hI mi k = some (.lload_n i, len, pc, x, y, z, zl, ts)) (X : hCtx g p R s m args meth c q Ts) (hh : hHR g h H) (hl : hLR g.2.2.1 L ls q.2.2.1) (hlo : ∀ z ∈ locs, g.2.2.2.2.2.size ≤ z.base) (hs : hStep (.lload_n i, len, pc, x, y, z, zl, ts) k L st h = some (k', L', st', h1)) (kk : hGo g p l en R s m args below meth c Q q.2.2.1 (hPc mi k') L' st' h h1 cells slots) : W p l en R s m args below meth c H locs cells slots Q (F0 m pc ls (st.map (hcz g.2.2.1))) := by
  have hdg := hdec hq he
  have ok := hok hq he
  simp only [hOK, hNx, hTg, Bool.and_eq_true, beq_iff_eq, decide_eq_true_eq] at ok
  obtain ⟨⟨ok1, ok2⟩, ok3⟩ := ok
  subst ok1
  obtain ⟨v, hv, hf, rfl, rfl, rfl, rfl⟩ := hLoad_inv hs
  rw [ok3] at kk
  cases v with
  | long v =>
    exact lv_lload_n X.1 X.2.1 hdg ok2.symm (hl.2.2 _ _ hv rfl) (kk.at hh hl hlo)
  | _ => cases hf
theorem hx_aload {len pc x y : Nat} {z : Int32} {zl : Int64} {ts : List Nat} {i : Nat} {k' : Nat} {L' st' : List Value} {h1 : hH} (hq : hmR mi = some q) (he : hI mi k = some (.aload i, len, pc, x, y, z, zl, ts)) (X : hCtx g p R s m args meth c q Ts) (hh : hHR g h H) (hl : hLR g.2.2.1 L ls q.2.2.1) (hlo : ∀ z ∈ locs, g.2.2.2.2.2.size ≤ z.base) (hs : hStep (.aload i, len, pc, x, y, z, zl, ts) k L st h = some (k', L', st', h1)) (kk : hGo g p l en R s m args below meth c Q q.2.2.1 (hPc mi k') L' st' h h1 cells slots) : W p l en R s m args below meth c H locs cells slots Q (F0 m pc ls (st.map (hcz g.2.2.1))) := by
  have hdg := hdec hq he
  have ok := hok hq he
  simp only [hOK, hNx, hTg, Bool.and_eq_true, beq_iff_eq, decide_eq_true_eq] at ok
  obtain ⟨⟨ok1, ok2⟩, ok3⟩ := ok
  subst ok1
  obtain ⟨v, hv, hf, rfl, rfl, rfl, rfl⟩ := hLoad_inv hs
  rw [ok3] at kk
  cases v with
  | ref v =>
    exact lv_aload X.1 X.2.1 hdg (by rw [← ok2]; exact hl.2.2 _ _ hv rfl) (kk.at hh hl hlo)
  | null =>
    exact lv_aloadN X.1 X.2.1 hdg (by rw [← ok2]; exact hl.2.2 _ _ hv rfl) (kk.at hh hl hlo)
  | _ => cases hf
theorem hx_aload_n {len pc x y : Nat} {z : Int32} {zl : Int64} {ts : List Nat} {i : Fin 4} {k' : Nat} {L' st' : List Value} {h1 : hH} (hq : hmR mi = some q) (he : hI mi k = some (.aload_n i, len, pc, x, y, z, zl, ts)) (X : hCtx g p R s m args meth c q Ts) (hh : hHR g h H) (hl : hLR g.2.2.1 L ls q.2.2.1) (hlo : ∀ z ∈ locs, g.2.2.2.2.2.size ≤ z.base) (hs : hStep (.aload_n i, len, pc, x, y, z, zl, ts) k L st h = some (k', L', st', h1)) (kk : hGo g p l en R s m args below meth c Q q.2.2.1 (hPc mi k') L' st' h h1 cells slots) : W p l en R s m args below meth c H locs cells slots Q (F0 m pc ls (st.map (hcz g.2.2.1))) := by
  have hdg := hdec hq he
  have ok := hok hq he
  simp only [hOK, hNx, hTg, Bool.and_eq_true, beq_iff_eq, decide_eq_true_eq] at ok
  obtain ⟨⟨ok1, ok2⟩, ok3⟩ := ok
  subst ok1
  obtain ⟨v, hv, hf, rfl, rfl, rfl, rfl⟩ := hLoad_inv hs
  rw [ok3] at kk
  cases v with
  | ref v =>
    exact lv_aload_n X.1 X.2.1 hdg ok2.symm (hl.2.2 _ _ hv rfl) (kk.at hh hl hlo)
  | null =>
    exact lv_aload_nN X.1 X.2.1 hdg ok2.symm (hl.2.2 _ _ hv rfl) (kk.at hh hl hlo)
  | _ => cases hf
theorem hx_istore {len pc x y : Nat} {z : Int32} {zl : Int64} {ts : List Nat} {i : Nat} {k' : Nat} {L' st' : List Value} {h1 : hH} (hq : hmR mi = some q) (he : hI mi k = some (.istore i, len, pc, x, y, z, zl, ts)) (X : hCtx g p R s m args meth c q Ts) (hh : hHR g h H) (hl : hLR g.2.2.1 L ls q.2.2.1) (hlo : ∀ z ∈ locs, g.2.2.2.2.2.size ≤ z.base) (hs : hStep (.istore i, len, pc, x, y, z, zl, ts) k L st h = some (k', L', st', h1)) (kk : hGo g p l en R s m args below meth c Q q.2.2.1 (hPc mi k') L' st' h h1 cells slots) : W p l en R s m args below meth c H locs cells slots Q (F0 m pc ls (st.map (hcz g.2.2.1))) := by
  have hdg := hdec hq he
  have ok := hok hq he
  simp only [hOK, hNx, hTg, Bool.and_eq_true, beq_iff_eq, decide_eq_true_eq] at ok
  obtain ⟨⟨⟨ok1, ok2⟩, ok4⟩, ok3⟩ := ok
  subst ok1
  obtain ⟨v, r, rfl, hf, rfl, rfl, rfl, rfl⟩ := hSto1_inv hs
  rw [ok3] at kk
  dsimp only at kk
  subst ok2
  cases v with
  | int v =>
    exact lv_istore X.1 X.2.1 hdg hl.has ok4 rfl (fun ls1 hl1 => kk.at hh (hLR.set1 (v := .int v) hl1) hlo)
  | _ => cases hf
theorem hx_istore_n {len pc x y : Nat} {z : Int32} {zl : Int64} {ts : List Nat} {i : Fin 4} {k' : Nat} {L' st' : List Value} {h1 : hH} (hq : hmR mi = some q) (he : hI mi k = some (.istore_n i, len, pc, x, y, z, zl, ts)) (X : hCtx g p R s m args meth c q Ts) (hh : hHR g h H) (hl : hLR g.2.2.1 L ls q.2.2.1) (hlo : ∀ z ∈ locs, g.2.2.2.2.2.size ≤ z.base) (hs : hStep (.istore_n i, len, pc, x, y, z, zl, ts) k L st h = some (k', L', st', h1)) (kk : hGo g p l en R s m args below meth c Q q.2.2.1 (hPc mi k') L' st' h h1 cells slots) : W p l en R s m args below meth c H locs cells slots Q (F0 m pc ls (st.map (hcz g.2.2.1))) := by
  have hdg := hdec hq he
  have ok := hok hq he
  simp only [hOK, hNx, hTg, Bool.and_eq_true, beq_iff_eq, decide_eq_true_eq] at ok
  obtain ⟨⟨⟨ok1, ok2⟩, ok4⟩, ok3⟩ := ok
  subst ok1
  obtain ⟨v, r, rfl, hf, rfl, rfl, rfl, rfl⟩ := hSto1_inv hs
  rw [ok3] at kk
  dsimp only at kk
  skip
  cases v with
  | int v =>
    exact lv_istore_n X.1 X.2.1 hdg ok2.symm hl.has ok4 rfl (fun ls1 hl1 => kk.at hh (hLR.set1 (v := .int v) hl1) hlo)
  | _ => cases hf
theorem hx_astore {len pc x y : Nat} {z : Int32} {zl : Int64} {ts : List Nat} {i : Nat} {k' : Nat} {L' st' : List Value} {h1 : hH} (hq : hmR mi = some q) (he : hI mi k = some (.astore i, len, pc, x, y, z, zl, ts)) (X : hCtx g p R s m args meth c q Ts) (hh : hHR g h H) (hl : hLR g.2.2.1 L ls q.2.2.1) (hlo : ∀ z ∈ locs, g.2.2.2.2.2.size ≤ z.base) (hs : hStep (.astore i, len, pc, x, y, z, zl, ts) k L st h = some (k', L', st', h1)) (kk : hGo g p l en R s m args below meth c Q q.2.2.1 (hPc mi k') L' st' h h1 cells slots) : W p l en R s m args below meth c H locs cells slots Q (F0 m pc ls (st.map (hcz g.2.2.1))) := by
  have hdg := hdec hq he
  have ok := hok hq he
  simp only [hOK, hNx, hTg, Bool.and_eq_true, beq_iff_eq, decide_eq_true_eq] at ok
  obtain ⟨⟨⟨ok1, ok2⟩, ok4⟩, ok3⟩ := ok
  subst ok1
  obtain ⟨v, r, rfl, hf, rfl, rfl, rfl, rfl⟩ := hSto1_inv hs
  rw [ok3] at kk
  dsimp only at kk
  subst ok2
  cases v with
  | ref v =>
    exact lv_astore X.1 X.2.1 hdg hl.has ok4 rfl (fun ls1 hl1 => kk.at hh (hLR.set1 (v := .ref v) hl1) hlo)
  | null =>
    exact lv_astoreN X.1 X.2.1 hdg hl.has ok4 rfl (fun ls1 hl1 => kk.at hh (hLR.set1 (v := .null) hl1) hlo)
  | _ => cases hf
theorem hx_astore_n {len pc x y : Nat} {z : Int32} {zl : Int64} {ts : List Nat} {i : Fin 4} {k' : Nat} {L' st' : List Value} {h1 : hH} (hq : hmR mi = some q) (he : hI mi k = some (.astore_n i, len, pc, x, y, z, zl, ts)) (X : hCtx g p R s m args meth c q Ts) (hh : hHR g h H) (hl : hLR g.2.2.1 L ls q.2.2.1) (hlo : ∀ z ∈ locs, g.2.2.2.2.2.size ≤ z.base) (hs : hStep (.astore_n i, len, pc, x, y, z, zl, ts) k L st h = some (k', L', st', h1)) (kk : hGo g p l en R s m args below meth c Q q.2.2.1 (hPc mi k') L' st' h h1 cells slots) : W p l en R s m args below meth c H locs cells slots Q (F0 m pc ls (st.map (hcz g.2.2.1))) := by
  have hdg := hdec hq he
  have ok := hok hq he
  simp only [hOK, hNx, hTg, Bool.and_eq_true, beq_iff_eq, decide_eq_true_eq] at ok
  obtain ⟨⟨⟨ok1, ok2⟩, ok4⟩, ok3⟩ := ok
  subst ok1
  obtain ⟨v, r, rfl, hf, rfl, rfl, rfl, rfl⟩ := hSto1_inv hs
  rw [ok3] at kk
  dsimp only at kk
  skip
  cases v with
  | ref v =>
    exact lv_astore_n X.1 X.2.1 hdg ok2.symm hl.has ok4 rfl (fun ls1 hl1 => kk.at hh (hLR.set1 (v := .ref v) hl1) hlo)
  | null =>
    exact lv_astore_nN X.1 X.2.1 hdg ok2.symm hl.has ok4 rfl (fun ls1 hl1 => kk.at hh (hLR.set1 (v := .null) hl1) hlo)
  | _ => cases hf
theorem hx_lstore {len pc x y : Nat} {z : Int32} {zl : Int64} {ts : List Nat} {i : Nat} {k' : Nat} {L' st' : List Value} {h1 : hH} (hq : hmR mi = some q) (he : hI mi k = some (.lstore i, len, pc, x, y, z, zl, ts)) (X : hCtx g p R s m args meth c q Ts) (hh : hHR g h H) (hl : hLR g.2.2.1 L ls q.2.2.1) (hlo : ∀ z ∈ locs, g.2.2.2.2.2.size ≤ z.base) (hs : hStep (.lstore i, len, pc, x, y, z, zl, ts) k L st h = some (k', L', st', h1)) (kk : hGo g p l en R s m args below meth c Q q.2.2.1 (hPc mi k') L' st' h h1 cells slots) : W p l en R s m args below meth c H locs cells slots Q (F0 m pc ls (st.map (hcz g.2.2.1))) := by
  have hdg := hdec hq he
  have ok := hok hq he
  simp only [hOK, hNx, hTg, Bool.and_eq_true, beq_iff_eq, decide_eq_true_eq] at ok
  obtain ⟨⟨⟨ok1, ok2⟩, ok4⟩, ok3⟩ := ok
  subst ok1
  obtain ⟨v, r, rfl, rfl, rfl, rfl, rfl⟩ := hSto2_inv hs
  rw [ok3] at kk
  dsimp only at kk
  subst ok2
  exact lv_lstore X.1 X.2.1 hdg hl.has ok4 rfl (fun ls1 hl1 => kk.at hh (hLR.set2 (v := .long v) hl1) hlo)
theorem hx_lstore_n {len pc x y : Nat} {z : Int32} {zl : Int64} {ts : List Nat} {i : Fin 4} {k' : Nat} {L' st' : List Value} {h1 : hH} (hq : hmR mi = some q) (he : hI mi k = some (.lstore_n i, len, pc, x, y, z, zl, ts)) (X : hCtx g p R s m args meth c q Ts) (hh : hHR g h H) (hl : hLR g.2.2.1 L ls q.2.2.1) (hlo : ∀ z ∈ locs, g.2.2.2.2.2.size ≤ z.base) (hs : hStep (.lstore_n i, len, pc, x, y, z, zl, ts) k L st h = some (k', L', st', h1)) (kk : hGo g p l en R s m args below meth c Q q.2.2.1 (hPc mi k') L' st' h h1 cells slots) : W p l en R s m args below meth c H locs cells slots Q (F0 m pc ls (st.map (hcz g.2.2.1))) := by
  have hdg := hdec hq he
  have ok := hok hq he
  simp only [hOK, hNx, hTg, Bool.and_eq_true, beq_iff_eq, decide_eq_true_eq] at ok
  obtain ⟨⟨⟨ok1, ok2⟩, ok4⟩, ok3⟩ := ok
  subst ok1
  obtain ⟨v, r, rfl, rfl, rfl, rfl, rfl⟩ := hSto2_inv hs
  rw [ok3] at kk
  dsimp only at kk
  skip
  exact lv_lstore_n X.1 X.2.1 hdg ok2.symm hl.has ok4 rfl (fun ls1 hl1 => kk.at hh (hLR.set2 (v := .long v) hl1) hlo)
theorem hx_iinc {len pc x y : Nat} {z : Int32} {zl : Int64} {ts : List Nat} {i : Nat} {cn : Int} {k' : Nat} {L' st' : List Value} {h1 : hH} (hq : hmR mi = some q) (he : hI mi k = some (.iinc i cn, len, pc, x, y, z, zl, ts)) (X : hCtx g p R s m args meth c q Ts) (hh : hHR g h H) (hl : hLR g.2.2.1 L ls q.2.2.1) (hlo : ∀ z ∈ locs, g.2.2.2.2.2.size ≤ z.base) (hs : hStep (.iinc i cn, len, pc, x, y, z, zl, ts) k L st h = some (k', L', st', h1)) (kk : hGo g p l en R s m args below meth c Q q.2.2.1 (hPc mi k') L' st' h h1 cells slots) : W p l en R s m args below meth c H locs cells slots Q (F0 m pc ls (st.map (hcz g.2.2.1))) := by
  have hdg := hdec hq he
  have ok := hok hq he
  simp only [hOK, hNx, hTg, Bool.and_eq_true, beq_iff_eq, decide_eq_true_eq] at ok
  obtain ⟨⟨⟨⟨ok1, ok2⟩, ok5⟩, ok4⟩, ok3⟩ := ok
  subst ok1
  obtain ⟨v, hv, rfl, rfl, rfl, rfl⟩ := hInc_inv hs
  rw [ok3] at kk
  dsimp only at kk hv
  subst ok2
  obtain ⟨n, hn⟩ := List.getElem?_of_mem (hPr_in (ad := g.2.2.1) hv rfl)
  exact lv_iinc X.1 X.2.1 hdg hl.has hn (by rw [ok5]) ok4 rfl (fun ls1 hl1 => kk.at hh (hLR.set1 (v := .int (v + z)) hl1) hlo)
theorem hx_iconst {len pc x y : Nat} {z : Int32} {zl : Int64} {ts : List Nat} {i : Int} {k' : Nat} {L' st' : List Value} {h1 : hH} (hq : hmR mi = some q) (he : hI mi k = some (.iconst i, len, pc, x, y, z, zl, ts)) (X : hCtx g p R s m args meth c q Ts) (hh : hHR g h H) (hl : hLR g.2.2.1 L ls q.2.2.1) (hlo : ∀ z ∈ locs, g.2.2.2.2.2.size ≤ z.base) (hs : hStep (.iconst i, len, pc, x, y, z, zl, ts) k L st h = some (k', L', st', h1)) (kk : hGo g p l en R s m args below meth c Q q.2.2.1 (hPc mi k') L' st' h h1 cells slots) : W p l en R s m args below meth c H locs cells slots Q (F0 m pc ls (st.map (hcz g.2.2.1))) := by
  have hdg := hdec hq he
  have ok := hok hq he
  simp only [hOK, hNx, hTg, Bool.and_eq_true, beq_iff_eq, decide_eq_true_eq] at ok
  obtain ⟨⟨ok1, ok2⟩, ok3⟩ := ok
  subst ok1
  simp only [hStep, Option.some.injEq, Prod.mk.injEq] at hs
  obtain ⟨rfl, rfl, rfl, rfl⟩ := hs
  rw [ok3] at kk
  exact lv_iconst X.1 X.2.1 hdg ok2 (kk.at hh hl hlo)
theorem hx_bipush {len pc x y : Nat} {z : Int32} {zl : Int64} {ts : List Nat} {i : Int} {k' : Nat} {L' st' : List Value} {h1 : hH} (hq : hmR mi = some q) (he : hI mi k = some (.bipush i, len, pc, x, y, z, zl, ts)) (X : hCtx g p R s m args meth c q Ts) (hh : hHR g h H) (hl : hLR g.2.2.1 L ls q.2.2.1) (hlo : ∀ z ∈ locs, g.2.2.2.2.2.size ≤ z.base) (hs : hStep (.bipush i, len, pc, x, y, z, zl, ts) k L st h = some (k', L', st', h1)) (kk : hGo g p l en R s m args below meth c Q q.2.2.1 (hPc mi k') L' st' h h1 cells slots) : W p l en R s m args below meth c H locs cells slots Q (F0 m pc ls (st.map (hcz g.2.2.1))) := by
  have hdg := hdec hq he
  have ok := hok hq he
  simp only [hOK, hNx, hTg, Bool.and_eq_true, beq_iff_eq, decide_eq_true_eq] at ok
  obtain ⟨⟨ok1, ok2⟩, ok3⟩ := ok
  subst ok1
  simp only [hStep, Option.some.injEq, Prod.mk.injEq] at hs
  obtain ⟨rfl, rfl, rfl, rfl⟩ := hs
  rw [ok3] at kk
  exact lv_bipush X.1 X.2.1 hdg ok2 (kk.at hh hl hlo)
theorem hx_sipush {len pc x y : Nat} {z : Int32} {zl : Int64} {ts : List Nat} {i : Int} {k' : Nat} {L' st' : List Value} {h1 : hH} (hq : hmR mi = some q) (he : hI mi k = some (.sipush i, len, pc, x, y, z, zl, ts)) (X : hCtx g p R s m args meth c q Ts) (hh : hHR g h H) (hl : hLR g.2.2.1 L ls q.2.2.1) (hlo : ∀ z ∈ locs, g.2.2.2.2.2.size ≤ z.base) (hs : hStep (.sipush i, len, pc, x, y, z, zl, ts) k L st h = some (k', L', st', h1)) (kk : hGo g p l en R s m args below meth c Q q.2.2.1 (hPc mi k') L' st' h h1 cells slots) : W p l en R s m args below meth c H locs cells slots Q (F0 m pc ls (st.map (hcz g.2.2.1))) := by
  have hdg := hdec hq he
  have ok := hok hq he
  simp only [hOK, hNx, hTg, Bool.and_eq_true, beq_iff_eq, decide_eq_true_eq] at ok
  obtain ⟨⟨ok1, ok2⟩, ok3⟩ := ok
  subst ok1
  simp only [hStep, Option.some.injEq, Prod.mk.injEq] at hs
  obtain ⟨rfl, rfl, rfl, rfl⟩ := hs
  rw [ok3] at kk
  exact lv_sipush X.1 X.2.1 hdg ok2 (kk.at hh hl hlo)
theorem hx_lconst {len pc x y : Nat} {z : Int32} {zl : Int64} {ts : List Nat} {i : Fin 2} {k' : Nat} {L' st' : List Value} {h1 : hH} (hq : hmR mi = some q) (he : hI mi k = some (.lconst i, len, pc, x, y, z, zl, ts)) (X : hCtx g p R s m args meth c q Ts) (hh : hHR g h H) (hl : hLR g.2.2.1 L ls q.2.2.1) (hlo : ∀ z ∈ locs, g.2.2.2.2.2.size ≤ z.base) (hs : hStep (.lconst i, len, pc, x, y, z, zl, ts) k L st h = some (k', L', st', h1)) (kk : hGo g p l en R s m args below meth c Q q.2.2.1 (hPc mi k') L' st' h h1 cells slots) : W p l en R s m args below meth c H locs cells slots Q (F0 m pc ls (st.map (hcz g.2.2.1))) := by
  have hdg := hdec hq he
  have ok := hok hq he
  simp only [hOK, hNx, hTg, Bool.and_eq_true, beq_iff_eq, decide_eq_true_eq] at ok
  obtain ⟨⟨ok1, ok2⟩, ok3⟩ := ok
  subst ok1
  simp only [hStep, Option.some.injEq, Prod.mk.injEq] at hs
  obtain ⟨rfl, rfl, rfl, rfl⟩ := hs
  rw [ok3] at kk
  exact lv_lconst X.1 X.2.1 hdg ok2 (kk.at hh hl hlo)
theorem hx_ldc {len pc x y : Nat} {z : Int32} {zl : Int64} {ts : List Nat} {i : Nat} {k' : Nat} {L' st' : List Value} {h1 : hH} (hq : hmR mi = some q) (he : hI mi k = some (.ldc i, len, pc, x, y, z, zl, ts)) (X : hCtx g p R s m args meth c q Ts) (hh : hHR g h H) (hl : hLR g.2.2.1 L ls q.2.2.1) (hlo : ∀ z ∈ locs, g.2.2.2.2.2.size ≤ z.base) (hs : hStep (.ldc i, len, pc, x, y, z, zl, ts) k L st h = some (k', L', st', h1)) (kk : hGo g p l en R s m args below meth c Q q.2.2.1 (hPc mi k') L' st' h h1 cells slots) : W p l en R s m args below meth c H locs cells slots Q (F0 m pc ls (st.map (hcz g.2.2.1))) := by
  have hdg := hdec hq he
  have ok := hok hq he
  simp only [hOK, hNx, hTg, Bool.and_eq_true, beq_iff_eq, decide_eq_true_eq] at ok
  obtain ⟨⟨ok1, ok2⟩, ok3⟩ := ok
  subst ok1
  simp only [hStep, Option.some.injEq, Prod.mk.injEq] at hs
  obtain ⟨rfl, rfl, rfl, rfl⟩ := hs
  rw [ok3] at kk
  obtain ⟨r, hr, hb⟩ := List.any_eq_true.mp ok2
  simp only [Bool.and_eq_true, beq_iff_eq, decide_eq_true_eq] at hb
  have hw := List.all_eq_true.mp hwt_all r hr
  simp only [decide_eq_true_eq] at hw
  rw [hb.1.1, hb.1.2, hb.2] at hw
  exact lv_ldc X.1 X.2.1 X.2.2.2.1 (X.word hw rfl) hdg (kk.at hh hl hlo)
theorem hx_ldc_w {len pc x y : Nat} {z : Int32} {zl : Int64} {ts : List Nat} {i : Nat} {k' : Nat} {L' st' : List Value} {h1 : hH} (hq : hmR mi = some q) (he : hI mi k = some (.ldc_w i, len, pc, x, y, z, zl, ts)) (X : hCtx g p R s m args meth c q Ts) (hh : hHR g h H) (hl : hLR g.2.2.1 L ls q.2.2.1) (hlo : ∀ z ∈ locs, g.2.2.2.2.2.size ≤ z.base) (hs : hStep (.ldc_w i, len, pc, x, y, z, zl, ts) k L st h = some (k', L', st', h1)) (kk : hGo g p l en R s m args below meth c Q q.2.2.1 (hPc mi k') L' st' h h1 cells slots) : W p l en R s m args below meth c H locs cells slots Q (F0 m pc ls (st.map (hcz g.2.2.1))) := by
  have hdg := hdec hq he
  have ok := hok hq he
  simp only [hOK, hNx, hTg, Bool.and_eq_true, beq_iff_eq, decide_eq_true_eq] at ok
  obtain ⟨⟨ok1, ok2⟩, ok3⟩ := ok
  subst ok1
  simp only [hStep, Option.some.injEq, Prod.mk.injEq] at hs
  obtain ⟨rfl, rfl, rfl, rfl⟩ := hs
  rw [ok3] at kk
  obtain ⟨r, hr, hb⟩ := List.any_eq_true.mp ok2
  simp only [Bool.and_eq_true, beq_iff_eq, decide_eq_true_eq] at hb
  have hw := List.all_eq_true.mp hwt_all r hr
  simp only [decide_eq_true_eq] at hw
  rw [hb.1.1, hb.1.2, hb.2] at hw
  exact lv_ldcw X.1 X.2.1 X.2.2.2.1 (X.word hw rfl) hdg (kk.at hh hl hlo)
theorem hx_ldc2_w {len pc x y : Nat} {z : Int32} {zl : Int64} {ts : List Nat} {i : Nat} {k' : Nat} {L' st' : List Value} {h1 : hH} (hq : hmR mi = some q) (he : hI mi k = some (.ldc2_w i, len, pc, x, y, z, zl, ts)) (X : hCtx g p R s m args meth c q Ts) (hh : hHR g h H) (hl : hLR g.2.2.1 L ls q.2.2.1) (hlo : ∀ z ∈ locs, g.2.2.2.2.2.size ≤ z.base) (hs : hStep (.ldc2_w i, len, pc, x, y, z, zl, ts) k L st h = some (k', L', st', h1)) (kk : hGo g p l en R s m args below meth c Q q.2.2.1 (hPc mi k') L' st' h h1 cells slots) : W p l en R s m args below meth c H locs cells slots Q (F0 m pc ls (st.map (hcz g.2.2.1))) := by
  have hdg := hdec hq he
  have ok := hok hq he
  simp only [hOK, hNx, hTg, Bool.and_eq_true, beq_iff_eq, decide_eq_true_eq] at ok
  obtain ⟨⟨ok1, ok2⟩, ok3⟩ := ok
  subst ok1
  simp only [hStep, Option.some.injEq, Prod.mk.injEq] at hs
  obtain ⟨rfl, rfl, rfl, rfl⟩ := hs
  rw [ok3] at kk
  obtain ⟨r, hr, hb⟩ := List.any_eq_true.mp ok2
  simp only [Bool.and_eq_true, beq_iff_eq, decide_eq_true_eq] at hb
  have hw := List.all_eq_true.mp hwg_all r hr
  simp only [decide_eq_true_eq] at hw
  rw [hb.1.1, hb.1.2, hb.2] at hw
  exact lv_ldc2 X.1 X.2.1 X.2.2.2.1 (X.word hw rfl) hdg (kk.at hh hl hlo)
theorem hx_aconst_null {len pc x y : Nat} {z : Int32} {zl : Int64} {ts : List Nat}  {k' : Nat} {L' st' : List Value} {h1 : hH} (hq : hmR mi = some q) (he : hI mi k = some (.aconst_null, len, pc, x, y, z, zl, ts)) (X : hCtx g p R s m args meth c q Ts) (hh : hHR g h H) (hl : hLR g.2.2.1 L ls q.2.2.1) (hlo : ∀ z ∈ locs, g.2.2.2.2.2.size ≤ z.base) (hs : hStep (.aconst_null, len, pc, x, y, z, zl, ts) k L st h = some (k', L', st', h1)) (kk : hGo g p l en R s m args below meth c Q q.2.2.1 (hPc mi k') L' st' h h1 cells slots) : W p l en R s m args below meth c H locs cells slots Q (F0 m pc ls (st.map (hcz g.2.2.1))) := by
  have hdg := hdec hq he
  have ok := hok hq he
  simp only [hOK, hNx, hTg, Bool.and_eq_true, beq_iff_eq, decide_eq_true_eq] at ok
  obtain ⟨ok1, ok3⟩ := ok
  subst ok1
  simp only [hStep, Option.some.injEq, Prod.mk.injEq] at hs
  obtain ⟨rfl, rfl, rfl, rfl⟩ := hs
  rw [ok3] at kk
  exact lv_null X.1 X.2.1 hdg (kk.at hh hl hlo)
theorem hx_iadd {len pc x y : Nat} {z : Int32} {zl : Int64} {ts : List Nat}  {k' : Nat} {L' st' : List Value} {h1 : hH} (hq : hmR mi = some q) (he : hI mi k = some (.iadd, len, pc, x, y, z, zl, ts)) (X : hCtx g p R s m args meth c q Ts) (hh : hHR g h H) (hl : hLR g.2.2.1 L ls q.2.2.1) (hlo : ∀ z ∈ locs, g.2.2.2.2.2.size ≤ z.base) (hs : hStep (.iadd, len, pc, x, y, z, zl, ts) k L st h = some (k', L', st', h1)) (kk : hGo g p l en R s m args below meth c Q q.2.2.1 (hPc mi k') L' st' h h1 cells slots) : W p l en R s m args below meth c H locs cells slots Q (F0 m pc ls (st.map (hcz g.2.2.1))) := by
  have hdg := hdec hq he
  have ok := hok hq he
  simp only [hOK, hNx, hTg, Bool.and_eq_true, beq_iff_eq, decide_eq_true_eq] at ok
  obtain ⟨ok1, ok3⟩ := ok
  subst ok1
  obtain ⟨y, x, r, rfl, rfl, rfl, rfl, rfl⟩ := hOp2_inv hs
  rw [ok3] at kk
  exact lv_iadd X.1 X.2.1 hdg (kk.at hh hl hlo)
theorem hx_isub {len pc x y : Nat} {z : Int32} {zl : Int64} {ts : List Nat}  {k' : Nat} {L' st' : List Value} {h1 : hH} (hq : hmR mi = some q) (he : hI mi k = some (.isub, len, pc, x, y, z, zl, ts)) (X : hCtx g p R s m args meth c q Ts) (hh : hHR g h H) (hl : hLR g.2.2.1 L ls q.2.2.1) (hlo : ∀ z ∈ locs, g.2.2.2.2.2.size ≤ z.base) (hs : hStep (.isub, len, pc, x, y, z, zl, ts) k L st h = some (k', L', st', h1)) (kk : hGo g p l en R s m args below meth c Q q.2.2.1 (hPc mi k') L' st' h h1 cells slots) : W p l en R s m args below meth c H locs cells slots Q (F0 m pc ls (st.map (hcz g.2.2.1))) := by
  have hdg := hdec hq he
  have ok := hok hq he
  simp only [hOK, hNx, hTg, Bool.and_eq_true, beq_iff_eq, decide_eq_true_eq] at ok
  obtain ⟨ok1, ok3⟩ := ok
  subst ok1
  obtain ⟨y, x, r, rfl, rfl, rfl, rfl, rfl⟩ := hOp2_inv hs
  rw [ok3] at kk
  exact lv_isub X.1 X.2.1 hdg (kk.at hh hl hlo)
theorem hx_imul {len pc x y : Nat} {z : Int32} {zl : Int64} {ts : List Nat}  {k' : Nat} {L' st' : List Value} {h1 : hH} (hq : hmR mi = some q) (he : hI mi k = some (.imul, len, pc, x, y, z, zl, ts)) (X : hCtx g p R s m args meth c q Ts) (hh : hHR g h H) (hl : hLR g.2.2.1 L ls q.2.2.1) (hlo : ∀ z ∈ locs, g.2.2.2.2.2.size ≤ z.base) (hs : hStep (.imul, len, pc, x, y, z, zl, ts) k L st h = some (k', L', st', h1)) (kk : hGo g p l en R s m args below meth c Q q.2.2.1 (hPc mi k') L' st' h h1 cells slots) : W p l en R s m args below meth c H locs cells slots Q (F0 m pc ls (st.map (hcz g.2.2.1))) := by
  have hdg := hdec hq he
  have ok := hok hq he
  simp only [hOK, hNx, hTg, Bool.and_eq_true, beq_iff_eq, decide_eq_true_eq] at ok
  obtain ⟨ok1, ok3⟩ := ok
  subst ok1
  obtain ⟨y, x, r, rfl, rfl, rfl, rfl, rfl⟩ := hOp2_inv hs
  rw [ok3] at kk
  exact lv_imul X.1 X.2.1 hdg (kk.at hh hl hlo)
theorem hx_iand {len pc x y : Nat} {z : Int32} {zl : Int64} {ts : List Nat}  {k' : Nat} {L' st' : List Value} {h1 : hH} (hq : hmR mi = some q) (he : hI mi k = some (.iand, len, pc, x, y, z, zl, ts)) (X : hCtx g p R s m args meth c q Ts) (hh : hHR g h H) (hl : hLR g.2.2.1 L ls q.2.2.1) (hlo : ∀ z ∈ locs, g.2.2.2.2.2.size ≤ z.base) (hs : hStep (.iand, len, pc, x, y, z, zl, ts) k L st h = some (k', L', st', h1)) (kk : hGo g p l en R s m args below meth c Q q.2.2.1 (hPc mi k') L' st' h h1 cells slots) : W p l en R s m args below meth c H locs cells slots Q (F0 m pc ls (st.map (hcz g.2.2.1))) := by
  have hdg := hdec hq he
  have ok := hok hq he
  simp only [hOK, hNx, hTg, Bool.and_eq_true, beq_iff_eq, decide_eq_true_eq] at ok
  obtain ⟨ok1, ok3⟩ := ok
  subst ok1
  obtain ⟨y, x, r, rfl, rfl, rfl, rfl, rfl⟩ := hOp2_inv hs
  rw [ok3] at kk
  exact lv_iand X.1 X.2.1 hdg (kk.at hh hl hlo)
theorem hx_ior {len pc x y : Nat} {z : Int32} {zl : Int64} {ts : List Nat}  {k' : Nat} {L' st' : List Value} {h1 : hH} (hq : hmR mi = some q) (he : hI mi k = some (.ior, len, pc, x, y, z, zl, ts)) (X : hCtx g p R s m args meth c q Ts) (hh : hHR g h H) (hl : hLR g.2.2.1 L ls q.2.2.1) (hlo : ∀ z ∈ locs, g.2.2.2.2.2.size ≤ z.base) (hs : hStep (.ior, len, pc, x, y, z, zl, ts) k L st h = some (k', L', st', h1)) (kk : hGo g p l en R s m args below meth c Q q.2.2.1 (hPc mi k') L' st' h h1 cells slots) : W p l en R s m args below meth c H locs cells slots Q (F0 m pc ls (st.map (hcz g.2.2.1))) := by
  have hdg := hdec hq he
  have ok := hok hq he
  simp only [hOK, hNx, hTg, Bool.and_eq_true, beq_iff_eq, decide_eq_true_eq] at ok
  obtain ⟨ok1, ok3⟩ := ok
  subst ok1
  obtain ⟨y, x, r, rfl, rfl, rfl, rfl, rfl⟩ := hOp2_inv hs
  rw [ok3] at kk
  exact lv_ior X.1 X.2.1 hdg (kk.at hh hl hlo)
theorem hx_ishl {len pc x y : Nat} {z : Int32} {zl : Int64} {ts : List Nat}  {k' : Nat} {L' st' : List Value} {h1 : hH} (hq : hmR mi = some q) (he : hI mi k = some (.ishl, len, pc, x, y, z, zl, ts)) (X : hCtx g p R s m args meth c q Ts) (hh : hHR g h H) (hl : hLR g.2.2.1 L ls q.2.2.1) (hlo : ∀ z ∈ locs, g.2.2.2.2.2.size ≤ z.base) (hs : hStep (.ishl, len, pc, x, y, z, zl, ts) k L st h = some (k', L', st', h1)) (kk : hGo g p l en R s m args below meth c Q q.2.2.1 (hPc mi k') L' st' h h1 cells slots) : W p l en R s m args below meth c H locs cells slots Q (F0 m pc ls (st.map (hcz g.2.2.1))) := by
  have hdg := hdec hq he
  have ok := hok hq he
  simp only [hOK, hNx, hTg, Bool.and_eq_true, beq_iff_eq, decide_eq_true_eq] at ok
  obtain ⟨ok1, ok3⟩ := ok
  subst ok1
  obtain ⟨y, x, r, rfl, rfl, rfl, rfl, rfl⟩ := hOp2_inv hs
  rw [ok3] at kk
  exact lv_ishl X.1 X.2.1 hdg (kk.at hh hl hlo)
theorem hx_ishr {len pc x y : Nat} {z : Int32} {zl : Int64} {ts : List Nat}  {k' : Nat} {L' st' : List Value} {h1 : hH} (hq : hmR mi = some q) (he : hI mi k = some (.ishr, len, pc, x, y, z, zl, ts)) (X : hCtx g p R s m args meth c q Ts) (hh : hHR g h H) (hl : hLR g.2.2.1 L ls q.2.2.1) (hlo : ∀ z ∈ locs, g.2.2.2.2.2.size ≤ z.base) (hs : hStep (.ishr, len, pc, x, y, z, zl, ts) k L st h = some (k', L', st', h1)) (kk : hGo g p l en R s m args below meth c Q q.2.2.1 (hPc mi k') L' st' h h1 cells slots) : W p l en R s m args below meth c H locs cells slots Q (F0 m pc ls (st.map (hcz g.2.2.1))) := by
  have hdg := hdec hq he
  have ok := hok hq he
  simp only [hOK, hNx, hTg, Bool.and_eq_true, beq_iff_eq, decide_eq_true_eq] at ok
  obtain ⟨ok1, ok3⟩ := ok
  subst ok1
  obtain ⟨y, x, r, rfl, rfl, rfl, rfl, rfl⟩ := hOp2_inv hs
  rw [ok3] at kk
  exact lv_ishr X.1 X.2.1 hdg (kk.at hh hl hlo)
theorem hx_iushr {len pc x y : Nat} {z : Int32} {zl : Int64} {ts : List Nat}  {k' : Nat} {L' st' : List Value} {h1 : hH} (hq : hmR mi = some q) (he : hI mi k = some (.iushr, len, pc, x, y, z, zl, ts)) (X : hCtx g p R s m args meth c q Ts) (hh : hHR g h H) (hl : hLR g.2.2.1 L ls q.2.2.1) (hlo : ∀ z ∈ locs, g.2.2.2.2.2.size ≤ z.base) (hs : hStep (.iushr, len, pc, x, y, z, zl, ts) k L st h = some (k', L', st', h1)) (kk : hGo g p l en R s m args below meth c Q q.2.2.1 (hPc mi k') L' st' h h1 cells slots) : W p l en R s m args below meth c H locs cells slots Q (F0 m pc ls (st.map (hcz g.2.2.1))) := by
  have hdg := hdec hq he
  have ok := hok hq he
  simp only [hOK, hNx, hTg, Bool.and_eq_true, beq_iff_eq, decide_eq_true_eq] at ok
  obtain ⟨ok1, ok3⟩ := ok
  subst ok1
  obtain ⟨y, x, r, rfl, rfl, rfl, rfl, rfl⟩ := hOp2_inv hs
  rw [ok3] at kk
  exact lv_iushr X.1 X.2.1 hdg rfl (kk.at hh hl hlo)
theorem hx_idiv {len pc x y : Nat} {z : Int32} {zl : Int64} {ts : List Nat}  {k' : Nat} {L' st' : List Value} {h1 : hH} (hq : hmR mi = some q) (he : hI mi k = some (.idiv, len, pc, x, y, z, zl, ts)) (X : hCtx g p R s m args meth c q Ts) (hh : hHR g h H) (hl : hLR g.2.2.1 L ls q.2.2.1) (hlo : ∀ z ∈ locs, g.2.2.2.2.2.size ≤ z.base) (hs : hStep (.idiv, len, pc, x, y, z, zl, ts) k L st h = some (k', L', st', h1)) (kk : hGo g p l en R s m args below meth c Q q.2.2.1 (hPc mi k') L' st' h h1 cells slots) : W p l en R s m args below meth c H locs cells slots Q (F0 m pc ls (st.map (hcz g.2.2.1))) := by
  have hdg := hdec hq he
  have ok := hok hq he
  simp only [hOK, hNx, hTg, Bool.and_eq_true, beq_iff_eq, decide_eq_true_eq] at ok
  obtain ⟨ok1, ok3⟩ := ok
  subst ok1
  obtain ⟨y, x, r, rfl, hy, rfl, rfl, rfl, rfl⟩ := hOpD_inv hs
  rw [ok3] at kk
  exact lv_idiv X.1 X.2.1 hdg hy (kk.at hh hl hlo)
theorem hx_irem {len pc x y : Nat} {z : Int32} {zl : Int64} {ts : List Nat}  {k' : Nat} {L' st' : List Value} {h1 : hH} (hq : hmR mi = some q) (he : hI mi k = some (.irem, len, pc, x, y, z, zl, ts)) (X : hCtx g p R s m args meth c q Ts) (hh : hHR g h H) (hl : hLR g.2.2.1 L ls q.2.2.1) (hlo : ∀ z ∈ locs, g.2.2.2.2.2.size ≤ z.base) (hs : hStep (.irem, len, pc, x, y, z, zl, ts) k L st h = some (k', L', st', h1)) (kk : hGo g p l en R s m args below meth c Q q.2.2.1 (hPc mi k') L' st' h h1 cells slots) : W p l en R s m args below meth c H locs cells slots Q (F0 m pc ls (st.map (hcz g.2.2.1))) := by
  have hdg := hdec hq he
  have ok := hok hq he
  simp only [hOK, hNx, hTg, Bool.and_eq_true, beq_iff_eq, decide_eq_true_eq] at ok
  obtain ⟨ok1, ok3⟩ := ok
  subst ok1
  obtain ⟨y, x, r, rfl, hy, rfl, rfl, rfl, rfl⟩ := hOpD_inv hs
  rw [ok3] at kk
  exact lv_irem X.1 X.2.1 hdg hy (kk.at hh hl hlo)
theorem hx_ineg {len pc x y : Nat} {z : Int32} {zl : Int64} {ts : List Nat}  {k' : Nat} {L' st' : List Value} {h1 : hH} (hq : hmR mi = some q) (he : hI mi k = some (.ineg, len, pc, x, y, z, zl, ts)) (X : hCtx g p R s m args meth c q Ts) (hh : hHR g h H) (hl : hLR g.2.2.1 L ls q.2.2.1) (hlo : ∀ z ∈ locs, g.2.2.2.2.2.size ≤ z.base) (hs : hStep (.ineg, len, pc, x, y, z, zl, ts) k L st h = some (k', L', st', h1)) (kk : hGo g p l en R s m args below meth c Q q.2.2.1 (hPc mi k') L' st' h h1 cells slots) : W p l en R s m args below meth c H locs cells slots Q (F0 m pc ls (st.map (hcz g.2.2.1))) := by
  have hdg := hdec hq he
  have ok := hok hq he
  simp only [hOK, hNx, hTg, Bool.and_eq_true, beq_iff_eq, decide_eq_true_eq] at ok
  obtain ⟨ok1, ok3⟩ := ok
  subst ok1
  obtain ⟨x, r, rfl, rfl, rfl, rfl, rfl⟩ := hOp1_inv hs
  rw [ok3] at kk
  exact lv_ineg X.1 X.2.1 hdg (kk.at hh hl hlo)
theorem hx_i2l {len pc x y : Nat} {z : Int32} {zl : Int64} {ts : List Nat}  {k' : Nat} {L' st' : List Value} {h1 : hH} (hq : hmR mi = some q) (he : hI mi k = some (.i2l, len, pc, x, y, z, zl, ts)) (X : hCtx g p R s m args meth c q Ts) (hh : hHR g h H) (hl : hLR g.2.2.1 L ls q.2.2.1) (hlo : ∀ z ∈ locs, g.2.2.2.2.2.size ≤ z.base) (hs : hStep (.i2l, len, pc, x, y, z, zl, ts) k L st h = some (k', L', st', h1)) (kk : hGo g p l en R s m args below meth c Q q.2.2.1 (hPc mi k') L' st' h h1 cells slots) : W p l en R s m args below meth c H locs cells slots Q (F0 m pc ls (st.map (hcz g.2.2.1))) := by
  have hdg := hdec hq he
  have ok := hok hq he
  simp only [hOK, hNx, hTg, Bool.and_eq_true, beq_iff_eq, decide_eq_true_eq] at ok
  obtain ⟨ok1, ok3⟩ := ok
  subst ok1
  obtain ⟨x, r, rfl, rfl, rfl, rfl, rfl⟩ := hOp1_inv hs
  rw [ok3] at kk
  exact lv_i2l X.1 X.2.1 hdg rfl (kk.at hh hl hlo)
theorem hx_i2b {len pc x y : Nat} {z : Int32} {zl : Int64} {ts : List Nat}  {k' : Nat} {L' st' : List Value} {h1 : hH} (hq : hmR mi = some q) (he : hI mi k = some (.i2b, len, pc, x, y, z, zl, ts)) (X : hCtx g p R s m args meth c q Ts) (hh : hHR g h H) (hl : hLR g.2.2.1 L ls q.2.2.1) (hlo : ∀ z ∈ locs, g.2.2.2.2.2.size ≤ z.base) (hs : hStep (.i2b, len, pc, x, y, z, zl, ts) k L st h = some (k', L', st', h1)) (kk : hGo g p l en R s m args below meth c Q q.2.2.1 (hPc mi k') L' st' h h1 cells slots) : W p l en R s m args below meth c H locs cells slots Q (F0 m pc ls (st.map (hcz g.2.2.1))) := by
  have hdg := hdec hq he
  have ok := hok hq he
  simp only [hOK, hNx, hTg, Bool.and_eq_true, beq_iff_eq, decide_eq_true_eq] at ok
  obtain ⟨ok1, ok3⟩ := ok
  subst ok1
  obtain ⟨x, r, rfl, rfl, rfl, rfl, rfl⟩ := hOp1_inv hs
  rw [ok3] at kk
  exact lv_i2b X.1 X.2.1 hdg rfl (kk.at hh hl hlo)
theorem hx_l2i {len pc x y : Nat} {z : Int32} {zl : Int64} {ts : List Nat}  {k' : Nat} {L' st' : List Value} {h1 : hH} (hq : hmR mi = some q) (he : hI mi k = some (.l2i, len, pc, x, y, z, zl, ts)) (X : hCtx g p R s m args meth c q Ts) (hh : hHR g h H) (hl : hLR g.2.2.1 L ls q.2.2.1) (hlo : ∀ z ∈ locs, g.2.2.2.2.2.size ≤ z.base) (hs : hStep (.l2i, len, pc, x, y, z, zl, ts) k L st h = some (k', L', st', h1)) (kk : hGo g p l en R s m args below meth c Q q.2.2.1 (hPc mi k') L' st' h h1 cells slots) : W p l en R s m args below meth c H locs cells slots Q (F0 m pc ls (st.map (hcz g.2.2.1))) := by
  have hdg := hdec hq he
  have ok := hok hq he
  simp only [hOK, hNx, hTg, Bool.and_eq_true, beq_iff_eq, decide_eq_true_eq] at ok
  obtain ⟨ok1, ok3⟩ := ok
  subst ok1
  obtain ⟨x, r, rfl, rfl, rfl, rfl, rfl⟩ := hL2i_inv hs
  rw [ok3] at kk
  exact lv_l2i X.1 X.2.1 hdg rfl (kk.at hh hl hlo)
theorem hx_ladd {len pc x y : Nat} {z : Int32} {zl : Int64} {ts : List Nat}  {k' : Nat} {L' st' : List Value} {h1 : hH} (hq : hmR mi = some q) (he : hI mi k = some (.ladd, len, pc, x, y, z, zl, ts)) (X : hCtx g p R s m args meth c q Ts) (hh : hHR g h H) (hl : hLR g.2.2.1 L ls q.2.2.1) (hlo : ∀ z ∈ locs, g.2.2.2.2.2.size ≤ z.base) (hs : hStep (.ladd, len, pc, x, y, z, zl, ts) k L st h = some (k', L', st', h1)) (kk : hGo g p l en R s m args below meth c Q q.2.2.1 (hPc mi k') L' st' h h1 cells slots) : W p l en R s m args below meth c H locs cells slots Q (F0 m pc ls (st.map (hcz g.2.2.1))) := by
  have hdg := hdec hq he
  have ok := hok hq he
  simp only [hOK, hNx, hTg, Bool.and_eq_true, beq_iff_eq, decide_eq_true_eq] at ok
  obtain ⟨ok1, ok3⟩ := ok
  subst ok1
  obtain ⟨y, x, r, rfl, rfl, rfl, rfl, rfl⟩ := hOpL_inv hs
  rw [ok3] at kk
  exact lv_ladd X.1 X.2.1 hdg (kk.at hh hl hlo)
theorem hx_lmul {len pc x y : Nat} {z : Int32} {zl : Int64} {ts : List Nat}  {k' : Nat} {L' st' : List Value} {h1 : hH} (hq : hmR mi = some q) (he : hI mi k = some (.lmul, len, pc, x, y, z, zl, ts)) (X : hCtx g p R s m args meth c q Ts) (hh : hHR g h H) (hl : hLR g.2.2.1 L ls q.2.2.1) (hlo : ∀ z ∈ locs, g.2.2.2.2.2.size ≤ z.base) (hs : hStep (.lmul, len, pc, x, y, z, zl, ts) k L st h = some (k', L', st', h1)) (kk : hGo g p l en R s m args below meth c Q q.2.2.1 (hPc mi k') L' st' h h1 cells slots) : W p l en R s m args below meth c H locs cells slots Q (F0 m pc ls (st.map (hcz g.2.2.1))) := by
  have hdg := hdec hq he
  have ok := hok hq he
  simp only [hOK, hNx, hTg, Bool.and_eq_true, beq_iff_eq, decide_eq_true_eq] at ok
  obtain ⟨ok1, ok3⟩ := ok
  subst ok1
  obtain ⟨y, x, r, rfl, rfl, rfl, rfl, rfl⟩ := hOpL_inv hs
  rw [ok3] at kk
  exact lv_lmul X.1 X.2.1 hdg (kk.at hh hl hlo)
theorem hx_land {len pc x y : Nat} {z : Int32} {zl : Int64} {ts : List Nat}  {k' : Nat} {L' st' : List Value} {h1 : hH} (hq : hmR mi = some q) (he : hI mi k = some (.land, len, pc, x, y, z, zl, ts)) (X : hCtx g p R s m args meth c q Ts) (hh : hHR g h H) (hl : hLR g.2.2.1 L ls q.2.2.1) (hlo : ∀ z ∈ locs, g.2.2.2.2.2.size ≤ z.base) (hs : hStep (.land, len, pc, x, y, z, zl, ts) k L st h = some (k', L', st', h1)) (kk : hGo g p l en R s m args below meth c Q q.2.2.1 (hPc mi k') L' st' h h1 cells slots) : W p l en R s m args below meth c H locs cells slots Q (F0 m pc ls (st.map (hcz g.2.2.1))) := by
  have hdg := hdec hq he
  have ok := hok hq he
  simp only [hOK, hNx, hTg, Bool.and_eq_true, beq_iff_eq, decide_eq_true_eq] at ok
  obtain ⟨ok1, ok3⟩ := ok
  subst ok1
  obtain ⟨y, x, r, rfl, rfl, rfl, rfl, rfl⟩ := hOpL_inv hs
  rw [ok3] at kk
  exact lv_land X.1 X.2.1 hdg (kk.at hh hl hlo)
theorem hx_lcmp {len pc x y : Nat} {z : Int32} {zl : Int64} {ts : List Nat}  {k' : Nat} {L' st' : List Value} {h1 : hH} (hq : hmR mi = some q) (he : hI mi k = some (.lcmp, len, pc, x, y, z, zl, ts)) (X : hCtx g p R s m args meth c q Ts) (hh : hHR g h H) (hl : hLR g.2.2.1 L ls q.2.2.1) (hlo : ∀ z ∈ locs, g.2.2.2.2.2.size ≤ z.base) (hs : hStep (.lcmp, len, pc, x, y, z, zl, ts) k L st h = some (k', L', st', h1)) (kk : hGo g p l en R s m args below meth c Q q.2.2.1 (hPc mi k') L' st' h h1 cells slots) : W p l en R s m args below meth c H locs cells slots Q (F0 m pc ls (st.map (hcz g.2.2.1))) := by
  have hdg := hdec hq he
  have ok := hok hq he
  simp only [hOK, hNx, hTg, Bool.and_eq_true, beq_iff_eq, decide_eq_true_eq] at ok
  obtain ⟨ok1, ok3⟩ := ok
  subst ok1
  obtain ⟨y, x, r, rfl, rfl, rfl, rfl, rfl⟩ := hOpL_inv hs
  rw [ok3] at kk
  exact W.lcmp X.1 X.2.1 hdg (kk.at hh hl hlo)
theorem hx_ldiv {len pc x y : Nat} {z : Int32} {zl : Int64} {ts : List Nat}  {k' : Nat} {L' st' : List Value} {h1 : hH} (hq : hmR mi = some q) (he : hI mi k = some (.ldiv, len, pc, x, y, z, zl, ts)) (X : hCtx g p R s m args meth c q Ts) (hh : hHR g h H) (hl : hLR g.2.2.1 L ls q.2.2.1) (hlo : ∀ z ∈ locs, g.2.2.2.2.2.size ≤ z.base) (hs : hStep (.ldiv, len, pc, x, y, z, zl, ts) k L st h = some (k', L', st', h1)) (kk : hGo g p l en R s m args below meth c Q q.2.2.1 (hPc mi k') L' st' h h1 cells slots) : W p l en R s m args below meth c H locs cells slots Q (F0 m pc ls (st.map (hcz g.2.2.1))) := by
  have hdg := hdec hq he
  have ok := hok hq he
  simp only [hOK, hNx, hTg, Bool.and_eq_true, beq_iff_eq, decide_eq_true_eq] at ok
  obtain ⟨ok1, ok3⟩ := ok
  subst ok1
  obtain ⟨y, x, r, rfl, hy, rfl, rfl, rfl, rfl⟩ := hOpLD_inv hs
  rw [ok3] at kk
  exact lv_ldiv X.1 X.2.1 hdg hy (kk.at hh hl hlo)
theorem hx_lrem {len pc x y : Nat} {z : Int32} {zl : Int64} {ts : List Nat}  {k' : Nat} {L' st' : List Value} {h1 : hH} (hq : hmR mi = some q) (he : hI mi k = some (.lrem, len, pc, x, y, z, zl, ts)) (X : hCtx g p R s m args meth c q Ts) (hh : hHR g h H) (hl : hLR g.2.2.1 L ls q.2.2.1) (hlo : ∀ z ∈ locs, g.2.2.2.2.2.size ≤ z.base) (hs : hStep (.lrem, len, pc, x, y, z, zl, ts) k L st h = some (k', L', st', h1)) (kk : hGo g p l en R s m args below meth c Q q.2.2.1 (hPc mi k') L' st' h h1 cells slots) : W p l en R s m args below meth c H locs cells slots Q (F0 m pc ls (st.map (hcz g.2.2.1))) := by
  have hdg := hdec hq he
  have ok := hok hq he
  simp only [hOK, hNx, hTg, Bool.and_eq_true, beq_iff_eq, decide_eq_true_eq] at ok
  obtain ⟨ok1, ok3⟩ := ok
  subst ok1
  obtain ⟨y, x, r, rfl, hy, rfl, rfl, rfl, rfl⟩ := hOpLD_inv hs
  rw [ok3] at kk
  exact lv_lrem X.1 X.2.1 hdg hy (kk.at hh hl hlo)
theorem hx_dup {len pc x y : Nat} {z : Int32} {zl : Int64} {ts : List Nat}  {k' : Nat} {L' st' : List Value} {h1 : hH} (hq : hmR mi = some q) (he : hI mi k = some (.dup, len, pc, x, y, z, zl, ts)) (X : hCtx g p R s m args meth c q Ts) (hh : hHR g h H) (hl : hLR g.2.2.1 L ls q.2.2.1) (hlo : ∀ z ∈ locs, g.2.2.2.2.2.size ≤ z.base) (hs : hStep (.dup, len, pc, x, y, z, zl, ts) k L st h = some (k', L', st', h1)) (kk : hGo g p l en R s m args below meth c Q q.2.2.1 (hPc mi k') L' st' h h1 cells slots) : W p l en R s m args below meth c H locs cells slots Q (F0 m pc ls (st.map (hcz g.2.2.1))) := by
  have hdg := hdec hq he
  have ok := hok hq he
  simp only [hOK, hNx, hTg, Bool.and_eq_true, beq_iff_eq, decide_eq_true_eq] at ok
  obtain ⟨ok1, ok3⟩ := ok
  subst ok1
  obtain ⟨v, r, rfl, hv, rfl, rfl, rfl, rfl⟩ := hDup_inv hs
  rw [ok3] at kk
  exact lv_dup X.1 X.2.1 hdg (by rw [hcz_cat]; exact hv) (kk.at hh hl hlo)
theorem hx_dup2 {len pc x y : Nat} {z : Int32} {zl : Int64} {ts : List Nat}  {k' : Nat} {L' st' : List Value} {h1 : hH} (hq : hmR mi = some q) (he : hI mi k = some (.dup2, len, pc, x, y, z, zl, ts)) (X : hCtx g p R s m args meth c q Ts) (hh : hHR g h H) (hl : hLR g.2.2.1 L ls q.2.2.1) (hlo : ∀ z ∈ locs, g.2.2.2.2.2.size ≤ z.base) (hs : hStep (.dup2, len, pc, x, y, z, zl, ts) k L st h = some (k', L', st', h1)) (kk : hGo g p l en R s m args below meth c Q q.2.2.1 (hPc mi k') L' st' h h1 cells slots) : W p l en R s m args below meth c H locs cells slots Q (F0 m pc ls (st.map (hcz g.2.2.1))) := by
  have hdg := hdec hq he
  have ok := hok hq he
  simp only [hOK, hNx, hTg, Bool.and_eq_true, beq_iff_eq, decide_eq_true_eq] at ok
  obtain ⟨ok1, ok3⟩ := ok
  subst ok1
  obtain ⟨v, w, r, rfl, hv, hw, rfl, rfl, rfl, rfl⟩ := hDup2_inv hs
  rw [ok3] at kk
  exact lv_dup2_11 X.1 X.2.1 hdg (by rw [hcz_cat]; exact hv) (by rw [hcz_cat]; exact hw) (kk.at hh hl hlo)
theorem hx_pop {len pc x y : Nat} {z : Int32} {zl : Int64} {ts : List Nat}  {k' : Nat} {L' st' : List Value} {h1 : hH} (hq : hmR mi = some q) (he : hI mi k = some (.pop, len, pc, x, y, z, zl, ts)) (X : hCtx g p R s m args meth c q Ts) (hh : hHR g h H) (hl : hLR g.2.2.1 L ls q.2.2.1) (hlo : ∀ z ∈ locs, g.2.2.2.2.2.size ≤ z.base) (hs : hStep (.pop, len, pc, x, y, z, zl, ts) k L st h = some (k', L', st', h1)) (kk : hGo g p l en R s m args below meth c Q q.2.2.1 (hPc mi k') L' st' h h1 cells slots) : W p l en R s m args below meth c H locs cells slots Q (F0 m pc ls (st.map (hcz g.2.2.1))) := by
  have hdg := hdec hq he
  have ok := hok hq he
  simp only [hOK, hNx, hTg, Bool.and_eq_true, beq_iff_eq, decide_eq_true_eq] at ok
  obtain ⟨ok1, ok3⟩ := ok
  subst ok1
  obtain ⟨v, r, rfl, hv, rfl, rfl, rfl, rfl⟩ := hPop_inv hs
  rw [ok3] at kk
  exact lv_pop X.1 X.2.1 hdg (by rw [hcz_cat]; exact hv) (kk.at hh hl hlo)
theorem hx_goto {len pc x y : Nat} {z : Int32} {zl : Int64} {ts : List Nat} {o : Int} {k' : Nat} {L' st' : List Value} {h1 : hH} (hq : hmR mi = some q) (he : hI mi k = some (.goto o, len, pc, x, y, z, zl, ts)) (X : hCtx g p R s m args meth c q Ts) (hh : hHR g h H) (hl : hLR g.2.2.1 L ls q.2.2.1) (hlo : ∀ z ∈ locs, g.2.2.2.2.2.size ≤ z.base) (hs : hStep (.goto o, len, pc, x, y, z, zl, ts) k L st h = some (k', L', st', h1)) (kk : hGo g p l en R s m args below meth c Q q.2.2.1 (hPc mi k') L' st' h h1 cells slots) : W p l en R s m args below meth c H locs cells slots Q (F0 m pc ls (st.map (hcz g.2.2.1))) := by
  have hdg := hdec hq he
  have ok := hok hq he
  simp only [hOK, hNx, hTg, Bool.and_eq_true, beq_iff_eq, decide_eq_true_eq] at ok
  obtain ⟨ok1, ok2⟩ := ok
  subst ok1
  simp only [hStep, Option.some.injEq, Prod.mk.injEq] at hs
  obtain ⟨rfl, rfl, rfl, rfl⟩ := hs
  exact lv_goto X.1 X.2.1 hdg ok2 (kk.at hh hl hlo)
theorem hx_ifCond {len pc x y : Nat} {z : Int32} {zl : Int64} {ts : List Nat} {cn : ClassFile.Cond} {o : Int} {k' : Nat} {L' st' : List Value} {h1 : hH} (hq : hmR mi = some q) (he : hI mi k = some (.ifCond cn o, len, pc, x, y, z, zl, ts)) (X : hCtx g p R s m args meth c q Ts) (hh : hHR g h H) (hl : hLR g.2.2.1 L ls q.2.2.1) (hlo : ∀ z ∈ locs, g.2.2.2.2.2.size ≤ z.base) (hs : hStep (.ifCond cn o, len, pc, x, y, z, zl, ts) k L st h = some (k', L', st', h1)) (kk : hGo g p l en R s m args below meth c Q q.2.2.1 (hPc mi k') L' st' h h1 cells slots) : W p l en R s m args below meth c H locs cells slots Q (F0 m pc ls (st.map (hcz g.2.2.1))) := by
  have hdg := hdec hq he
  have ok := hok hq he
  simp only [hOK, hNx, hTg, Bool.and_eq_true, beq_iff_eq, decide_eq_true_eq] at ok
  obtain ⟨⟨ok1, ok2⟩, ok3⟩ := ok
  subst ok1
  obtain ⟨a, r, rfl, rfl, rfl, rfl, rfl⟩ := hIf1_inv hs
  dsimp only at kk
  cases cn with
  | eq =>
    refine lv_if_eq X.1 X.2.1 hdg ok2 (fun hc => ?_) (fun hc => ?_)
    · rw [show hCmp .eq a 0 = true from by simp [hCmp, hc]] at kk
      exact kk.at hh hl hlo
    · rw [show hCmp .eq a 0 = false from by simp [hCmp, hc], cond_false, ok3] at kk
      exact kk.at hh hl hlo
  | ne =>
    refine lv_if_ne X.1 X.2.1 hdg ok2 (fun hc => ?_) (fun hc => ?_)
    · rw [show hCmp .ne a 0 = true from by simp [hCmp, hc]] at kk
      exact kk.at hh hl hlo
    · rw [show hCmp .ne a 0 = false from by simp [hCmp, hc], cond_false, ok3] at kk
      exact kk.at hh hl hlo
  | lt =>
    refine lv_if_lt X.1 X.2.1 hdg ok2 (fun hc => ?_) (fun hc => ?_)
    · rw [show hCmp .lt a 0 = true from by simp [hCmp, hc]] at kk
      exact kk.at hh hl hlo
    · rw [show hCmp .lt a 0 = false from by simp [hCmp, hc], cond_false, ok3] at kk
      exact kk.at hh hl hlo
  | ge =>
    refine lv_if_ge X.1 X.2.1 hdg ok2 (fun hc => ?_) (fun hc => ?_)
    · rw [show hCmp .ge a 0 = true from by simp [hCmp, hc]] at kk
      exact kk.at hh hl hlo
    · rw [show hCmp .ge a 0 = false from by simp [hCmp, hc], cond_false, ok3] at kk
      exact kk.at hh hl hlo
  | gt =>
    refine lv_if_gt X.1 X.2.1 hdg ok2 (fun hc => ?_) (fun hc => ?_)
    · rw [show hCmp .gt a 0 = true from by simp [hCmp, hc]] at kk
      exact kk.at hh hl hlo
    · rw [show hCmp .gt a 0 = false from by simp [hCmp, hc], cond_false, ok3] at kk
      exact kk.at hh hl hlo
  | le =>
    refine lv_if_le X.1 X.2.1 hdg ok2 (fun hc => ?_) (fun hc => ?_)
    · rw [show hCmp .le a 0 = true from by simp [hCmp, hc]] at kk
      exact kk.at hh hl hlo
    · rw [show hCmp .le a 0 = false from by simp [hCmp, hc], cond_false, ok3] at kk
      exact kk.at hh hl hlo

theorem hx_if_icmp {len pc x y : Nat} {z : Int32} {zl : Int64} {ts : List Nat} {cn : ClassFile.Cond} {o : Int} {k' : Nat} {L' st' : List Value} {h1 : hH} (hq : hmR mi = some q) (he : hI mi k = some (.if_icmp cn o, len, pc, x, y, z, zl, ts)) (X : hCtx g p R s m args meth c q Ts) (hh : hHR g h H) (hl : hLR g.2.2.1 L ls q.2.2.1) (hlo : ∀ z ∈ locs, g.2.2.2.2.2.size ≤ z.base) (hs : hStep (.if_icmp cn o, len, pc, x, y, z, zl, ts) k L st h = some (k', L', st', h1)) (kk : hGo g p l en R s m args below meth c Q q.2.2.1 (hPc mi k') L' st' h h1 cells slots) : W p l en R s m args below meth c H locs cells slots Q (F0 m pc ls (st.map (hcz g.2.2.1))) := by
  have hdg := hdec hq he
  have ok := hok hq he
  simp only [hOK, hNx, hTg, Bool.and_eq_true, beq_iff_eq, decide_eq_true_eq] at ok
  obtain ⟨⟨ok1, ok2⟩, ok3⟩ := ok
  subst ok1
  obtain ⟨b, a, r, rfl, rfl, rfl, rfl, rfl⟩ := hIf2_inv hs
  dsimp only at kk
  cases cn with
  | eq =>
    refine lv_icmp_eq X.1 X.2.1 hdg ok2 (fun hc => ?_) (fun hc => ?_)
    · rw [show hCmp .eq a b = true from by simp [hCmp, hc]] at kk
      exact kk.at hh hl hlo
    · rw [show hCmp .eq a b = false from by simp [hCmp, hc], cond_false, ok3] at kk
      exact kk.at hh hl hlo
  | ne =>
    refine lv_icmp_ne X.1 X.2.1 hdg ok2 (fun hc => ?_) (fun hc => ?_)
    · rw [show hCmp .ne a b = true from by simp [hCmp, hc]] at kk
      exact kk.at hh hl hlo
    · rw [show hCmp .ne a b = false from by simp [hCmp, hc], cond_false, ok3] at kk
      exact kk.at hh hl hlo
  | lt =>
    refine lv_icmp_lt X.1 X.2.1 hdg ok2 (fun hc => ?_) (fun hc => ?_)
    · rw [show hCmp .lt a b = true from by simp [hCmp, hc]] at kk
      exact kk.at hh hl hlo
    · rw [show hCmp .lt a b = false from by simp [hCmp, hc], cond_false, ok3] at kk
      exact kk.at hh hl hlo
  | ge =>
    refine lv_icmp_ge X.1 X.2.1 hdg ok2 (fun hc => ?_) (fun hc => ?_)
    · rw [show hCmp .ge a b = true from by simp [hCmp, hc]] at kk
      exact kk.at hh hl hlo
    · rw [show hCmp .ge a b = false from by simp [hCmp, hc], cond_false, ok3] at kk
      exact kk.at hh hl hlo
  | gt =>
    refine lv_icmp_gt X.1 X.2.1 hdg ok2 (fun hc => ?_) (fun hc => ?_)
    · rw [show hCmp .gt a b = true from by simp [hCmp, hc]] at kk
      exact kk.at hh hl hlo
    · rw [show hCmp .gt a b = false from by simp [hCmp, hc], cond_false, ok3] at kk
      exact kk.at hh hl hlo
  | le =>
    refine lv_icmp_le X.1 X.2.1 hdg ok2 (fun hc => ?_) (fun hc => ?_)
    · rw [show hCmp .le a b = true from by simp [hCmp, hc]] at kk
      exact kk.at hh hl hlo
    · rw [show hCmp .le a b = false from by simp [hCmp, hc], cond_false, ok3] at kk
      exact kk.at hh hl hlo

theorem hx_ifnull {len pc x y : Nat} {z : Int32} {zl : Int64} {ts : List Nat} {o : Int} {k' : Nat} {L' st' : List Value} {h1 : hH} (hq : hmR mi = some q) (he : hI mi k = some (.ifnull o, len, pc, x, y, z, zl, ts)) (X : hCtx g p R s m args meth c q Ts) (hh : hHR g h H) (hl : hLR g.2.2.1 L ls q.2.2.1) (hlo : ∀ z ∈ locs, g.2.2.2.2.2.size ≤ z.base) (hs : hStep (.ifnull o, len, pc, x, y, z, zl, ts) k L st h = some (k', L', st', h1)) (kk : hGo g p l en R s m args below meth c Q q.2.2.1 (hPc mi k') L' st' h h1 cells slots) : W p l en R s m args below meth c H locs cells slots Q (F0 m pc ls (st.map (hcz g.2.2.1))) := by
  have hdg := hdec hq he
  have ok := hok hq he
  simp only [hOK, hNx, hTg, Bool.and_eq_true, beq_iff_eq, decide_eq_true_eq] at ok
  obtain ⟨⟨ok1, ok2⟩, ok3⟩ := ok
  subst ok1
  rcases hNull_inv hs with ⟨r, rfl, rfl, rfl, rfl, rfl⟩ | ⟨a, r, rfl, rfl, rfl, rfl, rfl⟩
  · exact lv_ifnullN X.1 X.2.1 hdg ok2 (kk.at hh hl hlo)
  · rw [ok3] at kk
    exact lv_ifnull X.1 X.2.1 hdg (kk.at hh hl hlo)
theorem hx_ifnonnull {len pc x y : Nat} {z : Int32} {zl : Int64} {ts : List Nat} {o : Int} {k' : Nat} {L' st' : List Value} {h1 : hH} (hq : hmR mi = some q) (he : hI mi k = some (.ifnonnull o, len, pc, x, y, z, zl, ts)) (X : hCtx g p R s m args meth c q Ts) (hh : hHR g h H) (hl : hLR g.2.2.1 L ls q.2.2.1) (hlo : ∀ z ∈ locs, g.2.2.2.2.2.size ≤ z.base) (hs : hStep (.ifnonnull o, len, pc, x, y, z, zl, ts) k L st h = some (k', L', st', h1)) (kk : hGo g p l en R s m args below meth c Q q.2.2.1 (hPc mi k') L' st' h h1 cells slots) : W p l en R s m args below meth c H locs cells slots Q (F0 m pc ls (st.map (hcz g.2.2.1))) := by
  have hdg := hdec hq he
  have ok := hok hq he
  simp only [hOK, hNx, hTg, Bool.and_eq_true, beq_iff_eq, decide_eq_true_eq] at ok
  obtain ⟨⟨ok1, ok2⟩, ok3⟩ := ok
  subst ok1
  rcases hNull_inv hs with ⟨r, rfl, rfl, rfl, rfl, rfl⟩ | ⟨a, r, rfl, rfl, rfl, rfl, rfl⟩
  · rw [ok3] at kk
    exact lv_ifnonnullN X.1 X.2.1 hdg (kk.at hh hl hlo)
  · exact lv_ifnonnull X.1 X.2.1 hdg ok2 (kk.at hh hl hlo)
end HST
