/-! ONE INSTRUCTION: all of them -/
section HSW
variable {g : hV} {p : Program} {l : Launch} {en : Env} {R : Room} {s : State} {m : MethodId} {args : Array Value} {below : List Frame} {meth : Method} {c : Code} {Q : State → Prop} {q : hR} {Ts : List Jvm.Cond} {mi k : Nat} {H : Heap} {locs : List Loc} {cells slots : Nat} {ls : Array Slot} {L st : List Value} {h : hH}
theorem hCats_map (ad : Nat → Nat) (r : List Value) : ((r.map (hcz ad)).map fun v => v.category).sum = hCats r := by
  unfold hCats
  rw [List.map_map]
  congr 1
  apply List.map_congr_left
  intro v _
  exact hcz_cat ad v
theorem hx_objinit {len pc x y : Nat} {z : Int32} {zl : Int64} {ts : List Nat} {i : Nat} {k' : Nat} {L' st' : List Value} {h1 : hH} (hq : hmR mi = some q) (he : hI mi k = some (.invokespecial i, len, pc, x, y, z, zl, ts)) (X : hCtx g p R s m args meth c q Ts) (hh : hHR g h H) (hl : hLR g.2.2.1 L ls q.2.2.1) (hlo : ∀ z ∈ locs, g.2.2.2.2.2.size ≤ z.base) (hs : hStep (.invokespecial i, len, pc, x, y, z, zl, ts) k L st h = some (k', L', st', h1)) (hx : x = 1000) (kk : hGo g p l en R s m args below meth c Q q.2.2.1 (hPc mi k') L' st' h h1 cells slots) : W p l en R s m args below meth c H locs cells slots Q (F0 m pc ls (st.map (hcz g.2.2.1))) := by
  have hdg := hdec hq he
  have ok := hok hq he
  simp only [hOK, hNx, hTg, Bool.and_eq_true, beq_iff_eq, decide_eq_true_eq] at ok
  subst hx
  rw [if_pos rfl] at ok
  simp only [Bool.and_eq_true, decide_eq_true_eq] at ok
  obtain ⟨⟨ok1, ok3⟩, ⟨ok2, ok4⟩, ok5⟩ := ok
  subst ok1
  unfold hStep at hs
  dsimp only at hs
  unfold hObj at hs
  split at hs
  · rename_i a r
    split at hs
    · rename_i hz
      simp only [Option.some.injEq, Prod.mk.injEq] at hs
      obtain ⟨rfl, rfl, rfl, rfl⟩ := hs
      rw [ok3] at kk
      obtain ⟨r2, hr, hb⟩ := List.any_eq_true.mp ok2
      simp only [Bool.and_eq_true, beq_iff_eq] at hb
      have hw := List.all_eq_true.mp hwo_all r2 hr
      simp only [decide_eq_true_eq] at hw
      rw [hb.1, hb.2] at hw
      have hlk := hwv_all
      simp only [Bool.and_eq_true, decide_eq_true_eq] at hlk
      have hfr := X.2.2.2.2.2.2.2.1
      have hlo2 := X.2.2.2.2.2.2.2.2.1
      refine W.objInit X.1 X.2.1 X.2.2.2.1 (X.word hw rfl) (X.word hlk.1.1.1.1.1.1.1.1.2 rfl) (X.word hlk.1.1.1.1.1.1.1.2 rfl) rfl (by rw [X.2.2.1]; exact hl.1) rfl hdg (by omega) ?_ (kk.at hh hl hlo)
      show 2 * 0 + ((r.map (hcz g.2.2.1)).map fun v => v.category).sum + 12 ≤ R.locals
      rw [hCats_map]
      omega
    · cases hs
  · cases hs
theorem hCpy_inv {k' : Nat} {L' st' : List Value} {h1 : hH} (hs : hCpy k L st h = some (k', L', st', h1)) : ∃ n dp a sp a0 r n0 n1 f f1, st = .int n :: .int dp :: .ref a :: .int sp :: .ref a0 :: r ∧ h.2.2 a0 = .inr (0, n0, .inl f) ∧ h.2.2 a = .inr (0, n1, .inl f1) ∧ (¬ sp < 0 ∧ ¬ dp < 0 ∧ ¬ n < 0 ∧ sp.toNatClampNeg + n.toNatClampNeg ≤ n0 ∧ dp.toNatClampNeg + n.toNatClampNeg ≤ n1 ∧ hCats r ≤ 8) ∧ k' = k + 1 ∧ L' = L ∧ st' = r ∧ h1 = hSt h a (.inr (0, n1, .inl (va_cpy f f1 sp.toNatClampNeg dp.toNatClampNeg n.toNatClampNeg))) := by
  unfold hCpy at hs
  split at hs
  · rename_i n dp a sp a0 r
    split at hs
    · rename_i t0 n0 f t1 n1 f1 e0 e1
      split at hs
      · rename_i hc
        obtain ⟨rfl, rfl, hc⟩ := hc
        simp only [Option.some.injEq, Prod.mk.injEq] at hs
        obtain ⟨a1, b1, c1, d1⟩ := hs
        exact ⟨n, dp, a, sp, a0, r, n0, n1, f, f1, rfl, e0, e1, hc, a1.symm, b1.symm, c1.symm, d1.symm⟩
      · cases hs
    · cases hs
  · cases hs
theorem hx_arraycopy {len pc x y : Nat} {z : Int32} {zl : Int64} {ts : List Nat} {i : Nat} {k' : Nat} {L' st' : List Value} {h1 : hH} (hq : hmR mi = some q) (he : hI mi k = some (.invokestatic i, len, pc, x, y, z, zl, ts)) (X : hCtx g p R s m args meth c q Ts) (hh : hHR g h H) (hl : hLR g.2.2.1 L ls q.2.2.1) (hlo : ∀ z ∈ locs, g.2.2.2.2.2.size ≤ z.base) (hs : hStep (.invokestatic i, len, pc, x, y, z, zl, ts) k L st h = some (k', L', st', h1)) (hx : x = 1001) (kk : hGo g p l en R s m args below meth c Q q.2.2.1 (hPc mi k') L' st' h h1 cells slots) : W p l en R s m args below meth c H locs cells slots Q (F0 m pc ls (st.map (hcz g.2.2.1))) := by
  have hdg := hdec hq he
  have ok := hok hq he
  simp only [hOK, hNx, hTg, Bool.and_eq_true, beq_iff_eq, decide_eq_true_eq] at ok
  subst hx
  rw [if_pos rfl] at ok
  simp only [Bool.and_eq_true, decide_eq_true_eq] at ok
  obtain ⟨⟨ok1, ok3⟩, ⟨ok2, ok4⟩, ok5⟩ := ok
  subst ok1
  obtain ⟨n, dp, a, sp, a0, r, n0, n1, f, f1, rfl, e0, e1, ⟨c1, c2, c3, c4, c5, c6⟩, rfl, rfl, rfl, rfl⟩ := hCpy_inv hs
  rw [ok3] at kk
  obtain ⟨r2, hr, hb⟩ := List.any_eq_true.mp ok2
  simp only [Bool.and_eq_true, beq_iff_eq] at hb
  have hw := List.all_eq_true.mp hwa_all r2 hr
  simp only [decide_eq_true_eq] at hw
  rw [hb.1, hb.2] at hw
  have hlk := hwv_all
  simp only [Bool.and_eq_true, decide_eq_true_eq] at hlk
  have hfr := X.2.2.2.2.2.2.2.1
  have hlo2 := X.2.2.2.2.2.2.2.2.1
  have g0 := hh.2.2.1 a0
  rw [e0] at g0
  have g1 := hh.2.2.1 a
  rw [e1] at g1
  obtain ⟨b1, hc0⟩ := g0.1 (by omega)
  obtain ⟨b2, hc1⟩ := g1.1 (by omega)
  have nn : ∀ z : Int32, ¬ z < 0 → z.toInt = (z.toNatClampNeg : Int) := by
    intro z hz
    have hz0 : (0 : Int) ≤ z.toInt := by
      have := Int32.not_lt.mp hz
      simpa using Int32.le_iff_toInt_le.mp this
    show z.toInt = ((z.toInt.toNat : Nat) : Int)
    omega
  intro T hT XX
  obtain ⟨-, k0, hk0, cm0, hkk0⟩ := (hArr_of X (t := 0) (by omega)).1 n0 (fun j => .int (f j))
  obtain ⟨-, k1, hk1, cm1, hkk1⟩ := (hArr_of X (t := 0) (by omega)).1 n1 (fun j => .int (f1 j))
  obtain ⟨vm', X', step⟩ := XX.arraycopy X.1 X.2.2.2.1 (X.word hw rfl) (X.word hlk.1.1.1.1.1.1.2 rfl) (X.word hlk.1.1.1.1.1.2 rfl) (X.word hlk.1.1.1.1.2 rfl) (src := g.2.2.1 a0) (dst := g.2.2.1 a) (cs := arrV (g.2.1 0) n0 (fun j => .int (f j))) (cd := arrV (g.2.1 0) n1 (fun j => .int (f1 j))) (srcPos := sp) (destPos := dp) (n := n) (by rw [hT]; exact hc0) (by rw [hT]; exact hc1)
    (fun _ h => by cases h) (fun _ h => by cases h) (fun h => by cases h) (fun h => by cases h) hk0 hk1 hkk0 hkk1 (by rfl) c1 c2 c3
    (by rw [nn sp c1, nn n c3, arrV_size]; omega)
    (by rw [nn dp c2, nn n c3, arrV_size]; omega)
    (fun vm₁ _ i hi => by
      have e : (arrV (g.2.1 0) n0 (fun j => .int (f j))).slots.getD (sp.toNatClampNeg + i) .null = .int (f (sp.toNatClampNeg + i)) := by
        rw [Array.getD_eq_getD_getElem?, arrV_read _ _ (by omega)]
        rfl
      refine ⟨?_, ?_⟩
      · rw [e]; rfl
      · rw [e]; exact trivial)
    (g := F0 m pc ls (.int n :: .int dp :: .ref (g.2.2.1 a) :: .int sp :: .ref (g.2.2.1 a0) :: st'.map (hcz g.2.2.1))) rfl (by rw [X.2.2.1]; exact hl.1) (rest := st'.map (hcz g.2.2.1)) rfl (by rw [X.2.1]; exact hdg) (by omega) (by
      show 2 * 0 + ((st'.map (hcz g.2.2.1)).map fun v => v.category).sum + (nativeFrameWords "java/lang/System" "arraycopy" 5 + 11) ≤ R.locals
      rw [hCats_map, show nativeFrameWords "java/lang/System" "arraycopy" 5 = 7 from by decide +kernel]
      omega)
  have e1' : copied (arrV (g.2.1 0) n0 (fun j => .int (f j))) (arrV (g.2.1 0) n1 (fun j => .int (f1 j))) sp dp n = arrV (g.2.1 0) n1 (fun j => .int (va_cpy f f1 sp.toNatClampNeg dp.toNatClampNeg n.toNatClampNeg j)) := va_copied (fun z => .int z) (g.2.1 0) (g.2.1 0) f f1 c4
  rw [e1'] at X' step
  have hlt : g.2.2.1 a < H.size := (Array.getElem?_eq_some_iff.mp hc1).1
  have hheap : ((T.setVm vm').setCell (g.2.2.1 a) (arrV (g.2.1 0) n1 (fun j => .int (va_cpy f f1 sp.toNatClampNeg dp.toNatClampNeg n.toNatClampNeg j)))).heap = H.setIfInBounds (g.2.2.1 a) (arrV (g.2.1 0) n1 (fun j => .int (va_cpy f f1 sp.toNatClampNeg dp.toNatClampNeg n.toNatClampNeg j))) := by rw [← hT]; rfl
  obtain ⟨t, a1, b1⟩ := kk _ _ ls cells slots rfl rfl (hh.put (H1 := H.setIfInBounds (g.2.2.1 a) (arrV (g.2.1 0) n1 (fun j => .int (va_cpy f f1 sp.toNatClampNeg dp.toNatClampNeg n.toNatClampNeg j)))) X.2.2.2.2.2.2.2.2.2.2 b2 (by simp) (fun z hz => by simp [Array.getElem?_setIfInBounds, Ne.symm hz]) ⟨fun _ => ⟨b2, by simp [Array.getElem?_setIfInBounds, hlt]⟩, fun w => by omega, g1.2.2⟩) hl (fun z hz => by
      rcases List.mem_append.mp hz with h | h
      · exact hlo z h
      · obtain ⟨y, -, hy⟩ := List.mem_map.mp h
        rw [← hy]
        exact b2) _ hheap X'
  exact ⟨t, step t a1, b1⟩
theorem hStp {e : hE} {k' : Nat} {L' st' : List Value} {h1 : hH} (hq : hmR mi = some q) (he : hI mi k = some e) (hkd : hKd e = 0) (X : hCtx g p R s m args meth c q Ts) (hh : hHR g h H) (hl : hLR g.2.2.1 L ls q.2.2.1) (hlo : ∀ z ∈ locs, g.2.2.2.2.2.size ≤ z.base) (hs : hStep e k L st h = some (k', L', st', h1)) (hc : cells + h1.1 ≤ R.cells + h.1) (hsl : slots + h1.2.1 ≤ R.slots + h.2.1) (kk : hGo g p l en R s m args below meth c Q q.2.2.1 (hPc mi k') L' st' h h1 cells slots) : W p l en R s m args below meth c H locs cells slots Q (F0 m e.2.2.1 ls (st.map (hcz g.2.2.1))) := by
  obtain ⟨i, len, pc, x, y, z, zl, ts⟩ := e
  cases i with
  | iload i => exact hx_iload hq he X hh hl hlo hs kk
  | iload_n i => exact hx_iload_n hq he X hh hl hlo hs kk
  | lload i => exact hx_lload hq he X hh hl hlo hs kk
  | lload_n i => exact hx_lload_n hq he X hh hl hlo hs kk
  | aload i => exact hx_aload hq he X hh hl hlo hs kk
  | aload_n i => exact hx_aload_n hq he X hh hl hlo hs kk
  | istore i => exact hx_istore hq he X hh hl hlo hs kk
  | istore_n i => exact hx_istore_n hq he X hh hl hlo hs kk
  | astore i => exact hx_astore hq he X hh hl hlo hs kk
  | astore_n i => exact hx_astore_n hq he X hh hl hlo hs kk
  | lstore i => exact hx_lstore hq he X hh hl hlo hs kk
  | lstore_n i => exact hx_lstore_n hq he X hh hl hlo hs kk
  | iinc i n => exact hx_iinc hq he X hh hl hlo hs kk
  | iconst i => exact hx_iconst hq he X hh hl hlo hs kk
  | bipush i => exact hx_bipush hq he X hh hl hlo hs kk
  | sipush i => exact hx_sipush hq he X hh hl hlo hs kk
  | ldc i => exact hx_ldc hq he X hh hl hlo hs kk
  | ldc_w i => exact hx_ldc_w hq he X hh hl hlo hs kk
  | ldc2_w i => exact hx_ldc2_w hq he X hh hl hlo hs kk
  | lconst i => exact hx_lconst hq he X hh hl hlo hs kk
  | aconst_null => exact hx_aconst_null hq he X hh hl hlo hs kk
  | iadd => exact hx_iadd hq he X hh hl hlo hs kk
  | isub => exact hx_isub hq he X hh hl hlo hs kk
  | imul => exact hx_imul hq he X hh hl hlo hs kk
  | iand => exact hx_iand hq he X hh hl hlo hs kk
  | ior => exact hx_ior hq he X hh hl hlo hs kk
  | ishl => exact hx_ishl hq he X hh hl hlo hs kk
  | ishr => exact hx_ishr hq he X hh hl hlo hs kk
  | iushr => exact hx_iushr hq he X hh hl hlo hs kk
  | idiv => exact hx_idiv hq he X hh hl hlo hs kk
  | irem => exact hx_irem hq he X hh hl hlo hs kk
  | ineg => exact hx_ineg hq he X hh hl hlo hs kk
  | i2l => exact hx_i2l hq he X hh hl hlo hs kk
  | i2b => exact hx_i2b hq he X hh hl hlo hs kk
  | l2i => exact hx_l2i hq he X hh hl hlo hs kk
  | ladd => exact hx_ladd hq he X hh hl hlo hs kk
  | lmul => exact hx_lmul hq he X hh hl hlo hs kk
  | land => exact hx_land hq he X hh hl hlo hs kk
  | lcmp => exact hx_lcmp hq he X hh hl hlo hs kk
  | ldiv => exact hx_ldiv hq he X hh hl hlo hs kk
  | lrem => exact hx_lrem hq he X hh hl hlo hs kk
  | dup => exact hx_dup hq he X hh hl hlo hs kk
  | dup2 => exact hx_dup2 hq he X hh hl hlo hs kk
  | pop => exact hx_pop hq he X hh hl hlo hs kk
  | goto i => exact hx_goto hq he X hh hl hlo hs kk
  | ifCond i n => exact hx_ifCond hq he X hh hl hlo hs kk
  | if_icmp i n => exact hx_if_icmp hq he X hh hl hlo hs kk
  | ifnull i => exact hx_ifnull hq he X hh hl hlo hs kk
  | ifnonnull i => exact hx_ifnonnull hq he X hh hl hlo hs kk
  | getfield i => exact hx_getfield hq he X hh hl hlo hs kk
  | putfield i => exact hx_putfield hq he X hh hl hlo hs kk
  | getstatic i => exact hx_getstatic hq he X hh hl hlo hs kk
  | iaload => exact hx_iaload hq he X hh hl hlo hs kk
  | iastore => exact hx_iastore hq he X hh hl hlo hs kk
  | baload => exact hx_baload hq he X hh hl hlo hs kk
  | bastore => exact hx_bastore hq he X hh hl hlo hs kk
  | aaload => exact hx_aaload hq he X hh hl hlo hs kk
  | aastore => exact hx_aastore hq he X hh hl hlo hs kk
  | arraylength => exact hx_arraylength hq he X hh hl hlo hs kk
  | tableswitch a b d f => exact hx_tsw hq he X hh hl hlo hs kk
  | lookupswitch a b => exact hx_lsw hq he X hh hl hlo hs kk
  | new i => exact hx_new hq he X hh hl hlo hs hc hsl kk
  | newarray i => exact hx_newarray hq he X hh hl hlo hs hc hsl kk
  | anewarray i => exact hx_anewarray hq he X hh hl hlo hs hc hsl kk
  | invokespecial i =>
    by_cases hx : x = 1000
    · exact hx_objinit hq he X hh hl hlo hs hx kk
    · simp [hKd, hx] at hkd
  | invokestatic i =>
    by_cases hx : x = 1001
    · exact hx_arraycopy hq he X hh hl hlo hs hx kk
    · simp [hKd, hx] at hkd
  | _ => simp [hStep] at hs
end HSW
