/-! THE CLAIM OUT OF ONE WALK OF THE LAW'S BODY. Your part is whole_start (and what it stands on); all else here is the same for every law, but numbers. -/
def R_law : String := "HeavyThingsLaw"
def lw_P (b : Addr) (xs : List Int32) (args : Array Value) (s : State) : Prop := args = #[.ref b] ∧ s.IntsAt b xs ∧ xs.length ≤ 2560 ∧ (Jvm.Cond.and given_1 narrow_1).before args s = true
def lw_Q (_ : Array Value) (s : State) (o : Outcome) (t : State) : Prop := o = .returned (some (.int 1)) ∧ Framed s o t [] 600000 7302250
def lw_Z (below : List Frame) (a : Array Value) (s : State) : State → Prop := fun t => ∃ o, t.status = .running ∧ Ended t below o ∧ lw_Q a s o t
/-- the law's own end, with 1 on the stack, nothing written that was there before, its room as the claim has it -/
theorem lw_ret {p : Program} {l : Launch} {e : Env} {s : State} {m : MethodId} {below : List Frame} {meth : Method} {c : Code} {b : Nat} (hx : p.tables.exec = Jvm.exec) (hb : c.code = code) (hr : meth.sig.returnType = ret) (hlocks : meth.locks = false) {pc : Nat} {H : Heap} {ls : Array Slot} (hdg : decode code pc = .ok (.ireturn, 1)) : W p l e room_1 s m #[Value.ref b] below meth c H [] 600000 7302250 (lw_Z below #[Value.ref b] s) (F0 m pc ls [.int 1]) := by
  intro T hT X
  obtain ⟨fs, hret, hrun, hended, hW, hframe⟩ := X.leave (v := some (.int 1)) (hlocks := hlocks) (fun h => by rw [hr] at h; cases h)
  have hmeth' : T.vm.method? m = some meth := X.method'
  refine ⟨T.setFrames fs, ?_, .returned (some (.int 1)), hrun, hended, rfl, ⟨_, rfl⟩, hW, hframe⟩
  jvm_step X.here [X.here.top, hx, hb, hdg, hmeth', hr, ret, narrow_b1]
  (try refine ⟨rfl, ?_⟩); (try refine ⟨rfl, ?_⟩)
  first | (intro acts; rw [hret _ acts rfl rfl rfl]) | rw [hret _ _ rfl rfl rfl]
  exact Steps.refl _
/-- what holds at the law's entry: the machine, the code, the tables' words (any of lw_tbl by 'hts w (by decide +kernel)'), the script of L ints xs at the cell b, what the Statement gives of the start (any of its parts by flat_of_before) -/
def lw_At (p : Program) (s : State) (m : MethodId) (meth : Method) (c : Code) (b L : Nat) (xs : Nat → Int32) : Prop :=
  p.tables.exec = Jvm.exec ∧ c.code = code ∧ meth.sig.returnType = ret ∧ c.maxLocals = 4 ∧ s.vm.findClass R_law = some m.cls ∧ (∀ w ∈ lw_tbl, w.before #[Value.ref b] s = true) ∧ va_X b L xs s s.heap ∧ b < s.heap.size ∧ meth.locks = false ∧ (Jvm.Cond.and given_1 narrow_1).before #[Value.ref b] s = true
/-- what is known at the law's entry -/
theorem hKn_start {s : State} {b L : Nat} {xs : Nat → Int32} (hts : ∀ w ∈ lw_tbl, w.before #[Value.ref b] s = true) (hX : va_X b L xs s s.heap) (hbl : b < s.heap.size) (hgv : (Jvm.Cond.and given_1 narrow_1).before #[Value.ref b] s = true) : ∃ g : hV, hAdOk g ∧ hKN g s ∧ g.2.2.1 0 = b ∧ g.2.2.2.1 = L ∧ g.2.2.2.2.1 = xs ∧ g.2.2.2.2.2 = s.heap := by
  have hw : ∀ {w : Jvm.Cond} {i : Nat}, lw_tbl[i]? = some w → w.before #[Value.ref b] s = true := fun h => hts _ (List.mem_of_getElem? h)
  have hlk := hwv_all
  simp only [Bool.and_eq_true, decide_eq_true_eq] at hlk
  obtain ⟨⟨⟨⟨⟨⟨⟨⟨⟨⟨⟨⟨⟨⟨⟨v1, v2⟩, v3⟩, v4⟩, v5⟩, v6⟩, v7⟩, v8⟩, v9⟩, v10⟩, v11⟩, v12⟩, v13⟩, v14⟩, v15⟩, v16⟩ := hlk
  have hcls : ∀ ci : Nat, ∃ pr : ClassId × (Nat → Nat), ci < 10 → u_Kn s (hNm ci) (hTX ci) (hNf ci) pr.1 pr.2 := by
    intro ci
    by_cases h : ci < 10
    · have hi := List.all_eq_true.mp hwi_all ci (List.mem_range.mpr h)
      obtain ⟨r2, hr2, hb2⟩ := List.any_eq_true.mp hi
      simp only [Bool.and_eq_true, beq_iff_eq, decide_eq_true_eq] at hb2
      obtain ⟨cC, iS, hK⟩ := u_known (C := hNm ci) (T := hTX ci) (N := hNf ci) (n := hNf ci) hts (fun w hw => by
        have h1 := List.all_eq_true.mp hwu_all ci (List.mem_range.mpr h)
        have h2 := List.all_eq_true.mp h1 w hw
        simpa using h2) (hw hb2.1.2)
      exact ⟨(cC, iS), fun _ => hK⟩
    · exact ⟨(0, fun _ => 0), fun w => absurd w h⟩
  obtain ⟨c0, k0, m0, f0, g0, d0⟩ := Cond.arrayClass_spec (hw v1)
  obtain ⟨c1, k1, m1, f1, g1, d1⟩ := Cond.arrayClass_spec (hw v2)
  obtain ⟨c2, k2, m2, f2, g2, d2⟩ := Cond.arrayClass_spec (hw v3)
  obtain ⟨m5, c5, k5, e5, -, g5, d5, f5⟩ := Cond.arrayOver_spec (hw v4)
  obtain ⟨m4, c4, k4, e4, -, g4, d4, f4⟩ := Cond.arrayOver_spec (hw v5)
  obtain ⟨m6, c6, k6, e6, -, g6, d6, f6⟩ := Cond.arrayOver_spec (hw v6)
  obtain ⟨m3, c3, k3, e3, -, g3, d3, f3⟩ := arrayOverA_spec (hw v7)
  have hA : ∀ a : Nat, a < s.heap.size → ¬ (fun q => s.heap.size ≤ q) a := fun a h => Nat.not_le.mpr h
  have hfl := flat_of_before _ hgv
  obtain ⟨b1, hb1, hT⟩ := va_Tof (tm := .static "HeavyThings$Tree" "WIDTHS" "[I") (ty := .int) (N := 4) (f := fun j => .int (hWid j)) (args := #[Value.ref b]) (by omega) (hfl (.arrayOf (.static "HeavyThings$Tree" "WIDTHS" "[I") .int) (by decide +kernel)) (va_eqt (hfl (.eq (.length (.static "HeavyThings$Tree" "WIDTHS" "[I")) (.int 4)) (by decide +kernel))) (fun j hj => by
    match j, hj with
    | 0, _ => exact va_eqt (hfl (.eq (.elem (.static "HeavyThings$Tree" "WIDTHS" "[I") (.int 0)) (.int 1000)) (by decide +kernel))
    | 1, _ => exact va_eqt (hfl (.eq (.elem (.static "HeavyThings$Tree" "WIDTHS" "[I") (.int 1)) (.int 100)) (by decide +kernel))
    | 2, _ => exact va_eqt (hfl (.eq (.elem (.static "HeavyThings$Tree" "WIDTHS" "[I") (.int 2)) (.int 10)) (by decide +kernel))
    | 3, _ => exact va_eqt (hfl (.eq (.elem (.static "HeavyThings$Tree" "WIDTHS" "[I") (.int 3)) (.int 1)) (by decide +kernel))) hA
  have hini : (Jvm.Cond.initialized "HeavyThings$Tree").before #[Value.ref b] s = true := by
    have hi := List.all_eq_true.mp hwi_all 6 (List.mem_range.mpr (by omega))
    obtain ⟨r2, hr2, hb2⟩ := List.any_eq_true.mp hi
    simp only [Bool.and_eq_true, beq_iff_eq, decide_eq_true_eq] at hb2
    exact hw hb2.2
  have hZ := va_Zref (hw v13) hini hb1 hA
  have hb1l : b1 < s.heap.size := by
    obtain ⟨cell, h1, -⟩ := hT
    exact (Array.getElem?_eq_some_iff.mp h1).1
  refine ⟨((fun ci => (Classical.choose (hcls ci)).1, fun ci => (Classical.choose (hcls ci)).2), (fun t => match t with | 0 => c0 | 1 => c1 | 2 => c2 | 3 => c3 | 4 => c4 | 5 => c5 | _ => c6), hAd b b1 s.heap.size, L, xs, s.heap), ⟨b, b1, hbl, hb1l, rfl⟩, ⟨⟨?_, ?_⟩, ?_, hX, hT, hZ, ?_⟩, rfl, rfl, rfl, rfl⟩
  · intro ci qq hqq
    have hlt : ci < 10 := (List.getElem?_eq_some_iff.mp hqq).1
    rw [hcl_at hlt] at hqq
    cases hqq
    exact Classical.choose_spec (hcls ci) hlt
  · intro k qq hqq
    match k, hqq with
    | 0, hqq => cases hqq; exact ⟨fun n z => ⟨fun k h => (by cases h), k0, g0, m0, d0⟩, f0⟩
    | 1, hqq => cases hqq; exact ⟨fun n z => ⟨fun k h => (by cases h), k1, g1, m1, d1⟩, f1⟩
    | 2, hqq => cases hqq; exact ⟨fun n z => ⟨fun k h => (by cases h), k2, g2, m2, d2⟩, f2⟩
  · intro t t1 t2
    match t, t1, t2 with
    | 3, _, _ =>
      obtain ⟨kc, hkc, -⟩ := Vm.findClass_spec e3
      exact ⟨⟨k3, m3, kc, g3, d3, e3, hkc, f3⟩, (hw v7 : _)⟩
    | 4, _, _ =>
      obtain ⟨kc, hkc, -⟩ := Vm.findClass_spec e4
      exact ⟨⟨k4, m4, kc, g4, d4, e4, hkc, f4⟩, (hw v5 : _)⟩
    | 5, _, _ =>
      obtain ⟨kc, hkc, -⟩ := Vm.findClass_spec e5
      exact ⟨⟨k5, m5, kc, g5, d5, e5, hkc, f5⟩, (hw v4 : _)⟩
    | 6, _, _ =>
      obtain ⟨kc, hkc, -⟩ := Vm.findClass_spec e6
      exact ⟨⟨k6, m6, kc, g6, d6, e6, hkc, f6⟩, (hw v6 : _)⟩
  · intro r hr
    have := List.all_eq_true.mp hwn_all r hr
    simp only [decide_eq_true_eq] at this
    exact va_Nw.of rfl (hw this)
theorem whole_of (hpure : ∀ (L : Nat) (xs : Nat → Int32), L ≤ 2560 → hGoal L xs) {p : Program} {e : Env} {s : State} {m : MethodId} {below : List Frame} {meth : Method} {c : Code} (l : Launch) {b L : Nat} {xs : Nat → Int32} (hL : L ≤ 2560) (C0 : lw_At p s m meth c b L xs) : W p l e room_1 s m #[Value.ref b] below meth c s.heap [] 0 0 (lw_Z below #[Value.ref b] s) (entryFrame m ([Value.ref b] : List Value).toArray 4) := by
  obtain ⟨hx, hb, hr, hml, hown, hts, hX, hbl, hlocks, hgv⟩ := id C0
  obtain ⟨g, ok, hk, e0, e1, e2, e3⟩ := hKn_start hts hX hbl hgv
  obtain ⟨n, h', hex, hc, hs⟩ := hpure L xs hL
  obtain ⟨q, hq⟩ : ∃ q, hmR 278 = some q := ⟨_, rfl⟩
  have hq' : q = (⟨"HeavyThingsLaw", "law", "([I)Z"⟩, code, 4, some .boolean, 1, 10, true, 7, 170, 0, 0, 0, q.2.2.2.2.2.2.2.2.2.2.2.2) := by
    have : hmR 278 = some (⟨"HeavyThingsLaw", "law", "([I)Z"⟩, code, 4, some .boolean, 1, 10, true, 7, 170, 0, 0, 0, _) := rfl
    rw [this] at hq
    cases hq
    rfl
  have X : hCtx g p room_1 s m #[Value.ref b] meth c q lw_tbl := by
    refine ⟨hx, by rw [hq']; exact hb, by rw [hq']; exact hml, by rw [hq']; exact hown, hts, fun w hw _ => hw, hk, by rw [hq']; exact Nat.le_of_ble_eq_true rfl, by rw [hq']; exact Nat.le_of_ble_eq_true rfl, fun hi => by rw [hq'] at hi; simp at hi, ok⟩
  have hh : hHR g (hStart L xs) s.heap := by
    obtain ⟨b0, b1, o1, o2, o3⟩ := id ok
    refine ⟨Nat.le_refl _, by rw [o3, e3]; rfl, fun a => ?_, fun z _ => by rw [e3]⟩
    match a with
    | 0 => exact ⟨fun w => by omega, fun _ => Or.inl ⟨rfl, e1.symm, fun j _ => by rw [e2]⟩, fun _ w => by omega⟩
    | 1 => exact ⟨fun w => by omega, fun _ => Or.inr ⟨rfl, rfl, fun j _ => rfl⟩, fun _ w => by omega⟩
    | a + 2 => exact ⟨fun w => by omega, fun w => by omega, fun _ w => by omega⟩
  have hl := hLR_entry (ad := g.2.2.1) [.ref 0] (n := 4) (by decide)
  rw [lg_entry_eq]
  have hae : ([Value.ref b] : List Value) = [Value.ref 0].map (hcz g.2.2.1) := by rw [← e0]; rfl
  obtain ⟨mm1, mm2⟩ := hExec_mono n hex
  have hq4 : q.2.2.1 = 4 := by rw [hq']
  have main := hSnd l ok n 278 0 [.ref 0, hU, hU, hU] [] (hStart L xs) (some (.int 1)) h' q hq hex p e room_1 s m #[Value.ref b] below meth c (lw_Z below #[Value.ref b] s) lw_tbl s.heap [] 0 0 _ (h'.1 - 2) h'.2.1 X hh (by rw [hq4]; exact hl) (fun z hz => by cases hz) (by show 0 + h'.1 = h'.1 - 2 + 2; have : 2 ≤ h'.1 := mm1; omega) (by show 0 + h'.2.1 = h'.2.1 + 0; omega) (by show h'.1 - 2 ≤ 600000; omega) (by show h'.2.1 ≤ 7302250; omega) ?_
  · rw [hpc0 hq, ← hae] at main
    exact main
  · intro er kr st1 Hr locsr lsr he hret hrok hhr hlr
    have hdg := hdec hq he
    have okk := hok hq he
    obtain ⟨i, len, pc, x, y, z, zl, ts⟩ := er
    unfold hRet at hret
    dsimp only at hret
    split at hret
    · split at hret
      · rename_i v
        cases hret
        simp only [hOK, beq_iff_eq] at okk
        subst okk
        rw [hq'] at hdg
        refine va_forget (fun q hq => by rw [← e3]; exact hlr q hq) ?_
        refine W.widen (k := 600000) (n := 7302250) (by omega) (by omega) ?_
        exact lw_ret hx hb hr hlocks hdg
      · cases hret
    · split at hret <;> cases hret
    · split at hret <;> cases hret
    · split at hret <;> cases hret
    · cases hret
