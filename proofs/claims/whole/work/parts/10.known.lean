/-! WHAT IS KNOWN ALL ALONG -/
theorem hm_lt {mi : Nat} {q : hR} (h : hmR mi = some q) : mi < 283 := by
  rcases Nat.lt_or_ge mi 283 with hl | hl
  · exact hl
  · exfalso
    unfold hmR at h
    by_cases h2 : mi < 288
    · have : mi = 283 ∨ mi = 284 ∨ mi = 285 ∨ mi = 286 ∨ mi = 287 := by omega
      rcases this with rfl | rfl | rfl | rfl | rfl <;> cases h
    · have h3 : hmT[mi / 16]? = none := by
        have : hmT.length = 18 := rfl
        simp [this]
        omega
      rw [h3] at h
      cases h
theorem all_rg {f : Nat → Bool} {a n mi : Nat} (h : (List.range' a n).all f = true) (h1 : a ≤ mi) (h2 : mi < a + n) : f mi = true := by
  have := List.all_eq_true.mp h mi (by rw [List.mem_range'_1]; omega)
  exact this
theorem hI_of {mi k : Nat} {e : hE} (h : hI mi k = some e) : ∃ r, (hP mi)[k / 16]? = some r ∧ r[k % 16]? = some e := by
  unfold hI hJ at h
  cases hr : (hP mi)[k / 16]? with
  | none => rw [hr] at h; cases h
  | some r => rw [hr] at h; exact ⟨r, rfl, h⟩
theorem hok {mi k : Nat} {q : hR} {e : hE} (hq : hmR mi = some q) (he : hI mi k = some e) : hOK mi k q e = true := by
  have hm : hOKm mi = true := by
    have h1 := hm_lt hq
    rcases Nat.lt_or_ge mi 40 with h | h
    · exact all_rg hok_0 (by omega) (by omega)
    rcases Nat.lt_or_ge mi 80 with h | h
    · exact all_rg hok_1 (by omega) (by omega)
    rcases Nat.lt_or_ge mi 120 with h | h
    · exact all_rg hok_2 (by omega) (by omega)
    rcases Nat.lt_or_ge mi 160 with h | h
    · exact all_rg hok_3 (by omega) (by omega)
    rcases Nat.lt_or_ge mi 200 with h | h
    · exact all_rg hok_4 (by omega) (by omega)
    rcases Nat.lt_or_ge mi 240 with h | h
    · exact all_rg hok_5 (by omega) (by omega)
    rcases Nat.lt_or_ge mi 278 with h | h
    · exact all_rg hok_6 (by omega) (by omega)
    rcases Nat.lt_or_ge mi 279 with h | h
    · exact all_rg hok_7 (by omega) (by omega)
    · exact all_rg hok_8 (by omega) (by omega)
  unfold hOKm at hm
  rw [hq] at hm
  obtain ⟨r, h1, h2⟩ := hI_of he
  have h3 := List.all_eq_true.mp hm (r, k / 16) (List.mem_zipIdx_iff_getElem?.mpr h1)
  have h4 := List.all_eq_true.mp h3 (e, k % 16) (List.mem_zipIdx_iff_getElem?.mpr h2)
  dsimp only at h4
  rwa [Nat.div_add_mod] at h4
theorem hdec {mi k : Nat} {q : hR} {e : hE} (hq : hmR mi = some q) (he : hI mi k = some e) : decode q.2.1 e.2.2.1 = .ok (e.1, e.2.1) := by
  have hm : hDm mi = true := by
    have h1 := hm_lt hq
    rcases Nat.lt_or_ge mi 40 with h | h
    · exact all_rg hdm_0 (by omega) (by omega)
    rcases Nat.lt_or_ge mi 80 with h | h
    · exact all_rg hdm_1 (by omega) (by omega)
    rcases Nat.lt_or_ge mi 120 with h | h
    · exact all_rg hdm_2 (by omega) (by omega)
    rcases Nat.lt_or_ge mi 160 with h | h
    · exact all_rg hdm_3 (by omega) (by omega)
    rcases Nat.lt_or_ge mi 200 with h | h
    · exact all_rg hdm_4 (by omega) (by omega)
    rcases Nat.lt_or_ge mi 240 with h | h
    · exact all_rg hdm_5 (by omega) (by omega)
    rcases Nat.lt_or_ge mi 278 with h | h
    · exact all_rg hdm_6 (by omega) (by omega)
    rcases Nat.lt_or_ge mi 279 with h | h
    · exact all_rg hdm_7 (by omega) (by omega)
    · exact all_rg hdm_8 (by omega) (by omega)
  unfold hDm at hm
  rw [hq] at hm
  obtain ⟨r, h1, h2⟩ := hI_of he
  exact hDq_ok hm r (List.mem_of_getElem? h1) e (List.mem_of_getElem? h2)
theorem hwm {mi : Nat} {q : hR} (hq : hmR mi = some q) : hWm q = true ∧ hWc q = hWd q := by
  unfold hmR at hq
  cases hl : hmT[mi / 16]? with
  | none => rw [hl] at hq; cases hq
  | some l =>
    rw [hl] at hq
    have hin := List.mem_of_getElem? hq
    refine ⟨List.all_eq_true.mp (List.all_eq_true.mp hwm_all l (List.mem_of_getElem? hl)) q hin, ?_⟩
    have key : l.map hWc = l.map hWd := by
      have hm := List.mem_of_getElem? hl
      unfold hmT at hm
      simp only [List.mem_cons, List.not_mem_nil, or_false] at hm
      rcases hm with rfl | rfl | rfl | rfl | rfl | rfl | rfl | rfl | rfl | rfl | rfl | rfl | rfl | rfl | rfl | rfl | rfl | rfl
      · exact hwk_0
      · exact hwk_1
      · exact hwk_2
      · exact hwk_3
      · exact hwk_4
      · exact hwk_5
      · exact hwk_6
      · exact hwk_7
      · exact hwk_8
      · exact hwk_9
      · exact hwk_10
      · exact hwk_11
      · exact hwk_12
      · exact hwk_13
      · exact hwk_14
      · exact hwk_15
      · exact hwk_16
      · exact hwk_17
    have h2 := congrArg (fun z => z[mi % 16]?) key
    simp only [List.getElem?_map, hq, Option.map_some] at h2
    exact Option.some.inj h2
theorem hcl_at {ci : Nat} (h : ci < 10) : vwCl[ci]? = some (hNm ci, hTX ci, hNf ci) := by
  match ci, h with
  | 0, _ => rfl
  | 1, _ => rfl
  | 2, _ => rfl
  | 3, _ => rfl
  | 4, _ => rfl
  | 5, _ => rfl
  | 6, _ => rfl
  | 7, _ => rfl
  | 8, _ => rfl
  | 9, _ => rfl
theorem hty_at {ci : Nat} (h : ci < 10) : ∀ k, k < hNf ci → parseFieldDescriptor (hTX ci k).2.2.1 = some (hTy ci k) := by
  match ci, h with
  | 0, _ => exact tyX0_ok
  | 1, _ => exact tyX1_ok
  | 2, _ => exact tyX2_ok
  | 3, _ => exact tyX3_ok
  | 4, _ => exact tyX4_ok
  | 5, _ => exact tyX5_ok
  | 6, _ => exact tyX6_ok
  | 7, _ => exact tyX7_ok
  | 8, _ => exact tyX8_ok
  | 9, _ => exact tyX9_ok
theorem hnm_at {ci : Nat} (h : ci < 10) : ∀ a, a < hNf ci → ∀ b, b < hNf ci → a ≠ b → (hTX ci a).2.1 ≠ (hTX ci b).2.1 := by
  match ci, h with
  | 0, _ => exact nmX0
  | 1, _ => exact nmX1
  | 2, _ => exact nmX2
  | 3, _ => exact nmX3
  | 4, _ => exact nmX4
  | 5, _ => exact nmX5
  | 6, _ => exact nmX6
  | 7, _ => exact nmX7
  | 8, _ => exact nmX8
  | 9, _ => exact nmX9
def hAty (t : Nat) : FieldType := match t with
  | 3 => .array .int
  | 4 => .object "HeavyThings$Shelf"
  | 5 => .object "HeavyThings$Summary"
  | _ => .object "HeavyThings$Window"
/-- the class of an array of references -/
def hRA (g : hV) (t : Nat) (U : State) : Prop := ∃ (kA : Class) (comp : ClassId) (kc : Class), U.vm.classes[g.2.1 t]? = some kA ∧ kA.kind = .array comp (hAty t) ∧ U.vm.findClass (hAn t) = some comp ∧ U.vm.classes[comp]? = some kc ∧ U.vm.findClass ("[" ++ (hAty t).toString) = some (g.2.1 t)
def hAO (t : Nat) (U : State) : Prop := (Cond.arrayOver (hAty t)).before #[] U = true
theorem hRA.moved {g : hV} {t : Nat} {u U : State} (hvm : u.vm.Alike U.vm) (h : hRA g t u) : hRA g t U := by
  obtain ⟨kA, comp, kc, h1, h2, h3, h4, h5⟩ := h
  obtain ⟨k', hk', he⟩ := hvm.2.2 _ _ h1
  obtain ⟨k2, hk2, he2⟩ := hvm.2.2 _ _ h4
  exact ⟨k', comp, k2, hk', by rw [he]; exact h2, by rw [hvm.findClass]; exact h3, hk2, by rw [hvm.findClass]; exact h5⟩
theorem hAO3.moved {u U : State} (hvm : u.vm.Alike U.vm) (h : (Cond.arrayOver (.array .int)).before #[] u = true) : (Cond.arrayOver (.array .int)).before #[] U = true := by
  obtain ⟨comp, c, k, h1, h2, h3, h4, h5⟩ := arrayOverA_spec h
  obtain ⟨k', hk', he⟩ := hvm.2.2 _ _ h3
  have hi : (U.vm.classes.findIdx? fun (x : Class) => match x.kind with | .array component _ => component == comp | _ => false) = some c := by
    rw [hvm.findIdx?_eq _ (fun _ => rfl)]
    exact h2
  have hkind : k'.kind = .array comp (.array .int) := by rw [he]; exact h4
  have f1 : U.vm.findClass (FieldType.array .int).toString = some comp := by rw [hvm.findClass]; exact h1
  have f2 : U.vm.findClass ("[" ++ (FieldType.array .int).toString) = some c := by rw [hvm.findClass]; exact h5
  unfold Cond.before Cond.holds
  simp only [Cond.value]
  rw [f1, Option.bind_some]
  refine (congrArg (fun o : Option Nat => (o.bind (fun c => (U.vm.classes[c]?).map fun (k : Class) => match k.kind with | .array _ ty => decide (ty = FieldType.array .int) && decide (U.vm.findClass ("[" ++ (FieldType.array .int).toString) = some c) | _ => false) == some true)) hi).trans ?_
  simp [hk', hkind, f2]
theorem hAO.moved {t : Nat} {u U : State} (hvm : u.vm.Alike U.vm) (h1 : 3 ≤ t) (h2 : t ≤ 6) (h : hAO t u) : hAO t U := by
  match t, h1, h2, h with
  | 3, _, _, h => exact hAO3.moved hvm h
  | 4, _, _, h => exact va_AO.moved hvm h
  | 5, _, _, h => exact va_AO.moved hvm h
  | 6, _, _, h => exact va_AO.moved hvm h
def hKN (g : hV) (U : State) : Prop := va_K g.1 vwCl [(g.2.1 0, .int), (g.2.1 1, .byte), (g.2.1 2, .boolean)] U ∧ (∀ t, 3 ≤ t → t ≤ 6 → hRA g t U ∧ hAO t U) ∧ va_X (g.2.2.1 0) g.2.2.2.1 g.2.2.2.2.1 U g.2.2.2.2.2 ∧ va_T .int (g.2.2.1 1) 4 (fun j => .int (hWid j)) (fun q => g.2.2.2.2.2.size ≤ q) U g.2.2.2.2.2 ∧ va_Z "HeavyThings$Tree" "WIDTHS" "[I" (.ref (g.2.2.1 1)) (fun q => g.2.2.2.2.2.size ≤ q) U g.2.2.2.2.2 ∧ ∀ r ∈ hmn, va_Nw (.methodLinkNest (hNm r.1) r.2.1 (hMn r.2.2.1) (hNm r.2.2.2.1)) U
theorem hKN.warm {g : hV} {s U : State} (hW : s.WarmedH U.vm) (h : hKN g s) : hKN g U := by
  obtain ⟨h1, h2, h3, h4, h5, h6⟩ := h
  exact ⟨h1.moved hW.alike, fun t a b => ⟨(h2 t a b).1.moved hW.alike, (h2 t a b).2.moved hW.alike a b⟩, va_X.moved hW.alike h3, h4.moved hW.alike, h5.moved hW.alike, fun r hr => va_Nw.warmM hW (h6 r hr)⟩
theorem hKN.same {g : hV} {s U : State} (e : s.vm = U.vm) (h : hKN g s) : hKN g U := by
  have hW : s.vm.Alike U.vm := by rw [e]; exact Vm.Alike.refl U.vm
  obtain ⟨h1, h2, h3, h4, h5, h6⟩ := h
  exact ⟨h1.moved hW, fun t a b => ⟨(h2 t a b).1.moved hW, (h2 t a b).2.moved hW a b⟩, va_X.moved hW h3, h4.moved hW, h5.moved hW, fun r hr => va_Nw.same rfl e (h6 r hr)⟩
/-- inside a method -/
def hCtx (g : hV) (p : Program) (R : Room) (s : State) (m : MethodId) (args : Array Value) (meth : Method) (c : Code) (q : hR) (Ts : List Jvm.Cond) : Prop :=
  p.tables.exec = Jvm.exec ∧ c.code = q.2.1 ∧ c.maxLocals = q.2.2.1 ∧ s.vm.findClass (hNm q.2.2.2.2.2.1) = some m.cls ∧ (∀ w ∈ Ts, w.before args s = true) ∧ (∀ w : Jvm.Cond, w ∈ lw_tbl → goodWord w = true → w ∈ Ts) ∧ hKN g s ∧ q.2.2.2.2.2.2.2.1 ≤ R.frames ∧ q.2.2.2.2.2.2.2.2.1 ≤ R.locals ∧ (q.1.name = "<init>" → meth.name = "<init>") ∧ hAdOk g
theorem hCtx.word {g : hV} {p : Program} {R : Room} {s : State} {m : MethodId} {args : Array Value} {meth : Method} {c : Code} {q : hR} {Ts : List Jvm.Cond} (X : hCtx g p R s m args meth c q Ts) {w : Jvm.Cond} {i : Nat} (h : lw_tbl[i]? = some w) (hg : goodWord w = true) : w.before args s = true := X.2.2.2.2.1 w (X.2.2.2.2.2.1 w (List.mem_of_getElem? h) hg)
