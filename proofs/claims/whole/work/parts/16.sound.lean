/-! A RUN ON PAPER IS A RUN OF THE MACHINE -/
def hWs (q : hR) : List Jvm.Cond := .code q.1 q.2.1 q.2.2.1 q.2.2.2.1 :: lw_tbl.filter goodWord
def hRm (q : hR) (h h' : hH) : Room := { frames := q.2.2.2.2.2.2.2.1, cells := h'.1 - h.1, slots := h'.2.1 - h.2.1, locals := q.2.2.2.2.2.2.2.2.1 }
def hPre (g : hV) (as : List Value) (h : hH) : Array Value → State → Prop := fun v U => v = (as.map (hcz g.2.2.1)).toArray ∧ hHR g h U.heap ∧ hKN g U
def hPost (g : hV) (r : Option Value) (h' : hH) : Array Value → State → Outcome → State → Prop := fun _ _ o t => o = .returned (r.map (hcz g.2.2.1)) ∧ hHR g h' t.heap
theorem hPre_blind (g : hV) (as : List Value) (h : hH) : FrameBlind (hPre g as h) := fun a U gf mk ⟨e, hh, hk⟩ => ⟨e, hh, hKN.same (s := U) rfl hk⟩
/-- what a run of n instructions says of the machine, in any method -/
def hSay (l : Launch) (g : hV) (n : Nat) : Prop := ∀ (mi k : Nat) (L st : List Value) (h : hH) (r : Option Value) (h' : hH) (q : hR), hmR mi = some q → hExec n mi k L st h = some (r, h') →
  ∀ (p : Program) (en : Env) (R : Room) (s : State) (m : MethodId) (args : Array Value) (below : List Frame) (meth : Method) (c : Code) (Q : State → Prop) (Ts : List Jvm.Cond) (H : Heap) (locs : List Loc) (cells slots : Nat) (ls : Array Slot) (cF sF : Nat), hCtx g p R s m args meth c q Ts → hHR g h H → hLR g.2.2.1 L ls q.2.2.1 → (∀ z ∈ locs, g.2.2.2.2.2.size ≤ z.base) → cells + h'.1 = cF + h.1 → slots + h'.2.1 = sF + h.2.1 → cF ≤ R.cells → sF ≤ R.slots →
  (∀ (e : hE) (kr : Nat) (st1 : List Value) (Hr : Heap) (locsr : List Loc) (lsr : Array Slot), hI mi kr = some e → hRet e st1 = some r → hRok mi r = true → hHR g h' Hr → (∀ z ∈ locsr, g.2.2.2.2.2.size ≤ z.base) → W p l en R s m args below meth c Hr locsr cF sF Q (F0 m e.2.2.1 lsr (st1.map (hcz g.2.2.1)))) →
  W p l en R s m args below meth c H locs cells slots Q (F0 m (hPc mi k) ls (st.map (hcz g.2.2.1)))
theorem hRow {mi : Nat} {q : hR} (hq : hmR mi = some q) (hn : q.2.2.2.2.2.1 ≠ 10) : lw_tbl[q.2.2.2.2.2.2.2.2.2.1]? = some (Jvm.Cond.code q.1 q.2.1 q.2.2.1 q.2.2.2.1) ∧ lw_tbl[q.2.2.2.2.2.2.2.2.2.2.1]? = some (cond q.2.2.2.2.2.2.1 (Jvm.Cond.static q.1) (Jvm.Cond.instanceMethod q.1)) ∧ (q.2.2.2.2.2.2.1 = true ∨ q.1.name = "<init>" ∨ lw_tbl[q.2.2.2.2.2.2.2.2.2.2.2.1]? = some (Jvm.Cond.selects q.1.cls q.1 q.1)) ∧ lw_tbl[q.2.2.2.2.2.2.2.2.2.2.2.2]? = some (Jvm.Cond.initialized q.1.cls) ∧ q.1.cls = hNm q.2.2.2.2.2.1 ∧ (q.1.cls ≠ "java/lang/invoke/MethodHandle" ∧ q.1.cls ≠ "java/lang/invoke/VarHandle") ∧ (parseMethodDescriptor q.1.desc).map (fun d => d.parameters.length) = some (cond q.2.2.2.2.2.2.1 q.2.2.2.2.1 (q.2.2.2.2.1 - 1)) := by
  obtain ⟨h1, h2⟩ := hwm hq
  unfold hWm at h1
  simp only [Bool.or_eq_true, beq_iff_eq, hn, false_or, Bool.and_eq_true, decide_eq_true_eq] at h1
  unfold hWc hWd at h2
  rw [if_neg hn, if_neg hn] at h2
  obtain ⟨⟨⟨⟨⟨⟨a1, a2⟩, a3⟩, a4⟩, a5⟩, a6⟩, a7⟩ := h1
  refine ⟨h2, a1, ?_, a3, a4, ⟨a5, a6⟩, a7⟩
  rcases a2 with (a2 | a2) | a2
  · exact Or.inl a2
  · exact Or.inr (Or.inl a2)
  · exact Or.inr (Or.inr a2)
set_option maxRecDepth 100000 in
theorem hown_all : (List.range 283).all (fun mi => match hmR mi with
  | some q => decide (q.2.2.2.2.2.1 < 10) || (mi == 278 && q.2.2.2.2.2.1 == 10) || (decide (279 ≤ mi) && decide (q.1 = ⟨"java/lang/Math", "max", "(II)I"⟩ ∨ q.1 = ⟨"java/lang/Math", "min", "(II)I"⟩ ∨ q.1 = ⟨"java/lang/Math", "min", "(JJ)J"⟩ ∨ q.1 = ⟨"java/util/Arrays", "fill", "([II)V"⟩))
  | none => true) = true := by decide +kernel
theorem hplain {mi : Nat} {q : hR} (hq : hmR mi = some q) (hn : q.2.2.2.2.2.1 ≠ 10) : plainFor q.1 = true := by
  have h1 := List.all_eq_true.mp hown_all mi (List.mem_range.mpr (hm_lt hq))
  rw [hq] at h1
  simp only [Bool.or_eq_true, Bool.and_eq_true, decide_eq_true_eq, beq_iff_eq] at h1
  rcases h1 with (h1 | h1) | h1
  · refine plainFor_of_name ?_
    rw [(hRow hq hn).2.2.2.2.1]
    exact List.all_eq_true.mp hwp_own _ (List.mem_range.mpr h1)
  · exact absurd h1.2 hn
  · rcases h1.2 with h | h | h | h <;> rw [h]
    · exact hwp_max
    · exact hwp_min
    · exact hwp_minl
    · exact hwp_fill
theorem hMetOf {l : Launch} {g : hV} (ok : hAdOk g) {n : Nat} (ih : hSay l g n) {mi : Nat} {q : hR} {as : List Value} {h : hH} {r : Option Value} {h' : hH} (hq : hmR mi = some q) (hn : q.2.2.2.2.2.1 ≠ 10) (hx : hExec n mi 0 (hEnt as q.2.2.1) [] h = some (r, h')) (hlen : (hFl as).length ≤ q.2.2.1) :
    Met l q.1 (hWs q) (hRm q h h') (hPre g as h) (hPost g r h') (h'.1 - h.1) (h'.2.1 - h.2.1) (fun a => g.2.2.2.2.2.size ≤ a) := by
  refine va_MetF (cc := q.2.1) (maxL := q.2.2.1) (ret := q.2.2.2.1) (hplain hq hn) rfl ?_
  intro p en s m args below meth c s₁ B hml hv
  obtain ⟨rfl, hh, hk⟩ := hv
  have hrow := hRow hq hn
  have hts := atoms_spec (ws := hWs q) B.pre
  have X : hCtx g p (headSpec (hWs q) (hRm q h h')).room s m (as.map (hcz g.2.2.1)).toArray meth c q (hWs q) := by
    refine ⟨B.exec, B.bytes, hml, ?_, hts, fun w hw hg => ?_, hk, Nat.le_refl _, Nat.le_refl _, fun hi => ?_, ok⟩
    · rw [← hrow.2.2.2.2.1]
      exact findClass_of_methodNamed B.named
    · exact List.mem_cons_of_mem _ (List.mem_filter.mpr ⟨hw, hg⟩)
    · rw [(name_of_methodNamed B.named B.method).1]; exact hi
  rw [lg_entry_eq]
  have hl := hLR_entry (ad := g.2.2.1) as hlen
  obtain ⟨m1, m2⟩ := hExec_mono n hx
  have main := ih mi 0 (hEnt as q.2.2.1) [] h r h' q hq hx p en (headSpec (hWs q) (hRm q h h')).room s m (as.map (hcz g.2.2.1)).toArray below meth c (MQ below (hPost g r h') (as.map (hcz g.2.2.1)).toArray s (h'.1 - h.1) (h'.2.1 - h.2.1) (fun a => g.2.2.2.2.2.size ≤ a)) (hWs q) s.heap [] 0 0 _ (h'.1 - h.1) (h'.2.1 - h.2.1) X hh hl (fun z hz => by cases hz) (by omega) (by omega) (Nat.le_refl _) (Nat.le_refl _) ?_
  · rw [hpc0 hq] at main
    exact main
  · intro e kr st1 Hr locsr lsr he hret hrok hhr hlr
    have hdg := hdec hq he
    have okk := hok hq he
    have hr := B.returns
    have hlocks := B.notSynchronized
    have hpost : ∀ t : State, t.heap = Hr → s.WarmedH t.vm → hPost g r h' (as.map (hcz g.2.2.1)).toArray s (.returned (r.map (hcz g.2.2.1))) t := fun t ht _ => ⟨rfl, by rw [ht]; exact hhr⟩
    unfold hRok at hrok
    rw [hq] at hrok
    dsimp only at hrok
    obtain ⟨i, len, pc, x, y, z, zl, ts⟩ := e
    unfold hRet at hret
    dsimp only at hret
    split at hret
    · split at hret
      · rename_i v
        cases hret
        simp only [hOK, beq_iff_eq] at okk
        subst okk
        cases hty : q.2.2.2.1 with
        | none => rw [hty] at hrok; cases hrok
        | some ty =>
          rw [hty] at hrok hr
          exact W.zret X.1 X.2.1 hr (hFit_ok g.2.2.1 hrok).1 hpost hlr hdg
      · cases hret
    · split at hret
      · rename_i v
        cases hret
        simp only [hOK, beq_iff_eq] at okk
        subst okk
        cases hty : q.2.2.2.1 with
        | none => rw [hty] at hrok; cases hrok
        | some ty =>
          rw [hty] at hrok hr
          cases ty <;> simp [hFit] at hrok
          exact W.lret X.1 X.2.1 hr hpost hlr hdg
      · cases hret
    · split at hret
      · rename_i a
        cases hret
        simp only [hOK, beq_iff_eq] at okk
        subst okk
        cases hty : q.2.2.2.1 with
        | none => rw [hty] at hrok; cases hrok
        | some ty =>
          rw [hty] at hrok hr
          cases ty with
          | object nm => exact W.aret X.1 X.2.1 hr (Or.inl ⟨_, rfl⟩) (Or.inr ⟨_, rfl⟩) hpost hlr hdg
          | array nm => exact W.aret X.1 X.2.1 hr (Or.inr ⟨_, rfl⟩) (Or.inr ⟨_, rfl⟩) hpost hlr hdg
          | _ => simp [hFit] at hrok
      · cases hret
        simp only [hOK, beq_iff_eq] at okk
        subst okk
        cases hty : q.2.2.2.1 with
        | none => rw [hty] at hrok; cases hrok
        | some ty =>
          rw [hty] at hrok hr
          cases ty with
          | object nm => exact W.aret X.1 X.2.1 hr (Or.inl ⟨_, rfl⟩) (Or.inl rfl) hpost hlr hdg
          | array nm => exact W.aret X.1 X.2.1 hr (Or.inr ⟨_, rfl⟩) (Or.inl rfl) hpost hlr hdg
          | _ => simp [hFit] at hrok
      · cases hret
    · split at hret
      · cases hret
        simp only [hOK, beq_iff_eq] at okk
        subst okk
        cases hty : q.2.2.2.1 with
        | none =>
          rw [hty] at hr
          exact W.vret X.1 X.2.1 hr hpost hlr hdg
        | some ty => rw [hty] at hrok; cases hrok
      · cases hret
    · cases hret
section HSX
variable {g : hV} {p : Program} {l : Launch} {en : Env} {R : Room} {s : State} {m : MethodId} {args : Array Value} {below : List Frame} {meth : Method} {c : Code} {Q : State → Prop} {H : Heap} {locs : List Loc} {cells slots : Nat} {ls : Array Slot} {h : hH}
theorem hCallR {r : Option Value} {h1 : hH} {as rest st : List Value} {pc mc ms : Nat} {a : Array Value} (hr : va_Run p l en R s m args below meth c H locs cells slots mc ms (F0 m pc ls (st.map (hcz g.2.2.1))) (rest.map (hcz g.2.2.1)) (hPost g r h1 a) (fun a => g.2.2.2.2.2.size ≤ a)) (hlo : ∀ z ∈ locs, g.2.2.2.2.2.size ≤ z.base)
    (kk : ∀ (H1 : Heap) (locs1 : List Loc), hHR g h1 H1 → (∀ z ∈ locs1, g.2.2.2.2.2.size ≤ z.base) → W p l en R s m args below meth c H1 locs1 (cells + mc) (slots + ms) Q (F0 m (pc + 3) ls ((r.toList ++ rest).map (hcz g.2.2.1)))) : W p l en R s m args below meth c H locs cells slots Q (F0 m pc ls (st.map (hcz g.2.2.1))) := by
  intro T hT X
  obtain ⟨v, st₀, t, T', L, h0, X', hL, e1, e2, ⟨hv, hh'⟩, stp⟩ := hr T hT X
  have hv : v = r.map (hcz g.2.2.1) := Outcome.returned.inj hv
  subst hv
  have h2 := kk T'.heap (locs ++ L) (by rw [e1]; exact hh') (fun z hz => by
    rcases List.mem_append.mp hz with w | w
    · exact hlo z w
    · exact hL z w)
  have e3 : (r.toList ++ rest).map (hcz g.2.2.1) = (r.map (hcz g.2.2.1)).toList ++ rest.map (hcz g.2.2.1) := by cases r <;> simp
  rw [e3] at h2
  obtain ⟨t2, a1, b1⟩ := h2 T' rfl X'
  exact ⟨t2, stp t2 a1, b1⟩
end HSX
