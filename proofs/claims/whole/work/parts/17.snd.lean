/-! CALLS: no constructor is called as a virtual method, nobody calls the law -/
noncomputable def hVi (q : hR) (e : hE) : Bool := match e.1 with
  | .invokevirtual _ => (match hmR e.2.2.2.1 with
    | some c => decide (c.1.name ≠ "<init>")
    | none => true)
  | .invokestatic _ => (match hmR e.2.2.2.1 with
    | some c => decide (c.2.2.2.2.2.1 ≠ 10)
    | none => true)
  | _ => true
noncomputable def hVm (mi : Nat) : Bool := match hmR mi with
  | some q => (hP mi).all (fun r => r.all (fun e => hVi q e))
  | none => true
set_option maxRecDepth 100000 in
theorem hvm_0 : (List.range' 0 100).all hVm = true := by decide +kernel
set_option maxRecDepth 100000 in
theorem hvm_1 : (List.range' 100 100).all hVm = true := by decide +kernel
set_option maxRecDepth 100000 in
theorem hvm_2 : (List.range' 200 83).all hVm = true := by decide +kernel
theorem hvi {mi k : Nat} {q : hR} {e : hE} (hq : hmR mi = some q) (he : hI mi k = some e) : hVi q e = true := by
  have hm : hVm mi = true := by
    have h1 := hm_lt hq
    rcases Nat.lt_or_ge mi 100 with h | h
    · exact all_rg hvm_0 (by omega) (by omega)
    rcases Nat.lt_or_ge mi 200 with h | h
    · exact all_rg hvm_1 (by omega) (by omega)
    · exact all_rg hvm_2 (by omega) (by omega)
  unfold hVm at hm
  rw [hq] at hm
  obtain ⟨r, h1, h2⟩ := hI_of he
  exact List.all_eq_true.mp (List.all_eq_true.mp hm r (List.mem_of_getElem? h1)) e (List.mem_of_getElem? h2)
theorem hwl_ok {own i x : Nat} (h : hml.any (fun r => r.1 == own && r.2.1 == i && r.2.2.1 == x) = true) : ∃ j : Nat, lw_tbl[j]? = some (Jvm.Cond.methodLink (hNm own) i (hMn x)) := by
  obtain ⟨r, hr, hb⟩ := List.any_eq_true.mp h
  simp only [Bool.and_eq_true, beq_iff_eq] at hb
  have hw := List.all_eq_true.mp hwl_all r hr
  simp only [decide_eq_true_eq] at hw
  obtain ⟨⟨h1, h2⟩, h3⟩ := hb
  rw [h1, h2, h3] at hw
  exact ⟨_, hw⟩
theorem hwn_ok {own i x : Nat} (h : hmn.any (fun r => r.1 == own && r.2.1 == i && r.2.2.1 == x) = true) : ∃ r ∈ hmn, r.1 = own ∧ r.2.1 = i ∧ r.2.2.1 = x := by
  obtain ⟨r, hr, hb⟩ := List.any_eq_true.mp h
  simp only [Bool.and_eq_true, beq_iff_eq] at hb
  exact ⟨r, hr, hb.1.1, hb.1.2, hb.2⟩
section HSY
variable {g : hV} {p : Program} {l : Launch} {en : Env} {R : Room} {s : State} {m : MethodId} {args : Array Value} {below : List Frame} {meth : Method} {c : Code} {Q : State → Prop} {q : hR} {Ts : List Jvm.Cond} {mi k : Nat} {H : Heap} {locs : List Loc} {cells slots : Nat} {ls : Array Slot} {L st : List Value} {h : hH}
/-- one call of a method of ours -/
theorem hCall {e : hE} {n : Nat} {qc : hR} {r1 : Option Value} {h1 : hH} (ih : hSay l g n) (hq : hmR mi = some q) (he : hI mi k = some e) (hk0 : hKd e ≠ 0) (hk1 : hKd e ≠ 1) (X : hCtx g p R s m args meth c q Ts) (hh : hHR g h H) (hl : hLR g.2.2.1 L ls q.2.2.1) (hlo : ∀ z ∈ locs, g.2.2.2.2.2.size ≤ z.base) (hqc : hmR e.2.2.2.1 = some qc) (hrcv : hRcv e qc.2.2.2.2.2.1 (st.take e.2.2.2.2.1).reverse h = true) (hcat : hCats (st.drop e.2.2.2.2.1) ≤ 8) (htk : (st.take e.2.2.2.2.1).length = e.2.2.2.2.1) (hfl : (hFl (st.take e.2.2.2.2.1).reverse).length ≤ qc.2.2.1) (hx : hExec n e.2.2.2.1 0 (hEnt (st.take e.2.2.2.2.1).reverse qc.2.2.1) [] h = some (r1, h1)) (hc : cells + h1.1 ≤ R.cells + h.1) (hsl : slots + h1.2.1 ≤ R.slots + h.2.1)
    (kk : hGo g p l en R s m args below meth c Q q.2.2.1 (hPc mi (k + 1)) L (r1.toList ++ st.drop e.2.2.2.2.1) h h1 cells slots) : W p l en R s m args below meth c H locs cells slots Q (F0 m e.2.2.1 ls (st.map (hcz g.2.2.1))) := by
  have hdg := hdec hq he
  have ok := hok hq he
  obtain ⟨mm1, mm2⟩ := hExec_mono n hx
  obtain ⟨i, len, pc, x, y, z, zl, ts⟩ := e
  dsimp only at hqc hrcv hcat htk hfl hx hdg kk ⊢
  generalize has : (st.take y).reverse = as at hrcv hfl hx
  have hstk : st.map (hcz g.2.2.1) = (as.map (hcz g.2.2.1)).reverse ++ (st.drop y).map (hcz g.2.2.1) := by
    rw [← has, List.map_reverse, List.reverse_reverse, ← List.map_append, List.take_append_drop]
  have hasl : as.length = y := by rw [← has, List.length_reverse]; exact htk
  have hmn : hMn x = qc.1 := by unfold hMn; rw [hqc]
  have hcs : hCats (st.drop y) = (((st.drop y).map (hcz g.2.2.1)).map fun v => v.category).sum := (hCats_map _ _).symm
  have key : len = 3 ∧ hPc mi (k + 1) = pc + len → hCl q qc y = true → qc.2.2.2.2.2.1 ≠ 10 →
      (va_Run p l en R s m args below meth c H locs cells slots (h1.1 - h.1) (h1.2.1 - h.2.1) (F0 m pc ls (st.map (hcz g.2.2.1))) ((st.drop y).map (hcz g.2.2.1)) (hPost g r1 h1 (as.map (hcz g.2.2.1)).toArray) (fun a => g.2.2.2.2.2.size ≤ a)) → W p l en R s m args below meth c H locs cells slots Q (F0 m pc ls (st.map (hcz g.2.2.1))) := by
    intro hn _ _ hrun
    refine hCallR (as := as) hrun hlo fun H1 locs1 hh1 hlo1 => ?_
    have := kk H1 locs1 ls (cells + (h1.1 - h.1)) (slots + (h1.2.1 - h.2.1)) (by omega) (by omega) hh1 hl hlo1
    rw [hn.2, hn.1] at this
    exact this
  have hwords : ∀ w ∈ hWs qc, qc.2.2.2.2.2.1 ≠ 10 → ∀ (a' : Array Value) (U : State), s.WarmedH U.vm → w.before a' U = true := by
    intro w hw hne a' U hW
    rcases List.mem_cons.mp hw with rfl | hw
    · exact word_at hW (Or.inl rfl) (X.word (hRow hqc hne).1 rfl)
    · obtain ⟨w1, w2⟩ := List.mem_filter.mp hw
      exact word_at hW (good_of_word w2) (X.2.2.2.2.1 w (X.2.2.2.2.2.1 w w1 w2))
  have hpre : PreS s H (hPre g as h) (as.map (hcz g.2.2.1)) := ⟨hPre_blind g as h, fun U hU hW => ⟨rfl, by rw [hU]; exact hh, hKN.warm hW X.2.2.2.2.2.2.1⟩⟩
  have hfr := X.2.2.2.2.2.2.2.1
  have hlo2 := X.2.2.2.2.2.2.2.2.1
  have hsz : ls.size = q.2.2.1 := hl.1
  have hfix : CallFix p m c q.2.1 q.2.2.1 s args Ts (hNm q.2.2.2.2.2.1) := ⟨X.1, X.2.1, X.2.2.1, X.2.2.2.1, X.2.2.2.2.1⟩
  have hlenD : qc.2.2.2.2.2.1 ≠ 10 → ∀ sig, parseMethodDescriptor qc.1.desc = some sig → cond qc.2.2.2.2.2.2.1 qc.2.2.2.2.1 (qc.2.2.2.2.1 - 1) = sig.parameters.length := by
    intro hne sig hsig
    have := (hRow hqc hne).2.2.2.2.2.2
    rw [hsig] at this
    exact (Option.some.inj this).symm
  cases i with
  | invokevirtual i =>
    simp only [hOK, hNx, hqc, Bool.and_eq_true, beq_iff_eq, decide_eq_true_eq, Bool.not_eq_true'] at ok
    obtain ⟨⟨o1, o2⟩, ⟨⟨o3, o4⟩, o5⟩, o6⟩ := ok
    subst o1
    have o3' := o3
    unfold hCl at o3'
    simp only [Bool.and_eq_true, beq_iff_eq, decide_eq_true_eq] at o3'
    obtain ⟨j, hj⟩ := hwl_ok o6
    rw [hmn] at hj
    unfold hRcv at hrcv
    dsimp only at hrcv
    split at hrcv
    · rename_i a as'
      cases hoa : h.2.2 a with
      | inr w => rw [hoa] at hrcv; cases hrcv
      | inl ob =>
        rw [hoa] at hrcv
        simp only [beq_iff_eq] at hrcv
        have hcr := hh.2.2.1 a
        rw [hoa] at hcr
        obtain ⟨b1, b2, b3, cell, q1, q2, q3, -⟩ := hcr
        have hne : qc.2.2.2.2.2.1 ≠ 10 := by omega
        have hrow := hRow hqc hne
        have hM := hMetOf X.2.2.2.2.2.2.2.2.2.2 ih hqc hne hx hfl
        refine key ⟨rfl, o2⟩ o3 hne ?_
        have hst : (Jvm.Cond.instanceMethod qc.1).before args s = true := by
          have := X.word hrow.2.1 (by rw [o4]; rfl)
          rw [o4] at this
          exact this
        have hsel : (Jvm.Cond.selects qc.1.cls qc.1 qc.1).before args s = true := by
          rcases hrow.2.2.1 with w | w | w
          · rw [o4] at w; cases w
          · exfalso
            have hv := hvi hq he
            simp only [hVi, hqc, decide_eq_true_eq] at hv
            exact hv w
          · exact X.word w rfl
        have hld := hlenD hne
        rw [o4] at hld
        refine va_runV (As := as'.map (hcz g.2.2.1)) (b := g.2.2.1 a) (C := qc.1.cls) (n := y - 1) hfix hM ⟨⟨rfl, rfl, by simp only [hRm]; omega, by simp only [hRm]; omega, fun w hw => hwords w hw hne, List.mem_cons_self, X.word hrow.1 rfl, X.word hrow.2.2.2.1 rfl, hrow.2.2.2.2.2.1, fun sig hsig => by rw [← hld sig hsig, ← o3'.1.1]; rfl, X.word hj rfl⟩, hst, hsel⟩ ⟨hPre_blind g _ h, ⟨cell, q1, by rw [q3]; rfl, ?_⟩, hpre.2⟩ rfl (by simp at hasl ⊢; omega) hsz (by show st.map _ = _; rw [hstk]; simp [hcz]) (by show 2 * 0 + _ ≤ 8; rw [← hcs]; omega) hdg ⟨by omega, by omega⟩
        rw [q2, hrow.2.2.2.2.1, ← hrcv]
        exact (X.2.2.2.2.2.2.1.1.1 ob.1 _ (hcl_at b1)).2.1
    · cases hrcv
  | invokestatic i =>
    have hx1 : ¬ x = 1001 := by
      intro w
      simp [hKd, w] at hk0
    simp only [hOK, hNx, hqc, Bool.and_eq_true, beq_iff_eq, decide_eq_true_eq, if_neg hx1, Bool.or_eq_true] at ok
    obtain ⟨⟨o1, o2⟩, ⟨o3, o4⟩, o6⟩ := ok
    subst o1
    have o3' := o3
    unfold hCl at o3'
    simp only [Bool.and_eq_true, beq_iff_eq, decide_eq_true_eq] at o3'
    have hne : qc.2.2.2.2.2.1 ≠ 10 := by
      have hv := hvi hq he
      simp only [hVi, hqc, decide_eq_true_eq] at hv
      exact hv
    have hrow := hRow hqc hne
    have hM := hMetOf X.2.2.2.2.2.2.2.2.2.2 ih hqc hne hx hfl
    refine key ⟨rfl, o2⟩ o3 hne ?_
    have hst : (Jvm.Cond.static qc.1).before args s = true := by
      have := X.word hrow.2.1 (by rw [o4]; rfl)
      rw [o4] at this
      exact this
    have hld := hlenD hne
    rw [o4] at hld
    rcases o6 with o6 | o6
    · obtain ⟨j, hj⟩ := hwl_ok o6
      rw [hmn] at hj
      exact va_runS (As := as.map (hcz g.2.2.1)) (n := y) hfix hM ⟨⟨rfl, rfl, by simp only [hRm]; omega, by simp only [hRm]; omega, fun w hw => hwords w hw hne, List.mem_cons_self, X.word hrow.1 rfl, X.word hrow.2.2.2.1 rfl, hrow.2.2.2.2.2.1, fun sig hsig => by rw [← hld sig hsig, ← o3'.1.1]; rfl, X.word hj rfl⟩, hst⟩ hpre rfl (by simp [hasl]) hsz hstk (by show 2 * 0 + _ ≤ 8; rw [← hcs]; omega) hdg ⟨by omega, by omega⟩
    · obtain ⟨r2, hr2, h21, h22, h23⟩ := hwn_ok o6
      have hnl := X.2.2.2.2.2.2.1.2.2.2.2.2 r2 hr2
      rw [h21, h22, h23, hmn] at hnl
      exact va_runSN (As := as.map (hcz g.2.2.1)) (n := y) hfix hM ⟨⟨⟨rfl, rfl, by simp only [hRm]; omega, by simp only [hRm]; omega, fun w hw => hwords w hw hne, List.mem_cons_self⟩, X.word hrow.1 rfl, X.word hrow.2.2.2.1 rfl, hrow.2.2.2.2.2.1, fun sig hsig => by rw [← hld sig hsig, ← o3'.1.1]; rfl, va_Nw.use rfl hnl⟩, hst, trivial⟩ hpre rfl (by simp [hasl]) hsz hstk (by show 2 * 0 + _ ≤ 8; rw [← hcs]; omega) hdg ⟨by omega, by omega⟩
  | invokespecial i =>
    have hx1 : ¬ x = 1000 := by
      intro w
      simp [hKd, w] at hk0
    simp only [hOK, hNx, hqc, Bool.and_eq_true, beq_iff_eq, decide_eq_true_eq, if_neg hx1, Bool.or_eq_true, Bool.not_eq_true'] at ok
    obtain ⟨⟨o1, o2⟩, ⟨⟨⟨o3, o4⟩, o5⟩, o7⟩, o6⟩ := ok
    subst o1
    have o3' := o3
    unfold hCl at o3'
    simp only [Bool.and_eq_true, beq_iff_eq, decide_eq_true_eq] at o3'
    unfold hRcv at hrcv
    dsimp only at hrcv
    split at hrcv
    · rename_i a as'
      cases hoa : h.2.2 a with
      | inr w => rw [hoa] at hrcv; cases hrcv
      | inl ob =>
        rw [hoa] at hrcv
        simp only [beq_iff_eq] at hrcv
        have hcr := hh.2.2.1 a
        rw [hoa] at hcr
        obtain ⟨b1, b2, b3, cell, q1, q2, q3, -⟩ := hcr
        have hne : qc.2.2.2.2.2.1 ≠ 10 := by omega
        have hrow := hRow hqc hne
        have hM := hMetOf X.2.2.2.2.2.2.2.2.2.2 ih hqc hne hx hfl
        refine key ⟨rfl, o2⟩ o3 hne ?_
        have hst : (Jvm.Cond.instanceMethod qc.1).before args s = true := by
          have := X.word hrow.2.1 (by rw [o4]; rfl)
          rw [o4] at this
          exact this
        have hld := hlenD hne
        rw [o4] at hld
        unfold hWs at hM hwords
        rw [o7] at hM hwords
        have hcode := hrow.1
        rw [o7] at hcode
        rcases o6 with o6 | o6
        · obtain ⟨j, hj⟩ := hwl_ok o6
          rw [hmn] at hj
          exact va_runI (As := as'.map (hcz g.2.2.1)) (b := g.2.2.1 a) (n := y - 1) hfix hM ⟨⟨rfl, rfl, by simp only [hRm]; omega, by simp only [hRm]; omega, fun w hw => hwords w hw hne, List.mem_cons_self, X.word hcode rfl, X.word hrow.2.2.2.1 rfl, hrow.2.2.2.2.2.1, fun sig hsig => by rw [← hld sig hsig, ← o3'.1.1]; rfl, X.word hj rfl⟩, o5, hst⟩ hpre rfl (by simp at hasl ⊢; omega) hsz (by show st.map _ = _; rw [hstk]; simp [hcz]) (by show 2 * 0 + _ ≤ 8; rw [← hcs]; omega) hdg ⟨by omega, by omega⟩
        · obtain ⟨r2, hr2, h21, h22, h23⟩ := hwn_ok o6
          have hnl := X.2.2.2.2.2.2.1.2.2.2.2.2 r2 hr2
          rw [h21, h22, h23, hmn] at hnl
          exact va_runIN (As := as'.map (hcz g.2.2.1)) (b := g.2.2.1 a) (n := y - 1) hfix hM ⟨⟨⟨rfl, rfl, by simp only [hRm]; omega, by simp only [hRm]; omega, fun w hw => hwords w hw hne, List.mem_cons_self⟩, X.word hcode rfl, X.word hrow.2.2.2.1 rfl, hrow.2.2.2.2.2.1, fun sig hsig => by rw [← hld sig hsig, ← o3'.1.1]; rfl, va_Nw.use rfl hnl⟩, o5, hst⟩ hpre rfl (by simp at hasl ⊢; omega) hsz (by show st.map _ = _; rw [hstk]; simp [hcz]) (by show 2 * 0 + _ ≤ 8; rw [← hcs]; omega) hdg ⟨by omega, by omega⟩
    · cases hrcv
  | _ => simp [hKd] at hk0 hk1
end HSY
