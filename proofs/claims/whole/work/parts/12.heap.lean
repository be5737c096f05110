/-! ONE INSTRUCTION: switches, and what touches the heap -/
section HSU
variable {g : hV} {p : Program} {l : Launch} {en : Env} {R : Room} {s : State} {m : MethodId} {args : Array Value} {below : List Frame} {meth : Method} {c : Code} {Q : State → Prop} {q : hR} {Ts : List Jvm.Cond} {mi k : Nat} {H : Heap} {locs : List Loc} {cells slots : Nat} {ls : Array Slot} {L st : List Value} {h : hH}
theorem hloc {g : hV} {locs : List Loc} (hlo : ∀ z ∈ locs, g.2.2.2.2.2.size ≤ z.base) {a i : Nat} (ha : g.2.2.2.2.2.size ≤ a) : ∀ z ∈ locs ++ [(⟨a, i⟩ : Loc)], g.2.2.2.2.2.size ≤ z.base := by
  intro z hz
  rcases List.mem_append.mp hz with h | h
  · exact hlo z h
  · rw [List.mem_singleton.mp h]; exact ha
theorem hLk_ok {mi pc dt : Nat} {d : Int} (hd : (pc : Int) + d = (hPc mi dt : Int)) (v : Int) : ∀ (ps : List (Int × Int)) (ts : List Nat), ts.length = ps.length → (ts.zip ps).all (fun r => decide ((pc : Int) + r.2.2 = (hPc mi r.1 : Int))) = true → (pc : Int) + Op.lookupswitch.offset ps d v = (hPc mi (hLk ps ts dt v) : Int)
  | [], [], _, _ => hd
  | (a, o) :: ps, t :: ts, hl, ha => by
    rw [Op.lookupswitch.offset_cons]
    simp only [List.zip_cons_cons, List.all_cons, Bool.and_eq_true, decide_eq_true_eq] at ha
    unfold hLk
    by_cases hv : v = a
    · rw [if_pos hv.symm, if_pos hv]; exact ha.1
    · rw [if_neg (Ne.symm hv), if_neg hv]
      exact hLk_ok hd v ps ts (by simpa using hl) ha.2
  | [], _ :: _, hl, _ => by simp at hl
  | _ :: _, [], hl, _ => by simp at hl
theorem hx_tsw {len pc x y : Nat} {z : Int32} {zl : Int64} {ts : List Nat} {d lo hi : Int} {offs : Array Int} {k' : Nat} {L' st' : List Value} {h1 : hH} (hq : hmR mi = some q) (he : hI mi k = some (.tableswitch d lo hi offs, len, pc, x, y, z, zl, ts)) (X : hCtx g p R s m args meth c q Ts) (hh : hHR g h H) (hl : hLR g.2.2.1 L ls q.2.2.1) (hlo : ∀ z ∈ locs, g.2.2.2.2.2.size ≤ z.base) (hs : hStep (.tableswitch d lo hi offs, len, pc, x, y, z, zl, ts) k L st h = some (k', L', st', h1)) (kk : hGo g p l en R s m args below meth c Q q.2.2.1 (hPc mi k') L' st' h h1 cells slots) : W p l en R s m args below meth c H locs cells slots Q (F0 m pc ls (st.map (hcz g.2.2.1))) := by
  have hdg := hdec hq he
  have ok := hok hq he
  simp only [hOK, hNx, hTg, Bool.and_eq_true, beq_iff_eq, decide_eq_true_eq] at ok
  obtain ⟨⟨ok1, ok2⟩, ok3⟩ := ok
  unfold hStep at hs
  dsimp only at hs
  unfold hTsw at hs
  split at hs
  · rename_i v r
    split at hs
    · rename_i hc
      simp only [Option.some.injEq, Prod.mk.injEq] at hs
      obtain ⟨rfl, rfl, rfl, rfl⟩ := hs
      exact lv_tableOut X.1 X.2.1 hdg hc ok1 (kk.at hh hl hlo)
    · rename_i hc
      split at hs
      · rename_i t ht
        simp only [Option.some.injEq, Prod.mk.injEq] at hs
        obtain ⟨rfl, rfl, rfl, rfl⟩ := hs
        dsimp only at ht
        have hj := (List.getElem?_eq_some_iff.mp ht).1
        obtain ⟨o, ho⟩ : ∃ o, offs[(v.toInt - lo).toNat]? = some o := ⟨_, getElem?_pos offs _ (by omega)⟩
        have hz : (ts.zip offs.toList)[(v.toInt - lo).toNat]? = some (t, o) := by
          rw [List.getElem?_zip_eq_some]
          exact ⟨ht, by rw [Array.getElem?_toList]; exact ho⟩
        have h3 := List.all_eq_true.mp ok3 _ (List.mem_of_getElem? hz)
        simp only [decide_eq_true_eq] at h3
        exact lv_tableIn X.1 X.2.1 hdg (fun w => hc (Or.inl w)) (fun w => hc (Or.inr w)) ho h3 (kk.at hh hl hlo)
      · cases hs
  · cases hs
theorem hx_lsw {len pc x y : Nat} {z : Int32} {zl : Int64} {ts : List Nat} {d : Int} {ps : Array (Int × Int)} {k' : Nat} {L' st' : List Value} {h1 : hH} (hq : hmR mi = some q) (he : hI mi k = some (.lookupswitch d ps, len, pc, x, y, z, zl, ts)) (X : hCtx g p R s m args meth c q Ts) (hh : hHR g h H) (hl : hLR g.2.2.1 L ls q.2.2.1) (hlo : ∀ z ∈ locs, g.2.2.2.2.2.size ≤ z.base) (hs : hStep (.lookupswitch d ps, len, pc, x, y, z, zl, ts) k L st h = some (k', L', st', h1)) (kk : hGo g p l en R s m args below meth c Q q.2.2.1 (hPc mi k') L' st' h h1 cells slots) : W p l en R s m args below meth c H locs cells slots Q (F0 m pc ls (st.map (hcz g.2.2.1))) := by
  have hdg := hdec hq he
  have ok := hok hq he
  simp only [hOK, hNx, hTg, Bool.and_eq_true, beq_iff_eq, decide_eq_true_eq] at ok
  obtain ⟨⟨⟨ok1, ok2⟩, ok3⟩, ok4⟩ := ok
  unfold hStep at hs
  dsimp only at hs
  unfold hLsw at hs
  split at hs
  · rename_i v r
    simp only [Option.some.injEq, Prod.mk.injEq] at hs
    obtain ⟨rfl, rfl, rfl, rfl⟩ := hs
    exact lv_lookup X.1 X.2.1 hdg ok4 rfl (hLk_ok ok1 v.toInt ps.toList ts ok2 ok3) (kk.at hh hl hlo)
  · cases hs
theorem hfl_ok {own i x y : Nat} (h : hfl.any (fun r => r.1 == own && r.2.1 == i && r.2.2.1 == x && r.2.2.2.1 == y) = true) : (∃ j : Nat, lw_tbl[j]? = some (Jvm.Cond.fieldLink (hNm own) i (hNm x) (hTX x y).2.1 (hTX x y).2.2.1)) ∧ (hTX x y).1 = hNm x := by
  obtain ⟨r, hr, hb⟩ := List.any_eq_true.mp h
  simp only [Bool.and_eq_true, beq_iff_eq] at hb
  have hw := List.all_eq_true.mp hwf_all r hr
  simp only [Bool.and_eq_true, decide_eq_true_eq] at hw
  obtain ⟨⟨⟨h1, h2⟩, h3⟩, h4⟩ := hb
  rw [h1, h2, h3, h4] at hw
  exact ⟨⟨_, hw.1⟩, hw.2⟩
theorem hin_ok (X : hCtx g p R s m args meth c q Ts) {x : Nat} (hx : x < 10) : ∀ w ∈ u_ws (hNm x) (hTX x) (hNf x), w ∈ Ts := by
  intro w hw
  have h1 := List.all_eq_true.mp hwu_all x (List.mem_range.mpr hx)
  have h2 := List.all_eq_true.mp h1 w hw
  simp only [decide_eq_true_eq] at h2
  refine X.2.2.2.2.2.1 w h2 ?_
  obtain ⟨k, -, rfl⟩ := List.mem_map.mp hw
  unfold u_lay
  split <;> rfl
theorem hFit_ok (ad : Nat → Nat) {ty : FieldType} {v : Value} (h : hFit ty v = true) : narrow ty (hcz ad v) = hcz ad v ∧ fits ty (hcz ad v) = true := by
  unfold hFit at h
  split at h
  · exact ⟨rfl, rfl⟩
  · exact ⟨rfl, rfl⟩
  · rename_i z
    simp only [Bool.or_eq_true, beq_iff_eq] at h
    rcases h with rfl | rfl
    · exact ⟨(by decide : narrow .boolean (.int _) = .int _), (by decide : fits .boolean (.int _) = true)⟩
    · exact ⟨(by decide : narrow .boolean (.int _) = .int _), (by decide : fits .boolean (.int _) = true)⟩
  · exact ⟨rfl, rfl⟩
  · exact ⟨rfl, rfl⟩
  · exact ⟨rfl, rfl⟩
  · exact ⟨rfl, rfl⟩
  · cases h
theorem hGet_inv {e : hE} {k' : Nat} {L' st' : List Value} {h1 : hH} (hs : hGet e k L st h = some (k', L', st', h1)) : ∃ a r fs v, st = .ref a :: r ∧ h.2.2 a = .inl (e.2.2.2.1, fs) ∧ fs[e.2.2.2.2.1]? = some v ∧ k' = k + 1 ∧ L' = L ∧ st' = v :: r ∧ h1 = h := by
  unfold hGet at hs
  split at hs
  · rename_i a r
    split at hs
    · rename_i o ho
      split at hs
      · rename_i hc
        split at hs
        · rename_i v hv
          simp only [Option.some.injEq, Prod.mk.injEq] at hs
          obtain ⟨a1, b1, c1, d1⟩ := hs
          exact ⟨a, r, o.2, v, rfl, by rw [ho, ← hc], hv, a1.symm, b1.symm, c1.symm, d1.symm⟩
        · cases hs
      · cases hs
    · cases hs
  · cases hs
theorem hPut_inv {e : hE} {k' : Nat} {L' st' : List Value} {h1 : hH} (hs : hPut e k L st h = some (k', L', st', h1)) : ∃ v a r fs, st = v :: .ref a :: r ∧ h.2.2 a = .inl (e.2.2.2.1, fs) ∧ hFit (hTy e.2.2.2.1 e.2.2.2.2.1) v = true ∧ e.2.2.2.2.1 < fs.length ∧ k' = k + 1 ∧ L' = L ∧ st' = r ∧ h1 = hSt h a (.inl (e.2.2.2.1, fs.set e.2.2.2.2.1 v)) := by
  unfold hPut at hs
  split at hs
  · rename_i v a r
    split at hs
    · rename_i o ho
      split at hs
      · rename_i hc
        split at hs
        · rename_i hf
          split at hs
          · rename_i hlt
            simp only [Option.some.injEq, Prod.mk.injEq] at hs
            obtain ⟨a1, b1, c1, d1⟩ := hs
            exact ⟨v, a, r, o.2, rfl, by rw [ho, ← hc], hf, hlt, a1.symm, b1.symm, c1.symm, by rw [← d1, hc]⟩
          · cases hs
        · cases hs
      · cases hs
    · cases hs
  · cases hs
theorem hx_getfield {len pc x y : Nat} {z : Int32} {zl : Int64} {ts : List Nat} {i : Nat} {k' : Nat} {L' st' : List Value} {h1 : hH} (hq : hmR mi = some q) (he : hI mi k = some (.getfield i, len, pc, x, y, z, zl, ts)) (X : hCtx g p R s m args meth c q Ts) (hh : hHR g h H) (hl : hLR g.2.2.1 L ls q.2.2.1) (hlo : ∀ z ∈ locs, g.2.2.2.2.2.size ≤ z.base) (hs : hStep (.getfield i, len, pc, x, y, z, zl, ts) k L st h = some (k', L', st', h1)) (kk : hGo g p l en R s m args below meth c Q q.2.2.1 (hPc mi k') L' st' h h1 cells slots) : W p l en R s m args below meth c H locs cells slots Q (F0 m pc ls (st.map (hcz g.2.2.1))) := by
  have hdg := hdec hq he
  have ok := hok hq he
  simp only [hOK, hNx, hTg, Bool.and_eq_true, beq_iff_eq, decide_eq_true_eq] at ok
  obtain ⟨⟨⟨⟨ok1, ok2⟩, ok4⟩, ok5⟩, ok3⟩ := ok
  subst ok1
  obtain ⟨a, r, fs, v, rfl, ha, hv, rfl, rfl, rfl, rfl⟩ := hGet_inv hs
  dsimp only at ha hv
  rw [ok3] at kk
  obtain ⟨⟨j, hj⟩, hcl⟩ := hfl_ok ok2
  have hc := hh.2.2.1 a
  rw [ha] at hc
  obtain ⟨c1, c2, c3, c4⟩ := hc
  refine va_get (D := g.1) (cl := vwCl) (ws := [(g.2.2.1 a, .inr (x, fs.map (hcz g.2.2.1)))]) (v := hcz g.2.2.1 v) X.1 X.2.1 X.2.2.2.2.1 (hin_ok X c1) X.2.2.2.1 X.2.2.2.2.2.2.1.1 (fun kz qz hz => ?_) 0 rfl (hcl_at c1) y ok5 (X.word hj rfl) (fun z hz => by rw [hcl] at hz; exact hz) (by simp [hv]) hdg (kk.at hh hl hlo)
  match kz, hz with
  | 0, hz => cases hz; exact ⟨_, hcl_at c1, c4⟩
theorem hx_putfield {len pc x y : Nat} {z : Int32} {zl : Int64} {ts : List Nat} {i : Nat} {k' : Nat} {L' st' : List Value} {h1 : hH} (hq : hmR mi = some q) (he : hI mi k = some (.putfield i, len, pc, x, y, z, zl, ts)) (X : hCtx g p R s m args meth c q Ts) (hh : hHR g h H) (hl : hLR g.2.2.1 L ls q.2.2.1) (hlo : ∀ z ∈ locs, g.2.2.2.2.2.size ≤ z.base) (hs : hStep (.putfield i, len, pc, x, y, z, zl, ts) k L st h = some (k', L', st', h1)) (kk : hGo g p l en R s m args below meth c Q q.2.2.1 (hPc mi k') L' st' h h1 cells slots) : W p l en R s m args below meth c H locs cells slots Q (F0 m pc ls (st.map (hcz g.2.2.1))) := by
  have hdg := hdec hq he
  have ok := hok hq he
  simp only [hOK, hNx, hTg, Bool.and_eq_true, beq_iff_eq, decide_eq_true_eq] at ok
  obtain ⟨⟨⟨⟨⟨ok1, ok2⟩, ok4⟩, ok5⟩, ok6⟩, ok3⟩ := ok
  subst ok1
  obtain ⟨v, a, r, fs, rfl, ha, hf, hlt, rfl, rfl, rfl, rfl⟩ := hPut_inv hs
  dsimp only at ha hf hlt
  dsimp only at kk
  rw [ok3] at kk
  obtain ⟨⟨j, hj⟩, hcl⟩ := hfl_ok ok2
  have hc := hh.2.2.1 a
  rw [ha] at hc
  obtain ⟨c1, c2, c3, cell, q1, q2, q3, q4⟩ := hc
  have hts := X.2.2.2.2.1
  have hin := hin_ok X c1
  have hK := X.2.2.2.2.2.2.1.1
  have hap := va_apart (own := hNm x) hts hin (hTy x) (hty_at c1) (hnm_at c1) hK (hcl_at c1)
  obtain ⟨hS, hfc, kC, hkC, hkind⟩ := hK.1 x _ (hcl_at c1)
  obtain ⟨cf, kf, fi, f, hi, hsl⟩ := hS y ok5
  have hlay := hts _ (hin _ (u_in_lay ok5))
  unfold u_lay at hlay
  have hst := (u_facts hfc hkC (u_lays hts hin ok5) hi).1
  obtain ⟨n1, n2⟩ := hFit_ok g.2.2.1 hf
  have hsame : s.fieldFound? (hNm x) (hTX x y).2.1 (hTX x y).2.2.1 = some (cf, kf, fi, f) := by rw [← hcl]; exact hi
  have fin : ∀ H', H'[g.2.2.1 a]? = some (cell.setSlot (g.1.2 x y) (hcz g.2.2.1 v)) → H'.size = H.size → (∀ z, z ≠ g.2.2.1 a → H'[z]? = H[z]?) → hHR g (hSt h a (.inl (x, fs.set y v))) H' := by
    intro H' e1 e2 e3
    refine hh.put X.2.2.2.2.2.2.2.2.2.2 c3 e2 e3 ⟨c1, by simpa using c2, c3, ?_⟩
    have c2' : (fs.map (hcz g.2.2.1)).length = hNf x := by simpa using c2
    refine t_OB.to (V := updV (vp_V (fs.map (hcz g.2.2.1))) y (hcz g.2.2.1 v)) ⟨_, e1, q2, q3, t_set q4 hap ok5 _⟩ (fun jj hjj => ?_)
    rw [vp_updV_set (by simpa using hlt)]
    simp [List.map_set]
  by_cases hfin : (hTX x y).2.2.2 = true
  · rw [if_pos hfin] at hlay
    simp only [hfin, Bool.not_true, Bool.false_or, Bool.or_eq_true, Bool.and_eq_true, decide_eq_true_eq, beq_iff_eq, Bool.false_eq_true, false_or] at ok6
    have hcf : m.cls = cf := by
      obtain ⟨_, _, c', _, _, _, -, -, hf', -, -, -, hown2, -⟩ := Cond.laysFinal_spec hlay
      have e1 : c' = cf := by have := hi.symm.trans hf'; simp at this; exact this.1.symm
      rw [hcl, ← ok6.2] at hown2
      rw [← e1]; exact Option.some.inj (X.2.2.2.1.symm.trans hown2)
    have h6 := u_fits hfc hkC hkind (Or.inr hlay) hi (hty_at c1 y ok5) n1 n2
    refine W.putFinK X.1 X.2.1 X.2.2.2.1 (X.word hj rfl) hsame hst hcf (X.2.2.2.2.2.2.2.2.2.1 ok6.1) (by rw [q2]; exact h6) q1 q3 (by rw [hsl]; exact k2_hasslot (q4 y ok5)) rfl rfl hdg fun H' e1 e2 e3 => ?_
    rw [hsl] at e1 ⊢
    exact kk H' _ ls cells slots rfl rfl (fin H' e1 e2 e3) hl (hloc hlo c3)
  · rw [if_neg hfin] at hlay
    have h6 := u_store hfc hkC hkind hlay hi (hty_at c1 y ok5) n1 n2
    refine W.putK X.1 X.2.1 (f := f) ⟨X.2.2.2.1, X.word hj rfl, ⟨_, _, _, hsame⟩, hst⟩ (by rw [q2]; exact h6) q1 q3 (by rw [hsl]; exact k2_hasslot (q4 y ok5)) rfl rfl hdg fun H' e1 e2 e3 => ?_
    rw [hsl] at e1 ⊢
    exact kk H' _ ls cells slots rfl rfl (fin H' e1 e2 e3) hl (hloc hlo c3)
theorem hx_getstatic {len pc x y : Nat} {z : Int32} {zl : Int64} {ts : List Nat} {i : Nat} {k' : Nat} {L' st' : List Value} {h1 : hH} (hq : hmR mi = some q) (he : hI mi k = some (.getstatic i, len, pc, x, y, z, zl, ts)) (X : hCtx g p R s m args meth c q Ts) (hh : hHR g h H) (hl : hLR g.2.2.1 L ls q.2.2.1) (hlo : ∀ z ∈ locs, g.2.2.2.2.2.size ≤ z.base) (hs : hStep (.getstatic i, len, pc, x, y, z, zl, ts) k L st h = some (k', L', st', h1)) (kk : hGo g p l en R s m args below meth c Q q.2.2.1 (hPc mi k') L' st' h h1 cells slots) : W p l en R s m args below meth c H locs cells slots Q (F0 m pc ls (st.map (hcz g.2.2.1))) := by
  have hdg := hdec hq he
  have ok := hok hq he
  simp only [hOK, hNx, hTg, Bool.and_eq_true, beq_iff_eq, decide_eq_true_eq] at ok
  obtain ⟨⟨⟨ok1, ok2⟩, ok4⟩, ok3⟩ := ok
  subst ok1
  subst ok4
  simp only [hStep, Option.some.injEq, Prod.mk.injEq] at hs
  obtain ⟨rfl, rfl, rfl, rfl⟩ := hs
  rw [ok3] at kk
  obtain ⟨cf, kf, fi, f, a, cell, h1, h2, h3, h4, h5, h6, h7, h8⟩ := X.2.2.2.2.2.2.1.2.2.2.2.1
  have hlk := hwv_all
  simp only [Bool.and_eq_true, decide_eq_true_eq] at hlk
  have hlink := X.word hlk.1.1.2 rfl
  have hown : s.vm.findClass "HeavyThings$Tree" = some m.cls := by
    have := X.2.2.2.1
    rw [ok2] at this
    exact this
  exact W.gets X.1 X.2.1 hown hlink h1 h2 h3 h4 (by rw [hh.2.2.2 a (by omega)]; exact h5) (fun z => by rw [z] at h6; cases h6) h7 rfl hdg (kk.at hh hl hlo)
end HSU
