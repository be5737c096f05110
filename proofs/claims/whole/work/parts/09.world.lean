/-! THE MACHINE ON PAPER IS THE MACHINE: what a paper heap says of a heap. -/
def hAd (b0 b1 base : Nat) (k : Nat) : Nat := match k with
  | 0 => b0
  | 1 => b1
  | k + 2 => base + k
def hcz (ad : Nat → Nat) (v : Value) : Value := match v with
  | .ref k => .ref (ad k)
  | v => v
theorem hcz_cat (ad : Nat → Nat) (v : Value) : (hcz ad v).category = v.category := by cases v <;> rfl
theorem hcz_rf (ad : Nat → Nat) (r : Option Nat) : hcz ad (va_rf r) = va_rf (r.map ad) := by cases r <;> rfl
def hIsU (v : Value) : Bool := match v with
  | .float _ => true
  | _ => false
/-- locals on paper and locals -/
def hLR (ad : Nat → Nat) (L : List Value) (ls : Array Slot) (nL : Nat) : Prop := ls.size = nL ∧ lv_wf ls ∧ ∀ (i : Nat) (v : Value), L[i]? = some v → hIsU v = false → ls[i]? = some (.val (hcz ad v))
def hPr (ad : Nat → Nat) (L : List Value) : List (Nat × Value) := (List.range L.length).filterMap (fun i => match L[i]? with
  | some v => if hIsU v = true then none else some (i, hcz ad v)
  | none => none)
theorem hPr_in {ad : Nat → Nat} {L : List Value} {i : Nat} {v : Value} (h : L[i]? = some v) (hu : hIsU v = false) : (i, hcz ad v) ∈ hPr ad L := by
  refine List.mem_filterMap.mpr ⟨i, List.mem_range.mpr (List.getElem?_eq_some_iff.mp h).1, ?_⟩
  rw [h]
  simp [hu]
theorem hPr_of {ad : Nat → Nat} {L : List Value} {q : Nat × Value} (h : q ∈ hPr ad L) : ∃ v, L[q.1]? = some v ∧ hIsU v = false ∧ q.2 = hcz ad v := by
  obtain ⟨i, -, hi⟩ := List.mem_filterMap.mp h
  cases hL : L[i]? with
  | none => rw [hL] at hi; cases hi
  | some v =>
    rw [hL] at hi
    by_cases hu : hIsU v = true
    · simp [hu] at hi
    · simp [hu] at hi
      subst hi
      exact ⟨v, hL, by simpa using hu, rfl⟩
theorem hLR.has {ad : Nat → Nat} {L : List Value} {ls : Array Slot} {nL : Nat} (h : hLR ad L ls nL) : lv_has ls nL (hPr ad L) := by
  refine ⟨h.1, h.2.1, fun q hq => ?_⟩
  obtain ⟨v, h1, h2, h3⟩ := hPr_of hq
  rw [h3]
  exact h.2.2 _ _ h1 h2
theorem hClr_get {L : List Value} {i j : Nat} {w : Value} (h : (hClr L i)[j]? = some w) (hu : hIsU w = false) : L[j]? = some w ∧ ¬ (j + 1 = i ∧ w.category = 2) := by
  unfold hClr at h
  cases i with
  | zero => exact ⟨h, fun q => by omega⟩
  | succ m =>
    dsimp only at h
    cases hm : L[m]? with
    | none =>
      rw [hm] at h
      refine ⟨h, fun q => ?_⟩
      have e : j = m := by omega
      rw [e, hm] at h
      cases h
    | some x =>
      rw [hm] at h
      dsimp only at h
      by_cases hc : x.category = 2
      · rw [if_pos hc] at h
        by_cases e : j = m
        · subst e
          rw [List.getElem?_set_self (List.getElem?_eq_some_iff.mp hm).1] at h
          cases h
          cases hu
        · rw [List.getElem?_set_ne (Ne.symm e)] at h
          exact ⟨h, fun q => by omega⟩
      · rw [if_neg hc] at h
        refine ⟨h, fun q => ?_⟩
        have e : j = m := by omega
        rw [e, hm] at h
        cases h
        exact hc q.2
theorem hLR.set1 {ad : Nat → Nat} {L : List Value} {ls' : Array Slot} {nL i : Nat} {v : Value} (h : lv_has ls' nL ((i, hcz ad v) :: (hPr ad L).filter (fun q => !(q.1 == i) && !(q.1 + 1 == i && q.2.category == 2)))) : hLR ad (hS1 L i v) ls' nL := by
  refine ⟨h.1, h.2.1, fun j w hj hu => ?_⟩
  unfold hS1 at hj
  by_cases e : j = i
  · subst e
    have hlt : j < (hClr L j).length := by
      have := (List.getElem?_eq_some_iff.mp hj).1
      simpa using this
    rw [List.getElem?_set_self hlt] at hj
    cases hj
    exact h.2.2 (j, hcz ad v) List.mem_cons_self
  · rw [List.getElem?_set_ne (Ne.symm e)] at hj
    obtain ⟨h1, h2⟩ := hClr_get hj hu
    refine h.2.2 (j, hcz ad w) (List.mem_cons_of_mem _ (List.mem_filter.mpr ⟨hPr_in h1 hu, ?_⟩))
    have e3 : (hcz ad w).category = w.category := hcz_cat ad w
    simp only [e3]
    by_cases e4 : j + 1 = i
    · have : ¬ w.category = 2 := fun q => h2 ⟨e4, q⟩
      simp [e, this]
    · simp [e, e4]
theorem hLR.set2 {ad : Nat → Nat} {L : List Value} {ls' : Array Slot} {nL i : Nat} {v : Value} (h : lv_has ls' nL ((i, hcz ad v) :: (hPr ad L).filter (fun q => !(q.1 == i) && (!(q.1 == i + 1) && !(q.1 + 1 == i && q.2.category == 2))))) : hLR ad (hS2 L i v) ls' nL := by
  refine ⟨h.1, h.2.1, fun j w hj hu => ?_⟩
  unfold hS2 at hj
  by_cases e0 : j = i + 1
  · subst e0
    have hlt : i + 1 < ((hClr L i).set i v).length := by
      have := (List.getElem?_eq_some_iff.mp hj).1
      simpa using this
    rw [List.getElem?_set_self hlt] at hj
    cases hj
    cases hu
  · rw [List.getElem?_set_ne (Ne.symm e0)] at hj
    by_cases e : j = i
    · subst e
      have hlt : j < (hClr L j).length := by
        have := (List.getElem?_eq_some_iff.mp hj).1
        simpa using this
      rw [List.getElem?_set_self hlt] at hj
      cases hj
      exact h.2.2 (j, hcz ad v) List.mem_cons_self
    · rw [List.getElem?_set_ne (Ne.symm e)] at hj
      obtain ⟨h1, h2⟩ := hClr_get hj hu
      refine h.2.2 (j, hcz ad w) (List.mem_cons_of_mem _ (List.mem_filter.mpr ⟨hPr_in h1 hu, ?_⟩))
      have e3 : (hcz ad w).category = w.category := hcz_cat ad w
      simp only [e3]
      by_cases e4 : j + 1 = i
      · have : ¬ w.category = 2 := fun q => h2 ⟨e4, q⟩
        simp [e, e0, this]
      · simp [e, e0, e4]
theorem hEnt_args {ad : Nat → Nat} {n : Nat} : ∀ (as : List Value) (p i : Nat) (v : Value), (hFl as ++ List.replicate n hU)[i]? = some v → hIsU v = false → (p + i, hcz ad v) ∈ lv_args p (as.map (hcz ad)) := by
  intro as
  induction as with
  | nil =>
    intro p i v h hu
    simp only [hFl, List.nil_append] at h
    have h1 := List.mem_of_getElem? h
    rw [List.mem_replicate] at h1
    rw [h1.2] at hu
    cases hu
  | cons a r ih =>
    intro p i v h hu
    show (p + i, hcz ad v) ∈ (p, hcz ad a) :: lv_args (if (hcz ad a).category = 2 then p + 2 else p + 1) (r.map (hcz ad))
    rw [hcz_cat]
    by_cases hc : a.category = 2
    · rw [if_pos hc]
      have e : hFl (a :: r) = a :: hU :: hFl r := by simp [hFl, hc]
      rw [e] at h
      match i, h with
      | 0, h => simp at h; subst h; exact List.mem_cons_self
      | 1, h => simp at h; subst h; cases hu
      | i + 2, h =>
        have h2 := ih (p + 2) i v (by simpa using h) hu
        rw [show p + (i + 2) = p + 2 + i by omega]
        exact List.mem_cons_of_mem _ h2
    · rw [if_neg hc]
      have e : hFl (a :: r) = a :: hFl r := by simp [hFl, hc]
      rw [e] at h
      match i, h with
      | 0, h => simp at h; subst h; exact List.mem_cons_self
      | i + 1, h =>
        have h2 := ih (p + 1) i v (by simpa using h) hu
        rw [show p + (i + 1) = p + 1 + i by omega]
        exact List.mem_cons_of_mem _ h2
theorem hFl_len (ad : Nat → Nat) : ∀ as : List Value, (lg_sl (as.map (hcz ad))).length = (hFl as).length
  | [] => rfl
  | a :: r => by
    have ih := hFl_len ad r
    unfold lg_sl at ih ⊢
    simp only [List.map_cons, List.flatMap_cons, List.length_append, ih, hcz_cat]
    by_cases hc : a.category = 2
    · simp [hFl, hc]; omega
    · simp [hFl, hc]; omega
/-- at a method's entry -/
theorem hLR_entry {ad : Nat → Nat} (as : List Value) {n : Nat} (h : (hFl as).length ≤ n) : hLR ad (hEnt as n) ((lg_sl (as.map (hcz ad)) ++ List.replicate (n - (lg_sl (as.map (hcz ad))).length) Slot.unset).toArray) n := by
  have h1 := lv_entry (as.map (hcz ad)) (n := n) (by rw [hFl_len]; exact h)
  refine ⟨h1.1, h1.2.1, fun i v hi hu => ?_⟩
  have h2 := hEnt_args (ad := ad) as 0 i v hi hu
  rw [Nat.zero_add] at h2
  exact h1.2.2 _ h2
/-! ===== heaps ===== -/
def hWid (j : Nat) : Int32 := match j with
  | 0 => 1000
  | 1 => 100
  | 2 => 10
  | _ => 1
/-- what is fixed from the law's start on: classes and slots, array classes, the two cells that are read alone, the heap then -/
abbrev hV : Type := va_G × (Nat → ClassId) × (Nat → Nat) × Nat × (Nat → Int32) × Heap
def hCR (g : hV) (a : Nat) (e : hC) (H : Heap) : Prop := match e with
  | .inl o => o.1 < 10 ∧ o.2.length = hNf o.1 ∧ g.2.2.2.2.2.size ≤ g.2.2.1 a ∧ t_OB (g.2.2.1 a) (g.1.1 o.1) (hNf o.1) (g.1.2 o.1) H (vp_V (o.2.map (hcz g.2.2.1)))
  | .inr (t, n, .inl f) => (t ≤ 2 → g.2.2.2.2.2.size ≤ g.2.2.1 a ∧ H[g.2.2.1 a]? = some (arrV (g.2.1 t) n (fun j => .int (f j)))) ∧ (t = 7 → (a = 0 ∧ n = g.2.2.2.1 ∧ ∀ j, j < n → f j = g.2.2.2.2.1 j) ∨ (a = 1 ∧ n = 4 ∧ ∀ j, j < n → f j = hWid j)) ∧ (3 ≤ t → t ≤ 6 → False)
  | .inr (t, n, .inr f) => (3 ≤ t ∧ t ≤ 6) ∧ g.2.2.2.2.2.size ≤ g.2.2.1 a ∧ H[g.2.2.1 a]? = some (arrV (g.2.1 t) n (fun j => va_rf ((f j).map g.2.2.1)))
def hHR (g : hV) (h : hH) (H : Heap) : Prop := 2 ≤ h.1 ∧ H.size = g.2.2.1 h.1 ∧ (∀ a, hCR g a (h.2.2 a) H) ∧ ∀ q, q < g.2.2.2.2.2.size → H[q]? = g.2.2.2.2.2[q]?
/-- the places -/
def hAdOk (g : hV) : Prop := ∃ b0 b1, b0 < g.2.2.2.2.2.size ∧ b1 < g.2.2.2.2.2.size ∧ g.2.2.1 = hAd b0 b1 g.2.2.2.2.2.size
theorem hAd_ne {g : hV} (ok : hAdOk g) {a b : Nat} (ha : g.2.2.2.2.2.size ≤ g.2.2.1 a) (h : b ≠ a) : g.2.2.1 b ≠ g.2.2.1 a := by
  obtain ⟨b0, b1, h0, h1, e⟩ := ok
  rw [e] at ha ⊢
  match a, b, h with
  | 0, _, _ => simp only [hAd] at ha; omega
  | 1, _, _ => simp only [hAd] at ha; omega
  | a + 2, 0, _ => simp only [hAd]; omega
  | a + 2, 1, _ => simp only [hAd]; omega
  | a + 2, b + 2, h => simp only [hAd]; omega
theorem hAd_sz {g : hV} (ok : hAdOk g) {n : Nat} (hn : 2 ≤ n) : g.2.2.2.2.2.size ≤ g.2.2.1 n ∧ g.2.2.1 (n + 1) = g.2.2.1 n + 1 ∧ ∀ a, a < n → g.2.2.1 a < g.2.2.1 n := by
  obtain ⟨b0, b1, h0, h1, e⟩ := ok
  rw [e]
  match n, hn with
  | n + 2, _ =>
    refine ⟨by simp only [hAd]; omega, by simp only [hAd]; omega, fun a ha => ?_⟩
    match a, ha with
    | 0, _ => simp only [hAd]; omega
    | 1, _ => simp only [hAd]; omega
    | a + 2, ha => simp only [hAd]; omega
theorem hCR.kept {g : hV} {a : Nat} {e : hC} {H H1 : Heap} (h : hCR g a e H) (hq : H1[g.2.2.1 a]? = H[g.2.2.1 a]?) : hCR g a e H1 := by
  match e, h with
  | .inl o, h => exact ⟨h.1, h.2.1, h.2.2.1, h.2.2.2.kept hq⟩
  | .inr (t, n, .inl f), h => exact ⟨fun ht => ⟨(h.1 ht).1, by rw [hq]; exact (h.1 ht).2⟩, h.2⟩
  | .inr (t, n, .inr f), h => exact ⟨h.1, h.2.1, by rw [hq]; exact h.2.2⟩
/-- one cell changes -/
theorem hHR.put {g : hV} (ok : hAdOk g) {h : hH} {H H1 : Heap} {a : Nat} {e : hC} (hh : hHR g h H) (ha : g.2.2.2.2.2.size ≤ g.2.2.1 a) (hz : H1.size = H.size) (hq : ∀ q, q ≠ g.2.2.1 a → H1[q]? = H[q]?) (he : hCR g a e H1) : hHR g (hSt h a e) H1 := by
  refine ⟨hh.1, by rw [hz]; exact hh.2.1, fun b => ?_, fun q hq1 => ?_⟩
  · show hCR g b (if b = a then e else h.2.2 b) H1
    by_cases hb : b = a
    · rw [if_pos hb, hb]; exact he
    · rw [if_neg hb]
      exact (hh.2.2.1 b).kept (hq _ (hAd_ne ok ha hb))
  · rw [hq q (by omega)]
    exact hh.2.2.2 q hq1
/-- one cell is new -/
theorem hHR.new {g : hV} (ok : hAdOk g) {h : hH} {H H1 : Heap} {n : Nat} {e : hC} (hh : hHR g h H) (hz : H1.size = g.2.2.1 h.1 + 1) (hq : ∀ q, q < g.2.2.1 h.1 → H1[q]? = H[q]?) (he : hCR g h.1 e H1) : hHR g (hNw h n e) H1 := by
  obtain ⟨s1, s2, s3⟩ := hAd_sz ok hh.1
  refine ⟨by show 2 ≤ h.1 + 1; have := hh.1; omega, by rw [hz]; exact s2.symm, fun b => ?_, fun q hq1 => ?_⟩
  · show hCR g b (if b = h.1 then e else h.2.2 b) H1
    by_cases hb : b = h.1
    · rw [if_pos hb, hb]; exact he
    · rw [if_neg hb]
      by_cases hlt : b < h.1
      · exact (hh.2.2.1 b).kept (hq _ (s3 b hlt))
      · have hc := hh.2.2.1 b
        have hge : H.size ≤ g.2.2.1 b := by
          rw [hh.2.1]
          have := (hAd_sz ok (n := b) (by have := hh.1; omega)).2.2 h.1 (by omega)
          omega
        have hno : H[g.2.2.1 b]? = none := by simp; omega
        match h.2.2 b, hc with
        | .inl o, hc =>
          obtain ⟨cell, k1, -⟩ := hc.2.2.2
          rw [hno] at k1; cases k1
        | .inr (t, m, .inl f), hc =>
          refine ⟨fun ht => ?_, hc.2⟩
          have k1 := (hc.1 ht).2
          rw [hno] at k1; cases k1
        | .inr (t, m, .inr f), hc =>
          have k1 := hc.2.2
          rw [hno] at k1; cases k1
  · rw [hq q (by omega)]
    exact hh.2.2.2 q hq1
