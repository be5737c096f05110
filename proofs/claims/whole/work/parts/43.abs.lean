/-! SUMMARIES AS LISTS: a counter is a thing, its count, its low; a summary its numbers (1 room, 2 total, 3 absent, 4 halving, 6 halved, 7 went), its counters, truths, those gone, the latest first -/
abbrev aK : Type := Nat × Nat × Nat
abbrev aS : Type := (Nat → Nat) × List aK × (Nat → Nat) × List aK
def uN (f : Nat → Nat) (k v : Nat) : Nat → Nat := fun j => if j = k then v else f j
def sm (f : Nat → Nat) : Nat → Nat
  | 0 => 0
  | n + 1 => sm f n + f n
def gC (C : List aK) (p : Nat) : aK := C.getD p (0, 0, 0)
def lwS (C : List aK) : Nat := (C.map fun c => c.2.2).sum
def inA (C : List aK) (k : Nat) (x : aK) : List aK := C.take k ++ x :: C.drop k
def erA (C : List aK) (a : Nat) : List aK := C.take a ++ C.drop (a + 1)
def bhA (C : List aK) (c : Nat) : Nat → Nat
  | 0 => 0
  | a + 1 => if (gC C a).2.1 ≤ c then a + 1 else bhA C c a
def puA (C : List aK) (x : aK) : List aK := inA C (bhA C x.2.1 C.length) x
def fiA (C : List aK) (t : Nat) : Nat := C.findIdx (fun c => c.1 == t)
theorem gC_lt {C : List aK} {p : Nat} (h : p < C.length) : gC C p = C[p] := by
  simp [gC, List.getD_eq_getElem?_getD, h]
theorem gC_mem {C : List aK} {p : Nat} (h : p < C.length) : gC C p ∈ C := by
  rw [gC_lt h]
  exact List.getElem_mem h
theorem gC_ex {C : List aK} {c : aK} (h : c ∈ C) : ∃ p, p < C.length ∧ gC C p = c := by
  obtain ⟨p, hp, e⟩ := List.getElem_of_mem h
  exact ⟨p, hp, by rw [gC_lt hp]; exact e⟩
theorem inA_len {C : List aK} {k : Nat} {x : aK} (h : k ≤ C.length) : (inA C k x).length = C.length + 1 := by
  simp [inA]
  omega
theorem erA_len {C : List aK} {a : Nat} (h : a < C.length) : (erA C a).length = C.length - 1 := by
  simp [erA]
  omega
theorem gC_in {C : List aK} {k : Nat} {x : aK} (h : k ≤ C.length) (p : Nat) : gC (inA C k x) p = if p < k then gC C p else if p = k then x else gC C (p - 1) := by
  unfold gC inA
  simp only [List.getD_eq_getElem?_getD, List.getElem?_append, List.length_take, Nat.min_eq_left h]
  by_cases h1 : p < k
  · rw [if_pos h1, if_pos h1, List.getElem?_take, if_pos h1]
  · rw [if_neg h1, if_neg h1]
    by_cases h2 : p = k
    · subst h2
      simp
    · rw [if_neg h2]
      obtain ⟨d, rfl⟩ : ∃ d, p = k + d + 1 := ⟨p - k - 1, by omega⟩
      rw [show k + d + 1 - k = d + 1 by omega, List.getElem?_cons_succ, List.getElem?_drop, show k + d + 1 - 1 = k + d by omega]
theorem gC_er {C : List aK} {a : Nat} (h : a < C.length) (p : Nat) : gC (erA C a) p = if p < a then gC C p else gC C (p + 1) := by
  unfold gC erA
  simp only [List.getD_eq_getElem?_getD, List.getElem?_append, List.length_take, Nat.min_eq_left (Nat.le_of_lt h)]
  by_cases h1 : p < a
  · rw [if_pos h1, if_pos h1, List.getElem?_take, if_pos h1]
  · rw [if_neg h1, if_neg h1, List.getElem?_drop, show a + 1 + (p - a) = p + 1 by omega]
theorem bhA_le (C : List aK) (c : Nat) : ∀ a, bhA C c a ≤ a
  | 0 => Nat.le_refl 0
  | a + 1 => by
    have := bhA_le C c a
    unfold bhA
    split <;> omega
theorem puA_len (C : List aK) (x : aK) : (puA C x).length = C.length + 1 := inA_len (bhA_le _ _ _)
theorem fiA_le (C : List aK) (t : Nat) : fiA C t ≤ C.length := List.findIdx_le_length
theorem fiA_at {C : List aK} {t : Nat} (h : fiA C t < C.length) : (gC C (fiA C t)).1 = t := by
  have := List.findIdx_getElem (p := fun c : aK => c.1 == t) (xs := C) (w := h)
  rw [gC_lt h]
  simp only [beq_iff_eq] at this
  exact this
theorem fiA_ne {C : List aK} {t p : Nat} (h : p < fiA C t) : (gC C p).1 ≠ t := by
  have h2 : p < C.length := Nat.lt_of_lt_of_le h (fiA_le C t)
  have := List.not_of_lt_findIdx (p := fun c : aK => c.1 == t) (xs := C) h
  rw [gC_lt h2]
  simpa using this
/-- the counters' rows -/
def Rc (C : List aK) (S : hT2) : Prop := ∀ p, p < C.length → S 1 p = nI (gC C p).1 ∧ S 2 p = nI (gC C p).2.1 ∧ S 3 p = nI (gC C p).2.2
def Rp (A : aS) (S : hT2) : Prop := (∀ j, 1 ≤ j → j ≤ 7 → j ≠ 5 → S 0 j = nI (A.1 j)) ∧ S 0 5 = nI A.2.1.length ∧ Rc A.2.1 S ∧ ∀ t, t < 1000 → S 4 t = nI (A.2.2.1 t)
/-- of the class: those gone, in a ring -/
def RgS (A : aS) (S : hT2) : Prop := ∀ k, k < A.2.2.2.length → S 5 ((A.1 7 - 1 - k) % 20) = nI (gC A.2.2.2 k).1 ∧ S 6 ((A.1 7 - 1 - k) % 20) = nI (gC A.2.2.2 k).2.1 ∧ S 7 ((A.1 7 - 1 - k) % 20) = nI (gC A.2.2.2 k).2.2
/-- of the reference -/
def RgM (A : aS) (w : Nat → Int32) (B : Nat) : Prop := w (B + 8) = nI A.2.2.2.length ∧ ∀ k, k < A.2.2.2.length → w (B + 88 + 3 * k) = nI (gC A.2.2.2 k).1 ∧ w (B + 88 + 3 * k + 1) = nI (gC A.2.2.2 k).2.1 ∧ w (B + 88 + 3 * k + 2) = nI (gC A.2.2.2 k).2.2
/-- what holds of the counters -/
def Gc (T : Nat) (C : List aK) : Prop := (∀ c, c ∈ C → c.1 < 1000 ∧ 1 ≤ c.2.1 ∧ c.2.1 ≤ T ∧ c.2.2 ≤ c.2.1) ∧ (C.map fun c => c.1).Nodup ∧ C.Pairwise (fun a b => a.2.1 ≤ b.2.1) ∧ lwS C ≤ T
/-- what holds of a summary: totals up to X, of those gone up to Y -/
def Gd (X Y : Nat) (A : aS) : Prop := (1 ≤ A.1 1 ∧ A.1 1 ≤ 24 ∧ A.2.1.length ≤ A.1 1) ∧ (A.1 2 ≤ X ∧ A.1 3 ≤ A.1 2 ∧ A.1 4 ≤ 1000000000) ∧ (A.1 7 ≤ Y ∧ A.2.2.2.length = min (A.1 7) 20) ∧ Gc (A.1 2) A.2.1 ∧ sm A.2.2.1 1000 ≤ A.1 2
theorem Gc_at {T : Nat} {C : List aK} (h : Gc T C) {p : Nat} (hp : p < C.length) : (gC C p).1 < 1000 ∧ 1 ≤ (gC C p).2.1 ∧ (gC C p).2.1 ≤ T ∧ (gC C p).2.2 ≤ (gC C p).2.1 := h.1 _ (gC_mem hp)
theorem Gc_inj {T : Nat} {C : List aK} (h : Gc T C) {p q : Nat} (hp : p < C.length) (hq : q < C.length) (e : (gC C p).1 = (gC C q).1) : p = q := by
  have h2 := h.2.1
  rw [gC_lt hp, gC_lt hq] at e
  have h3 := List.pairwise_iff_getElem.mp h2
  by_cases h4 : p < q
  · exact absurd ((List.getElem_map _).trans (e.trans (List.getElem_map _).symm)) (h3 p q (by simpa using hp) (by simpa using hq) h4)
  · by_cases h5 : q < p
    · exact absurd ((List.getElem_map _).trans (e.symm.trans (List.getElem_map _).symm)) (h3 q p (by simpa using hq) (by simpa using hp) h5)
    · omega
theorem Gc_srt {T : Nat} {C : List aK} (h : Gc T C) {p q : Nat} (hpq : p ≤ q) (hq : q < C.length) : (gC C p).2.1 ≤ (gC C q).2.1 := by
  by_cases e : p = q
  · subst e; exact Nat.le_refl _
  · have := List.pairwise_iff_getElem.mp h.2.2.1 p q (by omega) hq (by omega)
    rw [gC_lt hq, gC_lt (show p < C.length by omega)]
    exact this
/-- find -/
theorem fn_A {C : List aK} {S : hT2} {t : Nat} (hR : Rc C S) (hC : ∀ c, c ∈ C → c.1 < 1000) (ht : t < 2 ^ 31) (hn : C.length ≤ 24) : (fiA C t < C.length ∧ fnF (S 1) (nI t) C.length 0 = nI (fiA C t)) ∨ (fiA C t = C.length ∧ fnF (S 1) (nI t) C.length 0 = -1) := by
  rcases fnF_or (S 1) (nI t) C.length 0 with ⟨h1, h2⟩ | ⟨q, -, h2, h3, h4, h5⟩
  · refine Or.inr ⟨?_, h1⟩
    by_cases e : fiA C t < C.length
    · have := h2 (fiA C t) (by omega) (by omega)
      rw [(hR _ e).1, fiA_at e] at this
      exact absurd rfl this
    · have := fiA_le C t
      omega
  · have hq : q < C.length := by omega
    have a1 : (gC C q).1 = t := by
      rw [(hR q hq).1] at h4
      exact (nI_eq (by have := hC _ (gC_mem hq); omega) ht).mp h4
    have a2 : fiA C t ≤ q := by
      by_cases e : q < fiA C t
      · exact absurd a1 (fiA_ne e)
      · omega
    have a3 : fiA C t = q := by
      by_cases e : fiA C t < q
      · have := h5 (fiA C t) (by omega) e
        rw [(hR _ (by omega)).1, fiA_at (by omega)] at this
        exact absurd rfl this
      · omega
    exact Or.inl ⟨by omega, by rw [h3, a3]⟩
theorem bh_A {C : List aK} {S : hT2} {c : Nat} (hR : Rc C S) (hC : ∀ x, x ∈ C → x.2.1 < 2 ^ 31) (hc : c < 2 ^ 31) : ∀ a, a ≤ C.length → bhF S (nI c) a = bhA C c a
  | 0, _ => rfl
  | a + 1, h => by
    have h1 := (hR a (by omega)).2.1
    have h2 := hC _ (gC_mem (show a < C.length by omega))
    unfold bhF bhA
    rw [h1, bh_A hR hC hc a (by omega)]
    by_cases e : (gC C a).2.1 ≤ c
    · rw [if_pos e, if_pos ((nI_leI h2 hc).mpr e)]
    · rw [if_neg e, if_neg (fun w => e ((nI_leI h2 hc).mp w))]
theorem setF_at (S : hT2) (p : Nat) (t c l : Int32) (r q : Nat) : setF S p t c l r q = if r = 1 ∧ q = p then t else if r = 2 ∧ q = p then c else if r = 3 ∧ q = p then l else S r q := by
  by_cases h1 : r = 1
  · subst h1; simp [setF, upd]
  · by_cases h2 : r = 2
    · subst h2; simp [setF, upd]
    · by_cases h3 : r = 3
      · subst h3; simp [setF, upd]
      · simp [setF, h1, h2, h3]
theorem toF_at : ∀ d p (S : hT2), 1 ≤ p → ∀ r q, toF d p S r q = if (1 ≤ r ∧ r ≤ 3) ∧ p ≤ q + 1 ∧ q + 1 < p + d then S r (q + 1) else S r q
  | 0, p, S, h, r, q => by
    rw [toF, if_neg (by omega)]
  | d + 1, p, S, h, r, q => by
    rw [toF, toF_at d (p + 1) _ (by omega), setF_at, setF_at]
    have e : p - 1 + 1 = p := by omega
    grind
theorem shF_at (a : Nat) : ∀ d (S : hT2) (r q : Nat), shF a d S r q = if (1 ≤ r ∧ r ≤ 3) ∧ a < q ∧ q ≤ a + d then S r (q - 1) else S r q
  | 0, S, r, q => by
    rw [shF, if_neg (by omega)]
  | d + 1, S, r, q => by
    rw [shF, shF_at a d, setF_at, setF_at]
    grind
