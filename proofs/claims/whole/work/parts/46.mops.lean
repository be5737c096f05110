/-! the reference's banks keep to the moves on lists -/
def mj (j : Nat) : Nat := match j with
  | 0 => 0
  | 1 => 1
  | 2 => 3
  | 3 => 4
  | 4 => 5
  | 5 => 2
  | 6 => 7
  | _ => 6
theorem mV_0 (w : Nat → Int32) (B : Nat) : ∀ j, mV w B 0 j = w (B + mj j)
  | 0 => rfl
  | 1 => rfl
  | 2 => rfl
  | 3 => rfl
  | 4 => rfl
  | 5 => rfl
  | 6 => rfl
  | _ + 7 => rfl
theorem mj_ne {j : Nat} (h : j ≠ 5) : mj j ≠ 2 ∧ mj j < 8 := by
  unfold mj
  split <;> first | omega | (exact absurd rfl h)
theorem mj_in {j k : Nat} (h1 : j ≤ 7) (h2 : k ≤ 7) (e : mj j = mj k) : j = k := by
  have : ∀ j, j ≤ 7 → ∀ k, k ≤ 7 → mj j = mj k → j = k := by decide
  exact this j h1 k h2 e
theorem mV_1 (w : Nat → Int32) (B p : Nat) : mV w B 1 p = w (B + 16 + 3 * p) := rfl
theorem mV_2 (w : Nat → Int32) (B p : Nat) : mV w B 2 p = w (B + 16 + 3 * p + 1) := rfl
theorem mV_3 (w : Nat → Int32) (B p : Nat) : mV w B 3 p = w (B + 16 + 3 * p + 2) := rfl
theorem mV_4 (w : Nat → Int32) (B p : Nat) : mV w B 4 p = w (B + 148 + p) := rfl
/-- all that is said of a bank, cell by cell -/
theorem RM_of {A : aS} {w : Nat → Int32} {B : Nat} (h0 : w B = 1) (h1 : ∀ j, 1 ≤ j → j ≤ 7 → j ≠ 5 → w (B + mj j) = nI (A.1 j)) (h2 : w (B + 2) = nI A.2.1.length) (h3 : ∀ p, p < A.2.1.length → w (B + 16 + 3 * p) = nI (gC A.2.1 p).1 ∧ w (B + 16 + 3 * p + 1) = nI (gC A.2.1 p).2.1 ∧ w (B + 16 + 3 * p + 2) = nI (gC A.2.1 p).2.2) (h4 : ∀ t, t < 1000 → w (B + 148 + t) = nI (A.2.2.1 t)) (h5 : RgM A w B) : RM A w B := ⟨h0, ⟨fun j a b c => by rw [mV_0]; exact h1 j a b c, h2, h3, h4⟩, h5⟩
theorem RM_to {A : aS} {w : Nat → Int32} {B : Nat} (h : RM A w B) : w B = 1 ∧ (∀ j, 1 ≤ j → j ≤ 7 → j ≠ 5 → w (B + mj j) = nI (A.1 j)) ∧ w (B + 2) = nI A.2.1.length ∧ (∀ p, p < A.2.1.length → w (B + 16 + 3 * p) = nI (gC A.2.1 p).1 ∧ w (B + 16 + 3 * p + 1) = nI (gC A.2.1 p).2.1 ∧ w (B + 16 + 3 * p + 2) = nI (gC A.2.1 p).2.2) ∧ (∀ t, t < 1000 → w (B + 148 + t) = nI (A.2.2.1 t)) ∧ RgM A w B := ⟨h.1, fun j a b c => by have := h.2.1.1 j a b c; rw [mV_0] at this; exact this, h.2.1.2.1, h.2.1.2.2.1, h.2.1.2.2.2, h.2.2⟩
/-- a bank moved, or left alone -/
theorem RM_cong {A : aS} {w v : Nat → Int32} {B O : Nat} (h : RM A w B) (hn : A.2.1.length ≤ 24) (hg : A.2.2.2.length ≤ 20) (e : ∀ i, i < 1148 → v (O + i) = w (B + i)) : RM A v O := by
  obtain ⟨h0, h1, h2, h3, h4, h5, h6⟩ := RM_to h
  have e0 := e 0 (by omega)
  refine RM_of (by rw [Nat.add_zero, Nat.add_zero] at e0; rw [e0]; exact h0) (fun j a b c => by rw [e _ (by have := (mj_ne c).2; omega)]; exact h1 j a b c) (by rw [e 2 (by omega)]; exact h2) (fun p hp => ?_) (fun t ht => by rw [Nat.add_assoc, e _ (by omega), ← Nat.add_assoc]; exact h4 t ht) ⟨by rw [e 8 (by omega)]; exact h5, fun k hk => ?_⟩
  · have := h3 p hp
    have a1 := e (16 + 3 * p) (by omega)
    have a2 := e (16 + 3 * p + 1) (by omega)
    have a3 := e (16 + 3 * p + 2) (by omega)
    rw [show O + (16 + 3 * p) = O + 16 + 3 * p by omega, show B + (16 + 3 * p) = B + 16 + 3 * p by omega] at a1
    rw [show O + (16 + 3 * p + 1) = O + 16 + 3 * p + 1 by omega, show B + (16 + 3 * p + 1) = B + 16 + 3 * p + 1 by omega] at a2
    rw [show O + (16 + 3 * p + 2) = O + 16 + 3 * p + 2 by omega, show B + (16 + 3 * p + 2) = B + 16 + 3 * p + 2 by omega] at a3
    rw [a1, a2, a3]
    exact this
  · have := h6 k hk
    have a1 := e (88 + 3 * k) (by omega)
    have a2 := e (88 + 3 * k + 1) (by omega)
    have a3 := e (88 + 3 * k + 2) (by omega)
    rw [show O + (88 + 3 * k) = O + 88 + 3 * k by omega, show B + (88 + 3 * k) = B + 88 + 3 * k by omega] at a1
    rw [show O + (88 + 3 * k + 1) = O + 88 + 3 * k + 1 by omega, show B + (88 + 3 * k + 1) = B + 88 + 3 * k + 1 by omega] at a2
    rw [show O + (88 + 3 * k + 2) = O + 88 + 3 * k + 2 by omega, show B + (88 + 3 * k + 2) = B + 88 + 3 * k + 2 by omega] at a3
    rw [a1, a2, a3]
    exact this
theorem takW_n {w : Nat → Int32} {B n a q : Nat} (h1 : q ≠ B + 2) (h2 : q < B + 16 ∨ B + 16 + 3 * (n - 1) ≤ q) : takW w B n a q = w q := by
  unfold takW
  rw [if_neg h1, if_neg (by omega)]
theorem RM_take {A : aS} {w : Nat → Int32} {B a : Nat} (h : RM A w B) (ha : a < A.2.1.length) (hn : A.2.1.length ≤ 24) : RM (A.1, erA A.2.1 a, A.2.2) (takW w B A.2.1.length a) B := by
  obtain ⟨h0, h1, h2, h3, h4, h5, h6⟩ := RM_to h
  refine RM_of ?_ ?_ ?_ ?_ ?_ ⟨?_, ?_⟩
  · rw [takW_n (by omega) (by omega)]; exact h0
  · intro j a b c
    have := mj_ne c
    rw [takW_n (by omega) (by omega)]; exact h1 j a b c
  · dsimp only
    rw [erA_len ha]
    exact if_pos rfl
  · intro p hp
    dsimp only at hp ⊢
    rw [erA_len ha] at hp
    rw [gC_er ha]
    unfold takW
    (repeat (first | rw [if_neg (by omega)] | rw [if_pos (by omega)]))
    by_cases e : p < a
    · rw [if_pos e]
      (repeat (first | rw [if_neg (by omega)] | rw [if_pos (by omega)]))
      exact h3 p (by omega)
    · have := h3 (p + 1) (by omega)
      rw [if_neg e]
      (repeat (first | rw [if_neg (by omega)] | rw [if_pos (by omega)]))
      rw [show B + 16 + 3 * (p + 1) = B + 16 + 3 * p + 3 by omega] at this
      exact this
  · intro t ht
    rw [takW_n (by omega) (by omega)]; exact h4 t ht
  · rw [takW_n (by omega) (by omega)]; exact h5
  · intro k hk
    rw [takW_n (by omega) (by omega), takW_n (by omega) (by omega), takW_n (by omega) (by omega)]; exact h6 k hk
theorem insW_n {w : Nat → Int32} {B n k q : Nat} {t c l : Int32} (hk : k ≤ n) (h1 : q ≠ B + 2) (h2 : q < B + 16 ∨ B + 16 + 3 * (n + 1) ≤ q) : insW w B n k t c l q = w q := by
  unfold insW upW
  rw [if_neg h1]
  (repeat (first | rw [if_neg (by omega)] | rw [if_pos (by omega)]))
theorem RM_put {A : aS} {w : Nat → Int32} {B t c l : Nat} (h : RM A w B) (h24 : A.2.1.length < 24) (hC : ∀ x, x ∈ A.2.1 → x.2.1 < 2 ^ 31) (hc : c < 2 ^ 31) : RM (A.1, puA A.2.1 (t, c, l), A.2.2) (putW w B A.2.1.length (nI t) (nI c) (nI l)) B := by
  have hb := bh_A h.2.1.2.2.1 hC hc A.2.1.length (Nat.le_refl _)
  obtain ⟨h0, h1, h2, h3, h4, h5, h6⟩ := RM_to h
  have hle := bhA_le A.2.1 c A.2.1.length
  unfold putW
  rw [hb]
  refine RM_of ?_ ?_ ?_ ?_ ?_ ⟨?_, ?_⟩
  · rw [insW_n hle (by omega) (by omega)]; exact h0
  · intro j a b c
    have := mj_ne c
    rw [insW_n hle (by omega) (by omega)]; exact h1 j a b c
  · dsimp only
    rw [puA_len]
    exact if_pos rfl
  · intro p hp
    dsimp only at hp ⊢
    rw [puA_len] at hp
    unfold puA
    rw [gC_in hle]
    unfold insW upW
    (repeat (first | rw [if_neg (by omega)] | rw [if_pos (by omega)]))
    by_cases e : p < bhA A.2.1 c A.2.1.length
    · rw [if_pos e]
      (repeat (first | rw [if_neg (by omega)] | rw [if_pos (by omega)]))
      exact h3 p (by omega)
    · rw [if_neg e]
      by_cases e2 : p = bhA A.2.1 c A.2.1.length
      · rw [if_pos e2]
        (repeat (first | rw [if_neg (by omega)] | rw [if_pos (by omega)]))
        exact ⟨rfl, rfl, rfl⟩
      · have := h3 (p - 1) (by omega)
        rw [if_neg e2]
        (repeat (first | rw [if_neg (by omega)] | rw [if_pos (by omega)]))
        rw [show B + 16 + 3 * p - 3 = B + 16 + 3 * (p - 1) by omega, show B + 16 + 3 * p + 1 - 3 = B + 16 + 3 * (p - 1) + 1 by omega, show B + 16 + 3 * p + 2 - 3 = B + 16 + 3 * (p - 1) + 2 by omega]
        exact this
  · intro t ht
    rw [insW_n hle (by omega) (by omega)]; exact h4 t ht
  · rw [insW_n hle (by omega) (by omega)]; exact h5
  · intro k hk
    rw [insW_n hle (by omega) (by omega), insW_n hle (by omega) (by omega), insW_n hle (by omega) (by omega)]; exact h6 k hk
theorem tld_min (u : Nat) (h : u ≤ 20) : tldF u = min (u + 1) 20 := by
  unfold tldF
  split <;> omega
theorem gk_at (c : aK) (G : List aK) {k : Nat} (hk : k < 20) : gC ((c :: G).take 20) k = if k = 0 then c else gC G (k - 1) := by
  unfold gC
  simp only [List.getD_eq_getElem?_getD, List.getElem?_take, if_pos hk]
  cases k with
  | zero => rfl
  | succ k => simp
/-- the first goes -/
theorem RM_go {A : aS} {w : Nat → Int32} {B t X Y : Nat} (h : RM A w B) (hG : Gd X Y A) (hX : X < 2 ^ 30) (hn : 1 ≤ A.2.1.length) : RM (goA A t) (takW (gonW w B (tldF A.2.2.2.length) (nI t)) B A.2.1.length 0) B := by
  have hb := Gd_b hG hX _ (gC_mem (show 0 < A.2.1.length by omega))
  have h24 := hG.1
  have hg := hG.2.2.1
  have h22 := hG.2.1
  obtain ⟨h0, h1, h2, h3, h4, h5, h6⟩ := RM_to h
  have c0 := h3 0 (by omega)
  have e3 : grI (w (B + 4)) (w (B + 17)) = nI (max (A.1 3) (gC A.2.1 0).2.1) := by
    rw [show w (B + 4) = nI (A.1 3) from h1 3 (by omega) (by omega) (by omega), show w (B + 17) = nI (gC A.2.1 0).2.1 from c0.2.1, gr_A (by omega) (by omega)]
  have e7 : w (B + 6) + 1 = nI (A.1 7 + 1) := by
    rw [show w (B + 6) = nI (A.1 7) from h1 7 (by omega) (by omega) (by omega), nI_1]
  have hu : tldF A.2.2.2.length = min (A.2.2.2.length + 1) 20 := tld_min _ (by omega)
  have key : RM ((goA A t).1, A.2.1, A.2.2.1, (goA A t).2.2.2) (gonW w B (tldF A.2.2.2.length) (nI t)) B := by
    have g : ∀ q, gonW w B (tldF A.2.2.2.length) (nI t) q = if q = B + 4 then nI (max (A.1 3) (gC A.2.1 0).2.1) else if q = B + 6 then nI (A.1 7 + 1) else if q = B + 8 then nI (min (A.2.2.2.length + 1) 20) else if q = B + 90 then nI t else if q = B + 89 then nI (gC A.2.1 0).2.1 else if q = B + 88 then nI (gC A.2.1 0).1 else if B + 90 < q ∧ q < B + 88 + 3 * min (A.2.2.2.length + 1) 20 then w (q - 3) else w q := by
      intro q
      unfold gonW upd upG
      rw [e3, e7, hu, show w (B + 16) = nI (gC A.2.1 0).1 from c0.1, show w (B + 17) = nI (gC A.2.1 0).2.1 from c0.2.1]
    have hl : (goA A t).2.2.2.length = min (A.2.2.2.length + 1) 20 := by
      unfold goA
      rw [List.length_take, List.length_cons]
      omega
    refine RM_of ?_ ?_ ?_ ?_ ?_ ⟨?_, ?_⟩
    · rw [g]
      (repeat (first | rw [if_neg (by omega)] | rw [if_pos (by omega)]))
      exact h0
    · intro j a b c
      have hm := mj_ne c
      have i3 := fun e => mj_in (j := j) (k := 3) b (by omega) e
      have i7 := fun e => mj_in (j := j) (k := 7) b (by omega) e
      rw [g]
      show _ = nI (uN (uN A.1 7 (A.1 7 + 1)) 3 (max (A.1 3) (gC A.2.1 0).2.1) j)
      rw [uN_at, uN_at]
      by_cases e : j = 3
      · subst e
        rw [show mj 3 = 4 from rfl]
        (repeat (first | rw [if_neg (by omega)] | rw [if_pos (by omega)]))
      · have : mj j ≠ 4 := fun w => e (i3 w)
        rw [if_neg (by omega), if_neg e]
        by_cases e2 : j = 7
        · subst e2
          rw [show mj 7 = 6 from rfl]
          (repeat (first | rw [if_neg (by omega)] | rw [if_pos (by omega)]))
        · have : mj j ≠ 6 := fun w => e2 (i7 w)
          (repeat (first | rw [if_neg (by omega)] | rw [if_pos (by omega)]))
          exact h1 j a b c
    · rw [g]
      (repeat (first | rw [if_neg (by omega)] | rw [if_pos (by omega)]))
      exact h2
    · intro p hp
      dsimp only at hp
      rw [g, g, g]
      (repeat (first | rw [if_neg (by omega)] | rw [if_pos (by omega)]))
      exact h3 p hp
    · intro u hu
      rw [g]
      (repeat (first | rw [if_neg (by omega)] | rw [if_pos (by omega)]))
      exact h4 u hu
    · rw [g]
      (repeat (first | rw [if_neg (by omega)] | rw [if_pos (by omega)]))
      dsimp only
      rw [hl]
    · intro k hk
      dsimp only at hk ⊢
      rw [hl] at hk
      rw [show (goA A t).2.2.2 = (((gC A.2.1 0).1, (gC A.2.1 0).2.1, t) :: A.2.2.2).take 20 from rfl, gk_at _ _ (by omega), g, g, g]
      cases k with
      | zero =>
        (repeat (first | rw [if_neg (by omega)] | rw [if_pos (by omega)]))
        exact ⟨rfl, rfl, rfl⟩
      | succ k =>
        have := h6 k (by omega)
        (repeat (first | rw [if_neg (by omega)] | rw [if_pos (by omega)]))
        rw [show B + 88 + 3 * (k + 1) - 3 = B + 88 + 3 * k by omega, show B + 88 + 3 * (k + 1) + 1 - 3 = B + 88 + 3 * k + 1 by omega, show B + 88 + 3 * (k + 1) + 2 - 3 = B + 88 + 3 * k + 2 by omega]
        exact this
  exact RM_take key hn (Nat.le_trans h24.2.2 h24.2.1)
theorem RM_c0 {A : aS} {w : Nat → Int32} {B t x : Nat} (h : RM A w B) (ht : t < 1000) (hn : A.2.1.length ≤ 24) (hg : A.2.2.2.length ≤ 20) : RM (a0A A t x) (cm0 w B t (nI x)) B := by
  obtain ⟨h0, h1, h2, h3, h4, h5, h6⟩ := RM_to h
  have g : ∀ q, cm0 w B t (nI x) q = if q = B + 148 + t then nI (A.2.2.1 t + x) else if q = B + 3 then nI (A.1 2 + x) else w q := by
    intro q
    unfold cm0 upd
    rw [h4 t ht, show w (B + 3) = nI (A.1 2) from h1 2 (by omega) (by omega) (by omega), nI_add, nI_add]
  refine RM_of ?_ ?_ ?_ ?_ ?_ ⟨?_, ?_⟩
  · rw [g]
    (repeat (first | rw [if_neg (by omega)] | rw [if_pos (by omega)]))
    exact h0
  · intro j a b c
    have hm := mj_ne c
    have i2 := fun e => mj_in (j := j) (k := 2) b (by omega) e
    rw [g, if_neg (by omega)]
    show _ = nI (uN A.1 2 (A.1 2 + x) j)
    rw [uN_at]
    by_cases e : j = 2
    · subst e
      rw [show mj 2 = 3 from rfl]
      (repeat (first | rw [if_neg (by omega)] | rw [if_pos (by omega)]))
    · have : mj j ≠ 3 := fun w => e (i2 w)
      rw [if_neg (by omega), if_neg e]
      exact h1 j a b c
  · rw [g]
    (repeat (first | rw [if_neg (by omega)] | rw [if_pos (by omega)]))
    exact h2
  · intro p hp
    have hp2 : p < A.2.1.length := hp
    rw [g, g, g]
    (repeat (first | rw [if_neg (by omega)] | rw [if_pos (by omega)]))
    exact h3 p hp
  · intro u hu
    rw [g]
    show _ = nI (uN A.2.2.1 t (A.2.2.1 t + x) u)
    rw [uN_at]
    by_cases e : u = t
    · rw [if_pos (by omega), if_pos e]
    · (repeat (first | rw [if_neg (by omega)] | rw [if_pos (by omega)]))
      exact h4 u hu
  · rw [g]
    (repeat (first | rw [if_neg (by omega)] | rw [if_pos (by omega)]))
    exact h5
  · intro k hk
    have hk2 : k < A.2.2.2.length := hk
    rw [g, g, g]
    (repeat (first | rw [if_neg (by omega)] | rw [if_pos (by omega)]))
    exact h6 k hk
theorem RM_rk {A : aS} {w : Nat → Int32} {B t x X Y : Nat} (h : RM A w B) (hG : Gd X Y A) (hX : X + x < 2 ^ 30) (ht : t < 1000) : RM (rkA A t x).2 (cm1 w B A.2.1.length A.2.2.2.length (nI t) (nI x)).2.2 B ∧ (cm1 w B A.2.1.length A.2.2.2.length (nI t) (nI x)).1 = nI (rkA A t x).1 ∧ (cm1 w B A.2.1.length A.2.2.2.length (nI t) (nI x)).2.1 = (rkA A t x).2.2.1.length := by
  have hb := Gd_b hG (by omega)
  have h12 := hG.1
  have h22 := hG.2.1
  unfold cm1 rkA
  rcases fn_A (t := t) h.2.1.2.2.1 (fun c hc => (hb c hc).1) (by omega) (by omega) with ⟨a1, a2⟩ | ⟨a1, a2⟩
  · have b1 := hb _ (gC_mem a1)
    have r1 := h.2.1.2.2.1 _ a1
    rw [a2, if_neg (nI_m1 (by omega)), if_pos a1, nI_clamp (by omega), r1.2.1, r1.2.2, nI_add, nI_add]
    have k := RM_take h a1 (by omega)
    have k2 := RM_put (t := t) (c := (gC A.2.1 (fiA A.2.1 t)).2.1 + x) (l := (gC A.2.1 (fiA A.2.1 t)).2.2 + x) k (by dsimp only; rw [erA_len a1]; omega) (fun y hy => by have := hb _ (er_mem hy); omega) (by omega)
    dsimp only at k2 ⊢
    rw [erA_len a1] at k2
    refine ⟨k2, rfl, ?_⟩
    rw [puA_len, erA_len a1]
    omega
  · rw [a2, if_pos rfl, if_neg (by omega)]
    have e1 : w (B + 1) = nI (A.1 1) := (RM_to h).2.1 1 (by omega) (by omega) (by omega)
    have e3 : w (B + 4) = nI (A.1 3) := (RM_to h).2.1 3 (by omega) (by omega) (by omega)
    by_cases hf : A.2.1.length < A.1 1
    · have hS : ¬ w (B + 1) ≤ nI A.2.1.length := by rw [e1]; exact fun z => by have := (nI_leI (by omega) (by omega)).mp z; omega
      rw [if_neg hS, if_pos hf, e3, nI_add]
      refine ⟨?_, rfl, ?_⟩
      · exact RM_put h (by omega) (fun y hy => by have := hb _ hy; omega) (by omega)
      · dsimp only
        rw [puA_len]
    · have hS : w (B + 1) ≤ nI A.2.1.length := by rw [e1]; exact (nI_leI (by omega) (by omega)).mpr (by omega)
      rw [if_pos hS, if_neg hf]
      have hn : 1 ≤ A.2.1.length := by omega
      have b0 := hb _ (gC_mem (show 0 < A.2.1.length by omega))
      have k := RM_go (t := t) h hG (by omega) hn
      have r0 : w (B + 17) = nI (gC A.2.1 0).2.1 := (h.2.1.2.2.1 0 (by omega)).2.1
      have eg : (goA A t).1 3 = max (A.1 3) (gC A.2.1 0).2.1 := rfl
      have el : (goA A t).2.1.length = A.2.1.length - 1 := erA_len (by omega)
      have k2 := RM_put (t := t) (c := (goA A t).1 3 + x) (l := x) k (by omega) (fun y hy => by have := hb _ (er_mem (C := A.2.1) (a := 0) hy); omega) (by omega)
      rw [el] at k2
      dsimp only
      rw [e3, r0, gr_A (by omega) (by omega), nI_add]
      refine ⟨k2, rfl, ?_⟩
      rw [puA_len, el]
      omega
theorem RM_hz {B : Nat} : ∀ (D : List aK) (w : Nat → Int32) (N : Nat → Nat) (U : (Nat → Nat) × List aK), RM (N, D, U) w B → D.length ≤ 24 → (∀ c, c ∈ D → c.2.1 < 2 ^ 31) → RM (N, D.dropWhile (fun c => decide (c.2.1 = 0)), U) (hzW B D.length w).2 B ∧ (hzW B D.length w).1 = (D.dropWhile (fun c => decide (c.2.1 = 0))).length
  | [], w, N, U, h, _, _ => ⟨h, rfl⟩
  | c :: D, w, N, U, h, hl, hc => by
    have e : w (B + 17) = nI c.2.1 := (h.2.1.2.2.1 0 (by simp)).2.1
    rw [List.length_cons, hzW, e]
    by_cases h0 : c.2.1 = 0
    · rw [if_pos ((nI_z (hc c List.mem_cons_self)).mpr h0), List.dropWhile_cons_of_pos (by simpa using h0)]
      have k := RM_take (a := 0) h (by simp) hl
      exact RM_hz D _ N U k (by simp at hl; omega) (fun x hx => hc x (List.mem_cons_of_mem _ hx))
    · rw [if_neg (fun z => h0 ((nI_z (hc c List.mem_cons_self)).mp z)), List.dropWhile_cons_of_neg (by simpa using h0)]
      exact ⟨h, rfl⟩
theorem hf_dw : ∀ C : List aK, C.Pairwise (fun a b => a.2.1 ≤ b.2.1) → (C.map (fun c : aK => (c.1, c.2.1 / 2, c.2.2 / 2))).dropWhile (fun c => decide (c.2.1 = 0)) = hfA C
  | [], _ => rfl
  | c :: C, h => by
    have h2 := List.pairwise_cons.mp h
    rw [List.map_cons]
    by_cases e : 2 ≤ c.2.1
    · rw [hfA_pos e, List.dropWhile_cons_of_neg (by simp; omega)]
      have : ∀ D : List aK, (∀ x, x ∈ D → 2 ≤ x.2.1) → D.map (fun c : aK => (c.1, c.2.1 / 2, c.2.2 / 2)) = hfA D := by
        intro D
        induction D with
        | nil => intro _; rfl
        | cons d D ih =>
          intro hD
          rw [hfA_pos (hD d List.mem_cons_self), List.map_cons, ih (fun x hx => hD x (List.mem_cons_of_mem _ hx))]
      rw [this C (fun x hx => by have := h2.1 x hx; omega)]
    · rw [hfA_neg e, List.dropWhile_cons_of_pos (by simp; omega)]
      exact hf_dw C h2.2
theorem RM_ha {A : aS} {w : Nat → Int32} {B X Y : Nat} (h : RM A w B) (hG : Gd X Y A) (hX : X < 2 ^ 30) : RM (haA A) (hzW B A.2.1.length (hv4 w B A.2.1.length)).2 B ∧ (hzW B A.2.1.length (hv4 w B A.2.1.length)).1 = (haA A).2.1.length := by
  have hb := Gd_b hG hX
  have h12 := hG.1
  have h22 := hG.2.1
  have hgg := hG.2.2.1
  obtain ⟨h0, h1, h2, h3, h4, h5, h6⟩ := RM_to h
  have key : RM ((haA A).1, A.2.1.map (fun c : aK => (c.1, c.2.1 / 2, c.2.2 / 2)), (haA A).2.2) (hv4 w B A.2.1.length) B := by
    have g : ∀ q, hv4 w B A.2.1.length q = if B + 16 ≤ q ∧ q < B + 16 + 3 * A.2.1.length ∧ (q - B - 16) % 3 ≠ 0 then w q / 2 else if B + 148 ≤ q ∧ q < B + 148 + 1000 then w q / 2 else if q = B + 7 then w (B + 7) + 1 else if q = B + 4 then w (B + 4) / 2 else if q = B + 3 then w (B + 3) / 2 else w q := by
      intro q
      unfold hv4 hvC hvT hv3 upd
      grind
    have gC_m : ∀ p, p < A.2.1.length → gC (A.2.1.map (fun c : aK => (c.1, c.2.1 / 2, c.2.2 / 2))) p = ((gC A.2.1 p).1, (gC A.2.1 p).2.1 / 2, (gC A.2.1 p).2.2 / 2) := by
      intro p hp
      rw [gC_lt (by simpa using hp), gC_lt hp, List.getElem_map]
    refine RM_of ?_ ?_ ?_ ?_ ?_ ⟨?_, ?_⟩
    · rw [g]
      (repeat (first | rw [if_neg (by omega)] | rw [if_pos (by omega)]))
      exact h0
    · intro j a b c
      have hm := mj_ne c
      have i2 := fun e => mj_in (j := j) (k := 2) b (by omega) e
      have i3 := fun e => mj_in (j := j) (k := 3) b (by omega) e
      have i6 := fun e => mj_in (j := j) (k := 6) b (by omega) e
      rw [g]
      (repeat (first | rw [if_neg (by omega)] | rw [if_pos (by omega)]))
      show _ = nI (if j = 2 then A.1 2 / 2 else if j = 3 then A.1 3 / 2 else if j = 6 then A.1 6 + 1 else A.1 j)
      by_cases a6 : j = 6
      · subst a6
        rw [show mj 6 = 7 from rfl]
        (repeat (first | rw [if_neg (by omega)] | rw [if_pos (by omega)]))
        rw [show w (B + 7) = nI (A.1 6) from h1 6 (by omega) (by omega) (by omega), nI_1]
      · have : mj j ≠ 7 := fun w => a6 (i6 w)
        rw [if_neg (by omega)]
        by_cases a3 : j = 3
        · subst a3
          rw [show mj 3 = 4 from rfl]
          (repeat (first | rw [if_neg (by omega)] | rw [if_pos (by omega)]))
          rw [show w (B + 4) = nI (A.1 3) from h1 3 (by omega) (by omega) (by omega)]
          exact pk_div (d := 2) (by omega) (by omega) (by omega)
        · have : mj j ≠ 4 := fun w => a3 (i3 w)
          rw [if_neg (by omega)]
          by_cases a2 : j = 2
          · subst a2
            rw [show mj 2 = 3 from rfl]
            (repeat (first | rw [if_neg (by omega)] | rw [if_pos (by omega)]))
            rw [show w (B + 3) = nI (A.1 2) from h1 2 (by omega) (by omega) (by omega)]
            exact pk_div (d := 2) (by omega) (by omega) (by omega)
          · have : mj j ≠ 3 := fun w => a2 (i2 w)
            rw [if_neg (by omega), if_neg a2, if_neg a3, if_neg a6]
            exact h1 j a b c
    · rw [g]
      (repeat (first | rw [if_neg (by omega)] | rw [if_pos (by omega)]))
      rw [h2, List.length_map]
    · intro p hp
      dsimp only at hp ⊢
      rw [List.length_map] at hp
      have hc := h3 p hp
      have hb2 := hb _ (gC_mem hp)
      rw [gC_m p hp, g, g, g]
      (repeat (first | rw [if_neg (by omega)] | rw [if_pos (by omega)]))
      rw [hc.1, hc.2.1, hc.2.2]
      exact ⟨rfl, pk_div (d := 2) (by omega) (by omega) (by omega), pk_div (d := 2) (by omega) (by omega) (by omega)⟩
    · intro t ht
      have := sm_le (f := A.2.2.1) ht
      have := hG.2.2.2.2
      rw [g]
      (repeat (first | rw [if_neg (by omega)] | rw [if_pos (by omega)]))
      rw [h4 t ht]
      exact pk_div (d := 2) (by omega) (by omega) (by omega)
    · rw [g]
      (repeat (first | rw [if_neg (by omega)] | rw [if_pos (by omega)]))
      exact h5
    · intro k hk
      have hk2 : k < A.2.2.2.length := hk
      rw [g, g, g]
      (repeat (first | rw [if_neg (by omega)] | rw [if_pos (by omega)]))
      exact h6 k hk
  have k := RM_hz _ _ _ _ key (by rw [List.length_map]; omega) (by
    intro c hc
    obtain ⟨d, hd, rfl⟩ := List.mem_map.mp hc
    have := hb d hd
    dsimp only
    omega)
  rw [List.length_map, hf_dw _ hG.2.2.2.1.2.2.1] at k
  exact k
theorem RM_co {A : aS} {w : Nat → Int32} {B t x X Y : Nat} (h : RM A w B) (hG : Gd X Y A) (hX : X + x + x < 2 ^ 30) (ht : t < 1000) (hx : 1 ≤ x) : RM (coA A t x).2 (cmW w B A.2.1.length A.2.2.2.length t (nI x)).2.2 B ∧ (cmW w B A.2.1.length A.2.2.2.length t (nI x)).1 = nI (coA A t x).1 := by
  have h12 := hG.1
  have hgg := hG.2.2.1
  obtain ⟨k1, k2, k3⟩ : RM (rkA (a0A A t x) t x).2 (cm1 (cm0 w B t (nI x)) B A.2.1.length A.2.2.2.length (nI t) (nI x)).2.2 B ∧ (cm1 (cm0 w B t (nI x)) B A.2.1.length A.2.2.2.length (nI t) (nI x)).1 = nI (rkA (a0A A t x) t x).1 ∧ (cm1 (cm0 w B t (nI x)) B A.2.1.length A.2.2.2.length (nI t) (nI x)).2.1 = (rkA (a0A A t x) t x).2.2.1.length := RM_rk (RM_c0 (x := x) h ht (by omega) (by omega)) (Gd_a0 hG ht) (by omega) ht
  have g := Gd_rk hG ht hx
  have e4 := (RM_to k1).2.1 4 (by omega) (by omega) (by omega)
  have e2 := (RM_to k1).2.1 2 (by omega) (by omega) (by omega)
  have g2 := g.2.1
  unfold cmW coA hhA cm2
  generalize cm1 (cm0 w B t (nI x)) B A.2.1.length A.2.2.2.length (nI t) (nI x) = R at *
  generalize rkA (a0A A t x) t x = Q at *
  by_cases c1 : Q.2.1 4 = 0
  · have d1 : R.2.2 (B + 5) = 0 := e4.trans ((nI_z (by omega)).mpr c1)
    rw [if_pos d1, if_pos c1]
    exact ⟨k1, k2⟩
  · have d1 : ¬ R.2.2 (B + 5) = 0 := fun z => c1 ((nI_z (by omega)).mp (e4.symm.trans z))
    rw [if_neg d1, if_neg c1]
    by_cases c2 : Q.2.1 2 < Q.2.1 4
    · have d2 : R.2.2 (B + 3) < R.2.2 (B + 5) := by rw [show R.2.2 (B + 5) = _ from e4, show R.2.2 (B + 3) = _ from e2]; exact (nI_ltI (by omega) (by omega)).mpr c2
      rw [if_pos d2, if_pos c2]
      exact ⟨k1, k2⟩
    · have d2 : ¬ R.2.2 (B + 3) < R.2.2 (B + 5) := by rw [show R.2.2 (B + 5) = _ from e4, show R.2.2 (B + 3) = _ from e2]; exact fun z => c2 ((nI_ltI (by omega) (by omega)).mp z)
      rw [if_neg d2, if_neg c2]
      dsimp only
      rw [k3]
      exact ⟨(RM_ha k1 g (by omega)).1, k2⟩
