/-! a bank's moves leave all other cells alone -/
def Ot (B q : Nat) : Prop := q < B ∨ B + 1148 ≤ q
theorem takW_o {w : Nat → Int32} {B n a q : Nat} (hn : n ≤ 25) (h : Ot B q) : takW w B n a q = w q := by
  unfold Ot at h
  exact takW_n (by omega) (by omega)
theorem insW_o {w : Nat → Int32} {B n k q : Nat} {t c l : Int32} (hk : k ≤ n) (hn : n ≤ 24) (h : Ot B q) : insW w B n k t c l q = w q := by
  unfold Ot at h
  exact insW_n hk (by omega) (by omega)
theorem putW_o {w : Nat → Int32} {B n q : Nat} {t c l : Int32} (hn : n ≤ 24) (h : Ot B q) : putW w B n t c l q = w q := insW_o (bhF_le _ _ _) hn h
theorem gonW_o {w : Nat → Int32} {B u q : Nat} {t : Int32} (hu : u ≤ 20) (h : Ot B q) : gonW w B u t q = w q := by
  unfold Ot at h
  unfold gonW upd upG
  (repeat (first | rw [if_neg (by omega)] | rw [if_pos (by omega)]))
theorem cm0_o {w : Nat → Int32} {B t q : Nat} {x : Int32} (ht : t < 1000) (h : Ot B q) : cm0 w B t x q = w q := by
  unfold Ot at h
  unfold cm0 upd
  (repeat (first | rw [if_neg (by omega)] | rw [if_pos (by omega)]))
theorem tldF_le (u : Nat) : tldF u ≤ 20 := by
  unfold tldF
  split <;> omega
theorem cm1_o {w : Nat → Int32} {B n u q : Nat} {t x : Int32} (hn : n ≤ 24) (h : Ot B q) : (cm1 w B n u t x).2.2 q = w q := by
  unfold cm1
  split
  · split
    · dsimp only
      rw [putW_o (by omega) h, takW_o (by omega) h, gonW_o (tldF_le u) h]
    · dsimp only
      rw [putW_o (by omega) h]
  · dsimp only
    rw [putW_o (by omega) h, takW_o (by omega) h]
theorem hzW_o {B q : Nat} (h : Ot B q) : ∀ n (w : Nat → Int32), n ≤ 24 → (hzW B n w).2 q = w q
  | 0, w, _ => rfl
  | n + 1, w, hn => by
    unfold hzW
    split
    · rw [hzW_o h n _ (by omega), takW_o (by omega) h]
    · rfl
theorem hv4_o {w : Nat → Int32} {B n q : Nat} (hn : n ≤ 24) (h : Ot B q) : hv4 w B n q = w q := by
  unfold Ot at h
  unfold hv4 hvC hvT hv3 upd
  (repeat (first | rw [if_neg (by omega)] | rw [if_pos (by omega)]))
theorem cmW_o {w : Nat → Int32} {B n u t q : Nat} {x : Int32} (ht : t < 1000) (hn : n ≤ 24) (hk : (cm1 (cm0 w B t x) B n u (nI t) x).2.1 ≤ 24) (h : Ot B q) : (cmW w B n u t x).2.2 q = w q := by
  unfold cmW cm2
  have e : (cm1 (cm0 w B t x) B n u (nI t) x).2.2 q = w q := by rw [cm1_o hn h, cm0_o ht h]
  split
  · exact e
  · split
    · exact e
    · dsimp only
      rw [hzW_o h _ _ hk, hv4_o hk h, e]
/-! come -/
theorem coA_tot {A : aS} {t x : Nat} : (coA A t x).2.1 2 ≤ A.1 2 + x := by
  have h1 : (rkA (a0A A t x) t x).2.1 2 = A.1 2 + x := by
    unfold rkA
    split
    · rfl
    · split
      · rfl
      · rfl
  unfold coA hhA
  split
  · omega
  · split
    · omega
    · show (rkA (a0A A t x) t x).2.1 2 / 2 ≤ _
      omega
section CO
variable {E : hEn} {w : hWo}
theorem x_hasSpace {q : Nat} (hq : q < 31) (x : Int32) : hRun 92 0 [.ref (bs q), .int x] [] (hW E w) (some (.int (if 1000000000 - x < w.1 q 0 2 then 0 else 1))) (hW E w) := by
  have := c_hasSpace (h := hW E w) (b := bs q) (S := w.1 q) x
  rw [hW_S0 hq] at this
  exact this
theorem sp_t {T x : Nat} (h : T + x ≤ 1000000000) : (if 1000000000 - nI x < nI T then 0 else 1 : Int32) = 1 := by
  rw [show (1000000000 : Int32) - nI x = nI (1000000000 - x) from pk_sub (a := 1000000000) (by omega)]
  exact if_neg (nI_nlt (by omega) (by omega))
theorem sp_f {T x : Nat} (h : ¬ T + x ≤ 1000000000) (hx : x ≤ 1000000000) (hT : T < 2 ^ 31) : (if 1000000000 - nI x < nI T then 0 else 1 : Int32) = 0 := by
  rw [show (1000000000 : Int32) - nI x = nI (1000000000 - x) from pk_sub (a := 1000000000) (by omega)]
  exact if_pos (nI_lt (by omega) (by omega))
theorem x_arrive {q t x Y : Nat} {A : aS} {X : Nat} (hX : X + x + x < 2 ^ 30) (hq : q < 31) (hG : Gd X Y A) (hY : Y < 2 ^ 30) (hS : RS A (w.1 q)) (ht : t < 1000) (hx1 : 1 ≤ x) : hRun 34 0 [.ref (bs q), .int (nI t), .int (nI x), hU] [] (hpS (hW E w) (bs q) (w.1 q)) (some (.int (nI (coA A t x).1))) (hpS (hW E w) (bs q) (arF (w.1 q) A.2.1.length (A.1 7) t (nI x)).2.1) := by
  have h1 := hG.1
  have h7 := hG.2.2.1.1
  have := c_arrive (h := hW E w) (b := bs q) (S := w.1 q) (n := A.2.1.length) (w := A.1 7) (t := t) (nI x) ht hS.2.1.2.1 (by omega) (hS.2.1.1 1 (by omega) (by omega) (by omega)) h1.1 h1.2.1 (hS.2.1.1 7 (by omega) (by omega) (by omega)) (by omega)
  rw [(RS_co hS hG hX ht hx1).2] at this
  exact this
theorem x_takeIn {q t x Y : Nat} {A : aS} (hq : q < 31) (hG : Gd 1000000000 Y A) (hY : Y < 2 ^ 30) (hS : RS A (w.1 q)) (ht : t < 1000) (hx1 : 1 ≤ x) (hx2 : x ≤ 9999) (hsp : A.1 2 + x ≤ 1000000000) : hRun 89 0 [.ref (bs q), .int (nI t), .int (nI x)] [] (hW E w) (some (.int (nI (coA A t x).1))) (hW E (wS w q (arF (w.1 q) A.2.1.length (A.1 7) t (nI x)).2.1)) := by
  have r1 : rgI (nI t) 0 999 = 1 := rgI_t (by rw [nI_toInt (by omega)]; omega)
  have r2 : rgI (nI x) 1 9999 = 1 := rgI_t (by rw [nI_toInt (by omega)]; omega)
  have e2 := hS.2.1.1 2 (by omega) (by omega) (by omega)
  (repeat (first | refine r_fy rfl rfl rfl rfl ?_ | exact r_ret rfl rfl rfl rfl | refine r_get rfl rfl rfl ?_ | refine wS_getE (by omega) rfl rfl (by with_reducible assumption) ?_ | refine wS_get (by omega) rfl rfl ?_ | refine r_brT rfl rfl (by with_reducible first | assumption | rfl | exact nz10 | exact nI_pos (by omega) | exact nI_lt (by omega) (by omega) | exact nI_nlt (by omega) (by omega) | exact nI_le (by omega) (by omega) | exact nI_ge (by omega) (by omega)) ?_ | refine r_brF rfl rfl (by with_reducible first | assumption | rfl | exact nz10 | exact nI_pos (by omega) | exact nI_lt (by omega) (by omega) | exact nI_nlt (by omega) (by omega) | exact nI_le (by omega) (by omega) | exact nI_ge (by omega) (by omega)) ?_ | refine wH_call rfl rfl rfl rfl rfl (x_standing_t (by with_reducible assumption) (by with_reducible assumption)) ?_ | refine wH_call rfl rfl rfl rfl rfl (x_standing_f (by with_reducible assumption)) ?_ | refine r_callS rfl rfl rfl rfl (p_isSummary (by with_reducible assumption)) ?_ | refine r_callS rfl rfl rfl rfl (p_isThing (by with_reducible assumption)) ?_ | refine r_callS rfl rfl rfl rfl (p_isRoom (by with_reducible assumption)) ?_ | refine r_callS rfl rfl rfl rfl (p_isTop (by with_reducible assumption)) ?_ | refine r_callS rfl rfl rfl rfl (p_isWeight (by with_reducible assumption)) ?_ | refine r_callS rfl rfl rfl rfl (p_isShare (by with_reducible assumption)) ?_ | refine r_callS rfl rfl rfl rfl (p_isWindow (by with_reducible assumption)) ?_ | refine r_callS rfl rfl rfl rfl (p_isImage (by with_reducible assumption)) ?_ | refine r_tswd rfl (by with_reducible assumption) ?_ | refine wS_ild (by omega) rfl rfl (by first | assumption | omega | (simp only [lS]; omega)) ?_)); try dsimp only
  refine r_callS rfl rfl rfl rfl (x_hasSpace hq _) ?_
  rw [e2, sp_t hsp]
  (repeat (first | refine r_fy rfl rfl rfl rfl ?_ | exact r_ret rfl rfl rfl rfl | refine r_get rfl rfl rfl ?_ | refine wS_getE (by omega) rfl rfl (by with_reducible assumption) ?_ | refine wS_get (by omega) rfl rfl ?_ | refine r_brT rfl rfl (by with_reducible first | assumption | rfl | exact nz10 | exact nI_pos (by omega) | exact nI_lt (by omega) (by omega) | exact nI_nlt (by omega) (by omega) | exact nI_le (by omega) (by omega) | exact nI_ge (by omega) (by omega)) ?_ | refine r_brF rfl rfl (by with_reducible first | assumption | rfl | exact nz10 | exact nI_pos (by omega) | exact nI_lt (by omega) (by omega) | exact nI_nlt (by omega) (by omega) | exact nI_le (by omega) (by omega) | exact nI_ge (by omega) (by omega)) ?_ | refine wH_call rfl rfl rfl rfl rfl (x_standing_t (by with_reducible assumption) (by with_reducible assumption)) ?_ | refine wH_call rfl rfl rfl rfl rfl (x_standing_f (by with_reducible assumption)) ?_ | refine r_callS rfl rfl rfl rfl (p_isSummary (by with_reducible assumption)) ?_ | refine r_callS rfl rfl rfl rfl (p_isThing (by with_reducible assumption)) ?_ | refine r_callS rfl rfl rfl rfl (p_isRoom (by with_reducible assumption)) ?_ | refine r_callS rfl rfl rfl rfl (p_isTop (by with_reducible assumption)) ?_ | refine r_callS rfl rfl rfl rfl (p_isWeight (by with_reducible assumption)) ?_ | refine r_callS rfl rfl rfl rfl (p_isShare (by with_reducible assumption)) ?_ | refine r_callS rfl rfl rfl rfl (p_isWindow (by with_reducible assumption)) ?_ | refine r_callS rfl rfl rfl rfl (p_isImage (by with_reducible assumption)) ?_ | refine r_tswd rfl (by with_reducible assumption) ?_ | refine wS_ild (by omega) rfl rfl (by first | assumption | omega | (simp only [lS]; omega)) ?_)); try dsimp only
  refine wS_call (by omega) rfl rfl rfl rfl rfl (x_arrive (by omega) hq hG hY hS ht hx1) ?_
  (repeat (first | refine r_fy rfl rfl rfl rfl ?_ | exact r_ret rfl rfl rfl rfl | refine r_get rfl rfl rfl ?_ | refine wS_getE (by omega) rfl rfl (by with_reducible assumption) ?_ | refine wS_get (by omega) rfl rfl ?_ | refine r_brT rfl rfl (by with_reducible first | assumption | rfl | exact nz10 | exact nI_pos (by omega) | exact nI_lt (by omega) (by omega) | exact nI_nlt (by omega) (by omega) | exact nI_le (by omega) (by omega) | exact nI_ge (by omega) (by omega)) ?_ | refine r_brF rfl rfl (by with_reducible first | assumption | rfl | exact nz10 | exact nI_pos (by omega) | exact nI_lt (by omega) (by omega) | exact nI_nlt (by omega) (by omega) | exact nI_le (by omega) (by omega) | exact nI_ge (by omega) (by omega)) ?_ | refine wH_call rfl rfl rfl rfl rfl (x_standing_t (by with_reducible assumption) (by with_reducible assumption)) ?_ | refine wH_call rfl rfl rfl rfl rfl (x_standing_f (by with_reducible assumption)) ?_ | refine r_callS rfl rfl rfl rfl (p_isSummary (by with_reducible assumption)) ?_ | refine r_callS rfl rfl rfl rfl (p_isThing (by with_reducible assumption)) ?_ | refine r_callS rfl rfl rfl rfl (p_isRoom (by with_reducible assumption)) ?_ | refine r_callS rfl rfl rfl rfl (p_isTop (by with_reducible assumption)) ?_ | refine r_callS rfl rfl rfl rfl (p_isWeight (by with_reducible assumption)) ?_ | refine r_callS rfl rfl rfl rfl (p_isShare (by with_reducible assumption)) ?_ | refine r_callS rfl rfl rfl rfl (p_isWindow (by with_reducible assumption)) ?_ | refine r_callS rfl rfl rfl rfl (p_isImage (by with_reducible assumption)) ?_ | refine r_tswd rfl (by with_reducible assumption) ?_ | refine wS_ild (by omega) rfl rfl (by first | assumption | omega | (simp only [lS]; omega)) ?_)); try dsimp only
theorem x_takeIn_r {q t x : Nat} {T : Nat} (hq : q < 31) (e2 : w.1 q 0 2 = nI T) (hT : T ≤ 1000000000) (ht : t < 1000) (hx1 : 1 ≤ x) (hx2 : x ≤ 9999) (hsp : ¬ T + x ≤ 1000000000) : hRun 89 0 [.ref (bs q), .int (nI t), .int (nI x)] [] (hW E w) (some (.int (-3))) (hW E w) := by
  have r1 : rgI (nI t) 0 999 = 1 := rgI_t (by rw [nI_toInt (by omega)]; omega)
  have r2 : rgI (nI x) 1 9999 = 1 := rgI_t (by rw [nI_toInt (by omega)]; omega)
  (repeat (first | refine r_fy rfl rfl rfl rfl ?_ | exact r_ret rfl rfl rfl rfl | refine r_get rfl rfl rfl ?_ | refine wS_getE (by omega) rfl rfl (by with_reducible assumption) ?_ | refine wS_get (by omega) rfl rfl ?_ | refine r_brT rfl rfl (by with_reducible first | assumption | rfl | exact nz10 | exact nI_pos (by omega) | exact nI_lt (by omega) (by omega) | exact nI_nlt (by omega) (by omega) | exact nI_le (by omega) (by omega) | exact nI_ge (by omega) (by omega)) ?_ | refine r_brF rfl rfl (by with_reducible first | assumption | rfl | exact nz10 | exact nI_pos (by omega) | exact nI_lt (by omega) (by omega) | exact nI_nlt (by omega) (by omega) | exact nI_le (by omega) (by omega) | exact nI_ge (by omega) (by omega)) ?_ | refine wH_call rfl rfl rfl rfl rfl (x_standing_t (by with_reducible assumption) (by with_reducible assumption)) ?_ | refine wH_call rfl rfl rfl rfl rfl (x_standing_f (by with_reducible assumption)) ?_ | refine r_callS rfl rfl rfl rfl (p_isSummary (by with_reducible assumption)) ?_ | refine r_callS rfl rfl rfl rfl (p_isThing (by with_reducible assumption)) ?_ | refine r_callS rfl rfl rfl rfl (p_isRoom (by with_reducible assumption)) ?_ | refine r_callS rfl rfl rfl rfl (p_isTop (by with_reducible assumption)) ?_ | refine r_callS rfl rfl rfl rfl (p_isWeight (by with_reducible assumption)) ?_ | refine r_callS rfl rfl rfl rfl (p_isShare (by with_reducible assumption)) ?_ | refine r_callS rfl rfl rfl rfl (p_isWindow (by with_reducible assumption)) ?_ | refine r_callS rfl rfl rfl rfl (p_isImage (by with_reducible assumption)) ?_ | refine r_tswd rfl (by with_reducible assumption) ?_ | refine wS_ild (by omega) rfl rfl (by first | assumption | omega | (simp only [lS]; omega)) ?_)); try dsimp only
  refine r_callS rfl rfl rfl rfl (x_hasSpace hq _) ?_
  rw [e2, sp_f hsp (by omega) (by omega)]
  (repeat (first | refine r_fy rfl rfl rfl rfl ?_ | exact r_ret rfl rfl rfl rfl | refine r_get rfl rfl rfl ?_ | refine wS_getE (by omega) rfl rfl (by with_reducible assumption) ?_ | refine wS_get (by omega) rfl rfl ?_ | refine r_brT rfl rfl (by with_reducible first | assumption | rfl | exact nz10 | exact nI_pos (by omega) | exact nI_lt (by omega) (by omega) | exact nI_nlt (by omega) (by omega) | exact nI_le (by omega) (by omega) | exact nI_ge (by omega) (by omega)) ?_ | refine r_brF rfl rfl (by with_reducible first | assumption | rfl | exact nz10 | exact nI_pos (by omega) | exact nI_lt (by omega) (by omega) | exact nI_nlt (by omega) (by omega) | exact nI_le (by omega) (by omega) | exact nI_ge (by omega) (by omega)) ?_ | refine wH_call rfl rfl rfl rfl rfl (x_standing_t (by with_reducible assumption) (by with_reducible assumption)) ?_ | refine wH_call rfl rfl rfl rfl rfl (x_standing_f (by with_reducible assumption)) ?_ | refine r_callS rfl rfl rfl rfl (p_isSummary (by with_reducible assumption)) ?_ | refine r_callS rfl rfl rfl rfl (p_isThing (by with_reducible assumption)) ?_ | refine r_callS rfl rfl rfl rfl (p_isRoom (by with_reducible assumption)) ?_ | refine r_callS rfl rfl rfl rfl (p_isTop (by with_reducible assumption)) ?_ | refine r_callS rfl rfl rfl rfl (p_isWeight (by with_reducible assumption)) ?_ | refine r_callS rfl rfl rfl rfl (p_isShare (by with_reducible assumption)) ?_ | refine r_callS rfl rfl rfl rfl (p_isWindow (by with_reducible assumption)) ?_ | refine r_callS rfl rfl rfl rfl (p_isImage (by with_reducible assumption)) ?_ | refine r_tswd rfl (by with_reducible assumption) ?_ | refine wS_ild (by omega) rfl rfl (by first | assumption | omega | (simp only [lS]; omega)) ?_)); try dsimp only
theorem x_takeIn_f {q : Nat} {t x : Int32} (h : rgI t 0 999 = 0 ∨ rgI t 0 999 = 1 ∧ rgI x 1 9999 = 0) : hRun 89 0 [.ref (bs q), .int t, .int x] [] (hW E w) (some (.int (-2))) (hW E w) := by
  rcases h with h | ⟨h1, h2⟩
  · (repeat (first | refine r_fy rfl rfl rfl rfl ?_ | exact r_ret rfl rfl rfl rfl | refine r_get rfl rfl rfl ?_ | refine wS_getE (by omega) rfl rfl (by with_reducible assumption) ?_ | refine wS_get (by omega) rfl rfl ?_ | refine r_brT rfl rfl (by with_reducible first | assumption | rfl | exact nz10 | exact nI_pos (by omega) | exact nI_lt (by omega) (by omega) | exact nI_nlt (by omega) (by omega) | exact nI_le (by omega) (by omega) | exact nI_ge (by omega) (by omega)) ?_ | refine r_brF rfl rfl (by with_reducible first | assumption | rfl | exact nz10 | exact nI_pos (by omega) | exact nI_lt (by omega) (by omega) | exact nI_nlt (by omega) (by omega) | exact nI_le (by omega) (by omega) | exact nI_ge (by omega) (by omega)) ?_ | refine wH_call rfl rfl rfl rfl rfl (x_standing_t (by with_reducible assumption) (by with_reducible assumption)) ?_ | refine wH_call rfl rfl rfl rfl rfl (x_standing_f (by with_reducible assumption)) ?_ | refine r_callS rfl rfl rfl rfl (p_isSummary (by with_reducible assumption)) ?_ | refine r_callS rfl rfl rfl rfl (p_isThing (by with_reducible assumption)) ?_ | refine r_callS rfl rfl rfl rfl (p_isRoom (by with_reducible assumption)) ?_ | refine r_callS rfl rfl rfl rfl (p_isTop (by with_reducible assumption)) ?_ | refine r_callS rfl rfl rfl rfl (p_isWeight (by with_reducible assumption)) ?_ | refine r_callS rfl rfl rfl rfl (p_isShare (by with_reducible assumption)) ?_ | refine r_callS rfl rfl rfl rfl (p_isWindow (by with_reducible assumption)) ?_ | refine r_callS rfl rfl rfl rfl (p_isImage (by with_reducible assumption)) ?_ | refine r_tswd rfl (by with_reducible assumption) ?_ | refine wS_ild (by omega) rfl rfl (by first | assumption | omega | (simp only [lS]; omega)) ?_)); try dsimp only
  · (repeat (first | refine r_fy rfl rfl rfl rfl ?_ | exact r_ret rfl rfl rfl rfl | refine r_get rfl rfl rfl ?_ | refine wS_getE (by omega) rfl rfl (by with_reducible assumption) ?_ | refine wS_get (by omega) rfl rfl ?_ | refine r_brT rfl rfl (by with_reducible first | assumption | rfl | exact nz10 | exact nI_pos (by omega) | exact nI_lt (by omega) (by omega) | exact nI_nlt (by omega) (by omega) | exact nI_le (by omega) (by omega) | exact nI_ge (by omega) (by omega)) ?_ | refine r_brF rfl rfl (by with_reducible first | assumption | rfl | exact nz10 | exact nI_pos (by omega) | exact nI_lt (by omega) (by omega) | exact nI_nlt (by omega) (by omega) | exact nI_le (by omega) (by omega) | exact nI_ge (by omega) (by omega)) ?_ | refine wH_call rfl rfl rfl rfl rfl (x_standing_t (by with_reducible assumption) (by with_reducible assumption)) ?_ | refine wH_call rfl rfl rfl rfl rfl (x_standing_f (by with_reducible assumption)) ?_ | refine r_callS rfl rfl rfl rfl (p_isSummary (by with_reducible assumption)) ?_ | refine r_callS rfl rfl rfl rfl (p_isThing (by with_reducible assumption)) ?_ | refine r_callS rfl rfl rfl rfl (p_isRoom (by with_reducible assumption)) ?_ | refine r_callS rfl rfl rfl rfl (p_isTop (by with_reducible assumption)) ?_ | refine r_callS rfl rfl rfl rfl (p_isWeight (by with_reducible assumption)) ?_ | refine r_callS rfl rfl rfl rfl (p_isShare (by with_reducible assumption)) ?_ | refine r_callS rfl rfl rfl rfl (p_isWindow (by with_reducible assumption)) ?_ | refine r_callS rfl rfl rfl rfl (p_isImage (by with_reducible assumption)) ?_ | refine r_tswd rfl (by with_reducible assumption) ?_ | refine wS_ild (by omega) rfl rfl (by first | assumption | omega | (simp only [lS]; omega)) ?_)); try dsimp only
end CO
section KO
variable {h : hH} {b : Nat} {M : hT2} {x : Int64}
theorem k_full {B T y : Nat} {c : Int32} (hB : B + 1148 ≤ 35588) (e : M 1 (B + 3) = nI T) (hT : T < 2 ^ 31) (hy : y < 2 ^ 31) (hc : (if T + y ≤ 1000000000 then 0 else 1) = c) : hRun 180 0 [.ref b, .int (nI B), .long (nI y).toInt64, hU] [] (hpM h b M x) (some (.int c)) (hpM h b M x) := by
  have := m_isFull (h := h) (b := b) (M := M) (x := x) (B := B) (nI y).toInt64 hB
  rw [e, nI_l hT, nI_l hy, lN_add] at this
  have e2 : (lN (T + y) ≤ 1000000000) = (T + y ≤ 1000000000) := propext (pk_lLE (b := 1000000000) (by omega) (by omega))
  rw [← hc, nI_l hy]
  by_cases z : T + y ≤ 1000000000
  · rw [if_pos (e2 ▸ z)] at this
    rw [if_pos z]
    exact this
  · rw [if_neg (e2 ▸ z)] at this
    rw [if_neg z]
    exact this
theorem k_canCome_t {t v : Int32} (h1 : rgI t 0 999 = 1) (h2 : rgI v 1 9999 = 1) : hRun 178 0 [.int t, .int v] [] h (some (.int 1)) h := by
  have := k_canCome (h := h) t v
  rw [h1, h2, if_neg (by decide), if_neg (by decide)] at this
  exact this
theorem k_canCome_f {t v : Int32} (hf : rgI t 0 999 = 0 ∨ rgI t 0 999 = 1 ∧ rgI v 1 9999 = 0) : hRun 178 0 [.int t, .int v] [] h (some (.int 0)) h := by
  have := k_canCome (h := h) t v
  rcases hf with h1 | ⟨h1, h2⟩
  · rw [h1, if_pos rfl] at this
    exact this
  · rw [h1, h2, if_neg (by decide), if_pos rfl] at this
    exact this
theorem k_comes {B t y X Y : Nat} {A : aS} (hX : X + y + y < 2 ^ 30) (hG : Gd X Y A) (hM : RM A (M 1) B) (ht : t < 1000) (hy : 1 ≤ y) (hB : B + 1148 ≤ 35588) : hRun 181 0 [.ref b, .int (nI B), .int (nI t), .int (nI y), hU, hU, hU, hU] [] (hpM h b M x) (some (.int (nI (coA A t y).1))) (hpM h b (s1 M 1 (cmW (M 1) B A.2.1.length A.2.2.2.length t (nI y)).2.2) x) := by
  have h1 := hG.1
  have h7 := hG.2.2.1
  have := m_comes (h := h) (b := b) (M := M) (x := x) (n := A.2.1.length) (B := B) (u := A.2.2.2.length) (t := t) (rm := A.1 1) (nI y) ht hM.2.1.2.1 (by omega) (hM.2.1.1 1 (by omega) (by omega) (by omega)) h1.1 h1.2.1 hM.2.2.1 (by omega) hB
  rw [(RM_co hM hG hX ht hy).2] at this
  exact this
end KO
theorem cm1_len {A : aS} {v : Nat → Int32} {B t y X Y : Nat} (hG : Gd X Y A) (hM : RM A v B) (ht : t < 1000) (hX : X + y + y < 2 ^ 30) (hy : 1 ≤ y) : (cm1 (cm0 v B t (nI y)) B A.2.1.length A.2.2.2.length (nI t) (nI y)).2.1 ≤ 24 := by
  have h1 := hG.1
  have h7 := hG.2.2.1
  have e := (RM_rk (t := t) (RM_c0 (x := y) hM ht (by omega) (by omega)) (Gd_a0 hG ht) (by omega) ht).2.2
  have g := Gd_rk hG ht hy
  have := g.1
  exact Nat.le_trans (Nat.le_of_eq e) (by omega)
