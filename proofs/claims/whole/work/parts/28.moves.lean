/-! what changes a summary -/
section SMV
variable {mi k : Nat} {L st : List Value} {h h' : hH} {r : Option Value} {b : Nat} {S : hT2} {n : Nat}
def jS (y : Nat) : Nat := match y with
  | 11 => 7
  | y => y
theorem rS_set {i len pc y : Nat} {z : Int32} {zl : Int64} {ts : List Nat} {v : Int32} {st : List Value} (he : hI mi k = some (.putfield i, len, pc, 5, y, z, zl, ts)) (hf : hFit (hTy 5 y) (.int v) = true) (hl : decide (y < 7 ∨ y = 11) = true) (K : hRun mi (k + 1) L st (hpS h b (s2 S 0 (jS y) v)) r h') : hRun mi k L (.int v :: .ref b :: st) (hpS h b S) r h' := by
  have hl := of_decide_eq_true hl
  refine rS_put (j := jS y) he hf (decide_eq_true (by omega)) ?_ K
  have : y = 0 ∨ y = 1 ∨ y = 2 ∨ y = 3 ∨ y = 4 ∨ y = 5 ∨ y = 6 ∨ y = 11 := by omega
  rcases this with rfl | rfl | rfl | rfl | rfl | rfl | rfl | rfl <;> rfl
theorem rS_len {len pc x y j : Nat} {z : Int32} {zl : Int64} {ts : List Nat} {st : List Value} (he : hI mi k = some (.arraylength, len, pc, x, y, z, zl, ts)) (hj : decide (1 ≤ j ∧ j ≤ 7) = true) (K : hRun mi (k + 1) L (.int (nI (lS j)) :: st) (hpS h b S) r h') : hRun mi k L (.ref (b + j) :: st) (hpS h b S) r h' := by
  have hj := of_decide_eq_true hj
  refine r_step he rfl ?_ K
  simp only [hStep, hLen, hpS_j hj.1 hj.2]
  rfl
def setF (S : hT2) (p : Nat) (t c l : Int32) : hT2 := fun a => if a = 1 then upd (S 1) p t else if a = 2 then upd (S 2) p c else if a = 3 then upd (S 3) p l else S a
theorem setF_eq (S : hT2) (p : Nat) (t c l : Int32) : s1 (s1 (s1 S 1 (upd (S 1) p t)) 2 (upd ((s1 S 1 (upd (S 1) p t)) 2) p c)) 3 (upd ((s1 (s1 S 1 (upd (S 1) p t)) 2 (upd ((s1 S 1 (upd (S 1) p t)) 2) p c)) 3) p l) = setF S p t c l := by
  funext a
  unfold setF s1
  by_cases h3 : a = 3
  · subst h3; simp
  · by_cases h2 : a = 2
    · subst h2; simp
    · by_cases h1 : a = 1
      · subst h1; simp
      · simp [h1, h2, h3]
theorem c_setAt {p : Nat} (t c l : Int32) (hp : p < 24) : hRun 38 0 [.ref b, .int (nI p), .int t, .int c, .int l] [] (hpS h b S) none (hpS h b (setF S p t c l)) := by
  rw [← setF_eq]
  (repeat (first | refine r_fw rfl rfl rfl rfl ?_ | refine rS_get rfl rfl ?_ | refine rS_ild rfl rfl (by first | assumption | omega | (simp only [lS]; omega)) ?_)); try dsimp only
  refine rS_ist rfl rfl (by first | assumption | omega | (simp only [lS]; omega)) ?_
  (repeat (first | refine r_fw rfl rfl rfl rfl ?_ | refine rS_get rfl rfl ?_ | refine rS_ild rfl rfl (by first | assumption | omega | (simp only [lS]; omega)) ?_)); try dsimp only
  refine rS_ist rfl rfl (by first | assumption | omega | (simp only [lS]; omega)) ?_
  (repeat (first | refine r_fw rfl rfl rfl rfl ?_ | refine rS_get rfl rfl ?_ | refine rS_ild rfl rfl (by first | assumption | omega | (simp only [lS]; omega)) ?_)); try dsimp only
  refine rS_ist rfl rfl (by first | assumption | omega | (simp only [lS]; omega)) ?_
  exact r_ret rfl rfl rfl rfl
def toF : Nat → Nat → hT2 → hT2
  | 0, _, S => S
  | d + 1, p, S => toF d (p + 1) (setF S (p - 1) (S 1 p) (S 2 p) (S 3 p))
def takeF (S : hT2) (n at_ : Nat) : hT2 := s2 (toF (n - (at_ + 1)) (at_ + 1) S) 0 5 (nI n - 1)
theorem takeOut_loop {x : Int32} (hn24 : n ≤ 24) : ∀ d p (S : hT2), S 0 5 = nI n → 1 ≤ p → p + d = n → hRun 37 4 [.ref b, .int x, .int (nI p)] [] (hpS h b S) none (hpS h b (s2 (toF d p S) 0 5 (nI n - 1))) := by
  intro d
  induction d with
  | zero =>
    intro p S hn h1 hp
    (repeat (first | refine r_fw rfl rfl rfl rfl ?_ | refine rS_get rfl rfl ?_ | refine rS_ild rfl rfl (by first | assumption | omega | (simp only [lS]; omega)) ?_)); try dsimp only
    rw [hn]
    refine r_brT rfl rfl ?_ ?_
    · exact nI_le (by omega) (by omega)
    (repeat (first | refine r_fw rfl rfl rfl rfl ?_ | refine rS_get rfl rfl ?_ | refine rS_ild rfl rfl (by first | assumption | omega | (simp only [lS]; omega)) ?_)); try dsimp only
    rw [hn]
    refine rS_set rfl rfl rfl ?_
    exact r_ret rfl rfl rfl rfl
  | succ d ih =>
    intro p S hn h1 hp
    (repeat (first | refine r_fw rfl rfl rfl rfl ?_ | refine rS_get rfl rfl ?_ | refine rS_ild rfl rfl (by first | assumption | omega | (simp only [lS]; omega)) ?_)); try dsimp only
    rw [hn]
    refine r_brF rfl rfl ?_ ?_
    · exact nle (by omega) (by omega)
    (repeat (first | refine r_fw rfl rfl rfl rfl ?_ | refine rS_get rfl rfl ?_ | refine rS_ild rfl rfl (by first | assumption | omega | (simp only [lS]; omega)) ?_)); try dsimp only
    rw [show nI p - 1 = nI (p - 1) from pk_sub (b := 1) h1]
    refine rS_call rfl rfl rfl rfl rfl (c_setAt _ _ _ (by omega)) ?_
    (repeat (first | refine r_fw rfl rfl rfl rfl ?_ | refine rS_get rfl rfl ?_ | refine rS_ild rfl rfl (by first | assumption | omega | (simp only [lS]; omega)) ?_)); try dsimp only
    refine r_step rfl rfl rfl ?_
    rw [nI_1]
    exact ih (p + 1) _ hn (by omega) (by omega)
theorem c_takeOut {a : Nat} (hn : S 0 5 = nI n) (hn24 : n ≤ 24) (ha : a < n) : hRun 37 0 [.ref b, .int (nI a), hU] [] (hpS h b S) none (hpS h b (takeF S n a)) := by
  refine r_step rfl rfl rfl ?_
  refine r_step rfl rfl rfl ?_
  refine r_step rfl rfl rfl ?_
  dsimp only
  rw [nI_1]
  refine r_step rfl rfl rfl ?_
  exact takeOut_loop hn24 _ (a + 1) S hn (by omega) (by omega)
def shF (a : Nat) : Nat → hT2 → hT2
  | 0, S => S
  | d + 1, S => shF a d (setF S (a + d + 1) (S 1 (a + d)) (S 2 (a + d)) (S 3 (a + d)))
/-- a counter comes -/
def putF (S : hT2) (n : Nat) (t c l : Int32) : hT2 := if n < 24 then s2 (setF (shF (bhF S c n) (n - bhF S c n) S) (bhF S c n) t c l) 0 5 (nI n + 1) else S
theorem shF_0 (a : Nat) : ∀ d (S : hT2), shF a d S 0 = S 0
  | 0, _ => rfl
  | d + 1, S => by rw [shF, shF_0 a d]; rfl
theorem putIn_loop {t c l : Int32} {a : Nat} (hn24 : n < 24) : ∀ d (S : hT2), S 0 5 = nI n → a + d ≤ n → hRun 39 12 [.ref b, .int t, .int c, .int l, .int (nI a), .int (nI (a + d))] [] (hpS h b S) none (hpS h b (s2 (setF (shF a d S) a t c l) 0 5 (nI n + 1))) := by
  intro d
  induction d with
  | zero =>
    intro S hn hp
    (repeat (first | refine r_fw rfl rfl rfl rfl ?_ | refine rS_get rfl rfl ?_ | refine rS_ild rfl rfl (by first | assumption | omega | (simp only [lS]; omega)) ?_)); try dsimp only
    refine r_brT rfl rfl ?_ ?_
    · exact nI_le (by omega) (by omega)
    (repeat (first | refine r_fw rfl rfl rfl rfl ?_ | refine rS_get rfl rfl ?_ | refine rS_ild rfl rfl (by first | assumption | omega | (simp only [lS]; omega)) ?_)); try dsimp only
    refine rS_call rfl rfl rfl rfl rfl (c_setAt _ _ _ (by omega)) ?_
    (repeat (first | refine r_fw rfl rfl rfl rfl ?_ | refine rS_get rfl rfl ?_ | refine rS_ild rfl rfl (by first | assumption | omega | (simp only [lS]; omega)) ?_)); try dsimp only
    rw [show (setF S a t c l) 0 5 = nI n from hn]
    refine rS_set rfl rfl rfl ?_
    exact r_ret rfl rfl rfl rfl
  | succ d ih =>
    intro S hn hp
    (repeat (first | refine r_fw rfl rfl rfl rfl ?_ | refine rS_get rfl rfl ?_ | refine rS_ild rfl rfl (by first | assumption | omega | (simp only [lS]; omega)) ?_)); try dsimp only
    refine r_brF rfl rfl ?_ ?_
    · exact nle (by omega) (by omega)
    (repeat (first | refine r_fw rfl rfl rfl rfl ?_ | refine rS_get rfl rfl ?_ | refine rS_ild rfl rfl (by first | assumption | omega | (simp only [lS]; omega)) ?_)); try dsimp only
    rw [show nI (a + (d + 1)) - 1 = nI (a + d) from nI_pred (a + d)]
    (repeat (first | refine r_fw rfl rfl rfl rfl ?_ | refine rS_get rfl rfl ?_ | refine rS_ild rfl rfl (by first | assumption | omega | (simp only [lS]; omega)) ?_)); try dsimp only
    rw [show nI (a + (d + 1)) - 1 = nI (a + d) from nI_pred (a + d)]
    (repeat (first | refine r_fw rfl rfl rfl rfl ?_ | refine rS_get rfl rfl ?_ | refine rS_ild rfl rfl (by first | assumption | omega | (simp only [lS]; omega)) ?_)); try dsimp only
    rw [show nI (a + (d + 1)) - 1 = nI (a + d) from nI_pred (a + d)]
    (repeat (first | refine r_fw rfl rfl rfl rfl ?_ | refine rS_get rfl rfl ?_ | refine rS_ild rfl rfl (by first | assumption | omega | (simp only [lS]; omega)) ?_)); try dsimp only
    refine rS_call rfl rfl rfl rfl rfl (c_setAt _ _ _ (by omega)) ?_
    (repeat (first | refine r_fw rfl rfl rfl rfl ?_ | refine rS_get rfl rfl ?_ | refine rS_ild rfl rfl (by first | assumption | omega | (simp only [lS]; omega)) ?_)); try dsimp only
    refine r_step rfl rfl rfl ?_
    rw [show nI (a + (d + 1)) + -1 = nI (a + d) from pk_m1 (a + d)]
    exact ih _ hn (by omega)
theorem c_putIn (t c l : Int32) (hn : S 0 5 = nI n) (hn24 : n ≤ 24) : hRun 39 0 [.ref b, .int t, .int c, .int l, hU, hU] [] (hpS h b S) none (hpS h b (putF S n t c l)) := by
  (repeat (first | refine r_fw rfl rfl rfl rfl ?_ | refine rS_get rfl rfl ?_ | refine rS_ild rfl rfl (by first | assumption | omega | (simp only [lS]; omega)) ?_)); try dsimp only
  rw [hn]
  unfold putF
  by_cases hc : n < 24
  · rw [if_pos hc]
    refine r_brT rfl rfl ?_ ?_
    · exact nI_lt (b := 24) hc (by omega)
    (repeat (first | refine r_fw rfl rfl rfl rfl ?_ | refine rS_get rfl rfl ?_ | refine rS_ild rfl rfl (by first | assumption | omega | (simp only [lS]; omega)) ?_)); try dsimp only
    refine rS_call rfl rfl rfl rfl rfl (c_behindCount _ hn hn24) ?_
    refine r_step rfl rfl rfl ?_
    refine r_fw rfl rfl rfl rfl ?_
    refine rS_get rfl rfl ?_
    rw [hn]
    refine r_step rfl rfl rfl ?_
    have h1 := bhF_le S c n
    have := putIn_loop (h := h) (b := b) (t := t) (c := c) (l := l) (a := bhF S c n) hc (n - bhF S c n) S hn (by omega)
    rw [show bhF S c n + (n - bhF S c n) = n by omega] at this
    exact this
  · rw [if_neg hc]
    refine r_brF rfl rfl ?_ ?_
    · exact nI_nlt (b := 24) (by omega) (by omega)
    exact r_ret rfl rfl rfl rfl
def mxI (x y : Int32) : Int32 := if x < y then y else x
theorem c_raiseAbsent (x : Int32) : hRun 43 0 [.ref b, .int x] [] (hpS h b S) none (hpS h b (s2 S 0 3 (mxI (S 0 3) x))) := by
  (repeat (first | refine r_fw rfl rfl rfl rfl ?_ | refine rS_get rfl rfl ?_ | refine rS_ild rfl rfl (by first | assumption | omega | (simp only [lS]; omega)) ?_)); try dsimp only
  refine r_callS rfl rfl rfl rfl (c_max _ _) ?_
  refine rS_set rfl rfl rfl ?_
  exact r_ret rfl rfl rfl rfl
theorem c_shortenTo (x : Int32) : hRun 45 0 [.ref b, .int x, hU] [] (hpS h b S) (some (.int (S 0 5 - x))) (hpS h b (s2 S 0 5 x)) := by
  (repeat (first | refine r_fw rfl rfl rfl rfl ?_ | refine rS_get rfl rfl ?_ | refine rS_ild rfl rfl (by first | assumption | omega | (simp only [lS]; omega)) ?_)); try dsimp only
  refine rS_set rfl rfl rfl ?_
  (repeat (first | refine r_fw rfl rfl rfl rfl ?_ | refine rS_get rfl rfl ?_ | refine rS_ild rfl rfl (by first | assumption | omega | (simp only [lS]; omega)) ?_)); try dsimp only
  exact r_ret rfl rfl rfl rfl
def flF (v : Int32) : Nat → Nat → (Nat → Int32) → (Nat → Int32)
  | 0, _, f => f
  | d + 1, p, f => flF v d (p + 1) (upd f p v)
theorem s1_s1 (S : hT2) (j : Nat) (f g : Nat → Int32) : s1 (s1 S j f) j g = s1 S j g := by
  funext a
  unfold s1
  by_cases h : a = j
  · simp [h]
  · simp [h]
theorem s1_at (S : hT2) (j : Nat) (f : Nat → Int32) : s1 S j f j = f := by simp [s1]
theorem fill_loop {v : Int32} : ∀ d p (f : Nat → Int32), p + d = 1000 → hRun 282 5 [.ref (b + 4), .int v, .int (nI p), .int (nI 1000)] [] (hpS h b (s1 S 4 f)) none (hpS h b (s1 S 4 (flF v d p f))) := by
  intro d
  induction d with
  | zero =>
    intro p f hp
    (repeat (first | refine r_fw rfl rfl rfl rfl ?_ | refine rS_get rfl rfl ?_ | refine rS_ild rfl rfl (by first | assumption | omega | (simp only [lS]; omega)) ?_)); try dsimp only
    refine r_brT rfl rfl ?_ ?_
    · exact nI_le (by omega) (by omega)
    exact r_ret rfl rfl rfl rfl
  | succ d ih =>
    intro p f hp
    (repeat (first | refine r_fw rfl rfl rfl rfl ?_ | refine rS_get rfl rfl ?_ | refine rS_ild rfl rfl (by first | assumption | omega | (simp only [lS]; omega)) ?_)); try dsimp only
    refine r_brF rfl rfl ?_ ?_
    · exact nle (by omega) (by omega)
    (repeat (first | refine r_fw rfl rfl rfl rfl ?_ | refine rS_get rfl rfl ?_ | refine rS_ild rfl rfl (by first | assumption | omega | (simp only [lS]; omega)) ?_)); try dsimp only
    refine rS_ist rfl rfl (by first | assumption | omega | (simp only [lS]; omega)) ?_
    rw [s1_s1, s1_at]
    (repeat (first | refine r_fw rfl rfl rfl rfl ?_ | refine rS_get rfl rfl ?_ | refine rS_ild rfl rfl (by first | assumption | omega | (simp only [lS]; omega)) ?_)); try dsimp only
    refine r_step rfl rfl rfl ?_
    rw [nI_1]
    exact ih (p + 1) _ (by omega)
theorem c_fill (v : Int32) : hRun 282 0 [.ref (b + 4), .int v, hU, hU] [] (hpS h b S) none (hpS h b (s1 S 4 (flF v 1000 0 (S 4)))) := by
  have e : hpS h b S = hpS h b (s1 S 4 (S 4)) := by
    congr 1
    funext a
    unfold s1
    by_cases h : a = 4
    · simp [h]
    · simp [h]
  rw [e]
  refine r_step rfl rfl rfl ?_
  refine r_step rfl rfl rfl ?_
  refine r_step rfl rfl rfl ?_
  refine rS_len rfl rfl ?_
  refine r_step rfl rfl rfl ?_
  exact fill_loop 1000 0 (S 4) (by omega)
end SMV
