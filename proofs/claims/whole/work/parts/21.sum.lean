/-! A SUMMARY OF THE CLASS: an object and seven arrays behind it. S 0: there, room, total, absent, halveAt, size, halvedTimes, wentNumber; S 1 things, 2 counts, 3 lows, 4 truths, 5 to 7 what went -/
abbrev hT2 : Type := Nat → Nat → Int32
def s2 (S : hT2) (i j : Nat) (v : Int32) : hT2 := fun a b => if a = i then (if b = j then v else S a b) else S a b
def s1 (S : hT2) (i : Nat) (f : Nat → Int32) : hT2 := fun a => if a = i then f else S a
def oS (b : Nat) (S : hT2) : List Value := [.int (S 0 0), .int (S 0 1), .int (S 0 2), .int (S 0 3), .int (S 0 4), .int (S 0 5), .int (S 0 6), .ref (b + 1), .ref (b + 2), .ref (b + 3), .ref (b + 4), .int (S 0 7), .ref (b + 5), .ref (b + 6), .ref (b + 7)]
def lS (j : Nat) : Nat := match j with
  | 1 => 24
  | 2 => 24
  | 3 => 24
  | 4 => 1000
  | _ => 20
def hpS (h : hH) (b : Nat) (S : hT2) : hH := (h.1, h.2.1, fun a => if a = b then .inl (5, oS b S) else if b < a ∧ a ≤ b + 7 then .inr (0, lS (a - b), .inl (S (a - b))) else h.2.2 a)
section RSU
variable {mi k : Nat} {L st : List Value} {h h' : hH} {r : Option Value} {b : Nat} {S : hT2}
theorem hpS_0 : (hpS h b S).2.2 b = .inl (5, oS b S) := if_pos rfl
theorem hpS_j {j : Nat} (h1 : 1 ≤ j) (h2 : j ≤ 7) : (hpS h b S).2.2 (b + j) = .inr (0, lS j, .inl (S j)) := by
  show (if b + j = b then _ else _) = _
  rw [if_neg (by omega), if_pos (by omega), show b + j - b = j by omega]
theorem hpS_n {a : Nat} (h1 : a < b ∨ b + 7 < a) : (hpS h b S).2.2 a = h.2.2 a := by
  show (if a = b then _ else _) = _
  rw [if_neg (by omega), if_neg (by omega)]
theorem hpS_st {j : Nat} {f : Nat → Int32} (h1 : 1 ≤ j) (h2 : j ≤ 7) : hSt (hpS h b S) (b + j) (.inr (0, lS j, .inl f)) = hpS h b (s1 S j f) := by
  unfold hSt hpS
  refine congrArg (fun z => (h.1, h.2.1, z)) (funext fun a => ?_)
  dsimp only
  by_cases e1 : a = b + j
  · subst e1
    rw [if_pos rfl, if_neg (by omega), if_pos (by omega), show b + j - b = j by omega]
    simp [s1]
  · rw [if_neg e1]
    by_cases e2 : a = b
    · rw [if_pos e2, if_pos e2]
      simp only [oS, s1, if_neg (show ¬ (0 = j) by omega)]
    · rw [if_neg e2, if_neg e2]
      by_cases e3 : b < a ∧ a ≤ b + 7
      · rw [if_pos e3, if_pos e3]
        simp only [s1, if_neg (show ¬ (a - b = j) by omega)]
      · rw [if_neg e3, if_neg e3]
theorem hpS_o {fs : List Value} {T : hT2} (h1 : fs = oS b T) (h2 : ∀ j, 1 ≤ j → j ≤ 7 → T j = S j) : hSt (hpS h b S) b (.inl (5, fs)) = hpS h b T := by
  subst h1
  unfold hSt hpS
  refine congrArg (fun z => (h.1, h.2.1, z)) (funext fun a => ?_)
  dsimp only
  by_cases e2 : a = b
  · rw [if_pos e2, if_pos e2]
  · rw [if_neg e2, if_neg e2, if_neg e2]
    by_cases e3 : b < a ∧ a ≤ b + 7
    · rw [if_pos e3, if_pos e3, h2 (a - b) (by omega) (by omega)]
    · rw [if_neg e3, if_neg e3]
theorem s2_row {i j m : Nat} {v : Int32} (h : m ≠ i) : s2 S i j v m = S m := by
  funext q
  simp [s2, h]
theorem rS_get {i len pc y : Nat} {z : Int32} {zl : Int64} {ts : List Nat} {v : Value} {st : List Value} (he : hI mi k = some (.getfield i, len, pc, 5, y, z, zl, ts)) (hv : (oS b S)[y]? = some v) (K : hRun mi (k + 1) L (v :: st) (hpS h b S) r h') : hRun mi k L (.ref b :: st) (hpS h b S) r h' := r_get he hpS_0 hv K
theorem rS_put {i len pc y j : Nat} {z : Int32} {zl : Int64} {ts : List Nat} {v : Int32} {st : List Value} (he : hI mi k = some (.putfield i, len, pc, 5, y, z, zl, ts)) (hf : hFit (hTy 5 y) (.int v) = true) (hl : decide (y < 15) = true) (hj : (oS b S).set y (.int v) = oS b (s2 S 0 j v)) (K : hRun mi (k + 1) L st (hpS h b (s2 S 0 j v)) r h') : hRun mi k L (.int v :: .ref b :: st) (hpS h b S) r h' := by
  refine r_put he hpS_0 hf hl ?_
  rw [hpS_o hj (fun m h1 _ => s2_row (by omega))]
  exact K
theorem rS_ild {len pc x y j p : Nat} {z : Int32} {zl : Int64} {ts : List Nat} {st : List Value} (he : hI mi k = some (.iaload, len, pc, x, y, z, zl, ts)) (hj : decide (1 ≤ j ∧ j ≤ 7) = true) (hp : p < lS j) (K : hRun mi (k + 1) L (.int (S j p) :: st) (hpS h b S) r h') : hRun mi k L (.int (nI p) :: .ref (b + j) :: st) (hpS h b S) r h' := by
  have hj := of_decide_eq_true hj
  refine r_ild he (hpS_j hj.1 hj.2) rfl hp ?_ K
  unfold lS
  split <;> omega
theorem rS_ist {len pc x y j p : Nat} {z : Int32} {zl : Int64} {ts : List Nat} {v : Int32} {st : List Value} (he : hI mi k = some (.iastore, len, pc, x, y, z, zl, ts)) (hj : decide (1 ≤ j ∧ j ≤ 7) = true) (hp : p < lS j) (K : hRun mi (k + 1) L st (hpS h b (s1 S j (upd (S j) p v))) r h') : hRun mi k L (.int v :: .int (nI p) :: .ref (b + j) :: st) (hpS h b S) r h' := by
  have hj := of_decide_eq_true hj
  refine r_ist he (hpS_j hj.1 hj.2) hp ?_ ?_
  · unfold lS
    split <;> omega
  · rw [hpS_st hj.1 hj.2]
    exact K
end RSU
