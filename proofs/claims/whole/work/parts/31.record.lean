/-! OTHER OBJECTS: one with int fields (row 0) and int arrays behind it. A layout: class, how many arrays, the fields, the lengths -/
abbrev hLy : Type := Nat × Nat × (Nat → hT2 → List Value) × (Nat → Nat)
def hpG (y : hLy) (h : hH) (b : Nat) (S : hT2) : hH := (h.1, h.2.1, fun a => if a = b then .inl (y.1, y.2.2.1 b S) else if b < a ∧ a ≤ b + y.2.1 then .inr (0, y.2.2.2 (a - b), .inl (S (a - b))) else h.2.2 a)
section RGN
variable {mi k : Nat} {L st : List Value} {h h' : hH} {r : Option Value} {b : Nat} {S : hT2} {y : hLy}
theorem hpG_0 : (hpG y h b S).2.2 b = .inl (y.1, y.2.2.1 b S) := if_pos rfl
theorem hpG_j {j : Nat} (h1 : 1 ≤ j) (h2 : j ≤ y.2.1) : (hpG y h b S).2.2 (b + j) = .inr (0, y.2.2.2 j, .inl (S j)) := by
  show (if b + j = b then _ else _) = _
  rw [if_neg (by omega), if_pos (by omega), show b + j - b = j by omega]
theorem hpG_n {a : Nat} (h1 : a < b ∨ b + y.2.1 < a) : (hpG y h b S).2.2 a = h.2.2 a := by
  show (if a = b then _ else _) = _
  rw [if_neg (by omega), if_neg (by omega)]
theorem hpG_st {j : Nat} {f : Nat → Int32} (hF : y.2.2.1 b (s1 S j f) = y.2.2.1 b S) (h1 : 1 ≤ j) (h2 : j ≤ y.2.1) : hSt (hpG y h b S) (b + j) (.inr (0, y.2.2.2 j, .inl f)) = hpG y h b (s1 S j f) := by
  unfold hSt hpG
  refine congrArg (fun z => (h.1, h.2.1, z)) (funext fun a => ?_)
  dsimp only
  by_cases e1 : a = b + j
  · subst e1
    rw [if_pos rfl, if_neg (by omega), if_pos (by omega), show b + j - b = j by omega]
    simp [s1]
  · rw [if_neg e1]
    by_cases e2 : a = b
    · rw [if_pos e2, if_pos e2, hF]
    · rw [if_neg e2, if_neg e2]
      by_cases e3 : b < a ∧ a ≤ b + y.2.1
      · rw [if_pos e3, if_pos e3]
        simp only [s1, if_neg (show ¬ (a - b = j) by omega)]
      · rw [if_neg e3, if_neg e3]
theorem hpG_o {fs : List Value} {T : hT2} (h1 : fs = y.2.2.1 b T) (h2 : ∀ j, 1 ≤ j → T j = S j) : hSt (hpG y h b S) b (.inl (y.1, fs)) = hpG y h b T := by
  subst h1
  unfold hSt hpG
  refine congrArg (fun z => (h.1, h.2.1, z)) (funext fun a => ?_)
  dsimp only
  by_cases e2 : a = b
  · rw [if_pos e2, if_pos e2]
  · rw [if_neg e2, if_neg e2, if_neg e2]
    by_cases e3 : b < a ∧ a ≤ b + y.2.1
    · rw [if_pos e3, if_pos e3, h2 (a - b) (by omega)]
    · rw [if_neg e3, if_neg e3]
theorem rG_get {i len pc ci f : Nat} {z : Int32} {zl : Int64} {ts : List Nat} {v : Value} {st : List Value} (he : hI mi k = some (.getfield i, len, pc, ci, f, z, zl, ts)) (hci : y.1 = ci) (hv : (y.2.2.1 b S)[f]? = some v) (K : hRun mi (k + 1) L (v :: st) (hpG y h b S) r h') : hRun mi k L (.ref b :: st) (hpG y h b S) r h' := by
  subst hci
  exact r_get he hpG_0 hv K
theorem rG_set {i len pc ci f j : Nat} {z : Int32} {zl : Int64} {ts : List Nat} {v : Int32} {st : List Value} (he : hI mi k = some (.putfield i, len, pc, ci, f, z, zl, ts)) (hci : y.1 = ci) (hf : hFit (hTy ci f) (.int v) = true) (hl : decide (f < (y.2.2.1 b S).length) = true) (hj : (y.2.2.1 b S).set f (.int v) = y.2.2.1 b (s2 S 0 j v)) (K : hRun mi (k + 1) L st (hpG y h b (s2 S 0 j v)) r h') : hRun mi k L (.int v :: .ref b :: st) (hpG y h b S) r h' := by
  subst hci
  refine r_put he hpG_0 hf hl ?_
  rw [hpG_o hj (fun m h1 => s2_row (by omega))]
  exact K
theorem rG_ild {len pc x w j p : Nat} {z : Int32} {zl : Int64} {ts : List Nat} {st : List Value} (he : hI mi k = some (.iaload, len, pc, x, w, z, zl, ts)) (hj : decide (1 ≤ j ∧ j ≤ y.2.1 ∧ y.2.2.2 j < 2147483648) = true) (hp : p < y.2.2.2 j) (K : hRun mi (k + 1) L (.int (S j p) :: st) (hpG y h b S) r h') : hRun mi k L (.int (nI p) :: .ref (b + j) :: st) (hpG y h b S) r h' := by
  have hj := of_decide_eq_true hj
  exact r_ild he (hpG_j hj.1 hj.2.1) rfl hp hj.2.2 K
theorem rG_ist {len pc x w j p : Nat} {z : Int32} {zl : Int64} {ts : List Nat} {v : Int32} {st : List Value} (he : hI mi k = some (.iastore, len, pc, x, w, z, zl, ts)) (hj : decide (1 ≤ j ∧ j ≤ y.2.1 ∧ y.2.2.2 j < 2147483648) = true) (hF : y.2.2.1 b (s1 S j (upd (S j) p v)) = y.2.2.1 b S) (hp : p < y.2.2.2 j) (K : hRun mi (k + 1) L st (hpG y h b (s1 S j (upd (S j) p v))) r h') : hRun mi k L (.int v :: .int (nI p) :: .ref (b + j) :: st) (hpG y h b S) r h' := by
  have hj := of_decide_eq_true hj
  refine r_ist he (hpG_j hj.1 hj.2.1) hp hj.2.2 ?_
  rw [hpG_st hF hj.1 hj.2.1]
  exact K
theorem rG_len {len pc x w j : Nat} {z : Int32} {zl : Int64} {ts : List Nat} {st : List Value} (he : hI mi k = some (.arraylength, len, pc, x, w, z, zl, ts)) (hj : decide (1 ≤ j ∧ j ≤ y.2.1) = true) (K : hRun mi (k + 1) L (.int (nI (y.2.2.2 j)) :: st) (hpG y h b S) r h') : hRun mi k L (.ref (b + j) :: st) (hpG y h b S) r h' := by
  have hj := of_decide_eq_true hj
  refine r_step he rfl ?_ K
  simp only [hStep, hLen, hpG_j hj.1 hj.2]
  rfl
theorem rG_call {i len pc x w : Nat} {z : Int32} {zl : Int64} {ts : List Nat} {q : hR} {r1 : Option Value} {h1 : hH} {as : List Value} (he : hI mi k = some (.invokevirtual i, len, pc, x, w, z, zl, ts)) (hq : hmR x = some q) (h5 : q.2.2.2.2.2.1 = y.1) (ha : (st.take w).reverse = .ref b :: as) (hs : decide (hCats (st.drop w) ≤ 8 ∧ (st.take w).length = w ∧ (hFl (st.take w).reverse).length ≤ q.2.2.1) = true) (C : hRun x 0 (hEnt (.ref b :: as) q.2.2.1) [] (hpG y h b S) r1 h1) (K : hRun mi (k + 1) L (r1.toList ++ st.drop w) h1 r h') : hRun mi k L st (hpG y h b S) r h' := by
  refine r_call he rfl rfl rfl hq ?_ hs ?_ K
  · rw [ha, h5]
    simp [hRcv, hpG_0]
  · dsimp only
    rw [ha]
    exact C
end RGN
/-- the Listing: row 0: size; 1 things, 2 keys, 3 lows -/
def yL : hLy := (1, 3, fun b S => [.ref (b + 1), .ref (b + 2), .ref (b + 3), .int (S 0 0)], fun _ => 48)
/-- Octets: row 0: size; 1 the bytes -/
def yO : hLy := (2, 1, fun b S => [.ref (b + 1), .int (S 0 0)], fun _ => 300)
/-- Reader: row 0: flaw, flawPlace -/
def yR : hLy := (3, 0, fun _ S => [.int (S 0 0), .int (S 0 1)], fun _ => 0)
