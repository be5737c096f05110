/-! the heap after the constructors -/
section TRE
variable {s : Nat} {f : Nat → hC}
def tH (s : Nat) (f : Nat → hC) : hH := (79, s + 1116, fun a => if a = 73 then .inl (6, [.ref 74]) else if a = 74 then .inr (3, 4, .inr fun j => if j < 4 then some (75 + j) else none) else if a = 75 then .inr (0, 1, .inl fun _ => 0) else if a = 76 then .inr (0, 10, .inl fun _ => 0) else if a = 77 then .inr (0, 100, .inl fun _ => 0) else if a = 78 then .inr (0, 1000, .inl fun _ => 0) else f a)
theorem i_tree : hRun 70 0 [.ref 73] [] (hNw (73, s, f) 1 (.inl (6, hDf 6))) none (tH s f) := by
  refine r_step rfl rfl rfl ?_
  refine r_step rfl rfl rfl ?_
  refine r_step rfl rfl rfl ?_
  refine r_step rfl rfl rfl ?_
  refine r_newQ (n := 4) rfl (by decide) ?_
  change hRun 70 5 _ [.ref 74, .ref 73] _ _ _
  refine r_step rfl rfl rfl ?_
  refine r_step rfl rfl rfl ?_
  refine r_step rfl rfl rfl ?_
  refine r_newA (t := 0) (n := 1) rfl (by decide) ?_
  change hRun 70 9 _ [.ref 75, .int (nI 0), .ref 74, .ref 74, .ref 73] _ _ _
  refine r_ast rfl rfl rfl (show 0 < 4 by decide) rfl ?_
  refine r_step rfl rfl rfl ?_
  refine r_step rfl rfl rfl ?_
  refine r_step rfl rfl rfl ?_
  refine r_newA (t := 0) (n := 10) rfl (by decide) ?_
  change hRun 70 14 _ [.ref 76, .int (nI 1), .ref 74, .ref 74, .ref 73] _ _ _
  refine r_ast rfl rfl rfl (show 1 < 4 by decide) rfl ?_
  refine r_step rfl rfl rfl ?_
  refine r_step rfl rfl rfl ?_
  refine r_step rfl rfl rfl ?_
  refine r_newA (t := 0) (n := 100) rfl (by decide) ?_
  change hRun 70 19 _ [.ref 77, .int (nI 2), .ref 74, .ref 74, .ref 73] _ _ _
  refine r_ast rfl rfl rfl (show 2 < 4 by decide) rfl ?_
  refine r_step rfl rfl rfl ?_
  refine r_step rfl rfl rfl ?_
  refine r_step rfl rfl rfl ?_
  refine r_newA (t := 0) (n := 1000) rfl (by decide) ?_
  change hRun 70 24 _ [.ref 78, .int (nI 3), .ref 74, .ref 74, .ref 73] _ _ _
  refine r_ast rfl rfl rfl (show 3 < 4 by decide) rfl ?_
  refine r_put rfl rfl rfl rfl ?_
  refine r_rtE rfl rfl rfl rfl ?_
  refine Prod.ext rfl (Prod.ext rfl (funext fun a => ?_))
  by_cases e3 : a = 73
  · subst e3; rfl
  by_cases e4 : a = 74
  · subst e4
    show Sum.inr (3, 4, Sum.inr (va_up (va_up (va_up (va_up (fun _ => none) 0 (some 75)) 1 (some 76)) 2 (some 77)) 3 (some 78))) = Sum.inr (3, 4, Sum.inr fun j => if j < 4 then some (75 + j) else none)
    have : va_up (va_up (va_up (va_up (fun _ => none) 0 (some 75)) 1 (some 76)) 2 (some 77)) 3 (some 78) = fun j => if j < 4 then some (75 + j) else none := by
      funext j
      unfold va_up
      by_cases q3 : j = 3
      · subst q3; rfl
      by_cases q2 : j = 2
      · subst q2; rfl
      by_cases q1 : j = 1
      · subst q1; rfl
      by_cases q0 : j = 0
      · subst q0; rfl
      rw [if_neg q3, if_neg q2, if_neg q1, if_neg q0, if_neg (by omega)]
    rw [this]
  by_cases e5 : a = 75
  · subst e5; rfl
  by_cases e6 : a = 76
  · subst e6; rfl
  by_cases e7 : a = 77
  · subst e7; rfl
  by_cases e8 : a = 78
  · subst e8; rfl
  have r : (tH s f).2.2 a = f a := by
    unfold tH
    simp only [if_neg e3, if_neg e4, if_neg e5, if_neg e6, if_neg e7, if_neg e8]
  rw [r]
  simp only [hSt, hNw, if_neg e3, if_neg e4, if_neg e5, if_neg e6, if_neg e7, if_neg e8]
end TRE
def nwH (b s : Nat) (c : hC) (f : Nat → hC) : hH := (b + 1, s, fun q => if q = b then c else f q)
section GST
variable (L : Nat) (xs : Nat → Int32)
noncomputable def gq1 (L : Nat) (xs : Nat → Int32) : hH := nwH 2 12 (.inl (8, hDf 8)) (hStart L xs).2.2
noncomputable def gq2 (L : Nat) (xs : Nat → Int32) : hH := Sh 4 [.ref 4, .int 0] 3 ((gq1 L xs).2.1 + 8) 6 (gq1 L xs).2.2
noncomputable def gq3 (L : Nat) (xs : Nat → Int32) : hH := hSt (gq2 L xs) 2 (.inl (8, (hDf 8).set 0 (.ref 3)))
noncomputable def gq4 (L : Nat) (xs : Nat → Int32) : hH := nwH 53 ((gq3 L xs).2.1 + 2) (.inr (4, 2, .inr fun _ => none)) (gq3 L xs).2.2
noncomputable def gq5 (L : Nat) (xs : Nat → Int32) : hH := hSt (gq4 L xs) 2 (.inl (8, ((hDf 8).set 0 (.ref 3)).set 1 (.ref 53)))
noncomputable def gq6 (L : Nat) (xs : Nat → Int32) : hH := nwH 54 ((gq5 L xs).2.1 + 2) (.inr (6, 2, .inr fun _ => none)) (gq5 L xs).2.2
noncomputable def gq7 (L : Nat) (xs : Nat → Int32) : hH := hSt (gq6 L xs) 2 (.inl (8, (((hDf 8).set 0 (.ref 3)).set 1 (.ref 53)).set 2 (.ref 54)))
noncomputable def gq8 (L : Nat) (xs : Nat → Int32) : hH := oHp 2 (fun _ => .inr (0, 300, .inl fun _ => 0)) 55 1 ((gq7 L xs).2.1 + 302) [.ref 56, .int 0] (gq7 L xs).2.2
noncomputable def gq9 (L : Nat) (xs : Nat → Int32) : hH := hSt (gq8 L xs) 2 (.inl (8, ((((hDf 8).set 0 (.ref 3)).set 1 (.ref 53)).set 2 (.ref 54)).set 3 (.ref 55)))
noncomputable def gq10 (L : Nat) (xs : Nat → Int32) : hH := oHp 2 (fun _ => .inr (0, 300, .inl fun _ => 0)) 57 1 ((gq9 L xs).2.1 + 302) [.ref 58, .int 0] (gq9 L xs).2.2
noncomputable def gq11 (L : Nat) (xs : Nat → Int32) : hH := hSt (gq10 L xs) 2 (.inl (8, (((((hDf 8).set 0 (.ref 3)).set 1 (.ref 53)).set 2 (.ref 54)).set 3 (.ref 55)).set 4 (.ref 57)))
noncomputable def gq12 (L : Nat) (xs : Nat → Int32) : hH := oHp 3 (fun _ => .inr (0, 0, .inl fun _ => 0)) 59 0 ((gq11 L xs).2.1 + 2) [.int 0, .int (-1)] (gq11 L xs).2.2
noncomputable def gq13 (L : Nat) (xs : Nat → Int32) : hH := hSt (gq12 L xs) 2 (.inl (8, ((((((hDf 8).set 0 (.ref 3)).set 1 (.ref 53)).set 2 (.ref 54)).set 3 (.ref 55)).set 4 (.ref 57)).set 5 (.ref 59)))
noncomputable def gq14 (L : Nat) (xs : Nat → Int32) : hH := hpS (68, (gq13 L xs).2.1 + 1147, (gq13 L xs).2.2) 60 Z2
noncomputable def gq15 (L : Nat) (xs : Nat → Int32) : hH := hSt (gq14 L xs) 2 (.inl (8, (((((((hDf 8).set 0 (.ref 3)).set 1 (.ref 53)).set 2 (.ref 54)).set 3 (.ref 55)).set 4 (.ref 57)).set 5 (.ref 59)).set 6 (.ref 60)))
noncomputable def gq16 (L : Nat) (xs : Nat → Int32) : hH := oHp 1 (fun _ => .inr (0, 48, .inl fun _ => 0)) 68 3 ((gq15 L xs).2.1 + 148) [.ref 69, .ref 70, .ref 71, .int 0] (gq15 L xs).2.2
noncomputable def gq17 (L : Nat) (xs : Nat → Int32) : hH := hSt (gq16 L xs) 2 (.inl (8, ((((((((hDf 8).set 0 (.ref 3)).set 1 (.ref 53)).set 2 (.ref 54)).set 3 (.ref 55)).set 4 (.ref 57)).set 5 (.ref 59)).set 6 (.ref 60)).set 7 (.ref 68)))
noncomputable def gq18 (L : Nat) (xs : Nat → Int32) : hH := nwH 72 ((gq17 L xs).2.1 + 1) (.inl (0, hDf 0)) (gq17 L xs).2.2
noncomputable def gq19 (L : Nat) (xs : Nat → Int32) : hH := hSt (gq18 L xs) 2 (.inl (8, (((((((((hDf 8).set 0 (.ref 3)).set 1 (.ref 53)).set 2 (.ref 54)).set 3 (.ref 55)).set 4 (.ref 57)).set 5 (.ref 59)).set 6 (.ref 60)).set 7 (.ref 68)).set 8 (.ref 72)))
noncomputable def gq20 (L : Nat) (xs : Nat → Int32) : hH := tH (gq19 L xs).2.1 (gq19 L xs).2.2
noncomputable def gq21 (L : Nat) (xs : Nat → Int32) : hH := hSt (gq20 L xs) 2 (.inl (8, ((((((((((hDf 8).set 0 (.ref 3)).set 1 (.ref 53)).set 2 (.ref 54)).set 3 (.ref 55)).set 4 (.ref 57)).set 5 (.ref 59)).set 6 (.ref 60)).set 7 (.ref 68)).set 8 (.ref 72)).set 9 (.ref 73)))
noncomputable def gq22 (L : Nat) (xs : Nat → Int32) : hH := nwH 79 ((gq21 L xs).2.1 + 1000) (.inr (0, 1000, .inl fun _ => 0)) (gq21 L xs).2.2
noncomputable def gq23 (L : Nat) (xs : Nat → Int32) : hH := hSt (gq22 L xs) 2 (.inl (8, (((((((((((hDf 8).set 0 (.ref 3)).set 1 (.ref 53)).set 2 (.ref 54)).set 3 (.ref 55)).set 4 (.ref 57)).set 5 (.ref 59)).set 6 (.ref 60)).set 7 (.ref 68)).set 8 (.ref 72)).set 9 (.ref 73)).set 10 (.ref 79)))
noncomputable def gq24 (L : Nat) (xs : Nat → Int32) : hH := nwH 80 ((gq23 L xs).2.1 + 1000) (.inr (0, 1000, .inl fun _ => 0)) (gq23 L xs).2.2
noncomputable def gq25 (L : Nat) (xs : Nat → Int32) : hH := hSt (gq24 L xs) 2 (.inl (8, ((((((((((((hDf 8).set 0 (.ref 3)).set 1 (.ref 53)).set 2 (.ref 54)).set 3 (.ref 55)).set 4 (.ref 57)).set 5 (.ref 59)).set 6 (.ref 60)).set 7 (.ref 68)).set 8 (.ref 72)).set 9 (.ref 73)).set 10 (.ref 79)).set 11 (.ref 80)))
noncomputable def gq26 (L : Nat) (xs : Nat → Int32) : hH := Sh 4 [.ref 82, .int 0] 81 ((gq25 L xs).2.1 + 8) 6 (gq25 L xs).2.2
noncomputable def gq27 (L : Nat) (xs : Nat → Int32) : hH := hSt (gq26 L xs) 53 (.inr (4, 2, .inr (va_up (fun _ => none) 0 (some 81))))
noncomputable def gq28 (L : Nat) (xs : Nat → Int32) : hH := Sh 4 [.ref 132, .int 0] 131 ((gq27 L xs).2.1 + 8) 6 (gq27 L xs).2.2
noncomputable def gq29 (L : Nat) (xs : Nat → Int32) : hH := hSt (gq28 L xs) 53 (.inr (4, 2, .inr (va_up (va_up (fun _ => none) 0 (some 81)) 1 (some 131))))
noncomputable def gq30 (L : Nat) (xs : Nat → Int32) : hH := Sh 7 [.int 0, .int 0, .int 0, .int 0, .ref 182] 181 ((gq29 L xs).2.1 + 11) 6 (gq29 L xs).2.2
noncomputable def gq31 (L : Nat) (xs : Nat → Int32) : hH := hSt (gq30 L xs) 54 (.inr (6, 2, .inr (va_up (fun _ => none) 0 (some 181))))
noncomputable def gq32 (L : Nat) (xs : Nat → Int32) : hH := Sh 7 [.int 0, .int 0, .int 0, .int 0, .ref 232] 231 ((gq31 L xs).2.1 + 11) 6 (gq31 L xs).2.2
noncomputable def gq33 (L : Nat) (xs : Nat → Int32) : hH := hSt (gq32 L xs) 54 (.inr (6, 2, .inr (va_up (va_up (fun _ => none) 0 (some 181)) 1 (some 231))))
noncomputable def gq34 (L : Nat) (xs : Nat → Int32) : hH := hpM (293, (gq33 L xs).2.1 + 38424, (gq33 L xs).2.2) 281 M00 0
theorem gn_1 : (gq1 L xs).1 = 3 := rfl
theorem gn_3 : (gq3 L xs).1 = 53 := rfl
theorem gn_5 : (gq5 L xs).1 = 54 := rfl
theorem gn_7 : (gq7 L xs).1 = 55 := rfl
theorem gn_9 : (gq9 L xs).1 = 57 := rfl
theorem gn_11 : (gq11 L xs).1 = 59 := rfl
theorem gn_13 : (gq13 L xs).1 = 60 := rfl
theorem gn_15 : (gq15 L xs).1 = 68 := rfl
theorem gn_17 : (gq17 L xs).1 = 72 := rfl
theorem gn_19 : (gq19 L xs).1 = 73 := rfl
theorem gn_21 : (gq21 L xs).1 = 79 := rfl
theorem gn_23 : (gq23 L xs).1 = 80 := rfl
theorem gn_25 : (gq25 L xs).1 = 81 := rfl
theorem gn_27 : (gq27 L xs).1 = 131 := rfl
theorem gn_29 : (gq29 L xs).1 = 181 := rfl
theorem gn_31 : (gq31 L xs).1 = 231 := rfl
theorem gn_33 : (gq33 L xs).1 = 281 := rfl
theorem i_heavy : hRun 80 0 [.ref 2, hU] [] (gq1 L xs) none (gq33 L xs) := by
  refine r_step rfl rfl rfl ?_
  refine r_step rfl rfl rfl ?_
  refine r_step rfl rfl rfl ?_
  refine r_step rfl rfl rfl ?_
  refine r_step rfl rfl rfl ?_
  refine r_ini rfl rfl rfl rfl (show _ = Sum.inl (4, hDf 4) from rfl) rfl (i_shelf (gq1 L xs)) ?_
  change hRun 80 _ _ _ (gq2 L xs) _ _
  refine r_put rfl rfl rfl rfl ?_
  change hRun 80 _ _ _ (gq3 L xs) _ _
  refine r_step rfl rfl rfl ?_
  refine r_step rfl rfl rfl ?_
  refine r_newQ (n := 2) rfl (by decide) ?_
  change hRun 80 _ _ _ (gq4 L xs) _ _
  refine r_put rfl rfl rfl rfl ?_
  change hRun 80 _ _ _ (gq5 L xs) _ _
  refine r_step rfl rfl rfl ?_
  refine r_step rfl rfl rfl ?_
  refine r_newQ (n := 2) rfl (by decide) ?_
  change hRun 80 _ _ _ (gq6 L xs) _ _
  refine r_put rfl rfl rfl rfl ?_
  change hRun 80 _ _ _ (gq7 L xs) _ _
  refine r_step rfl rfl rfl ?_
  refine r_step rfl rfl rfl ?_
  refine r_step rfl rfl rfl ?_
  refine r_ini rfl rfl rfl rfl (show _ = Sum.inl (2, hDf 2) from rfl) rfl (i_oct (gq7 L xs)) ?_
  change hRun 80 _ _ _ (gq8 L xs) _ _
  refine r_put rfl rfl rfl rfl ?_
  change hRun 80 _ _ _ (gq9 L xs) _ _
  refine r_step rfl rfl rfl ?_
  refine r_step rfl rfl rfl ?_
  refine r_step rfl rfl rfl ?_
  refine r_ini rfl rfl rfl rfl (show _ = Sum.inl (2, hDf 2) from rfl) rfl (i_oct (gq9 L xs)) ?_
  change hRun 80 _ _ _ (gq10 L xs) _ _
  refine r_put rfl rfl rfl rfl ?_
  change hRun 80 _ _ _ (gq11 L xs) _ _
  refine r_step rfl rfl rfl ?_
  refine r_step rfl rfl rfl ?_
  refine r_step rfl rfl rfl ?_
  refine r_ini rfl rfl rfl rfl (show _ = Sum.inl (3, hDf 3) from rfl) rfl (i_rdr (gq11 L xs)) ?_
  change hRun 80 _ _ _ (gq12 L xs) _ _
  refine r_put rfl rfl rfl rfl ?_
  change hRun 80 _ _ _ (gq13 L xs) _ _
  refine r_step rfl rfl rfl ?_
  refine r_step rfl rfl rfl ?_
  refine r_step rfl rfl rfl ?_
  refine r_ini rfl rfl rfl rfl (show _ = Sum.inl (5, hDf 5) from rfl) rfl (i_sum (gq13 L xs)) ?_
  change hRun 80 _ _ _ (gq14 L xs) _ _
  refine r_put rfl rfl rfl rfl ?_
  change hRun 80 _ _ _ (gq15 L xs) _ _
  refine r_step rfl rfl rfl ?_
  refine r_step rfl rfl rfl ?_
  refine r_step rfl rfl rfl ?_
  refine r_ini rfl rfl rfl rfl (show _ = Sum.inl (1, hDf 1) from rfl) rfl (i_list (gq15 L xs)) ?_
  change hRun 80 _ _ _ (gq16 L xs) _ _
  refine r_put rfl rfl rfl rfl ?_
  change hRun 80 _ _ _ (gq17 L xs) _ _
  refine r_step rfl rfl rfl ?_
  refine r_step rfl rfl rfl ?_
  refine r_step rfl rfl rfl ?_
  refine r_ini rfl rfl rfl rfl (show _ = Sum.inl (0, hDf 0) from rfl) rfl (i_drw _ _) ?_
  change hRun 80 _ _ _ (gq18 L xs) _ _
  refine r_put rfl rfl rfl rfl ?_
  change hRun 80 _ _ _ (gq19 L xs) _ _
  refine r_step rfl rfl rfl ?_
  refine r_step rfl rfl rfl ?_
  refine r_step rfl rfl rfl ?_
  refine r_ini rfl rfl rfl rfl (show _ = Sum.inl (6, hDf 6) from rfl) rfl (i_tree (s := (gq19 L xs).2.1) (f := (gq19 L xs).2.2)) ?_
  change hRun 80 _ _ _ (gq20 L xs) _ _
  refine r_put rfl rfl rfl rfl ?_
  change hRun 80 _ _ _ (gq21 L xs) _ _
  refine r_step rfl rfl rfl ?_
  refine r_step rfl rfl rfl ?_
  refine r_newA (t := 0) (n := 1000) rfl (by decide) ?_
  change hRun 80 _ _ _ (gq22 L xs) _ _
  refine r_put rfl rfl rfl rfl ?_
  change hRun 80 _ _ _ (gq23 L xs) _ _
  refine r_step rfl rfl rfl ?_
  refine r_step rfl rfl rfl ?_
  refine r_newA (t := 0) (n := 1000) rfl (by decide) ?_
  change hRun 80 _ _ _ (gq24 L xs) _ _
  refine r_put rfl rfl rfl rfl ?_
  change hRun 80 _ _ _ (gq25 L xs) _ _
  refine r_step rfl rfl rfl ?_
  refine r_step rfl rfl rfl ?_
  refine r_step rfl rfl rfl ?_
  refine r_step rfl rfl rfl ?_
  refine r_brF rfl rfl ?_ ?_
  · decide
  refine r_step rfl rfl rfl ?_
  refine r_get rfl rfl rfl ?_
  refine r_step rfl rfl rfl ?_
  refine r_step rfl rfl rfl ?_
  refine r_step rfl rfl rfl ?_
  refine r_ini rfl rfl rfl rfl (show _ = Sum.inl (4, hDf 4) from rfl) rfl (i_shelf (gq25 L xs)) ?_
  change hRun 80 _ _ [.ref 81, .int (nI 0), .ref 53] (gq26 L xs) _ _
  refine r_ast rfl rfl rfl (show 0 < 2 by decide) rfl ?_
  change hRun 80 _ _ _ (gq27 L xs) _ _
  refine r_step rfl rfl rfl ?_
  refine r_step rfl rfl rfl ?_
  refine r_step rfl rfl rfl ?_
  refine r_step rfl rfl rfl ?_
  refine r_brF rfl rfl ?_ ?_
  · decide
  refine r_step rfl rfl rfl ?_
  refine r_get rfl rfl rfl ?_
  refine r_step rfl rfl rfl ?_
  refine r_step rfl rfl rfl ?_
  refine r_step rfl rfl rfl ?_
  refine r_ini rfl rfl rfl rfl (show _ = Sum.inl (4, hDf 4) from rfl) rfl (i_shelf (gq27 L xs)) ?_
  change hRun 80 _ _ [.ref 131, .int (nI 1), .ref 53] (gq28 L xs) _ _
  refine r_ast rfl rfl rfl (show 1 < 2 by decide) rfl ?_
  change hRun 80 _ _ _ (gq29 L xs) _ _
  refine r_step rfl rfl rfl ?_
  refine r_step rfl rfl rfl ?_
  refine r_step rfl rfl rfl ?_
  refine r_step rfl rfl rfl ?_
  refine r_brT rfl rfl ?_ ?_
  · decide
  refine r_step rfl rfl rfl ?_
  refine r_step rfl rfl rfl ?_
  refine r_step rfl rfl rfl ?_
  refine r_step rfl rfl rfl ?_
  refine r_brF rfl rfl ?_ ?_
  · decide
  refine r_step rfl rfl rfl ?_
  refine r_get rfl rfl rfl ?_
  refine r_step rfl rfl rfl ?_
  refine r_step rfl rfl rfl ?_
  refine r_step rfl rfl rfl ?_
  refine r_ini rfl rfl rfl rfl (show _ = Sum.inl (7, hDf 7) from rfl) rfl (i_win (gq29 L xs)) ?_
  change hRun 80 _ _ [.ref 181, .int (nI 0), .ref 54] (gq30 L xs) _ _
  refine r_ast rfl rfl rfl (show 0 < 2 by decide) rfl ?_
  change hRun 80 _ _ _ (gq31 L xs) _ _
  refine r_step rfl rfl rfl ?_
  refine r_step rfl rfl rfl ?_
  refine r_step rfl rfl rfl ?_
  refine r_step rfl rfl rfl ?_
  refine r_brF rfl rfl ?_ ?_
  · decide
  refine r_step rfl rfl rfl ?_
  refine r_get rfl rfl rfl ?_
  refine r_step rfl rfl rfl ?_
  refine r_step rfl rfl rfl ?_
  refine r_step rfl rfl rfl ?_
  refine r_ini rfl rfl rfl rfl (show _ = Sum.inl (7, hDf 7) from rfl) rfl (i_win (gq31 L xs)) ?_
  change hRun 80 _ _ [.ref 231, .int (nI 1), .ref 54] (gq32 L xs) _ _
  refine r_ast rfl rfl rfl (show 1 < 2 by decide) rfl ?_
  change hRun 80 _ _ _ (gq33 L xs) _ _
  refine r_step rfl rfl rfl ?_
  refine r_step rfl rfl rfl ?_
  refine r_step rfl rfl rfl ?_
  refine r_step rfl rfl rfl ?_
  refine r_brT rfl rfl ?_ ?_
  · decide
  exact r_ret rfl rfl rfl rfl
end GST
