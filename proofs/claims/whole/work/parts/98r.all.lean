/-! THE LAW: its loop, all of it -/
theorem r_lenL {mi k : Nat} {L st : List Value} {h h' : hH} {r : Option Value} {len pc x y a n t : Nat} {z : Int32} {zl : Int64} {ts : List Nat} {g : (Nat → Int32) ⊕ (Nat → Option Nat)} (he : hI mi k = some (.arraylength, len, pc, x, y, z, zl, ts)) (ha : h.2.2 a = .inr (t, n, g)) (ht : decide (t ≤ 7) = true) (K : hRun mi (k + 1) L (.int (nI n) :: st) h r h') : hRun mi k L (.ref a :: st) h r h' := by
  refine r_step he rfl ?_ K
  simp only [hStep, hLen, ha, if_pos (of_decide_eq_true ht)]
  rfl
theorem Iv_up {J : Nat} {W : Nat → hT2} {P : Nat → Nat → Nat} (I : Iv J W P) : Iv (J + 1) W P := Iv_chg I (Or.inr rfl) ⟨fun _ _ _ _ _ => rfl, fun _ _ => rfl, fun _ _ _ => rfl, fun _ _ _ => rfl, fun _ _ => rfl⟩ (fun h => absurd h (by omega))
section SLT
variable (L : Nat) (xs : Nat → Int32)
theorem gs_1 : (gq1 L xs).2.1 = 12 := rfl
theorem gs_2 : (gq2 L xs).2.1 = 6902 := by have := gs_1 L xs; show (gq1 L xs).2.1 + 8 + 1147 * 6 = 6902; omega
theorem gs_3 : (gq3 L xs).2.1 = 6902 := gs_2 L xs
theorem gs_4 : (gq4 L xs).2.1 = 6904 := by have := gs_3 L xs; show (gq3 L xs).2.1 + 2 = 6904; omega
theorem gs_5 : (gq5 L xs).2.1 = 6904 := gs_4 L xs
theorem gs_6 : (gq6 L xs).2.1 = 6906 := by have := gs_5 L xs; show (gq5 L xs).2.1 + 2 = 6906; omega
theorem gs_7 : (gq7 L xs).2.1 = 6906 := gs_6 L xs
theorem gs_8 : (gq8 L xs).2.1 = 7208 := by have := gs_7 L xs; show (gq7 L xs).2.1 + 302 = 7208; omega
theorem gs_9 : (gq9 L xs).2.1 = 7208 := gs_8 L xs
theorem gs_10 : (gq10 L xs).2.1 = 7510 := by have := gs_9 L xs; show (gq9 L xs).2.1 + 302 = 7510; omega
theorem gs_11 : (gq11 L xs).2.1 = 7510 := gs_10 L xs
theorem gs_12 : (gq12 L xs).2.1 = 7512 := by have := gs_11 L xs; show (gq11 L xs).2.1 + 2 = 7512; omega
theorem gs_13 : (gq13 L xs).2.1 = 7512 := gs_12 L xs
theorem gs_14 : (gq14 L xs).2.1 = 8659 := by have := gs_13 L xs; show (gq13 L xs).2.1 + 1147 = 8659; omega
theorem gs_15 : (gq15 L xs).2.1 = 8659 := gs_14 L xs
theorem gs_16 : (gq16 L xs).2.1 = 8807 := by have := gs_15 L xs; show (gq15 L xs).2.1 + 148 = 8807; omega
theorem gs_17 : (gq17 L xs).2.1 = 8807 := gs_16 L xs
theorem gs_18 : (gq18 L xs).2.1 = 8808 := by have := gs_17 L xs; show (gq17 L xs).2.1 + 1 = 8808; omega
theorem gs_19 : (gq19 L xs).2.1 = 8808 := gs_18 L xs
theorem gs_20 : (gq20 L xs).2.1 = 9924 := by have := gs_19 L xs; show (gq19 L xs).2.1 + 1116 = 9924; omega
theorem gs_21 : (gq21 L xs).2.1 = 9924 := gs_20 L xs
theorem gs_22 : (gq22 L xs).2.1 = 10924 := by have := gs_21 L xs; show (gq21 L xs).2.1 + 1000 = 10924; omega
theorem gs_23 : (gq23 L xs).2.1 = 10924 := gs_22 L xs
theorem gs_24 : (gq24 L xs).2.1 = 11924 := by have := gs_23 L xs; show (gq23 L xs).2.1 + 1000 = 11924; omega
theorem gs_25 : (gq25 L xs).2.1 = 11924 := gs_24 L xs
theorem gs_26 : (gq26 L xs).2.1 = 18814 := by have := gs_25 L xs; show (gq25 L xs).2.1 + 8 + 1147 * 6 = 18814; omega
theorem gs_27 : (gq27 L xs).2.1 = 18814 := gs_26 L xs
theorem gs_28 : (gq28 L xs).2.1 = 25704 := by have := gs_27 L xs; show (gq27 L xs).2.1 + 8 + 1147 * 6 = 25704; omega
theorem gs_29 : (gq29 L xs).2.1 = 25704 := gs_28 L xs
theorem gs_30 : (gq30 L xs).2.1 = 32597 := by have := gs_29 L xs; show (gq29 L xs).2.1 + 11 + 1147 * 6 = 32597; omega
theorem gs_31 : (gq31 L xs).2.1 = 32597 := gs_30 L xs
theorem gs_32 : (gq32 L xs).2.1 = 39490 := by have := gs_31 L xs; show (gq31 L xs).2.1 + 11 + 1147 * 6 = 39490; omega
theorem gs_33 : (gq33 L xs).2.1 = 39490 := gs_32 L xs
theorem gs_34 : (gq34 L xs).2.1 = 77914 := by have := gs_33 L xs; show (gq33 L xs).2.1 + 38424 = 77914; omega
end SLT
section LLP
variable {E : hEn}
theorem law_at {J i c : Nat} {w : hWo} (hJ : J ≤ 600) (I : Iv J w.1 w.2.2.2) (hi : i + 4 < E.2.2.1) (hL : E.2.2.1 ≤ 2560) (hc : c < 64) : ∃ w2, Iv (J + 1) w2.1 w2.2.2.2 ∧ ∀ r h', hRun 278 1783 [.ref 0, .ref 2, .ref 281, .int (nI i)] [] (hW E w2) r h' → hRun 278 21 [.ref 0, .ref 2, .ref 281, .int (nI i)] [.int (nI c)] (hW E w) r h' := by
  by_cases big : 52 < c
  · refine ⟨w, Iv_up I, fun r h' K => r_tswd rfl (Or.inr ?_) K⟩
    rw [nI_toInt (by omega)]
    omega
  by_cases k0_26 : c < 26
  · skip
    by_cases k0_13 : c < 13
    · skip
      by_cases k0_6 : c < 6
      · skip
        by_cases k0_3 : c < 3
        · skip
          by_cases k0_1 : c < 1
          · skip
            have e : c = 0 := by omega
            subst e
            obtain ⟨w2, I2, K2⟩ := L_0 hJ I hi hL
            refine ⟨w2, I2, fun r h' K => ?_⟩
            refine r_step rfl rfl rfl ?_
            exact K2 r h' K
          · skip
            by_cases k1_2 : c < 2
            · skip
              have e : c = 1 := by omega
              subst e
              obtain ⟨w2, I2, K2⟩ := L_1 hJ I hi hL
              refine ⟨w2, I2, fun r h' K => ?_⟩
              refine r_step rfl rfl rfl ?_
              exact K2 r h' K
            · skip
              have e : c = 2 := by omega
              subst e
              obtain ⟨w2, I2, K2⟩ := L_2 hJ I hi hL
              refine ⟨w2, I2, fun r h' K => ?_⟩
              refine r_step rfl rfl rfl ?_
              exact K2 r h' K
        · skip
          by_cases k3_4 : c < 4
          · skip
            have e : c = 3 := by omega
            subst e
            obtain ⟨w2, I2, K2⟩ := L_3 hJ I hi hL
            refine ⟨w2, I2, fun r h' K => ?_⟩
            refine r_step rfl rfl rfl ?_
            exact K2 r h' K
          · skip
            by_cases k4_5 : c < 5
            · skip
              have e : c = 4 := by omega
              subst e
              obtain ⟨w2, I2, K2⟩ := L_4 hJ I hi hL
              refine ⟨w2, I2, fun r h' K => ?_⟩
              refine r_step rfl rfl rfl ?_
              exact K2 r h' K
            · skip
              have e : c = 5 := by omega
              subst e
              obtain ⟨w2, I2, K2⟩ := L_5 hJ I hi hL
              refine ⟨w2, I2, fun r h' K => ?_⟩
              refine r_step rfl rfl rfl ?_
              exact K2 r h' K
      · skip
        by_cases k6_9 : c < 9
        · skip
          by_cases k6_7 : c < 7
          · skip
            have e : c = 6 := by omega
            subst e
            obtain ⟨w2, I2, K2⟩ := L_6 hJ I hi hL
            refine ⟨w2, I2, fun r h' K => ?_⟩
            refine r_step rfl rfl rfl ?_
            exact K2 r h' K
          · skip
            by_cases k7_8 : c < 8
            · skip
              have e : c = 7 := by omega
              subst e
              obtain ⟨w2, I2, K2⟩ := L_7 hJ I hi hL
              refine ⟨w2, I2, fun r h' K => ?_⟩
              refine r_step rfl rfl rfl ?_
              exact K2 r h' K
            · skip
              have e : c = 8 := by omega
              subst e
              obtain ⟨w2, I2, K2⟩ := L_8 hJ I hi hL
              refine ⟨w2, I2, fun r h' K => ?_⟩
              refine r_step rfl rfl rfl ?_
              exact K2 r h' K
        · skip
          by_cases k9_11 : c < 11
          · skip
            by_cases k9_10 : c < 10
            · skip
              have e : c = 9 := by omega
              subst e
              obtain ⟨w2, I2, K2⟩ := L_9 hJ I hi hL
              refine ⟨w2, I2, fun r h' K => ?_⟩
              refine r_step rfl rfl rfl ?_
              exact K2 r h' K
            · skip
              have e : c = 10 := by omega
              subst e
              obtain ⟨w2, I2, K2⟩ := L_10 hJ I hi hL
              refine ⟨w2, I2, fun r h' K => ?_⟩
              refine r_step rfl rfl rfl ?_
              exact K2 r h' K
          · skip
            by_cases k11_12 : c < 12
            · skip
              have e : c = 11 := by omega
              subst e
              obtain ⟨w2, I2, K2⟩ := L_11 hJ I hi hL
              refine ⟨w2, I2, fun r h' K => ?_⟩
              refine r_step rfl rfl rfl ?_
              exact K2 r h' K
            · skip
              have e : c = 12 := by omega
              subst e
              obtain ⟨w2, I2, K2⟩ := L_12 hJ I hi hL
              refine ⟨w2, I2, fun r h' K => ?_⟩
              refine r_step rfl rfl rfl ?_
              exact K2 r h' K
    · skip
      by_cases k13_19 : c < 19
      · skip
        by_cases k13_16 : c < 16
        · skip
          by_cases k13_14 : c < 14
          · skip
            have e : c = 13 := by omega
            subst e
            obtain ⟨w2, I2, K2⟩ := L_13 hJ I hi hL
            refine ⟨w2, I2, fun r h' K => ?_⟩
            refine r_step rfl rfl rfl ?_
            exact K2 r h' K
          · skip
            by_cases k14_15 : c < 15
            · skip
              have e : c = 14 := by omega
              subst e
              obtain ⟨w2, I2, K2⟩ := L_14 hJ I hi hL
              refine ⟨w2, I2, fun r h' K => ?_⟩
              refine r_step rfl rfl rfl ?_
              exact K2 r h' K
            · skip
              have e : c = 15 := by omega
              subst e
              obtain ⟨w2, I2, K2⟩ := L_15 hJ I hi hL
              refine ⟨w2, I2, fun r h' K => ?_⟩
              refine r_step rfl rfl rfl ?_
              exact K2 r h' K
        · skip
          by_cases k16_17 : c < 17
          · skip
            have e : c = 16 := by omega
            subst e
            obtain ⟨w2, I2, K2⟩ := L_16 hJ I hi hL
            refine ⟨w2, I2, fun r h' K => ?_⟩
            refine r_step rfl rfl rfl ?_
            exact K2 r h' K
          · skip
            by_cases k17_18 : c < 18
            · skip
              have e : c = 17 := by omega
              subst e
              obtain ⟨w2, I2, K2⟩ := L_17 hJ I hi hL
              refine ⟨w2, I2, fun r h' K => ?_⟩
              refine r_step rfl rfl rfl ?_
              exact K2 r h' K
            · skip
              have e : c = 18 := by omega
              subst e
              obtain ⟨w2, I2, K2⟩ := L_18 hJ I hi hL
              refine ⟨w2, I2, fun r h' K => ?_⟩
              refine r_step rfl rfl rfl ?_
              exact K2 r h' K
      · skip
        by_cases k19_22 : c < 22
        · skip
          by_cases k19_20 : c < 20
          · skip
            have e : c = 19 := by omega
            subst e
            obtain ⟨w2, I2, K2⟩ := L_19 hJ I hi hL
            refine ⟨w2, I2, fun r h' K => ?_⟩
            refine r_step rfl rfl rfl ?_
            exact K2 r h' K
          · skip
            by_cases k20_21 : c < 21
            · skip
              have e : c = 20 := by omega
              subst e
              obtain ⟨w2, I2, K2⟩ := L_20 hJ I hi hL
              refine ⟨w2, I2, fun r h' K => ?_⟩
              refine r_step rfl rfl rfl ?_
              exact K2 r h' K
            · skip
              have e : c = 21 := by omega
              subst e
              obtain ⟨w2, I2, K2⟩ := L_21 hJ I hi hL
              refine ⟨w2, I2, fun r h' K => ?_⟩
              refine r_step rfl rfl rfl ?_
              exact K2 r h' K
        · skip
          by_cases k22_24 : c < 24
          · skip
            by_cases k22_23 : c < 23
            · skip
              have e : c = 22 := by omega
              subst e
              obtain ⟨w2, I2, K2⟩ := L_22 hJ I hi hL
              refine ⟨w2, I2, fun r h' K => ?_⟩
              refine r_step rfl rfl rfl ?_
              exact K2 r h' K
            · skip
              have e : c = 23 := by omega
              subst e
              obtain ⟨w2, I2, K2⟩ := L_23 hJ I hi hL
              refine ⟨w2, I2, fun r h' K => ?_⟩
              refine r_step rfl rfl rfl ?_
              exact K2 r h' K
          · skip
            by_cases k24_25 : c < 25
            · skip
              have e : c = 24 := by omega
              subst e
              obtain ⟨w2, I2, K2⟩ := L_24 hJ I hi hL
              refine ⟨w2, I2, fun r h' K => ?_⟩
              refine r_step rfl rfl rfl ?_
              exact K2 r h' K
            · skip
              have e : c = 25 := by omega
              subst e
              obtain ⟨w2, I2, K2⟩ := L_25 hJ I hi hL
              refine ⟨w2, I2, fun r h' K => ?_⟩
              refine r_step rfl rfl rfl ?_
              exact K2 r h' K
  · skip
    by_cases k26_39 : c < 39
    · skip
      by_cases k26_32 : c < 32
      · skip
        by_cases k26_29 : c < 29
        · skip
          by_cases k26_27 : c < 27
          · skip
            have e : c = 26 := by omega
            subst e
            obtain ⟨w2, I2, K2⟩ := L_26 hJ I hi hL
            refine ⟨w2, I2, fun r h' K => ?_⟩
            refine r_step rfl rfl rfl ?_
            exact K2 r h' K
          · skip
            by_cases k27_28 : c < 28
            · skip
              have e : c = 27 := by omega
              subst e
              obtain ⟨w2, I2, K2⟩ := L_27 hJ I hi hL
              refine ⟨w2, I2, fun r h' K => ?_⟩
              refine r_step rfl rfl rfl ?_
              exact K2 r h' K
            · skip
              have e : c = 28 := by omega
              subst e
              obtain ⟨w2, I2, K2⟩ := L_28 hJ I hi hL
              refine ⟨w2, I2, fun r h' K => ?_⟩
              refine r_step rfl rfl rfl ?_
              exact K2 r h' K
        · skip
          by_cases k29_30 : c < 30
          · skip
            have e : c = 29 := by omega
            subst e
            obtain ⟨w2, I2, K2⟩ := L_29 hJ I hi hL
            refine ⟨w2, I2, fun r h' K => ?_⟩
            refine r_step rfl rfl rfl ?_
            exact K2 r h' K
          · skip
            by_cases k30_31 : c < 31
            · skip
              have e : c = 30 := by omega
              subst e
              obtain ⟨w2, I2, K2⟩ := L_30 hJ I hi hL
              refine ⟨w2, I2, fun r h' K => ?_⟩
              refine r_step rfl rfl rfl ?_
              exact K2 r h' K
            · skip
              have e : c = 31 := by omega
              subst e
              obtain ⟨w2, I2, K2⟩ := L_31 hJ I hi hL
              refine ⟨w2, I2, fun r h' K => ?_⟩
              refine r_step rfl rfl rfl ?_
              exact K2 r h' K
      · skip
        by_cases k32_35 : c < 35
        · skip
          by_cases k32_33 : c < 33
          · skip
            have e : c = 32 := by omega
            subst e
            obtain ⟨w2, I2, K2⟩ := L_32 hJ I hi hL
            refine ⟨w2, I2, fun r h' K => ?_⟩
            refine r_step rfl rfl rfl ?_
            exact K2 r h' K
          · skip
            by_cases k33_34 : c < 34
            · skip
              have e : c = 33 := by omega
              subst e
              obtain ⟨w2, I2, K2⟩ := L_33 hJ I hi hL
              refine ⟨w2, I2, fun r h' K => ?_⟩
              refine r_step rfl rfl rfl ?_
              exact K2 r h' K
            · skip
              have e : c = 34 := by omega
              subst e
              obtain ⟨w2, I2, K2⟩ := L_34 hJ I hi hL
              refine ⟨w2, I2, fun r h' K => ?_⟩
              refine r_step rfl rfl rfl ?_
              exact K2 r h' K
        · skip
          by_cases k35_37 : c < 37
          · skip
            by_cases k35_36 : c < 36
            · skip
              have e : c = 35 := by omega
              subst e
              obtain ⟨w2, I2, K2⟩ := L_35 hJ I hi hL
              refine ⟨w2, I2, fun r h' K => ?_⟩
              refine r_step rfl rfl rfl ?_
              exact K2 r h' K
            · skip
              have e : c = 36 := by omega
              subst e
              obtain ⟨w2, I2, K2⟩ := L_36 hJ I hi hL
              refine ⟨w2, I2, fun r h' K => ?_⟩
              refine r_step rfl rfl rfl ?_
              exact K2 r h' K
          · skip
            by_cases k37_38 : c < 38
            · skip
              have e : c = 37 := by omega
              subst e
              obtain ⟨w2, I2, K2⟩ := L_37 hJ I hi hL
              refine ⟨w2, I2, fun r h' K => ?_⟩
              refine r_step rfl rfl rfl ?_
              exact K2 r h' K
            · skip
              have e : c = 38 := by omega
              subst e
              obtain ⟨w2, I2, K2⟩ := L_38 hJ I hi hL
              refine ⟨w2, I2, fun r h' K => ?_⟩
              refine r_step rfl rfl rfl ?_
              exact K2 r h' K
    · skip
      by_cases k39_46 : c < 46
      · skip
        by_cases k39_42 : c < 42
        · skip
          by_cases k39_40 : c < 40
          · skip
            have e : c = 39 := by omega
            subst e
            obtain ⟨w2, I2, K2⟩ := L_39 hJ I hi hL
            refine ⟨w2, I2, fun r h' K => ?_⟩
            refine r_step rfl rfl rfl ?_
            exact K2 r h' K
          · skip
            by_cases k40_41 : c < 41
            · skip
              have e : c = 40 := by omega
              subst e
              obtain ⟨w2, I2, K2⟩ := L_40 hJ I hi hL
              refine ⟨w2, I2, fun r h' K => ?_⟩
              refine r_step rfl rfl rfl ?_
              exact K2 r h' K
            · skip
              have e : c = 41 := by omega
              subst e
              obtain ⟨w2, I2, K2⟩ := L_41 hJ I hi hL
              refine ⟨w2, I2, fun r h' K => ?_⟩
              refine r_step rfl rfl rfl ?_
              exact K2 r h' K
        · skip
          by_cases k42_44 : c < 44
          · skip
            by_cases k42_43 : c < 43
            · skip
              have e : c = 42 := by omega
              subst e
              obtain ⟨w2, I2, K2⟩ := L_42 hJ I hi hL
              refine ⟨w2, I2, fun r h' K => ?_⟩
              refine r_step rfl rfl rfl ?_
              exact K2 r h' K
            · skip
              have e : c = 43 := by omega
              subst e
              obtain ⟨w2, I2, K2⟩ := L_43 hJ I hi hL
              refine ⟨w2, I2, fun r h' K => ?_⟩
              refine r_step rfl rfl rfl ?_
              exact K2 r h' K
          · skip
            by_cases k44_45 : c < 45
            · skip
              have e : c = 44 := by omega
              subst e
              obtain ⟨w2, I2, K2⟩ := L_44 hJ I hi hL
              refine ⟨w2, I2, fun r h' K => ?_⟩
              refine r_step rfl rfl rfl ?_
              exact K2 r h' K
            · skip
              have e : c = 45 := by omega
              subst e
              obtain ⟨w2, I2, K2⟩ := L_45 hJ I hi hL
              refine ⟨w2, I2, fun r h' K => ?_⟩
              refine r_step rfl rfl rfl ?_
              exact K2 r h' K
      · skip
        by_cases k46_49 : c < 49
        · skip
          by_cases k46_47 : c < 47
          · skip
            have e : c = 46 := by omega
            subst e
            obtain ⟨w2, I2, K2⟩ := L_46 hJ I hi hL
            refine ⟨w2, I2, fun r h' K => ?_⟩
            refine r_step rfl rfl rfl ?_
            exact K2 r h' K
          · skip
            by_cases k47_48 : c < 48
            · skip
              have e : c = 47 := by omega
              subst e
              obtain ⟨w2, I2, K2⟩ := L_47 hJ I hi hL
              refine ⟨w2, I2, fun r h' K => ?_⟩
              refine r_step rfl rfl rfl ?_
              exact K2 r h' K
            · skip
              have e : c = 48 := by omega
              subst e
              obtain ⟨w2, I2, K2⟩ := L_48 hJ I hi hL
              refine ⟨w2, I2, fun r h' K => ?_⟩
              refine r_step rfl rfl rfl ?_
              exact K2 r h' K
        · skip
          by_cases k49_51 : c < 51
          · skip
            by_cases k49_50 : c < 50
            · skip
              have e : c = 49 := by omega
              subst e
              obtain ⟨w2, I2, K2⟩ := L_49 hJ I hi hL
              refine ⟨w2, I2, fun r h' K => ?_⟩
              refine r_step rfl rfl rfl ?_
              exact K2 r h' K
            · skip
              have e : c = 50 := by omega
              subst e
              obtain ⟨w2, I2, K2⟩ := L_50 hJ I hi hL
              refine ⟨w2, I2, fun r h' K => ?_⟩
              refine r_step rfl rfl rfl ?_
              exact K2 r h' K
          · skip
            by_cases k51_52 : c < 52
            · skip
              have e : c = 51 := by omega
              subst e
              obtain ⟨w2, I2, K2⟩ := L_51 hJ I hi hL
              refine ⟨w2, I2, fun r h' K => ?_⟩
              refine r_step rfl rfl rfl ?_
              exact K2 r h' K
            · skip
              have e : c = 52 := by omega
              subst e
              obtain ⟨w2, I2, K2⟩ := L_52 hJ I hi hL
              refine ⟨w2, I2, fun r h' K => ?_⟩
              refine r_step rfl rfl rfl ?_
              exact K2 r h' K
theorem law_loop (hL : E.2.2.1 ≤ 2560) : ∀ d J (w : hWo), J + d = 513 → Iv J w.1 w.2.2.2 → ∃ w', hRun 278 10 [.ref 0, .ref 2, .ref 281, .int (nI (5 * J))] [] (hW E w) (some (.int 1)) (hW E w') := by
  have e5 : ∀ n, n ≤ 2560 → (nI n - 5).toInt = (n : Int) - 5 := fun n hn => pk_sub_toInt (b := 5) (by omega) (by omega)
  have out : ∀ J (w : hWo), J ≤ 513 → ¬ 5 * J + 4 < E.2.2.1 → hRun 278 10 [.ref 0, .ref 2, .ref 281, .int (nI (5 * J))] [] (hW E w) (some (.int 1)) (hW E w) := by
    intro J w hJ hn
    refine r_step rfl rfl rfl ?_
    refine r_step rfl rfl rfl ?_
    refine r_lenL (n := E.2.2.1) rfl rfl rfl ?_
    refine r_step rfl rfl rfl ?_
    refine r_step rfl rfl rfl ?_
    refine r_brT rfl rfl ?_ ?_
    · rw [Int32.lt_iff_toInt_lt]
      show (nI E.2.2.1 - 5).toInt < (nI (5 * J)).toInt
      rw [e5 _ hL, nI_toInt (by omega)]
      omega
    refine r_step rfl rfl rfl ?_
    (refine r_rtE rfl rfl ?_ ?_ ?_ <;> rfl)
  intro d
  induction d with
  | zero =>
    intro J w hJ I
    exact ⟨w, out J w (by omega) (by omega)⟩
  | succ d ih =>
    intro J w hJ I
    by_cases q : 5 * J + 4 < E.2.2.1
    · have ec : E.2.2.2 (5 * J) &&& 63 = nI ((E.2.2.2 (5 * J)).toBitVec.toNat % 64) := pk_and _ 6 (by decide)
      obtain ⟨w2, I2, K2⟩ := law_at (E := E) (J := J) (i := 5 * J) (c := (E.2.2.2 (5 * J)).toBitVec.toNat % 64) (by omega) I q hL (Nat.mod_lt _ (by omega))
      obtain ⟨w', hw'⟩ := ih (J + 1) w2 (by omega) I2
      refine ⟨w', ?_⟩
      refine r_step rfl rfl rfl ?_
      refine r_step rfl rfl rfl ?_
      refine r_lenL (n := E.2.2.1) rfl rfl rfl ?_
      refine r_step rfl rfl rfl ?_
      refine r_step rfl rfl rfl ?_
      refine r_brF rfl rfl ?_ ?_
      · rw [Int32.lt_iff_toInt_lt]
        show ¬ (nI E.2.2.1 - 5).toInt < (nI (5 * J)).toInt
        rw [e5 _ hL, nI_toInt (by omega)]
        omega
      refine r_step rfl rfl rfl ?_
      refine r_step rfl rfl rfl ?_
      refine r_ild rfl rfl rfl (show 5 * J < E.2.2.1 by omega) (by omega) ?_
      refine r_step rfl rfl rfl ?_
      refine r_step rfl rfl rfl ?_
      try dsimp only
      rw [ec]
      refine K2 _ _ ?_
      refine r_step rfl rfl rfl ?_
      try dsimp only
      rw [show nI (5 * J) + 5 = nI (5 * (J + 1)) by rw [na5, show 5 * J + 5 = 5 * (J + 1) by omega]]
      refine r_step rfl rfl rfl ?_
      exact hw'
    · exact ⟨w, out J w (by omega) q⟩
end LLP
/-- ALL ON PAPER -/
theorem hPure (L : Nat) (xs : Nat → Int32) (hL : L ≤ 2560) : hGoal L xs := by
  obtain ⟨w', hw'⟩ := law_loop (E := E0 L xs) hL 513 0 w0 rfl Iv_0
  have run : hRun 278 0 [.ref 0, hU, hU, hU] [] (hStart L xs) (some (.int 1)) (hW (E0 L xs) w') := by
    refine r_step rfl rfl rfl ?_
    refine r_step rfl rfl rfl ?_
    refine r_ini rfl rfl rfl rfl (show _ = Sum.inl (8, hDf 8) from rfl) rfl (i_heavy L xs) ?_
    refine r_step rfl rfl rfl ?_
    refine r_step rfl rfl rfl ?_
    refine r_step rfl rfl rfl ?_
    refine r_ini rfl rfl rfl rfl (show _ = Sum.inl (9, hDf 9) from rfl) rfl (i_mod (gq33 L xs)) ?_
    change hRun 278 7 _ [.ref 281] (gq34 L xs) _ _
    rw [g_W]
    refine r_step rfl rfl rfl ?_
    refine r_step rfl rfl rfl ?_
    refine r_step rfl rfl rfl ?_
    exact hw'
  obtain ⟨n, hn⟩ := run
  exact ⟨n, hW (E0 L xs) w', hn, show (gq34 L xs).1 ≤ 600000 from Nat.le_of_ble_eq_true rfl, by show (gq34 L xs).2.1 ≤ 7302250; have := gs_34 L xs; omega⟩
