/-! RUNS: growth -/
theorem hStep_mono {e : hE} {k : Nat} {L st : List Value} {h : hH} {k' : Nat} {L' st' : List Value} {h1 : hH} (hs : hStep e k L st h = some (k', L', st', h1)) : h.1 ≤ h1.1 ∧ h.2.1 ≤ h1.2.1 := by
  obtain ⟨i, len, pc, x, y, z, zl, ts⟩ := e
  cases i with
  | iload i =>
    obtain ⟨v, _, _, rfl, rfl, rfl, rfl⟩ := hLoad_inv hs
    exact ⟨Nat.le_refl _, Nat.le_refl _⟩
  | iload_n i =>
    obtain ⟨v, _, _, rfl, rfl, rfl, rfl⟩ := hLoad_inv hs
    exact ⟨Nat.le_refl _, Nat.le_refl _⟩
  | lload i =>
    obtain ⟨v, _, _, rfl, rfl, rfl, rfl⟩ := hLoad_inv hs
    exact ⟨Nat.le_refl _, Nat.le_refl _⟩
  | lload_n i =>
    obtain ⟨v, _, _, rfl, rfl, rfl, rfl⟩ := hLoad_inv hs
    exact ⟨Nat.le_refl _, Nat.le_refl _⟩
  | aload i =>
    obtain ⟨v, _, _, rfl, rfl, rfl, rfl⟩ := hLoad_inv hs
    exact ⟨Nat.le_refl _, Nat.le_refl _⟩
  | aload_n i =>
    obtain ⟨v, _, _, rfl, rfl, rfl, rfl⟩ := hLoad_inv hs
    exact ⟨Nat.le_refl _, Nat.le_refl _⟩
  | istore i =>
    obtain ⟨v, r, rfl, _, rfl, rfl, rfl, rfl⟩ := hSto1_inv hs
    exact ⟨Nat.le_refl _, Nat.le_refl _⟩
  | istore_n i =>
    obtain ⟨v, r, rfl, _, rfl, rfl, rfl, rfl⟩ := hSto1_inv hs
    exact ⟨Nat.le_refl _, Nat.le_refl _⟩
  | astore i =>
    obtain ⟨v, r, rfl, _, rfl, rfl, rfl, rfl⟩ := hSto1_inv hs
    exact ⟨Nat.le_refl _, Nat.le_refl _⟩
  | astore_n i =>
    obtain ⟨v, r, rfl, _, rfl, rfl, rfl, rfl⟩ := hSto1_inv hs
    exact ⟨Nat.le_refl _, Nat.le_refl _⟩
  | lstore i =>
    obtain ⟨v, r, rfl, rfl, rfl, rfl, rfl⟩ := hSto2_inv hs
    exact ⟨Nat.le_refl _, Nat.le_refl _⟩
  | lstore_n i =>
    obtain ⟨v, r, rfl, rfl, rfl, rfl, rfl⟩ := hSto2_inv hs
    exact ⟨Nat.le_refl _, Nat.le_refl _⟩
  | iinc i n =>
    obtain ⟨v, _, rfl, rfl, rfl, rfl⟩ := hInc_inv hs
    exact ⟨Nat.le_refl _, Nat.le_refl _⟩
  | iadd =>
    obtain ⟨a, b, r, rfl, rfl, rfl, rfl, rfl⟩ := hOp2_inv hs
    exact ⟨Nat.le_refl _, Nat.le_refl _⟩
  | isub =>
    obtain ⟨a, b, r, rfl, rfl, rfl, rfl, rfl⟩ := hOp2_inv hs
    exact ⟨Nat.le_refl _, Nat.le_refl _⟩
  | imul =>
    obtain ⟨a, b, r, rfl, rfl, rfl, rfl, rfl⟩ := hOp2_inv hs
    exact ⟨Nat.le_refl _, Nat.le_refl _⟩
  | iand =>
    obtain ⟨a, b, r, rfl, rfl, rfl, rfl, rfl⟩ := hOp2_inv hs
    exact ⟨Nat.le_refl _, Nat.le_refl _⟩
  | ior =>
    obtain ⟨a, b, r, rfl, rfl, rfl, rfl, rfl⟩ := hOp2_inv hs
    exact ⟨Nat.le_refl _, Nat.le_refl _⟩
  | ishl =>
    obtain ⟨a, b, r, rfl, rfl, rfl, rfl, rfl⟩ := hOp2_inv hs
    exact ⟨Nat.le_refl _, Nat.le_refl _⟩
  | ishr =>
    obtain ⟨a, b, r, rfl, rfl, rfl, rfl, rfl⟩ := hOp2_inv hs
    exact ⟨Nat.le_refl _, Nat.le_refl _⟩
  | iushr =>
    obtain ⟨a, b, r, rfl, rfl, rfl, rfl, rfl⟩ := hOp2_inv hs
    exact ⟨Nat.le_refl _, Nat.le_refl _⟩
  | idiv =>
    obtain ⟨a, b, r, rfl, _, rfl, rfl, rfl, rfl⟩ := hOpD_inv hs
    exact ⟨Nat.le_refl _, Nat.le_refl _⟩
  | irem =>
    obtain ⟨a, b, r, rfl, _, rfl, rfl, rfl, rfl⟩ := hOpD_inv hs
    exact ⟨Nat.le_refl _, Nat.le_refl _⟩
  | ineg =>
    obtain ⟨a, r, rfl, rfl, rfl, rfl, rfl⟩ := hOp1_inv hs
    exact ⟨Nat.le_refl _, Nat.le_refl _⟩
  | i2l =>
    obtain ⟨a, r, rfl, rfl, rfl, rfl, rfl⟩ := hOp1_inv hs
    exact ⟨Nat.le_refl _, Nat.le_refl _⟩
  | i2b =>
    obtain ⟨a, r, rfl, rfl, rfl, rfl, rfl⟩ := hOp1_inv hs
    exact ⟨Nat.le_refl _, Nat.le_refl _⟩
  | l2i =>
    obtain ⟨a, r, rfl, rfl, rfl, rfl, rfl⟩ := hL2i_inv hs
    exact ⟨Nat.le_refl _, Nat.le_refl _⟩
  | ladd =>
    obtain ⟨a, b, r, rfl, rfl, rfl, rfl, rfl⟩ := hOpL_inv hs
    exact ⟨Nat.le_refl _, Nat.le_refl _⟩
  | lmul =>
    obtain ⟨a, b, r, rfl, rfl, rfl, rfl, rfl⟩ := hOpL_inv hs
    exact ⟨Nat.le_refl _, Nat.le_refl _⟩
  | land =>
    obtain ⟨a, b, r, rfl, rfl, rfl, rfl, rfl⟩ := hOpL_inv hs
    exact ⟨Nat.le_refl _, Nat.le_refl _⟩
  | lcmp =>
    obtain ⟨a, b, r, rfl, rfl, rfl, rfl, rfl⟩ := hOpL_inv hs
    exact ⟨Nat.le_refl _, Nat.le_refl _⟩
  | ldiv =>
    obtain ⟨a, b, r, rfl, _, rfl, rfl, rfl, rfl⟩ := hOpLD_inv hs
    exact ⟨Nat.le_refl _, Nat.le_refl _⟩
  | lrem =>
    obtain ⟨a, b, r, rfl, _, rfl, rfl, rfl, rfl⟩ := hOpLD_inv hs
    exact ⟨Nat.le_refl _, Nat.le_refl _⟩
  | dup =>
    obtain ⟨a, r, rfl, _, rfl, rfl, rfl, rfl⟩ := hDup_inv hs
    exact ⟨Nat.le_refl _, Nat.le_refl _⟩
  | dup2 =>
    obtain ⟨a, b, r, rfl, _, _, rfl, rfl, rfl, rfl⟩ := hDup2_inv hs
    exact ⟨Nat.le_refl _, Nat.le_refl _⟩
  | pop =>
    obtain ⟨a, r, rfl, _, rfl, rfl, rfl, rfl⟩ := hPop_inv hs
    exact ⟨Nat.le_refl _, Nat.le_refl _⟩
  | ifCond i n =>
    obtain ⟨a, r, rfl, rfl, rfl, rfl, rfl⟩ := hIf1_inv hs
    exact ⟨Nat.le_refl _, Nat.le_refl _⟩
  | if_icmp i n =>
    obtain ⟨a, b, r, rfl, rfl, rfl, rfl, rfl⟩ := hIf2_inv hs
    exact ⟨Nat.le_refl _, Nat.le_refl _⟩
  | getfield i =>
    obtain ⟨a, r, fs, v, rfl, _, _, rfl, rfl, rfl, rfl⟩ := hGet_inv hs
    exact ⟨Nat.le_refl _, Nat.le_refl _⟩
  | putfield i =>
    obtain ⟨v, a, r, fs, rfl, _, _, _, rfl, rfl, rfl, rfl⟩ := hPut_inv hs
    exact ⟨Nat.le_refl _, Nat.le_refl _⟩
  | iaload =>
    obtain ⟨i, a, r, t, n, f, rfl, _, _, _, rfl, rfl, rfl, rfl⟩ := hIld_inv hs
    exact ⟨Nat.le_refl _, Nat.le_refl _⟩
  | baload =>
    obtain ⟨i, a, r, t, n, f, rfl, _, _, _, rfl, rfl, rfl, rfl⟩ := hBld_inv hs
    exact ⟨Nat.le_refl _, Nat.le_refl _⟩
  | iastore =>
    obtain ⟨v, i, a, r, n, f, rfl, _, _, rfl, rfl, rfl, rfl⟩ := hIst_inv hs
    exact ⟨Nat.le_refl _, Nat.le_refl _⟩
  | aaload =>
    obtain ⟨i, a, r, t, n, f, rfl, _, _, rfl, rfl, rfl, rfl⟩ := hAld_inv hs
    exact ⟨Nat.le_refl _, Nat.le_refl _⟩
  | aastore =>
    obtain ⟨v, i, a, r, t, n, f, rfl, _, _, _, rfl, rfl, rfl, rfl⟩ := hAst_inv hs
    exact ⟨Nat.le_refl _, Nat.le_refl _⟩
  | arraylength =>
    obtain ⟨a, r, t, n, w, rfl, _, _, rfl, rfl, rfl, rfl⟩ := hLen_inv hs
    exact ⟨Nat.le_refl _, Nat.le_refl _⟩
  | invokestatic i =>
    obtain ⟨n, dp, a, sp, a0, r, n0, n1, f, f1, rfl, _, _, _, rfl, rfl, rfl, rfl⟩ := hCpy_inv hs
    exact ⟨Nat.le_refl _, Nat.le_refl _⟩
  | iconst i =>
    simp only [hStep, Option.some.injEq, Prod.mk.injEq] at hs
    rw [← hs.2.2.2]
    exact ⟨Nat.le_refl _, Nat.le_refl _⟩
  | bipush i =>
    simp only [hStep, Option.some.injEq, Prod.mk.injEq] at hs
    rw [← hs.2.2.2]
    exact ⟨Nat.le_refl _, Nat.le_refl _⟩
  | sipush i =>
    simp only [hStep, Option.some.injEq, Prod.mk.injEq] at hs
    rw [← hs.2.2.2]
    exact ⟨Nat.le_refl _, Nat.le_refl _⟩
  | ldc i =>
    simp only [hStep, Option.some.injEq, Prod.mk.injEq] at hs
    rw [← hs.2.2.2]
    exact ⟨Nat.le_refl _, Nat.le_refl _⟩
  | ldc_w i =>
    simp only [hStep, Option.some.injEq, Prod.mk.injEq] at hs
    rw [← hs.2.2.2]
    exact ⟨Nat.le_refl _, Nat.le_refl _⟩
  | ldc2_w i =>
    simp only [hStep, Option.some.injEq, Prod.mk.injEq] at hs
    rw [← hs.2.2.2]
    exact ⟨Nat.le_refl _, Nat.le_refl _⟩
  | lconst i =>
    simp only [hStep, Option.some.injEq, Prod.mk.injEq] at hs
    rw [← hs.2.2.2]
    exact ⟨Nat.le_refl _, Nat.le_refl _⟩
  | aconst_null =>
    simp only [hStep, Option.some.injEq, Prod.mk.injEq] at hs
    rw [← hs.2.2.2]
    exact ⟨Nat.le_refl _, Nat.le_refl _⟩
  | goto i =>
    simp only [hStep, Option.some.injEq, Prod.mk.injEq] at hs
    rw [← hs.2.2.2]
    exact ⟨Nat.le_refl _, Nat.le_refl _⟩
  | getstatic i =>
    simp only [hStep, Option.some.injEq, Prod.mk.injEq] at hs
    rw [← hs.2.2.2]
    exact ⟨Nat.le_refl _, Nat.le_refl _⟩
  | ifnull i =>
    rcases hNull_inv hs with ⟨r, rfl, rfl, rfl, rfl, rfl⟩ | ⟨a, r, rfl, rfl, rfl, rfl, rfl⟩
    · exact ⟨Nat.le_refl _, Nat.le_refl _⟩
    · exact ⟨Nat.le_refl _, Nat.le_refl _⟩
  | ifnonnull i =>
    rcases hNull_inv hs with ⟨r, rfl, rfl, rfl, rfl, rfl⟩ | ⟨a, r, rfl, rfl, rfl, rfl, rfl⟩
    · exact ⟨Nat.le_refl _, Nat.le_refl _⟩
    · exact ⟨Nat.le_refl _, Nat.le_refl _⟩
  | bastore =>
    obtain ⟨v, i, a, r, t, n, f, rfl, _, _, rfl, rfl, rfl, hd⟩ := hBst_inv hs
    rcases hd with ⟨rfl, rfl⟩ | ⟨rfl, hb, rfl⟩
    · exact ⟨Nat.le_refl _, Nat.le_refl _⟩
    · exact ⟨Nat.le_refl _, Nat.le_refl _⟩
  | tableswitch a b c d =>
    unfold hStep at hs
    dsimp only at hs
    unfold hTsw at hs
    split at hs
    · split at hs
      · simp only [Option.some.injEq, Prod.mk.injEq] at hs
        rw [← hs.2.2.2]
        exact ⟨Nat.le_refl _, Nat.le_refl _⟩
      · split at hs
        · simp only [Option.some.injEq, Prod.mk.injEq] at hs
          rw [← hs.2.2.2]
          exact ⟨Nat.le_refl _, Nat.le_refl _⟩
        · cases hs
    · cases hs
  | lookupswitch a b =>
    unfold hStep at hs
    dsimp only at hs
    unfold hLsw at hs
    split at hs
    · simp only [Option.some.injEq, Prod.mk.injEq] at hs
      rw [← hs.2.2.2]
      exact ⟨Nat.le_refl _, Nat.le_refl _⟩
    · cases hs
  | new i =>
    simp only [hStep, hNewO, Option.some.injEq, Prod.mk.injEq] at hs
    rw [← hs.2.2.2]
    exact ⟨Nat.le_succ _, Nat.le_add_right _ _⟩
  | newarray i =>
    unfold hStep at hs
    dsimp only at hs
    unfold hNewA at hs
    split at hs
    · split at hs
      · cases hs
      · split at hs
        · simp only [Option.some.injEq, Prod.mk.injEq] at hs
          rw [← hs.2.2.2]
          exact ⟨Nat.le_succ _, Nat.le_add_right _ _⟩
        · cases hs
    · cases hs
  | anewarray i =>
    unfold hStep at hs
    dsimp only at hs
    unfold hNewQ at hs
    split at hs
    · split at hs
      · cases hs
      · split at hs
        · simp only [Option.some.injEq, Prod.mk.injEq] at hs
          rw [← hs.2.2.2]
          exact ⟨Nat.le_succ _, Nat.le_add_right _ _⟩
        · cases hs
    · cases hs
  | invokespecial i =>
    unfold hStep at hs
    dsimp only at hs
    unfold hObj at hs
    split at hs
    · split at hs
      · simp only [Option.some.injEq, Prod.mk.injEq] at hs
        rw [← hs.2.2.2]
        exact ⟨Nat.le_refl _, Nat.le_refl _⟩
      · cases hs
    · cases hs
  | _ => simp [hStep] at hs
/-- the three ways of a run -/
theorem hExec_inv {n mi k : Nat} {L st : List Value} {h : hH} {r : Option Value} {h' : hH} (hx : hExec (n + 1) mi k L st h = some (r, h')) : ∃ e, hI mi k = some e ∧
    ((hKd e = 0 ∧ ∃ k1 L1 st1 h1, hStep e k L st h = some (k1, L1, st1, h1) ∧ hExec n mi k1 L1 st1 h1 = some (r, h')) ∨
     (hKd e = 1 ∧ hRet e st = some r ∧ hRok mi r = true ∧ h' = h) ∨
     (hKd e ≠ 0 ∧ hKd e ≠ 1 ∧ ∃ q r1 h1, hmR e.2.2.2.1 = some q ∧ hRcv e q.2.2.2.2.2.1 (st.take e.2.2.2.2.1).reverse h = true ∧ hCats (st.drop e.2.2.2.2.1) ≤ 8 ∧ (st.take e.2.2.2.2.1).length = e.2.2.2.2.1 ∧ (hFl (st.take e.2.2.2.2.1).reverse).length ≤ q.2.2.1 ∧ hExec n e.2.2.2.1 0 (hEnt (st.take e.2.2.2.2.1).reverse q.2.2.1) [] h = some (r1, h1) ∧ hExec n mi (k + 1) L (r1.toList ++ st.drop e.2.2.2.2.1) h1 = some (r, h'))) := by
  unfold hExec at hx
  split at hx
  · cases hx
  · rename_i e he
    refine ⟨e, he, ?_⟩
    split at hx
    · rename_i hk
      split at hx
      · rename_i k1 L1 st1 h1 hs
        exact Or.inl ⟨hk, k1, L1, st1, h1, hs, hx⟩
      · cases hx
    · rename_i hk
      split at hx
      · rename_i r0 hr
        split at hx
        · rename_i hrok
          simp only [Option.some.injEq, Prod.mk.injEq] at hx
          obtain ⟨rfl, rfl⟩ := hx
          exact Or.inr (Or.inl ⟨hk, hr, hrok, rfl⟩)
        · cases hx
      · cases hx
    · rename_i hk0 hk1
      split at hx
      · cases hx
      · rename_i q hq
        split at hx
        · rename_i hc
          split at hx
          · rename_i r1 h1 hx1
            exact Or.inr (Or.inr ⟨hk0, hk1, q, r1, h1, hq, hc.1, hc.2.1, hc.2.2.1, hc.2.2.2, hx1, hx⟩)
          · cases hx
        · cases hx
theorem hExec_mono : ∀ (n : Nat) {mi k : Nat} {L st : List Value} {h : hH} {r : Option Value} {h' : hH}, hExec n mi k L st h = some (r, h') → h.1 ≤ h'.1 ∧ h.2.1 ≤ h'.2.1
  | 0, _, _, _, _, _, _, _, hx => by simp [hExec] at hx
  | n + 1, mi, k, L, st, h, r, h', hx => by
    obtain ⟨e, he, c⟩ := hExec_inv hx
    rcases c with ⟨-, k1, L1, st1, h1, hs, hx1⟩ | ⟨-, -, -, rfl⟩ | ⟨-, -, q, r1, h1, -, -, -, -, -, hx1, hx2⟩
    · have a := hStep_mono hs
      have b := hExec_mono n hx1
      omega
    · exact ⟨Nat.le_refl _, Nat.le_refl _⟩
    · have a := hExec_mono n hx1
      have b := hExec_mono n hx2
      omega
set_option maxRecDepth 100000 in
theorem hpc0_all : (List.range 283).all (fun mi => hPc mi 0 == 0) = true := by decide +kernel
theorem hpc0 {mi : Nat} {q : hR} (hq : hmR mi = some q) : hPc mi 0 = 0 := by
  have := List.all_eq_true.mp hpc0_all mi (List.mem_range.mpr (hm_lt hq))
  simpa using this

