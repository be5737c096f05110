/-! the law's calls, one by one -/
def Lw (J i t : Nat) (E : hEn) (w : hWo) : Prop := ∃ w2, Iv (J + 1) w2.1 w2.2.2.2 ∧ ∀ r h', hRun 278 1783 [.ref 0, .ref 2, .ref 281, .int (nI i)] [] (hW E w2) r h' → hRun 278 t [.ref 0, .ref 2, .ref 281, .int (nI i)] [] (hW E w) r h'
section LAW
variable {J i : Nat} {E : hEn} {w : hWo}
theorem L_0 (hJ : J ≤ 600) (I : Iv J w.1 w.2.2.2) (hi : i + 4 < E.2.2.1) (hL : E.2.2.1 ≤ 2560) : Lw J i 22 E w := by
  obtain ⟨v, w1, w2, C, D, I2⟩ := A_make (E := E) I (E.2.2.2 (i + 1)) (E.2.2.2 (i + 2))
  refine ⟨w2, I2, fun r h' K => ?_⟩
  refine r_step rfl rfl rfl ?_
  refine r_step rfl rfl rfl ?_
  refine r_step rfl rfl rfl ?_
  refine r_step rfl rfl rfl ?_
  refine r_step rfl rfl rfl ?_
  try dsimp only
  rw [na1]
  refine r_ild rfl rfl rfl (show i + 1 < E.2.2.1 by omega) (by omega) ?_
  refine r_step rfl rfl rfl ?_
  refine r_step rfl rfl rfl ?_
  refine r_step rfl rfl rfl ?_
  refine r_step rfl rfl rfl ?_
  try dsimp only
  rw [na2]
  refine r_ild rfl rfl rfl (show i + 2 < E.2.2.1 by omega) (by omega) ?_
  refine wH_call rfl rfl rfl rfl rfl C ?_
  refine r_step rfl rfl rfl ?_
  refine r_step rfl rfl rfl ?_
  refine r_step rfl rfl rfl ?_
  refine r_step rfl rfl rfl ?_
  refine r_step rfl rfl rfl ?_
  try dsimp only
  rw [na1]
  refine r_ild rfl rfl rfl (show i + 1 < E.2.2.1 by omega) (by omega) ?_
  refine r_step rfl rfl rfl ?_
  refine r_step rfl rfl rfl ?_
  refine r_step rfl rfl rfl ?_
  refine r_step rfl rfl rfl ?_
  try dsimp only
  rw [na2]
  refine r_ild rfl rfl rfl (show i + 2 < E.2.2.1 by omega) (by omega) ?_
  refine rF_call rfl rfl rfl rfl rfl rfl D ?_
  refine r_brT rfl rfl ?_ ?_
  · rfl
  exact K
theorem L_1 (hJ : J ≤ 600) (I : Iv J w.1 w.2.2.2) (hi : i + 4 < E.2.2.1) (hL : E.2.2.1 ≤ 2560) : Lw J i 49 E w := by
  obtain ⟨v, w1, w2, C, D, I2⟩ := A_drop (E := E) I (E.2.2.2 (i + 1))
  refine ⟨w2, I2, fun r h' K => ?_⟩
  refine r_step rfl rfl rfl ?_
  refine r_step rfl rfl rfl ?_
  refine r_step rfl rfl rfl ?_
  refine r_step rfl rfl rfl ?_
  refine r_step rfl rfl rfl ?_
  try dsimp only
  rw [na1]
  refine r_ild rfl rfl rfl (show i + 1 < E.2.2.1 by omega) (by omega) ?_
  refine wH_call rfl rfl rfl rfl rfl C ?_
  refine r_step rfl rfl rfl ?_
  refine r_step rfl rfl rfl ?_
  refine r_step rfl rfl rfl ?_
  refine r_step rfl rfl rfl ?_
  refine r_step rfl rfl rfl ?_
  try dsimp only
  rw [na1]
  refine r_ild rfl rfl rfl (show i + 1 < E.2.2.1 by omega) (by omega) ?_
  refine rF_call rfl rfl rfl rfl rfl rfl D ?_
  refine r_brT rfl rfl ?_ ?_
  · rfl
  exact K
theorem L_2 (hJ : J ≤ 600) (I : Iv J w.1 w.2.2.2) (hi : i + 4 < E.2.2.1) (hL : E.2.2.1 ≤ 2560) : Lw J i 66 E w := by
  obtain ⟨v, w1, w2, C, D, I2⟩ := A_has (E := E) I (E.2.2.2 (i + 1)) (E.2.2.2 (i + 2))
  refine ⟨w2, I2, fun r h' K => ?_⟩
  refine r_step rfl rfl rfl ?_
  refine r_step rfl rfl rfl ?_
  refine r_step rfl rfl rfl ?_
  refine r_step rfl rfl rfl ?_
  refine r_step rfl rfl rfl ?_
  try dsimp only
  rw [na1]
  refine r_ild rfl rfl rfl (show i + 1 < E.2.2.1 by omega) (by omega) ?_
  refine r_step rfl rfl rfl ?_
  refine r_step rfl rfl rfl ?_
  refine r_step rfl rfl rfl ?_
  refine r_step rfl rfl rfl ?_
  try dsimp only
  rw [na2]
  refine r_ild rfl rfl rfl (show i + 2 < E.2.2.1 by omega) (by omega) ?_
  refine wH_call rfl rfl rfl rfl rfl C ?_
  refine r_step rfl rfl rfl ?_
  refine r_step rfl rfl rfl ?_
  refine r_step rfl rfl rfl ?_
  refine r_step rfl rfl rfl ?_
  refine r_step rfl rfl rfl ?_
  try dsimp only
  rw [na1]
  refine r_ild rfl rfl rfl (show i + 1 < E.2.2.1 by omega) (by omega) ?_
  refine r_step rfl rfl rfl ?_
  refine r_step rfl rfl rfl ?_
  refine r_step rfl rfl rfl ?_
  refine r_step rfl rfl rfl ?_
  try dsimp only
  rw [na2]
  refine r_ild rfl rfl rfl (show i + 2 < E.2.2.1 by omega) (by omega) ?_
  refine rF_call rfl rfl rfl rfl rfl rfl D ?_
  refine r_brT rfl rfl ?_ ?_
  · rfl
  exact K
theorem L_3 (hJ : J ≤ 600) (I : Iv J w.1 w.2.2.2) (hi : i + 4 < E.2.2.1) (hL : E.2.2.1 ≤ 2560) : Lw J i 93 E w := by
  obtain ⟨v, w1, w2, C, D, I2⟩ := A_come (E := E) hJ I (E.2.2.2 (i + 1)) (E.2.2.2 (i + 2)) (E.2.2.2 (i + 3))
  refine ⟨w2, I2, fun r h' K => ?_⟩
  refine r_step rfl rfl rfl ?_
  refine r_step rfl rfl rfl ?_
  refine r_step rfl rfl rfl ?_
  refine r_step rfl rfl rfl ?_
  refine r_step rfl rfl rfl ?_
  try dsimp only
  rw [na1]
  refine r_ild rfl rfl rfl (show i + 1 < E.2.2.1 by omega) (by omega) ?_
  refine r_step rfl rfl rfl ?_
  refine r_step rfl rfl rfl ?_
  refine r_step rfl rfl rfl ?_
  refine r_step rfl rfl rfl ?_
  try dsimp only
  rw [na2]
  refine r_ild rfl rfl rfl (show i + 2 < E.2.2.1 by omega) (by omega) ?_
  refine r_step rfl rfl rfl ?_
  refine r_step rfl rfl rfl ?_
  refine r_step rfl rfl rfl ?_
  refine r_step rfl rfl rfl ?_
  try dsimp only
  rw [na3]
  refine r_ild rfl rfl rfl (show i + 3 < E.2.2.1 by omega) (by omega) ?_
  refine wH_call rfl rfl rfl rfl rfl C ?_
  refine r_step rfl rfl rfl ?_
  refine r_step rfl rfl rfl ?_
  refine r_step rfl rfl rfl ?_
  refine r_step rfl rfl rfl ?_
  refine r_step rfl rfl rfl ?_
  try dsimp only
  rw [na1]
  refine r_ild rfl rfl rfl (show i + 1 < E.2.2.1 by omega) (by omega) ?_
  refine r_step rfl rfl rfl ?_
  refine r_step rfl rfl rfl ?_
  refine r_step rfl rfl rfl ?_
  refine r_step rfl rfl rfl ?_
  try dsimp only
  rw [na2]
  refine r_ild rfl rfl rfl (show i + 2 < E.2.2.1 by omega) (by omega) ?_
  refine r_step rfl rfl rfl ?_
  refine r_step rfl rfl rfl ?_
  refine r_step rfl rfl rfl ?_
  refine r_step rfl rfl rfl ?_
  try dsimp only
  rw [na3]
  refine r_ild rfl rfl rfl (show i + 3 < E.2.2.1 by omega) (by omega) ?_
  refine rF_call rfl rfl rfl rfl rfl rfl D ?_
  refine r_brT rfl rfl ?_ ?_
  · rfl
  exact K
theorem L_4 (hJ : J ≤ 600) (I : Iv J w.1 w.2.2.2) (hi : i + 4 < E.2.2.1) (hL : E.2.2.1 ≤ 2560) : Lw J i 130 E w := by
  obtain ⟨v, w1, w2, C, D, I2⟩ := A_stream (E := E) hJ I (E.2.2.2 (i + 1)) (E.2.2.2 (i + 2)) (E.2.2.2 (i + 3))
  refine ⟨w2, I2, fun r h' K => ?_⟩
  refine r_step rfl rfl rfl ?_
  refine r_step rfl rfl rfl ?_
  refine r_step rfl rfl rfl ?_
  refine r_step rfl rfl rfl ?_
  refine r_step rfl rfl rfl ?_
  try dsimp only
  rw [na1]
  refine r_ild rfl rfl rfl (show i + 1 < E.2.2.1 by omega) (by omega) ?_
  refine r_step rfl rfl rfl ?_
  refine r_step rfl rfl rfl ?_
  refine r_step rfl rfl rfl ?_
  refine r_step rfl rfl rfl ?_
  try dsimp only
  rw [na2]
  refine r_ild rfl rfl rfl (show i + 2 < E.2.2.1 by omega) (by omega) ?_
  refine r_step rfl rfl rfl ?_
  refine r_step rfl rfl rfl ?_
  refine r_step rfl rfl rfl ?_
  refine r_step rfl rfl rfl ?_
  try dsimp only
  rw [na3]
  refine r_ild rfl rfl rfl (show i + 3 < E.2.2.1 by omega) (by omega) ?_
  refine wH_call rfl rfl rfl rfl rfl C ?_
  refine r_step rfl rfl rfl ?_
  refine r_step rfl rfl rfl ?_
  refine r_step rfl rfl rfl ?_
  refine r_step rfl rfl rfl ?_
  refine r_step rfl rfl rfl ?_
  try dsimp only
  rw [na1]
  refine r_ild rfl rfl rfl (show i + 1 < E.2.2.1 by omega) (by omega) ?_
  refine r_step rfl rfl rfl ?_
  refine r_step rfl rfl rfl ?_
  refine r_step rfl rfl rfl ?_
  refine r_step rfl rfl rfl ?_
  try dsimp only
  rw [na2]
  refine r_ild rfl rfl rfl (show i + 2 < E.2.2.1 by omega) (by omega) ?_
  refine r_step rfl rfl rfl ?_
  refine r_step rfl rfl rfl ?_
  refine r_step rfl rfl rfl ?_
  refine r_step rfl rfl rfl ?_
  try dsimp only
  rw [na3]
  refine r_ild rfl rfl rfl (show i + 3 < E.2.2.1 by omega) (by omega) ?_
  refine rF_call rfl rfl rfl rfl rfl rfl D ?_
  refine r_brT rfl rfl ?_ ?_
  · rfl
  exact K
theorem L_5 (hJ : J ≤ 600) (I : Iv J w.1 w.2.2.2) (hi : i + 4 < E.2.2.1) (hL : E.2.2.1 ≤ 2560) : Lw J i 167 E w := by
  obtain ⟨v, w1, w2, C, D, I2⟩ := A_halve (E := E) I (E.2.2.2 (i + 1))
  refine ⟨w2, I2, fun r h' K => ?_⟩
  refine r_step rfl rfl rfl ?_
  refine r_step rfl rfl rfl ?_
  refine r_step rfl rfl rfl ?_
  refine r_step rfl rfl rfl ?_
  refine r_step rfl rfl rfl ?_
  try dsimp only
  rw [na1]
  refine r_ild rfl rfl rfl (show i + 1 < E.2.2.1 by omega) (by omega) ?_
  refine wH_call rfl rfl rfl rfl rfl C ?_
  refine r_step rfl rfl rfl ?_
  refine r_step rfl rfl rfl ?_
  refine r_step rfl rfl rfl ?_
  refine r_step rfl rfl rfl ?_
  refine r_step rfl rfl rfl ?_
  try dsimp only
  rw [na1]
  refine r_ild rfl rfl rfl (show i + 1 < E.2.2.1 by omega) (by omega) ?_
  refine rF_call rfl rfl rfl rfl rfl rfl D ?_
  refine r_brT rfl rfl ?_ ?_
  · rfl
  exact K
theorem L_6 (hJ : J ≤ 600) (I : Iv J w.1 w.2.2.2) (hi : i + 4 < E.2.2.1) (hL : E.2.2.1 ≤ 2560) : Lw J i 184 E w := by
  obtain ⟨v, w1, w2, C, D, I2⟩ := A_halving (E := E) I (E.2.2.2 (i + 1)) (E.2.2.2 (i + 2))
  refine ⟨w2, I2, fun r h' K => ?_⟩
  refine r_step rfl rfl rfl ?_
  refine r_step rfl rfl rfl ?_
  refine r_step rfl rfl rfl ?_
  refine r_step rfl rfl rfl ?_
  refine r_step rfl rfl rfl ?_
  try dsimp only
  rw [na1]
  refine r_ild rfl rfl rfl (show i + 1 < E.2.2.1 by omega) (by omega) ?_
  refine r_step rfl rfl rfl ?_
  refine r_step rfl rfl rfl ?_
  refine r_step rfl rfl rfl ?_
  refine r_step rfl rfl rfl ?_
  try dsimp only
  rw [na2]
  refine r_ild rfl rfl rfl (show i + 2 < E.2.2.1 by omega) (by omega) ?_
  refine wH_call rfl rfl rfl rfl rfl C ?_
  refine r_step rfl rfl rfl ?_
  refine r_step rfl rfl rfl ?_
  refine r_step rfl rfl rfl ?_
  refine r_step rfl rfl rfl ?_
  refine r_step rfl rfl rfl ?_
  try dsimp only
  rw [na1]
  refine r_ild rfl rfl rfl (show i + 1 < E.2.2.1 by omega) (by omega) ?_
  refine r_step rfl rfl rfl ?_
  refine r_step rfl rfl rfl ?_
  refine r_step rfl rfl rfl ?_
  refine r_step rfl rfl rfl ?_
  try dsimp only
  rw [na2]
  refine r_ild rfl rfl rfl (show i + 2 < E.2.2.1 by omega) (by omega) ?_
  refine rF_call rfl rfl rfl rfl rfl rfl D ?_
  refine r_brT rfl rfl ?_ ?_
  · rfl
  exact K
theorem L_7 (hJ : J ≤ 600) (I : Iv J w.1 w.2.2.2) (hi : i + 4 < E.2.2.1) (hL : E.2.2.1 ≤ 2560) : Lw J i 211 E w := by
  obtain ⟨v, w1, w2, C, D, I2⟩ := A_resize (E := E) I (E.2.2.2 (i + 1)) (E.2.2.2 (i + 2))
  refine ⟨w2, I2, fun r h' K => ?_⟩
  refine r_step rfl rfl rfl ?_
  refine r_step rfl rfl rfl ?_
  refine r_step rfl rfl rfl ?_
  refine r_step rfl rfl rfl ?_
  refine r_step rfl rfl rfl ?_
  try dsimp only
  rw [na1]
  refine r_ild rfl rfl rfl (show i + 1 < E.2.2.1 by omega) (by omega) ?_
  refine r_step rfl rfl rfl ?_
  refine r_step rfl rfl rfl ?_
  refine r_step rfl rfl rfl ?_
  refine r_step rfl rfl rfl ?_
  try dsimp only
  rw [na2]
  refine r_ild rfl rfl rfl (show i + 2 < E.2.2.1 by omega) (by omega) ?_
  refine wH_call rfl rfl rfl rfl rfl C ?_
  refine r_step rfl rfl rfl ?_
  refine r_step rfl rfl rfl ?_
  refine r_step rfl rfl rfl ?_
  refine r_step rfl rfl rfl ?_
  refine r_step rfl rfl rfl ?_
  try dsimp only
  rw [na1]
  refine r_ild rfl rfl rfl (show i + 1 < E.2.2.1 by omega) (by omega) ?_
  refine r_step rfl rfl rfl ?_
  refine r_step rfl rfl rfl ?_
  refine r_step rfl rfl rfl ?_
  refine r_step rfl rfl rfl ?_
  try dsimp only
  rw [na2]
  refine r_ild rfl rfl rfl (show i + 2 < E.2.2.1 by omega) (by omega) ?_
  refine rF_call rfl rfl rfl rfl rfl rfl D ?_
  refine r_brT rfl rfl ?_ ?_
  · rfl
  exact K
theorem L_8 (hJ : J ≤ 600) (I : Iv J w.1 w.2.2.2) (hi : i + 4 < E.2.2.1) (hL : E.2.2.1 ≤ 2560) : Lw J i 238 E w := by
  obtain ⟨v, w1, w2, C, D, I2⟩ := A_merge (E := E) I (E.2.2.2 (i + 1)) (E.2.2.2 (i + 2))
  refine ⟨w2, I2, fun r h' K => ?_⟩
  refine r_step rfl rfl rfl ?_
  refine r_step rfl rfl rfl ?_
  refine r_step rfl rfl rfl ?_
  refine r_step rfl rfl rfl ?_
  refine r_step rfl rfl rfl ?_
  try dsimp only
  rw [na1]
  refine r_ild rfl rfl rfl (show i + 1 < E.2.2.1 by omega) (by omega) ?_
  refine r_step rfl rfl rfl ?_
  refine r_step rfl rfl rfl ?_
  refine r_step rfl rfl rfl ?_
  refine r_step rfl rfl rfl ?_
  try dsimp only
  rw [na2]
  refine r_ild rfl rfl rfl (show i + 2 < E.2.2.1 by omega) (by omega) ?_
  refine wH_call rfl rfl rfl rfl rfl C ?_
  refine r_step rfl rfl rfl ?_
  refine r_step rfl rfl rfl ?_
  refine r_step rfl rfl rfl ?_
  refine r_step rfl rfl rfl ?_
  refine r_step rfl rfl rfl ?_
  try dsimp only
  rw [na1]
  refine r_ild rfl rfl rfl (show i + 1 < E.2.2.1 by omega) (by omega) ?_
  refine r_step rfl rfl rfl ?_
  refine r_step rfl rfl rfl ?_
  refine r_step rfl rfl rfl ?_
  refine r_step rfl rfl rfl ?_
  try dsimp only
  rw [na2]
  refine r_ild rfl rfl rfl (show i + 2 < E.2.2.1 by omega) (by omega) ?_
  refine rF_call rfl rfl rfl rfl rfl rfl D ?_
  refine r_brT rfl rfl ?_ ?_
  · rfl
  exact K
theorem L_9 (hJ : J ≤ 600) (I : Iv J w.1 w.2.2.2) (hi : i + 4 < E.2.2.1) (hL : E.2.2.1 ≤ 2560) : Lw J i 265 E w := by
  obtain ⟨v, w1, w2, C, D, I2⟩ := A_copy (E := E) I (E.2.2.2 (i + 1)) (E.2.2.2 (i + 2))
  refine ⟨w2, I2, fun r h' K => ?_⟩
  refine r_step rfl rfl rfl ?_
  refine r_step rfl rfl rfl ?_
  refine r_step rfl rfl rfl ?_
  refine r_step rfl rfl rfl ?_
  refine r_step rfl rfl rfl ?_
  try dsimp only
  rw [na1]
  refine r_ild rfl rfl rfl (show i + 1 < E.2.2.1 by omega) (by omega) ?_
  refine r_step rfl rfl rfl ?_
  refine r_step rfl rfl rfl ?_
  refine r_step rfl rfl rfl ?_
  refine r_step rfl rfl rfl ?_
  try dsimp only
  rw [na2]
  refine r_ild rfl rfl rfl (show i + 2 < E.2.2.1 by omega) (by omega) ?_
  refine wH_call rfl rfl rfl rfl rfl C ?_
  refine r_step rfl rfl rfl ?_
  refine r_step rfl rfl rfl ?_
  refine r_step rfl rfl rfl ?_
  refine r_step rfl rfl rfl ?_
  refine r_step rfl rfl rfl ?_
  try dsimp only
  rw [na1]
  refine r_ild rfl rfl rfl (show i + 1 < E.2.2.1 by omega) (by omega) ?_
  refine r_step rfl rfl rfl ?_
  refine r_step rfl rfl rfl ?_
  refine r_step rfl rfl rfl ?_
  refine r_step rfl rfl rfl ?_
  try dsimp only
  rw [na2]
  refine r_ild rfl rfl rfl (show i + 2 < E.2.2.1 by omega) (by omega) ?_
  refine rF_call rfl rfl rfl rfl rfl rfl D ?_
  refine r_brT rfl rfl ?_ ?_
  · rfl
  exact K
theorem L_10 (hJ : J ≤ 600) (I : Iv J w.1 w.2.2.2) (hi : i + 4 < E.2.2.1) (hL : E.2.2.1 ≤ 2560) : Lw J i 292 E w := by
  obtain ⟨v, w1, w2, C, D, I2⟩ := A_counter (E := E) I (E.2.2.2 (i + 1)) (E.2.2.2 (i + 2)) (E.2.2.2 (i + 3))
  refine ⟨w2, I2, fun r h' K => ?_⟩
  refine r_step rfl rfl rfl ?_
  refine r_step rfl rfl rfl ?_
  refine r_step rfl rfl rfl ?_
  refine r_step rfl rfl rfl ?_
  refine r_step rfl rfl rfl ?_
  try dsimp only
  rw [na1]
  refine r_ild rfl rfl rfl (show i + 1 < E.2.2.1 by omega) (by omega) ?_
  refine r_step rfl rfl rfl ?_
  refine r_step rfl rfl rfl ?_
  refine r_step rfl rfl rfl ?_
  refine r_step rfl rfl rfl ?_
  try dsimp only
  rw [na2]
  refine r_ild rfl rfl rfl (show i + 2 < E.2.2.1 by omega) (by omega) ?_
  refine r_step rfl rfl rfl ?_
  refine r_step rfl rfl rfl ?_
  refine r_step rfl rfl rfl ?_
  refine r_step rfl rfl rfl ?_
  try dsimp only
  rw [na3]
  refine r_ild rfl rfl rfl (show i + 3 < E.2.2.1 by omega) (by omega) ?_
  refine wH_call rfl rfl rfl rfl rfl C ?_
  refine r_step rfl rfl rfl ?_
  refine r_step rfl rfl rfl ?_
  refine r_step rfl rfl rfl ?_
  refine r_step rfl rfl rfl ?_
  refine r_step rfl rfl rfl ?_
  try dsimp only
  rw [na1]
  refine r_ild rfl rfl rfl (show i + 1 < E.2.2.1 by omega) (by omega) ?_
  refine r_step rfl rfl rfl ?_
  refine r_step rfl rfl rfl ?_
  refine r_step rfl rfl rfl ?_
  refine r_step rfl rfl rfl ?_
  try dsimp only
  rw [na2]
  refine r_ild rfl rfl rfl (show i + 2 < E.2.2.1 by omega) (by omega) ?_
  refine r_step rfl rfl rfl ?_
  refine r_step rfl rfl rfl ?_
  refine r_step rfl rfl rfl ?_
  refine r_step rfl rfl rfl ?_
  try dsimp only
  rw [na3]
  refine r_ild rfl rfl rfl (show i + 3 < E.2.2.1 by omega) (by omega) ?_
  refine rF_call rfl rfl rfl rfl rfl rfl D ?_
  refine r_brT rfl rfl ?_ ?_
  · rfl
  exact K
theorem L_11 (hJ : J ≤ 600) (I : Iv J w.1 w.2.2.2) (hi : i + 4 < E.2.2.1) (hL : E.2.2.1 ≤ 2560) : Lw J i 329 E w := by
  obtain ⟨v, w1, w2, C, D, I2⟩ := A_bucket (E := E) I (E.2.2.2 (i + 1)) (E.2.2.2 (i + 2)) (E.2.2.2 (i + 3))
  refine ⟨w2, I2, fun r h' K => ?_⟩
  refine r_step rfl rfl rfl ?_
  refine r_step rfl rfl rfl ?_
  refine r_step rfl rfl rfl ?_
  refine r_step rfl rfl rfl ?_
  refine r_step rfl rfl rfl ?_
  try dsimp only
  rw [na1]
  refine r_ild rfl rfl rfl (show i + 1 < E.2.2.1 by omega) (by omega) ?_
  refine r_step rfl rfl rfl ?_
  refine r_step rfl rfl rfl ?_
  refine r_step rfl rfl rfl ?_
  refine r_step rfl rfl rfl ?_
  try dsimp only
  rw [na2]
  refine r_ild rfl rfl rfl (show i + 2 < E.2.2.1 by omega) (by omega) ?_
  refine r_step rfl rfl rfl ?_
  refine r_step rfl rfl rfl ?_
  refine r_step rfl rfl rfl ?_
  refine r_step rfl rfl rfl ?_
  try dsimp only
  rw [na3]
  refine r_ild rfl rfl rfl (show i + 3 < E.2.2.1 by omega) (by omega) ?_
  refine wH_call rfl rfl rfl rfl rfl C ?_
  refine r_step rfl rfl rfl ?_
  refine r_step rfl rfl rfl ?_
  refine r_step rfl rfl rfl ?_
  refine r_step rfl rfl rfl ?_
  refine r_step rfl rfl rfl ?_
  try dsimp only
  rw [na1]
  refine r_ild rfl rfl rfl (show i + 1 < E.2.2.1 by omega) (by omega) ?_
  refine r_step rfl rfl rfl ?_
  refine r_step rfl rfl rfl ?_
  refine r_step rfl rfl rfl ?_
  refine r_step rfl rfl rfl ?_
  try dsimp only
  rw [na2]
  refine r_ild rfl rfl rfl (show i + 2 < E.2.2.1 by omega) (by omega) ?_
  refine r_step rfl rfl rfl ?_
  refine r_step rfl rfl rfl ?_
  refine r_step rfl rfl rfl ?_
  refine r_step rfl rfl rfl ?_
  try dsimp only
  rw [na3]
  refine r_ild rfl rfl rfl (show i + 3 < E.2.2.1 by omega) (by omega) ?_
  refine rF_call rfl rfl rfl rfl rfl rfl D ?_
  refine r_brT rfl rfl ?_ ?_
  · rfl
  exact K
theorem L_12 (hJ : J ≤ 600) (I : Iv J w.1 w.2.2.2) (hi : i + 4 < E.2.2.1) (hL : E.2.2.1 ≤ 2560) : Lw J i 366 E w := by
  obtain ⟨v, w1, w2, C, D, I2⟩ := A_bounds (E := E) I (E.2.2.2 (i + 1)) (E.2.2.2 (i + 2)) (E.2.2.2 (i + 3))
  refine ⟨w2, I2, fun r h' K => ?_⟩
  refine r_step rfl rfl rfl ?_
  refine r_step rfl rfl rfl ?_
  refine r_step rfl rfl rfl ?_
  refine r_step rfl rfl rfl ?_
  refine r_step rfl rfl rfl ?_
  try dsimp only
  rw [na1]
  refine r_ild rfl rfl rfl (show i + 1 < E.2.2.1 by omega) (by omega) ?_
  refine r_step rfl rfl rfl ?_
  refine r_step rfl rfl rfl ?_
  refine r_step rfl rfl rfl ?_
  refine r_step rfl rfl rfl ?_
  try dsimp only
  rw [na2]
  refine r_ild rfl rfl rfl (show i + 2 < E.2.2.1 by omega) (by omega) ?_
  refine r_step rfl rfl rfl ?_
  refine r_step rfl rfl rfl ?_
  refine r_step rfl rfl rfl ?_
  refine r_step rfl rfl rfl ?_
  try dsimp only
  rw [na3]
  refine r_ild rfl rfl rfl (show i + 3 < E.2.2.1 by omega) (by omega) ?_
  refine wH_call rfl rfl rfl rfl rfl C ?_
  refine r_step rfl rfl rfl ?_
  refine r_step rfl rfl rfl ?_
  refine r_step rfl rfl rfl ?_
  refine r_step rfl rfl rfl ?_
  refine r_step rfl rfl rfl ?_
  try dsimp only
  rw [na1]
  refine r_ild rfl rfl rfl (show i + 1 < E.2.2.1 by omega) (by omega) ?_
  refine r_step rfl rfl rfl ?_
  refine r_step rfl rfl rfl ?_
  refine r_step rfl rfl rfl ?_
  refine r_step rfl rfl rfl ?_
  try dsimp only
  rw [na2]
  refine r_ild rfl rfl rfl (show i + 2 < E.2.2.1 by omega) (by omega) ?_
  refine r_step rfl rfl rfl ?_
  refine r_step rfl rfl rfl ?_
  refine r_step rfl rfl rfl ?_
  refine r_step rfl rfl rfl ?_
  try dsimp only
  rw [na3]
  refine r_ild rfl rfl rfl (show i + 3 < E.2.2.1 by omega) (by omega) ?_
  refine rF_call rfl rfl rfl rfl rfl rfl D ?_
  refine r_brT rfl rfl ?_ ?_
  · rfl
  exact K
theorem L_13 (hJ : J ≤ 600) (I : Iv J w.1 w.2.2.2) (hi : i + 4 < E.2.2.1) (hL : E.2.2.1 ≤ 2560) : Lw J i 403 E w := by
  obtain ⟨v, w1, w2, C, D, I2⟩ := A_gone (E := E) hJ I (E.2.2.2 (i + 1)) (E.2.2.2 (i + 2)) (E.2.2.2 (i + 3))
  refine ⟨w2, I2, fun r h' K => ?_⟩
  refine r_step rfl rfl rfl ?_
  refine r_step rfl rfl rfl ?_
  refine r_step rfl rfl rfl ?_
  refine r_step rfl rfl rfl ?_
  refine r_step rfl rfl rfl ?_
  try dsimp only
  rw [na1]
  refine r_ild rfl rfl rfl (show i + 1 < E.2.2.1 by omega) (by omega) ?_
  refine r_step rfl rfl rfl ?_
  refine r_step rfl rfl rfl ?_
  refine r_step rfl rfl rfl ?_
  refine r_step rfl rfl rfl ?_
  try dsimp only
  rw [na2]
  refine r_ild rfl rfl rfl (show i + 2 < E.2.2.1 by omega) (by omega) ?_
  refine r_step rfl rfl rfl ?_
  refine r_step rfl rfl rfl ?_
  refine r_step rfl rfl rfl ?_
  refine r_step rfl rfl rfl ?_
  try dsimp only
  rw [na3]
  refine r_ild rfl rfl rfl (show i + 3 < E.2.2.1 by omega) (by omega) ?_
  refine wH_call rfl rfl rfl rfl rfl C ?_
  refine r_step rfl rfl rfl ?_
  refine r_step rfl rfl rfl ?_
  refine r_step rfl rfl rfl ?_
  refine r_step rfl rfl rfl ?_
  refine r_step rfl rfl rfl ?_
  try dsimp only
  rw [na1]
  refine r_ild rfl rfl rfl (show i + 1 < E.2.2.1 by omega) (by omega) ?_
  refine r_step rfl rfl rfl ?_
  refine r_step rfl rfl rfl ?_
  refine r_step rfl rfl rfl ?_
  refine r_step rfl rfl rfl ?_
  try dsimp only
  rw [na2]
  refine r_ild rfl rfl rfl (show i + 2 < E.2.2.1 by omega) (by omega) ?_
  refine r_step rfl rfl rfl ?_
  refine r_step rfl rfl rfl ?_
  refine r_step rfl rfl rfl ?_
  refine r_step rfl rfl rfl ?_
  try dsimp only
  rw [na3]
  refine r_ild rfl rfl rfl (show i + 3 < E.2.2.1 by omega) (by omega) ?_
  refine rF_call rfl rfl rfl rfl rfl rfl D ?_
  refine r_brT rfl rfl ?_ ?_
  · rfl
  exact K
theorem L_14 (hJ : J ≤ 600) (I : Iv J w.1 w.2.2.2) (hi : i + 4 < E.2.2.1) (hL : E.2.2.1 ≤ 2560) : Lw J i 440 E w := by
  obtain ⟨v, w1, w2, C, D, I2⟩ := A_top (E := E) I (E.2.2.2 (i + 1)) (E.2.2.2 (i + 2)) (E.2.2.2 (i + 3))
  refine ⟨w2, I2, fun r h' K => ?_⟩
  refine r_step rfl rfl rfl ?_
  refine r_step rfl rfl rfl ?_
  refine r_step rfl rfl rfl ?_
  refine r_step rfl rfl rfl ?_
  refine r_step rfl rfl rfl ?_
  try dsimp only
  rw [na1]
  refine r_ild rfl rfl rfl (show i + 1 < E.2.2.1 by omega) (by omega) ?_
  refine r_step rfl rfl rfl ?_
  refine r_step rfl rfl rfl ?_
  refine r_step rfl rfl rfl ?_
  refine r_step rfl rfl rfl ?_
  try dsimp only
  rw [na2]
  refine r_ild rfl rfl rfl (show i + 2 < E.2.2.1 by omega) (by omega) ?_
  refine r_step rfl rfl rfl ?_
  refine r_step rfl rfl rfl ?_
  refine r_step rfl rfl rfl ?_
  refine r_step rfl rfl rfl ?_
  try dsimp only
  rw [na3]
  refine r_ild rfl rfl rfl (show i + 3 < E.2.2.1 by omega) (by omega) ?_
  refine wH_call rfl rfl rfl rfl rfl C ?_
  refine r_step rfl rfl rfl ?_
  refine r_step rfl rfl rfl ?_
  refine r_step rfl rfl rfl ?_
  refine r_step rfl rfl rfl ?_
  refine r_step rfl rfl rfl ?_
  try dsimp only
  rw [na1]
  refine r_ild rfl rfl rfl (show i + 1 < E.2.2.1 by omega) (by omega) ?_
  refine r_step rfl rfl rfl ?_
  refine r_step rfl rfl rfl ?_
  refine r_step rfl rfl rfl ?_
  refine r_step rfl rfl rfl ?_
  try dsimp only
  rw [na2]
  refine r_ild rfl rfl rfl (show i + 2 < E.2.2.1 by omega) (by omega) ?_
  refine r_step rfl rfl rfl ?_
  refine r_step rfl rfl rfl ?_
  refine r_step rfl rfl rfl ?_
  refine r_step rfl rfl rfl ?_
  try dsimp only
  rw [na3]
  refine r_ild rfl rfl rfl (show i + 3 < E.2.2.1 by omega) (by omega) ?_
  refine rF_call rfl rfl rfl rfl rfl rfl D ?_
  refine r_brT rfl rfl ?_ ?_
  · rfl
  exact K
theorem L_15 (hJ : J ≤ 600) (I : Iv J w.1 w.2.2.2) (hi : i + 4 < E.2.2.1) (hL : E.2.2.1 ≤ 2560) : Lw J i 477 E w := by
  by_cases q : E.2.2.2 (i + 3) = 0
  · skip
    obtain ⟨v, w1, w2, C, D, I2⟩ := A_sure (E := E) I (E.2.2.2 (i + 1)) (E.2.2.2 (i + 2)) 0 (E.2.2.2 (i + 4))
    refine ⟨w2, I2, fun r h' K => ?_⟩
    refine r_step rfl rfl rfl ?_
    refine r_step rfl rfl rfl ?_
    refine r_step rfl rfl rfl ?_
    refine r_step rfl rfl rfl ?_
    refine r_step rfl rfl rfl ?_
    try dsimp only
    rw [na1]
    refine r_ild rfl rfl rfl (show i + 1 < E.2.2.1 by omega) (by omega) ?_
    refine r_step rfl rfl rfl ?_
    refine r_step rfl rfl rfl ?_
    refine r_step rfl rfl rfl ?_
    refine r_step rfl rfl rfl ?_
    try dsimp only
    rw [na2]
    refine r_ild rfl rfl rfl (show i + 2 < E.2.2.1 by omega) (by omega) ?_
    refine r_step rfl rfl rfl ?_
    refine r_step rfl rfl rfl ?_
    refine r_step rfl rfl rfl ?_
    refine r_step rfl rfl rfl ?_
    try dsimp only
    rw [na3]
    refine r_ild rfl rfl rfl (show i + 3 < E.2.2.1 by omega) (by omega) ?_
    refine r_brT rfl rfl ?_ ?_
    · exact q
    refine r_step rfl rfl rfl ?_
    refine r_step rfl rfl rfl ?_
    refine r_step rfl rfl rfl ?_
    refine r_step rfl rfl rfl ?_
    refine r_step rfl rfl rfl ?_
    try dsimp only
    rw [na4]
    refine r_ild rfl rfl rfl (show i + 4 < E.2.2.1 by omega) (by omega) ?_
    refine wH_call rfl rfl rfl rfl rfl C ?_
    refine r_step rfl rfl rfl ?_
    refine r_step rfl rfl rfl ?_
    refine r_step rfl rfl rfl ?_
    refine r_step rfl rfl rfl ?_
    refine r_step rfl rfl rfl ?_
    try dsimp only
    rw [na1]
    refine r_ild rfl rfl rfl (show i + 1 < E.2.2.1 by omega) (by omega) ?_
    refine r_step rfl rfl rfl ?_
    refine r_step rfl rfl rfl ?_
    refine r_step rfl rfl rfl ?_
    refine r_step rfl rfl rfl ?_
    try dsimp only
    rw [na2]
    refine r_ild rfl rfl rfl (show i + 2 < E.2.2.1 by omega) (by omega) ?_
    refine r_step rfl rfl rfl ?_
    refine r_step rfl rfl rfl ?_
    refine r_step rfl rfl rfl ?_
    refine r_step rfl rfl rfl ?_
    try dsimp only
    rw [na3]
    refine r_ild rfl rfl rfl (show i + 3 < E.2.2.1 by omega) (by omega) ?_
    refine r_brT rfl rfl ?_ ?_
    · exact q
    refine r_step rfl rfl rfl ?_
    refine r_step rfl rfl rfl ?_
    refine r_step rfl rfl rfl ?_
    refine r_step rfl rfl rfl ?_
    refine r_step rfl rfl rfl ?_
    try dsimp only
    rw [na4]
    refine r_ild rfl rfl rfl (show i + 4 < E.2.2.1 by omega) (by omega) ?_
    refine rF_call rfl rfl rfl rfl rfl rfl D ?_
    refine r_brT rfl rfl ?_ ?_
    · rfl
    exact K
  · skip
    obtain ⟨v, w1, w2, C, D, I2⟩ := A_sure (E := E) I (E.2.2.2 (i + 1)) (E.2.2.2 (i + 2)) 1 (E.2.2.2 (i + 4))
    refine ⟨w2, I2, fun r h' K => ?_⟩
    refine r_step rfl rfl rfl ?_
    refine r_step rfl rfl rfl ?_
    refine r_step rfl rfl rfl ?_
    refine r_step rfl rfl rfl ?_
    refine r_step rfl rfl rfl ?_
    try dsimp only
    rw [na1]
    refine r_ild rfl rfl rfl (show i + 1 < E.2.2.1 by omega) (by omega) ?_
    refine r_step rfl rfl rfl ?_
    refine r_step rfl rfl rfl ?_
    refine r_step rfl rfl rfl ?_
    refine r_step rfl rfl rfl ?_
    try dsimp only
    rw [na2]
    refine r_ild rfl rfl rfl (show i + 2 < E.2.2.1 by omega) (by omega) ?_
    refine r_step rfl rfl rfl ?_
    refine r_step rfl rfl rfl ?_
    refine r_step rfl rfl rfl ?_
    refine r_step rfl rfl rfl ?_
    try dsimp only
    rw [na3]
    refine r_ild rfl rfl rfl (show i + 3 < E.2.2.1 by omega) (by omega) ?_
    refine r_brF rfl rfl ?_ ?_
    · exact q
    refine r_step rfl rfl rfl ?_
    refine r_step rfl rfl rfl ?_
    refine r_step rfl rfl rfl ?_
    refine r_step rfl rfl rfl ?_
    refine r_step rfl rfl rfl ?_
    refine r_step rfl rfl rfl ?_
    try dsimp only
    rw [na4]
    refine r_ild rfl rfl rfl (show i + 4 < E.2.2.1 by omega) (by omega) ?_
    refine wH_call rfl rfl rfl rfl rfl C ?_
    refine r_step rfl rfl rfl ?_
    refine r_step rfl rfl rfl ?_
    refine r_step rfl rfl rfl ?_
    refine r_step rfl rfl rfl ?_
    refine r_step rfl rfl rfl ?_
    try dsimp only
    rw [na1]
    refine r_ild rfl rfl rfl (show i + 1 < E.2.2.1 by omega) (by omega) ?_
    refine r_step rfl rfl rfl ?_
    refine r_step rfl rfl rfl ?_
    refine r_step rfl rfl rfl ?_
    refine r_step rfl rfl rfl ?_
    try dsimp only
    rw [na2]
    refine r_ild rfl rfl rfl (show i + 2 < E.2.2.1 by omega) (by omega) ?_
    refine r_step rfl rfl rfl ?_
    refine r_step rfl rfl rfl ?_
    refine r_step rfl rfl rfl ?_
    refine r_step rfl rfl rfl ?_
    try dsimp only
    rw [na3]
    refine r_ild rfl rfl rfl (show i + 3 < E.2.2.1 by omega) (by omega) ?_
    refine r_brF rfl rfl ?_ ?_
    · exact q
    refine r_step rfl rfl rfl ?_
    refine r_step rfl rfl rfl ?_
    refine r_step rfl rfl rfl ?_
    refine r_step rfl rfl rfl ?_
    refine r_step rfl rfl rfl ?_
    refine r_step rfl rfl rfl ?_
    try dsimp only
    rw [na4]
    refine r_ild rfl rfl rfl (show i + 4 < E.2.2.1 by omega) (by omega) ?_
    refine rF_call rfl rfl rfl rfl rfl rfl D ?_
    refine r_brT rfl rfl ?_ ?_
    · rfl
    exact K
theorem L_16 (hJ : J ≤ 600) (I : Iv J w.1 w.2.2.2) (hi : i + 4 < E.2.2.1) (hL : E.2.2.1 ≤ 2560) : Lw J i 532 E w := by
  obtain ⟨v, w1, w2, C, D, I2⟩ := A_open (E := E) I (E.2.2.2 (i + 1)) (E.2.2.2 (i + 2))
  refine ⟨w2, I2, fun r h' K => ?_⟩
  refine r_step rfl rfl rfl ?_
  refine r_step rfl rfl rfl ?_
  refine r_step rfl rfl rfl ?_
  refine r_step rfl rfl rfl ?_
  refine r_step rfl rfl rfl ?_
  try dsimp only
  rw [na1]
  refine r_ild rfl rfl rfl (show i + 1 < E.2.2.1 by omega) (by omega) ?_
  refine r_step rfl rfl rfl ?_
  refine r_step rfl rfl rfl ?_
  refine r_step rfl rfl rfl ?_
  refine r_step rfl rfl rfl ?_
  try dsimp only
  rw [na2]
  refine r_ild rfl rfl rfl (show i + 2 < E.2.2.1 by omega) (by omega) ?_
  refine wH_call rfl rfl rfl rfl rfl C ?_
  refine r_step rfl rfl rfl ?_
  refine r_step rfl rfl rfl ?_
  refine r_step rfl rfl rfl ?_
  refine r_step rfl rfl rfl ?_
  refine r_step rfl rfl rfl ?_
  try dsimp only
  rw [na1]
  refine r_ild rfl rfl rfl (show i + 1 < E.2.2.1 by omega) (by omega) ?_
  refine r_step rfl rfl rfl ?_
  refine r_step rfl rfl rfl ?_
  refine r_step rfl rfl rfl ?_
  refine r_step rfl rfl rfl ?_
  try dsimp only
  rw [na2]
  refine r_ild rfl rfl rfl (show i + 2 < E.2.2.1 by omega) (by omega) ?_
  refine rF_call rfl rfl rfl rfl rfl rfl D ?_
  refine r_brT rfl rfl ?_ ?_
  · rfl
  exact K
theorem L_17 (hJ : J ≤ 600) (I : Iv J w.1 w.2.2.2) (hi : i + 4 < E.2.2.1) (hL : E.2.2.1 ≤ 2560) : Lw J i 559 E w := by
  by_cases q : E.2.2.2 (i + 3) = 0
  · skip
    obtain ⟨v, w1, w2, C, D, I2⟩ := A_heavy (E := E) I (E.2.2.2 (i + 1)) (E.2.2.2 (i + 2)) 0 (E.2.2.2 (i + 4))
    refine ⟨w2, I2, fun r h' K => ?_⟩
    refine r_step rfl rfl rfl ?_
    refine r_step rfl rfl rfl ?_
    refine r_step rfl rfl rfl ?_
    refine r_step rfl rfl rfl ?_
    refine r_step rfl rfl rfl ?_
    try dsimp only
    rw [na1]
    refine r_ild rfl rfl rfl (show i + 1 < E.2.2.1 by omega) (by omega) ?_
    refine r_step rfl rfl rfl ?_
    refine r_step rfl rfl rfl ?_
    refine r_step rfl rfl rfl ?_
    refine r_step rfl rfl rfl ?_
    try dsimp only
    rw [na2]
    refine r_ild rfl rfl rfl (show i + 2 < E.2.2.1 by omega) (by omega) ?_
    refine r_step rfl rfl rfl ?_
    refine r_step rfl rfl rfl ?_
    refine r_step rfl rfl rfl ?_
    refine r_step rfl rfl rfl ?_
    try dsimp only
    rw [na3]
    refine r_ild rfl rfl rfl (show i + 3 < E.2.2.1 by omega) (by omega) ?_
    refine r_brT rfl rfl ?_ ?_
    · exact q
    refine r_step rfl rfl rfl ?_
    refine r_step rfl rfl rfl ?_
    refine r_step rfl rfl rfl ?_
    refine r_step rfl rfl rfl ?_
    refine r_step rfl rfl rfl ?_
    try dsimp only
    rw [na4]
    refine r_ild rfl rfl rfl (show i + 4 < E.2.2.1 by omega) (by omega) ?_
    refine wH_call rfl rfl rfl rfl rfl C ?_
    refine r_step rfl rfl rfl ?_
    refine r_step rfl rfl rfl ?_
    refine r_step rfl rfl rfl ?_
    refine r_step rfl rfl rfl ?_
    refine r_step rfl rfl rfl ?_
    try dsimp only
    rw [na1]
    refine r_ild rfl rfl rfl (show i + 1 < E.2.2.1 by omega) (by omega) ?_
    refine r_step rfl rfl rfl ?_
    refine r_step rfl rfl rfl ?_
    refine r_step rfl rfl rfl ?_
    refine r_step rfl rfl rfl ?_
    try dsimp only
    rw [na2]
    refine r_ild rfl rfl rfl (show i + 2 < E.2.2.1 by omega) (by omega) ?_
    refine r_step rfl rfl rfl ?_
    refine r_step rfl rfl rfl ?_
    refine r_step rfl rfl rfl ?_
    refine r_step rfl rfl rfl ?_
    try dsimp only
    rw [na3]
    refine r_ild rfl rfl rfl (show i + 3 < E.2.2.1 by omega) (by omega) ?_
    refine r_brT rfl rfl ?_ ?_
    · exact q
    refine r_step rfl rfl rfl ?_
    refine r_step rfl rfl rfl ?_
    refine r_step rfl rfl rfl ?_
    refine r_step rfl rfl rfl ?_
    refine r_step rfl rfl rfl ?_
    try dsimp only
    rw [na4]
    refine r_ild rfl rfl rfl (show i + 4 < E.2.2.1 by omega) (by omega) ?_
    refine rF_call rfl rfl rfl rfl rfl rfl D ?_
    refine r_brT rfl rfl ?_ ?_
    · rfl
    exact K
  · skip
    obtain ⟨v, w1, w2, C, D, I2⟩ := A_heavy (E := E) I (E.2.2.2 (i + 1)) (E.2.2.2 (i + 2)) 1 (E.2.2.2 (i + 4))
    refine ⟨w2, I2, fun r h' K => ?_⟩
    refine r_step rfl rfl rfl ?_
    refine r_step rfl rfl rfl ?_
    refine r_step rfl rfl rfl ?_
    refine r_step rfl rfl rfl ?_
    refine r_step rfl rfl rfl ?_
    try dsimp only
    rw [na1]
    refine r_ild rfl rfl rfl (show i + 1 < E.2.2.1 by omega) (by omega) ?_
    refine r_step rfl rfl rfl ?_
    refine r_step rfl rfl rfl ?_
    refine r_step rfl rfl rfl ?_
    refine r_step rfl rfl rfl ?_
    try dsimp only
    rw [na2]
    refine r_ild rfl rfl rfl (show i + 2 < E.2.2.1 by omega) (by omega) ?_
    refine r_step rfl rfl rfl ?_
    refine r_step rfl rfl rfl ?_
    refine r_step rfl rfl rfl ?_
    refine r_step rfl rfl rfl ?_
    try dsimp only
    rw [na3]
    refine r_ild rfl rfl rfl (show i + 3 < E.2.2.1 by omega) (by omega) ?_
    refine r_brF rfl rfl ?_ ?_
    · exact q
    refine r_step rfl rfl rfl ?_
    refine r_step rfl rfl rfl ?_
    refine r_step rfl rfl rfl ?_
    refine r_step rfl rfl rfl ?_
    refine r_step rfl rfl rfl ?_
    refine r_step rfl rfl rfl ?_
    try dsimp only
    rw [na4]
    refine r_ild rfl rfl rfl (show i + 4 < E.2.2.1 by omega) (by omega) ?_
    refine wH_call rfl rfl rfl rfl rfl C ?_
    refine r_step rfl rfl rfl ?_
    refine r_step rfl rfl rfl ?_
    refine r_step rfl rfl rfl ?_
    refine r_step rfl rfl rfl ?_
    refine r_step rfl rfl rfl ?_
    try dsimp only
    rw [na1]
    refine r_ild rfl rfl rfl (show i + 1 < E.2.2.1 by omega) (by omega) ?_
    refine r_step rfl rfl rfl ?_
    refine r_step rfl rfl rfl ?_
    refine r_step rfl rfl rfl ?_
    refine r_step rfl rfl rfl ?_
    try dsimp only
    rw [na2]
    refine r_ild rfl rfl rfl (show i + 2 < E.2.2.1 by omega) (by omega) ?_
    refine r_step rfl rfl rfl ?_
    refine r_step rfl rfl rfl ?_
    refine r_step rfl rfl rfl ?_
    refine r_step rfl rfl rfl ?_
    try dsimp only
    rw [na3]
    refine r_ild rfl rfl rfl (show i + 3 < E.2.2.1 by omega) (by omega) ?_
    refine r_brF rfl rfl ?_ ?_
    · exact q
    refine r_step rfl rfl rfl ?_
    refine r_step rfl rfl rfl ?_
    refine r_step rfl rfl rfl ?_
    refine r_step rfl rfl rfl ?_
    refine r_step rfl rfl rfl ?_
    refine r_step rfl rfl rfl ?_
    try dsimp only
    rw [na4]
    refine r_ild rfl rfl rfl (show i + 4 < E.2.2.1 by omega) (by omega) ?_
    refine rF_call rfl rfl rfl rfl rfl rfl D ?_
    refine r_brT rfl rfl ?_ ?_
    · rfl
    exact K
theorem L_18 (hJ : J ≤ 600) (I : Iv J w.1 w.2.2.2) (hi : i + 4 < E.2.2.1) (hL : E.2.2.1 ≤ 2560) : Lw J i 614 E w := by
  obtain ⟨v, w1, w2, C, D, I2⟩ := A_fewest (E := E) I (E.2.2.2 (i + 1)) (E.2.2.2 (i + 2))
  refine ⟨w2, I2, fun r h' K => ?_⟩
  refine r_step rfl rfl rfl ?_
  refine r_step rfl rfl rfl ?_
  refine r_step rfl rfl rfl ?_
  refine r_step rfl rfl rfl ?_
  refine r_step rfl rfl rfl ?_
  try dsimp only
  rw [na1]
  refine r_ild rfl rfl rfl (show i + 1 < E.2.2.1 by omega) (by omega) ?_
  refine r_step rfl rfl rfl ?_
  refine r_step rfl rfl rfl ?_
  refine r_step rfl rfl rfl ?_
  refine r_step rfl rfl rfl ?_
  try dsimp only
  rw [na2]
  refine r_ild rfl rfl rfl (show i + 2 < E.2.2.1 by omega) (by omega) ?_
  refine wH_call rfl rfl rfl rfl rfl C ?_
  refine r_step rfl rfl rfl ?_
  refine r_step rfl rfl rfl ?_
  refine r_step rfl rfl rfl ?_
  refine r_step rfl rfl rfl ?_
  refine r_step rfl rfl rfl ?_
  try dsimp only
  rw [na1]
  refine r_ild rfl rfl rfl (show i + 1 < E.2.2.1 by omega) (by omega) ?_
  refine r_step rfl rfl rfl ?_
  refine r_step rfl rfl rfl ?_
  refine r_step rfl rfl rfl ?_
  refine r_step rfl rfl rfl ?_
  try dsimp only
  rw [na2]
  refine r_ild rfl rfl rfl (show i + 2 < E.2.2.1 by omega) (by omega) ?_
  refine rF_call rfl rfl rfl rfl rfl rfl D ?_
  refine r_brT rfl rfl ?_ ?_
  · rfl
  exact K
theorem L_19 (hJ : J ≤ 600) (I : Iv J w.1 w.2.2.2) (hi : i + 4 < E.2.2.1) (hL : E.2.2.1 ≤ 2560) : Lw J i 641 E w := by
  obtain ⟨v, w1, w2, C, D, I2⟩ := A_group (E := E) I (E.2.2.2 (i + 1)) (E.2.2.2 (i + 2)) (E.2.2.2 (i + 3)) (E.2.2.2 (i + 4))
  refine ⟨w2, I2, fun r h' K => ?_⟩
  refine r_step rfl rfl rfl ?_
  refine r_step rfl rfl rfl ?_
  refine r_step rfl rfl rfl ?_
  refine r_step rfl rfl rfl ?_
  refine r_step rfl rfl rfl ?_
  try dsimp only
  rw [na1]
  refine r_ild rfl rfl rfl (show i + 1 < E.2.2.1 by omega) (by omega) ?_
  refine r_step rfl rfl rfl ?_
  refine r_step rfl rfl rfl ?_
  refine r_step rfl rfl rfl ?_
  refine r_step rfl rfl rfl ?_
  try dsimp only
  rw [na2]
  refine r_ild rfl rfl rfl (show i + 2 < E.2.2.1 by omega) (by omega) ?_
  refine r_step rfl rfl rfl ?_
  refine r_step rfl rfl rfl ?_
  refine r_step rfl rfl rfl ?_
  refine r_step rfl rfl rfl ?_
  try dsimp only
  rw [na3]
  refine r_ild rfl rfl rfl (show i + 3 < E.2.2.1 by omega) (by omega) ?_
  refine r_step rfl rfl rfl ?_
  refine r_step rfl rfl rfl ?_
  refine r_step rfl rfl rfl ?_
  refine r_step rfl rfl rfl ?_
  try dsimp only
  rw [na4]
  refine r_ild rfl rfl rfl (show i + 4 < E.2.2.1 by omega) (by omega) ?_
  refine wH_call rfl rfl rfl rfl rfl C ?_
  refine r_step rfl rfl rfl ?_
  refine r_step rfl rfl rfl ?_
  refine r_step rfl rfl rfl ?_
  refine r_step rfl rfl rfl ?_
  refine r_step rfl rfl rfl ?_
  try dsimp only
  rw [na1]
  refine r_ild rfl rfl rfl (show i + 1 < E.2.2.1 by omega) (by omega) ?_
  refine r_step rfl rfl rfl ?_
  refine r_step rfl rfl rfl ?_
  refine r_step rfl rfl rfl ?_
  refine r_step rfl rfl rfl ?_
  try dsimp only
  rw [na2]
  refine r_ild rfl rfl rfl (show i + 2 < E.2.2.1 by omega) (by omega) ?_
  refine r_step rfl rfl rfl ?_
  refine r_step rfl rfl rfl ?_
  refine r_step rfl rfl rfl ?_
  refine r_step rfl rfl rfl ?_
  try dsimp only
  rw [na3]
  refine r_ild rfl rfl rfl (show i + 3 < E.2.2.1 by omega) (by omega) ?_
  refine r_step rfl rfl rfl ?_
  refine r_step rfl rfl rfl ?_
  refine r_step rfl rfl rfl ?_
  refine r_step rfl rfl rfl ?_
  try dsimp only
  rw [na4]
  refine r_ild rfl rfl rfl (show i + 4 < E.2.2.1 by omega) (by omega) ?_
  refine rF_call rfl rfl rfl rfl rfl rfl D ?_
  refine r_brT rfl rfl ?_ ?_
  · rfl
  exact K
theorem L_20 (hJ : J ≤ 600) (I : Iv J w.1 w.2.2.2) (hi : i + 4 < E.2.2.1) (hL : E.2.2.1 ≤ 2560) : Lw J i 688 E w := by
  obtain ⟨v, w1, w2, C, D, I2⟩ := A_victim (E := E) I (E.2.2.2 (i + 1))
  refine ⟨w2, I2, fun r h' K => ?_⟩
  refine r_step rfl rfl rfl ?_
  refine r_step rfl rfl rfl ?_
  refine r_step rfl rfl rfl ?_
  refine r_step rfl rfl rfl ?_
  refine r_step rfl rfl rfl ?_
  try dsimp only
  rw [na1]
  refine r_ild rfl rfl rfl (show i + 1 < E.2.2.1 by omega) (by omega) ?_
  refine wH_call rfl rfl rfl rfl rfl C ?_
  refine r_step rfl rfl rfl ?_
  refine r_step rfl rfl rfl ?_
  refine r_step rfl rfl rfl ?_
  refine r_step rfl rfl rfl ?_
  refine r_step rfl rfl rfl ?_
  try dsimp only
  rw [na1]
  refine r_ild rfl rfl rfl (show i + 1 < E.2.2.1 by omega) (by omega) ?_
  refine rF_call rfl rfl rfl rfl rfl rfl D ?_
  refine r_brT rfl rfl ?_ ?_
  · rfl
  exact K
theorem L_21 (hJ : J ≤ 600) (I : Iv J w.1 w.2.2.2) (hi : i + 4 < E.2.2.1) (hL : E.2.2.1 ≤ 2560) : Lw J i 705 E w := by
  obtain ⟨v, w1, w2, C, D, I2⟩ := A_would (E := E) hJ I (E.2.2.2 (i + 1)) (E.2.2.2 (i + 2)) (E.2.2.2 (i + 3)) (E.2.2.2 (i + 4))
  refine ⟨w2, I2, fun r h' K => ?_⟩
  refine r_step rfl rfl rfl ?_
  refine r_step rfl rfl rfl ?_
  refine r_step rfl rfl rfl ?_
  refine r_step rfl rfl rfl ?_
  refine r_step rfl rfl rfl ?_
  try dsimp only
  rw [na1]
  refine r_ild rfl rfl rfl (show i + 1 < E.2.2.1 by omega) (by omega) ?_
  refine r_step rfl rfl rfl ?_
  refine r_step rfl rfl rfl ?_
  refine r_step rfl rfl rfl ?_
  refine r_step rfl rfl rfl ?_
  try dsimp only
  rw [na2]
  refine r_ild rfl rfl rfl (show i + 2 < E.2.2.1 by omega) (by omega) ?_
  refine r_step rfl rfl rfl ?_
  refine r_step rfl rfl rfl ?_
  refine r_step rfl rfl rfl ?_
  refine r_step rfl rfl rfl ?_
  try dsimp only
  rw [na3]
  refine r_ild rfl rfl rfl (show i + 3 < E.2.2.1 by omega) (by omega) ?_
  refine r_step rfl rfl rfl ?_
  refine r_step rfl rfl rfl ?_
  refine r_step rfl rfl rfl ?_
  refine r_step rfl rfl rfl ?_
  try dsimp only
  rw [na4]
  refine r_ild rfl rfl rfl (show i + 4 < E.2.2.1 by omega) (by omega) ?_
  refine wH_call rfl rfl rfl rfl rfl C ?_
  refine r_step rfl rfl rfl ?_
  refine r_step rfl rfl rfl ?_
  refine r_step rfl rfl rfl ?_
  refine r_step rfl rfl rfl ?_
  refine r_step rfl rfl rfl ?_
  try dsimp only
  rw [na1]
  refine r_ild rfl rfl rfl (show i + 1 < E.2.2.1 by omega) (by omega) ?_
  refine r_step rfl rfl rfl ?_
  refine r_step rfl rfl rfl ?_
  refine r_step rfl rfl rfl ?_
  refine r_step rfl rfl rfl ?_
  try dsimp only
  rw [na2]
  refine r_ild rfl rfl rfl (show i + 2 < E.2.2.1 by omega) (by omega) ?_
  refine r_step rfl rfl rfl ?_
  refine r_step rfl rfl rfl ?_
  refine r_step rfl rfl rfl ?_
  refine r_step rfl rfl rfl ?_
  try dsimp only
  rw [na3]
  refine r_ild rfl rfl rfl (show i + 3 < E.2.2.1 by omega) (by omega) ?_
  refine r_step rfl rfl rfl ?_
  refine r_step rfl rfl rfl ?_
  refine r_step rfl rfl rfl ?_
  refine r_step rfl rfl rfl ?_
  try dsimp only
  rw [na4]
  refine r_ild rfl rfl rfl (show i + 4 < E.2.2.1 by omega) (by omega) ?_
  refine rF_call rfl rfl rfl rfl rfl rfl D ?_
  refine r_brT rfl rfl ?_ ?_
  · rfl
  exact K
theorem L_22 (hJ : J ≤ 600) (I : Iv J w.1 w.2.2.2) (hi : i + 4 < E.2.2.1) (hL : E.2.2.1 ≤ 2560) : Lw J i 752 E w := by
  obtain ⟨v, w1, w2, C, D, I2⟩ := A_need (E := E) hJ I (E.2.2.2 (i + 1)) (E.2.2.2 (i + 2)) (E.2.2.2 (i + 3))
  refine ⟨w2, I2, fun r h' K => ?_⟩
  refine r_step rfl rfl rfl ?_
  refine r_step rfl rfl rfl ?_
  refine r_step rfl rfl rfl ?_
  refine r_step rfl rfl rfl ?_
  refine r_step rfl rfl rfl ?_
  try dsimp only
  rw [na1]
  refine r_ild rfl rfl rfl (show i + 1 < E.2.2.1 by omega) (by omega) ?_
  refine r_step rfl rfl rfl ?_
  refine r_step rfl rfl rfl ?_
  refine r_step rfl rfl rfl ?_
  refine r_step rfl rfl rfl ?_
  try dsimp only
  rw [na2]
  refine r_ild rfl rfl rfl (show i + 2 < E.2.2.1 by omega) (by omega) ?_
  refine r_step rfl rfl rfl ?_
  refine r_step rfl rfl rfl ?_
  refine r_step rfl rfl rfl ?_
  refine r_step rfl rfl rfl ?_
  try dsimp only
  rw [na3]
  refine r_ild rfl rfl rfl (show i + 3 < E.2.2.1 by omega) (by omega) ?_
  refine wH_call rfl rfl rfl rfl rfl C ?_
  refine r_step rfl rfl rfl ?_
  refine r_step rfl rfl rfl ?_
  refine r_step rfl rfl rfl ?_
  refine r_step rfl rfl rfl ?_
  refine r_step rfl rfl rfl ?_
  try dsimp only
  rw [na1]
  refine r_ild rfl rfl rfl (show i + 1 < E.2.2.1 by omega) (by omega) ?_
  refine r_step rfl rfl rfl ?_
  refine r_step rfl rfl rfl ?_
  refine r_step rfl rfl rfl ?_
  refine r_step rfl rfl rfl ?_
  try dsimp only
  rw [na2]
  refine r_ild rfl rfl rfl (show i + 2 < E.2.2.1 by omega) (by omega) ?_
  refine r_step rfl rfl rfl ?_
  refine r_step rfl rfl rfl ?_
  refine r_step rfl rfl rfl ?_
  refine r_step rfl rfl rfl ?_
  try dsimp only
  rw [na3]
  refine r_ild rfl rfl rfl (show i + 3 < E.2.2.1 by omega) (by omega) ?_
  refine rF_call rfl rfl rfl rfl rfl rfl D ?_
  refine r_brT rfl rfl ?_ ?_
  · rfl
  exact K
theorem L_23 (hJ : J ≤ 600) (I : Iv J w.1 w.2.2.2) (hi : i + 4 < E.2.2.1) (hL : E.2.2.1 ≤ 2560) : Lw J i 789 E w := by
  obtain ⟨v, w1, w2, C, D, I2⟩ := A_merged (E := E) I (E.2.2.2 (i + 1)) (E.2.2.2 (i + 2)) (E.2.2.2 (i + 3)) (E.2.2.2 (i + 4))
  refine ⟨w2, I2, fun r h' K => ?_⟩
  refine r_step rfl rfl rfl ?_
  refine r_step rfl rfl rfl ?_
  refine r_step rfl rfl rfl ?_
  refine r_step rfl rfl rfl ?_
  refine r_step rfl rfl rfl ?_
  try dsimp only
  rw [na1]
  refine r_ild rfl rfl rfl (show i + 1 < E.2.2.1 by omega) (by omega) ?_
  refine r_step rfl rfl rfl ?_
  refine r_step rfl rfl rfl ?_
  refine r_step rfl rfl rfl ?_
  refine r_step rfl rfl rfl ?_
  try dsimp only
  rw [na2]
  refine r_ild rfl rfl rfl (show i + 2 < E.2.2.1 by omega) (by omega) ?_
  refine r_step rfl rfl rfl ?_
  refine r_step rfl rfl rfl ?_
  refine r_step rfl rfl rfl ?_
  refine r_step rfl rfl rfl ?_
  try dsimp only
  rw [na3]
  refine r_ild rfl rfl rfl (show i + 3 < E.2.2.1 by omega) (by omega) ?_
  refine r_step rfl rfl rfl ?_
  refine r_step rfl rfl rfl ?_
  refine r_step rfl rfl rfl ?_
  refine r_step rfl rfl rfl ?_
  try dsimp only
  rw [na4]
  refine r_ild rfl rfl rfl (show i + 4 < E.2.2.1 by omega) (by omega) ?_
  refine wH_call rfl rfl rfl rfl rfl C ?_
  refine r_step rfl rfl rfl ?_
  refine r_step rfl rfl rfl ?_
  refine r_step rfl rfl rfl ?_
  refine r_step rfl rfl rfl ?_
  refine r_step rfl rfl rfl ?_
  try dsimp only
  rw [na1]
  refine r_ild rfl rfl rfl (show i + 1 < E.2.2.1 by omega) (by omega) ?_
  refine r_step rfl rfl rfl ?_
  refine r_step rfl rfl rfl ?_
  refine r_step rfl rfl rfl ?_
  refine r_step rfl rfl rfl ?_
  try dsimp only
  rw [na2]
  refine r_ild rfl rfl rfl (show i + 2 < E.2.2.1 by omega) (by omega) ?_
  refine r_step rfl rfl rfl ?_
  refine r_step rfl rfl rfl ?_
  refine r_step rfl rfl rfl ?_
  refine r_step rfl rfl rfl ?_
  try dsimp only
  rw [na3]
  refine r_ild rfl rfl rfl (show i + 3 < E.2.2.1 by omega) (by omega) ?_
  refine r_step rfl rfl rfl ?_
  refine r_step rfl rfl rfl ?_
  refine r_step rfl rfl rfl ?_
  refine r_step rfl rfl rfl ?_
  try dsimp only
  rw [na4]
  refine r_ild rfl rfl rfl (show i + 4 < E.2.2.1 by omega) (by omega) ?_
  refine rF_call rfl rfl rfl rfl rfl rfl D ?_
  refine r_brT rfl rfl ?_ ?_
  · rfl
  exact K
theorem L_24 (hJ : J ≤ 600) (I : Iv J w.1 w.2.2.2) (hi : i + 4 < E.2.2.1) (hL : E.2.2.1 ≤ 2560) : Lw J i 836 E w := by
  by_cases q : E.2.2.2 (i + 4) = 0
  · skip
    obtain ⟨v, w1, w2, C, D, I2⟩ := A_risen (E := E) I (E.2.2.2 (i + 1)) (E.2.2.2 (i + 2)) (E.2.2.2 (i + 3)) 0
    refine ⟨w2, I2, fun r h' K => ?_⟩
    refine r_step rfl rfl rfl ?_
    refine r_step rfl rfl rfl ?_
    refine r_step rfl rfl rfl ?_
    refine r_step rfl rfl rfl ?_
    refine r_step rfl rfl rfl ?_
    try dsimp only
    rw [na1]
    refine r_ild rfl rfl rfl (show i + 1 < E.2.2.1 by omega) (by omega) ?_
    refine r_step rfl rfl rfl ?_
    refine r_step rfl rfl rfl ?_
    refine r_step rfl rfl rfl ?_
    refine r_step rfl rfl rfl ?_
    try dsimp only
    rw [na2]
    refine r_ild rfl rfl rfl (show i + 2 < E.2.2.1 by omega) (by omega) ?_
    refine r_step rfl rfl rfl ?_
    refine r_step rfl rfl rfl ?_
    refine r_step rfl rfl rfl ?_
    refine r_step rfl rfl rfl ?_
    try dsimp only
    rw [na3]
    refine r_ild rfl rfl rfl (show i + 3 < E.2.2.1 by omega) (by omega) ?_
    refine r_step rfl rfl rfl ?_
    refine r_step rfl rfl rfl ?_
    refine r_step rfl rfl rfl ?_
    refine r_step rfl rfl rfl ?_
    try dsimp only
    rw [na4]
    refine r_ild rfl rfl rfl (show i + 4 < E.2.2.1 by omega) (by omega) ?_
    refine r_brT rfl rfl ?_ ?_
    · exact q
    refine r_step rfl rfl rfl ?_
    refine wH_call rfl rfl rfl rfl rfl C ?_
    refine r_step rfl rfl rfl ?_
    refine r_step rfl rfl rfl ?_
    refine r_step rfl rfl rfl ?_
    refine r_step rfl rfl rfl ?_
    refine r_step rfl rfl rfl ?_
    try dsimp only
    rw [na1]
    refine r_ild rfl rfl rfl (show i + 1 < E.2.2.1 by omega) (by omega) ?_
    refine r_step rfl rfl rfl ?_
    refine r_step rfl rfl rfl ?_
    refine r_step rfl rfl rfl ?_
    refine r_step rfl rfl rfl ?_
    try dsimp only
    rw [na2]
    refine r_ild rfl rfl rfl (show i + 2 < E.2.2.1 by omega) (by omega) ?_
    refine r_step rfl rfl rfl ?_
    refine r_step rfl rfl rfl ?_
    refine r_step rfl rfl rfl ?_
    refine r_step rfl rfl rfl ?_
    try dsimp only
    rw [na3]
    refine r_ild rfl rfl rfl (show i + 3 < E.2.2.1 by omega) (by omega) ?_
    refine r_step rfl rfl rfl ?_
    refine r_step rfl rfl rfl ?_
    refine r_step rfl rfl rfl ?_
    refine r_step rfl rfl rfl ?_
    try dsimp only
    rw [na4]
    refine r_ild rfl rfl rfl (show i + 4 < E.2.2.1 by omega) (by omega) ?_
    refine r_brT rfl rfl ?_ ?_
    · exact q
    refine r_step rfl rfl rfl ?_
    refine rF_call rfl rfl rfl rfl rfl rfl D ?_
    refine r_brT rfl rfl ?_ ?_
    · rfl
    exact K
  · skip
    obtain ⟨v, w1, w2, C, D, I2⟩ := A_risen (E := E) I (E.2.2.2 (i + 1)) (E.2.2.2 (i + 2)) (E.2.2.2 (i + 3)) 1
    refine ⟨w2, I2, fun r h' K => ?_⟩
    refine r_step rfl rfl rfl ?_
    refine r_step rfl rfl rfl ?_
    refine r_step rfl rfl rfl ?_
    refine r_step rfl rfl rfl ?_
    refine r_step rfl rfl rfl ?_
    try dsimp only
    rw [na1]
    refine r_ild rfl rfl rfl (show i + 1 < E.2.2.1 by omega) (by omega) ?_
    refine r_step rfl rfl rfl ?_
    refine r_step rfl rfl rfl ?_
    refine r_step rfl rfl rfl ?_
    refine r_step rfl rfl rfl ?_
    try dsimp only
    rw [na2]
    refine r_ild rfl rfl rfl (show i + 2 < E.2.2.1 by omega) (by omega) ?_
    refine r_step rfl rfl rfl ?_
    refine r_step rfl rfl rfl ?_
    refine r_step rfl rfl rfl ?_
    refine r_step rfl rfl rfl ?_
    try dsimp only
    rw [na3]
    refine r_ild rfl rfl rfl (show i + 3 < E.2.2.1 by omega) (by omega) ?_
    refine r_step rfl rfl rfl ?_
    refine r_step rfl rfl rfl ?_
    refine r_step rfl rfl rfl ?_
    refine r_step rfl rfl rfl ?_
    try dsimp only
    rw [na4]
    refine r_ild rfl rfl rfl (show i + 4 < E.2.2.1 by omega) (by omega) ?_
    refine r_brF rfl rfl ?_ ?_
    · exact q
    refine r_step rfl rfl rfl ?_
    refine r_step rfl rfl rfl ?_
    refine wH_call rfl rfl rfl rfl rfl C ?_
    refine r_step rfl rfl rfl ?_
    refine r_step rfl rfl rfl ?_
    refine r_step rfl rfl rfl ?_
    refine r_step rfl rfl rfl ?_
    refine r_step rfl rfl rfl ?_
    try dsimp only
    rw [na1]
    refine r_ild rfl rfl rfl (show i + 1 < E.2.2.1 by omega) (by omega) ?_
    refine r_step rfl rfl rfl ?_
    refine r_step rfl rfl rfl ?_
    refine r_step rfl rfl rfl ?_
    refine r_step rfl rfl rfl ?_
    try dsimp only
    rw [na2]
    refine r_ild rfl rfl rfl (show i + 2 < E.2.2.1 by omega) (by omega) ?_
    refine r_step rfl rfl rfl ?_
    refine r_step rfl rfl rfl ?_
    refine r_step rfl rfl rfl ?_
    refine r_step rfl rfl rfl ?_
    try dsimp only
    rw [na3]
    refine r_ild rfl rfl rfl (show i + 3 < E.2.2.1 by omega) (by omega) ?_
    refine r_step rfl rfl rfl ?_
    refine r_step rfl rfl rfl ?_
    refine r_step rfl rfl rfl ?_
    refine r_step rfl rfl rfl ?_
    try dsimp only
    rw [na4]
    refine r_ild rfl rfl rfl (show i + 4 < E.2.2.1 by omega) (by omega) ?_
    refine r_brF rfl rfl ?_ ?_
    · exact q
    refine r_step rfl rfl rfl ?_
    refine r_step rfl rfl rfl ?_
    refine rF_call rfl rfl rfl rfl rfl rfl D ?_
    refine r_brT rfl rfl ?_ ?_
    · rfl
    exact K
theorem L_25 (hJ : J ≤ 600) (I : Iv J w.1 w.2.2.2) (hi : i + 4 < E.2.2.1) (hL : E.2.2.1 ≤ 2560) : Lw J i 891 E w := by
  obtain ⟨v, w1, w2, C, D, I2⟩ := A_rose (E := E) I (E.2.2.2 (i + 1)) (E.2.2.2 (i + 2)) (E.2.2.2 (i + 3))
  refine ⟨w2, I2, fun r h' K => ?_⟩
  refine r_step rfl rfl rfl ?_
  refine r_step rfl rfl rfl ?_
  refine r_step rfl rfl rfl ?_
  refine r_step rfl rfl rfl ?_
  refine r_step rfl rfl rfl ?_
  try dsimp only
  rw [na1]
  refine r_ild rfl rfl rfl (show i + 1 < E.2.2.1 by omega) (by omega) ?_
  refine r_step rfl rfl rfl ?_
  refine r_step rfl rfl rfl ?_
  refine r_step rfl rfl rfl ?_
  refine r_step rfl rfl rfl ?_
  try dsimp only
  rw [na2]
  refine r_ild rfl rfl rfl (show i + 2 < E.2.2.1 by omega) (by omega) ?_
  refine r_step rfl rfl rfl ?_
  refine r_step rfl rfl rfl ?_
  refine r_step rfl rfl rfl ?_
  refine r_step rfl rfl rfl ?_
  try dsimp only
  rw [na3]
  refine r_ild rfl rfl rfl (show i + 3 < E.2.2.1 by omega) (by omega) ?_
  refine wH_call rfl rfl rfl rfl rfl C ?_
  refine r_step rfl rfl rfl ?_
  refine r_step rfl rfl rfl ?_
  refine r_step rfl rfl rfl ?_
  refine r_step rfl rfl rfl ?_
  refine r_step rfl rfl rfl ?_
  try dsimp only
  rw [na1]
  refine r_ild rfl rfl rfl (show i + 1 < E.2.2.1 by omega) (by omega) ?_
  refine r_step rfl rfl rfl ?_
  refine r_step rfl rfl rfl ?_
  refine r_step rfl rfl rfl ?_
  refine r_step rfl rfl rfl ?_
  try dsimp only
  rw [na2]
  refine r_ild rfl rfl rfl (show i + 2 < E.2.2.1 by omega) (by omega) ?_
  refine r_step rfl rfl rfl ?_
  refine r_step rfl rfl rfl ?_
  refine r_step rfl rfl rfl ?_
  refine r_step rfl rfl rfl ?_
  try dsimp only
  rw [na3]
  refine r_ild rfl rfl rfl (show i + 3 < E.2.2.1 by omega) (by omega) ?_
  refine rF_call rfl rfl rfl rfl rfl rfl D ?_
  refine r_brT rfl rfl ?_ ?_
  · rfl
  exact K
theorem L_26 (hJ : J ≤ 600) (I : Iv J w.1 w.2.2.2) (hi : i + 4 < E.2.2.1) (hL : E.2.2.1 ≤ 2560) : Lw J i 928 E w := by
  obtain ⟨v, w1, w2, C, D, I2⟩ := A_alike (E := E) I (E.2.2.2 (i + 1)) (E.2.2.2 (i + 2)) (E.2.2.2 (i + 3))
  refine ⟨w2, I2, fun r h' K => ?_⟩
  refine r_step rfl rfl rfl ?_
  refine r_step rfl rfl rfl ?_
  refine r_step rfl rfl rfl ?_
  refine r_step rfl rfl rfl ?_
  refine r_step rfl rfl rfl ?_
  try dsimp only
  rw [na1]
  refine r_ild rfl rfl rfl (show i + 1 < E.2.2.1 by omega) (by omega) ?_
  refine r_step rfl rfl rfl ?_
  refine r_step rfl rfl rfl ?_
  refine r_step rfl rfl rfl ?_
  refine r_step rfl rfl rfl ?_
  try dsimp only
  rw [na2]
  refine r_ild rfl rfl rfl (show i + 2 < E.2.2.1 by omega) (by omega) ?_
  refine r_step rfl rfl rfl ?_
  refine r_step rfl rfl rfl ?_
  refine r_step rfl rfl rfl ?_
  refine r_step rfl rfl rfl ?_
  try dsimp only
  rw [na3]
  refine r_ild rfl rfl rfl (show i + 3 < E.2.2.1 by omega) (by omega) ?_
  refine wH_call rfl rfl rfl rfl rfl C ?_
  refine r_step rfl rfl rfl ?_
  refine r_step rfl rfl rfl ?_
  refine r_step rfl rfl rfl ?_
  refine r_step rfl rfl rfl ?_
  refine r_step rfl rfl rfl ?_
  try dsimp only
  rw [na1]
  refine r_ild rfl rfl rfl (show i + 1 < E.2.2.1 by omega) (by omega) ?_
  refine r_step rfl rfl rfl ?_
  refine r_step rfl rfl rfl ?_
  refine r_step rfl rfl rfl ?_
  refine r_step rfl rfl rfl ?_
  try dsimp only
  rw [na2]
  refine r_ild rfl rfl rfl (show i + 2 < E.2.2.1 by omega) (by omega) ?_
  refine r_step rfl rfl rfl ?_
  refine r_step rfl rfl rfl ?_
  refine r_step rfl rfl rfl ?_
  refine r_step rfl rfl rfl ?_
  try dsimp only
  rw [na3]
  refine r_ild rfl rfl rfl (show i + 3 < E.2.2.1 by omega) (by omega) ?_
  refine rF_call rfl rfl rfl rfl rfl rfl D ?_
  refine r_brT rfl rfl ?_ ?_
  · rfl
  exact K
theorem L_27 (hJ : J ≤ 600) (I : Iv J w.1 w.2.2.2) (hi : i + 4 < E.2.2.1) (hL : E.2.2.1 ≤ 2560) : Lw J i 965 E w := by
  by_cases q : E.2.2.2 (i + 3) = 0
  · skip
    obtain ⟨v, w1, w2, C, D, I2⟩ := A_place (E := E) I (E.2.2.2 (i + 1)) (E.2.2.2 (i + 2)) 0
    refine ⟨w2, I2, fun r h' K => ?_⟩
    refine r_step rfl rfl rfl ?_
    refine r_step rfl rfl rfl ?_
    refine r_step rfl rfl rfl ?_
    refine r_step rfl rfl rfl ?_
    refine r_step rfl rfl rfl ?_
    try dsimp only
    rw [na1]
    refine r_ild rfl rfl rfl (show i + 1 < E.2.2.1 by omega) (by omega) ?_
    refine r_step rfl rfl rfl ?_
    refine r_step rfl rfl rfl ?_
    refine r_step rfl rfl rfl ?_
    refine r_step rfl rfl rfl ?_
    try dsimp only
    rw [na2]
    refine r_ild rfl rfl rfl (show i + 2 < E.2.2.1 by omega) (by omega) ?_
    refine r_step rfl rfl rfl ?_
    refine r_step rfl rfl rfl ?_
    refine r_step rfl rfl rfl ?_
    refine r_step rfl rfl rfl ?_
    try dsimp only
    rw [na3]
    refine r_ild rfl rfl rfl (show i + 3 < E.2.2.1 by omega) (by omega) ?_
    refine r_brT rfl rfl ?_ ?_
    · exact q
    refine r_step rfl rfl rfl ?_
    refine wH_call rfl rfl rfl rfl rfl C ?_
    refine r_step rfl rfl rfl ?_
    refine r_step rfl rfl rfl ?_
    refine r_step rfl rfl rfl ?_
    refine r_step rfl rfl rfl ?_
    refine r_step rfl rfl rfl ?_
    try dsimp only
    rw [na1]
    refine r_ild rfl rfl rfl (show i + 1 < E.2.2.1 by omega) (by omega) ?_
    refine r_step rfl rfl rfl ?_
    refine r_step rfl rfl rfl ?_
    refine r_step rfl rfl rfl ?_
    refine r_step rfl rfl rfl ?_
    try dsimp only
    rw [na2]
    refine r_ild rfl rfl rfl (show i + 2 < E.2.2.1 by omega) (by omega) ?_
    refine r_step rfl rfl rfl ?_
    refine r_step rfl rfl rfl ?_
    refine r_step rfl rfl rfl ?_
    refine r_step rfl rfl rfl ?_
    try dsimp only
    rw [na3]
    refine r_ild rfl rfl rfl (show i + 3 < E.2.2.1 by omega) (by omega) ?_
    refine r_brT rfl rfl ?_ ?_
    · exact q
    refine r_step rfl rfl rfl ?_
    refine rF_call rfl rfl rfl rfl rfl rfl D ?_
    refine r_brT rfl rfl ?_ ?_
    · rfl
    exact K
  · skip
    obtain ⟨v, w1, w2, C, D, I2⟩ := A_place (E := E) I (E.2.2.2 (i + 1)) (E.2.2.2 (i + 2)) 1
    refine ⟨w2, I2, fun r h' K => ?_⟩
    refine r_step rfl rfl rfl ?_
    refine r_step rfl rfl rfl ?_
    refine r_step rfl rfl rfl ?_
    refine r_step rfl rfl rfl ?_
    refine r_step rfl rfl rfl ?_
    try dsimp only
    rw [na1]
    refine r_ild rfl rfl rfl (show i + 1 < E.2.2.1 by omega) (by omega) ?_
    refine r_step rfl rfl rfl ?_
    refine r_step rfl rfl rfl ?_
    refine r_step rfl rfl rfl ?_
    refine r_step rfl rfl rfl ?_
    try dsimp only
    rw [na2]
    refine r_ild rfl rfl rfl (show i + 2 < E.2.2.1 by omega) (by omega) ?_
    refine r_step rfl rfl rfl ?_
    refine r_step rfl rfl rfl ?_
    refine r_step rfl rfl rfl ?_
    refine r_step rfl rfl rfl ?_
    try dsimp only
    rw [na3]
    refine r_ild rfl rfl rfl (show i + 3 < E.2.2.1 by omega) (by omega) ?_
    refine r_brF rfl rfl ?_ ?_
    · exact q
    refine r_step rfl rfl rfl ?_
    refine r_step rfl rfl rfl ?_
    refine wH_call rfl rfl rfl rfl rfl C ?_
    refine r_step rfl rfl rfl ?_
    refine r_step rfl rfl rfl ?_
    refine r_step rfl rfl rfl ?_
    refine r_step rfl rfl rfl ?_
    refine r_step rfl rfl rfl ?_
    try dsimp only
    rw [na1]
    refine r_ild rfl rfl rfl (show i + 1 < E.2.2.1 by omega) (by omega) ?_
    refine r_step rfl rfl rfl ?_
    refine r_step rfl rfl rfl ?_
    refine r_step rfl rfl rfl ?_
    refine r_step rfl rfl rfl ?_
    try dsimp only
    rw [na2]
    refine r_ild rfl rfl rfl (show i + 2 < E.2.2.1 by omega) (by omega) ?_
    refine r_step rfl rfl rfl ?_
    refine r_step rfl rfl rfl ?_
    refine r_step rfl rfl rfl ?_
    refine r_step rfl rfl rfl ?_
    try dsimp only
    rw [na3]
    refine r_ild rfl rfl rfl (show i + 3 < E.2.2.1 by omega) (by omega) ?_
    refine r_brF rfl rfl ?_ ?_
    · exact q
    refine r_step rfl rfl rfl ?_
    refine r_step rfl rfl rfl ?_
    refine rF_call rfl rfl rfl rfl rfl rfl D ?_
    refine r_brT rfl rfl ?_ ?_
    · rfl
    exact K
theorem L_28 (hJ : J ≤ 600) (I : Iv J w.1 w.2.2.2) (hi : i + 4 < E.2.2.1) (hL : E.2.2.1 ≤ 2560) : Lw J i 1010 E w := by
  by_cases q : E.2.2.2 (i + 3) = 0
  · skip
    obtain ⟨v, w1, w2, C, D, I2⟩ := A_apart (E := E) I (E.2.2.2 (i + 1)) (E.2.2.2 (i + 2)) 0
    refine ⟨w2, I2, fun r h' K => ?_⟩
    refine r_step rfl rfl rfl ?_
    refine r_step rfl rfl rfl ?_
    refine r_step rfl rfl rfl ?_
    refine r_step rfl rfl rfl ?_
    refine r_step rfl rfl rfl ?_
    try dsimp only
    rw [na1]
    refine r_ild rfl rfl rfl (show i + 1 < E.2.2.1 by omega) (by omega) ?_
    refine r_step rfl rfl rfl ?_
    refine r_step rfl rfl rfl ?_
    refine r_step rfl rfl rfl ?_
    refine r_step rfl rfl rfl ?_
    try dsimp only
    rw [na2]
    refine r_ild rfl rfl rfl (show i + 2 < E.2.2.1 by omega) (by omega) ?_
    refine r_step rfl rfl rfl ?_
    refine r_step rfl rfl rfl ?_
    refine r_step rfl rfl rfl ?_
    refine r_step rfl rfl rfl ?_
    try dsimp only
    rw [na3]
    refine r_ild rfl rfl rfl (show i + 3 < E.2.2.1 by omega) (by omega) ?_
    refine r_brT rfl rfl ?_ ?_
    · exact q
    refine r_step rfl rfl rfl ?_
    refine wH_call rfl rfl rfl rfl rfl C ?_
    refine r_step rfl rfl rfl ?_
    refine r_step rfl rfl rfl ?_
    refine r_step rfl rfl rfl ?_
    refine r_step rfl rfl rfl ?_
    refine r_step rfl rfl rfl ?_
    try dsimp only
    rw [na1]
    refine r_ild rfl rfl rfl (show i + 1 < E.2.2.1 by omega) (by omega) ?_
    refine r_step rfl rfl rfl ?_
    refine r_step rfl rfl rfl ?_
    refine r_step rfl rfl rfl ?_
    refine r_step rfl rfl rfl ?_
    try dsimp only
    rw [na2]
    refine r_ild rfl rfl rfl (show i + 2 < E.2.2.1 by omega) (by omega) ?_
    refine r_step rfl rfl rfl ?_
    refine r_step rfl rfl rfl ?_
    refine r_step rfl rfl rfl ?_
    refine r_step rfl rfl rfl ?_
    try dsimp only
    rw [na3]
    refine r_ild rfl rfl rfl (show i + 3 < E.2.2.1 by omega) (by omega) ?_
    refine r_brT rfl rfl ?_ ?_
    · exact q
    refine r_step rfl rfl rfl ?_
    refine rF_call rfl rfl rfl rfl rfl rfl D ?_
    refine r_brT rfl rfl ?_ ?_
    · rfl
    exact K
  · skip
    obtain ⟨v, w1, w2, C, D, I2⟩ := A_apart (E := E) I (E.2.2.2 (i + 1)) (E.2.2.2 (i + 2)) 1
    refine ⟨w2, I2, fun r h' K => ?_⟩
    refine r_step rfl rfl rfl ?_
    refine r_step rfl rfl rfl ?_
    refine r_step rfl rfl rfl ?_
    refine r_step rfl rfl rfl ?_
    refine r_step rfl rfl rfl ?_
    try dsimp only
    rw [na1]
    refine r_ild rfl rfl rfl (show i + 1 < E.2.2.1 by omega) (by omega) ?_
    refine r_step rfl rfl rfl ?_
    refine r_step rfl rfl rfl ?_
    refine r_step rfl rfl rfl ?_
    refine r_step rfl rfl rfl ?_
    try dsimp only
    rw [na2]
    refine r_ild rfl rfl rfl (show i + 2 < E.2.2.1 by omega) (by omega) ?_
    refine r_step rfl rfl rfl ?_
    refine r_step rfl rfl rfl ?_
    refine r_step rfl rfl rfl ?_
    refine r_step rfl rfl rfl ?_
    try dsimp only
    rw [na3]
    refine r_ild rfl rfl rfl (show i + 3 < E.2.2.1 by omega) (by omega) ?_
    refine r_brF rfl rfl ?_ ?_
    · exact q
    refine r_step rfl rfl rfl ?_
    refine r_step rfl rfl rfl ?_
    refine wH_call rfl rfl rfl rfl rfl C ?_
    refine r_step rfl rfl rfl ?_
    refine r_step rfl rfl rfl ?_
    refine r_step rfl rfl rfl ?_
    refine r_step rfl rfl rfl ?_
    refine r_step rfl rfl rfl ?_
    try dsimp only
    rw [na1]
    refine r_ild rfl rfl rfl (show i + 1 < E.2.2.1 by omega) (by omega) ?_
    refine r_step rfl rfl rfl ?_
    refine r_step rfl rfl rfl ?_
    refine r_step rfl rfl rfl ?_
    refine r_step rfl rfl rfl ?_
    try dsimp only
    rw [na2]
    refine r_ild rfl rfl rfl (show i + 2 < E.2.2.1 by omega) (by omega) ?_
    refine r_step rfl rfl rfl ?_
    refine r_step rfl rfl rfl ?_
    refine r_step rfl rfl rfl ?_
    refine r_step rfl rfl rfl ?_
    try dsimp only
    rw [na3]
    refine r_ild rfl rfl rfl (show i + 3 < E.2.2.1 by omega) (by omega) ?_
    refine r_brF rfl rfl ?_ ?_
    · exact q
    refine r_step rfl rfl rfl ?_
    refine r_step rfl rfl rfl ?_
    refine rF_call rfl rfl rfl rfl rfl rfl D ?_
    refine r_brT rfl rfl ?_ ?_
    · rfl
    exact K
theorem L_29 (hJ : J ≤ 600) (I : Iv J w.1 w.2.2.2) (hi : i + 4 < E.2.2.1) (hL : E.2.2.1 ≤ 2560) : Lw J i 1055 E w := by
  obtain ⟨v, w1, w2, C, D, I2⟩ := A_exact (E := E) I (E.2.2.2 (i + 1)) (E.2.2.2 (i + 2))
  refine ⟨w2, I2, fun r h' K => ?_⟩
  refine r_step rfl rfl rfl ?_
  refine r_step rfl rfl rfl ?_
  refine r_step rfl rfl rfl ?_
  refine r_step rfl rfl rfl ?_
  refine r_step rfl rfl rfl ?_
  try dsimp only
  rw [na1]
  refine r_ild rfl rfl rfl (show i + 1 < E.2.2.1 by omega) (by omega) ?_
  refine r_step rfl rfl rfl ?_
  refine r_step rfl rfl rfl ?_
  refine r_step rfl rfl rfl ?_
  refine r_step rfl rfl rfl ?_
  try dsimp only
  rw [na2]
  refine r_ild rfl rfl rfl (show i + 2 < E.2.2.1 by omega) (by omega) ?_
  refine wH_call rfl rfl rfl rfl rfl C ?_
  refine r_step rfl rfl rfl ?_
  refine r_step rfl rfl rfl ?_
  refine r_step rfl rfl rfl ?_
  refine r_step rfl rfl rfl ?_
  refine r_step rfl rfl rfl ?_
  try dsimp only
  rw [na1]
  refine r_ild rfl rfl rfl (show i + 1 < E.2.2.1 by omega) (by omega) ?_
  refine r_step rfl rfl rfl ?_
  refine r_step rfl rfl rfl ?_
  refine r_step rfl rfl rfl ?_
  refine r_step rfl rfl rfl ?_
  try dsimp only
  rw [na2]
  refine r_ild rfl rfl rfl (show i + 2 < E.2.2.1 by omega) (by omega) ?_
  refine rF_call rfl rfl rfl rfl rfl rfl D ?_
  refine r_brT rfl rfl ?_ ?_
  · rfl
  exact K
theorem L_30 (hJ : J ≤ 600) (I : Iv J w.1 w.2.2.2) (hi : i + 4 < E.2.2.1) (hL : E.2.2.1 ≤ 2560) : Lw J i 1082 E w := by
  obtain ⟨v, w1, w2, C, D, I2⟩ := A_clear (E := E) I (E.2.2.2 (i + 1))
  refine ⟨w2, I2, fun r h' K => ?_⟩
  refine r_step rfl rfl rfl ?_
  refine r_step rfl rfl rfl ?_
  refine r_step rfl rfl rfl ?_
  refine r_step rfl rfl rfl ?_
  refine r_step rfl rfl rfl ?_
  try dsimp only
  rw [na1]
  refine r_ild rfl rfl rfl (show i + 1 < E.2.2.1 by omega) (by omega) ?_
  refine wH_call rfl rfl rfl rfl rfl C ?_
  refine r_step rfl rfl rfl ?_
  refine r_step rfl rfl rfl ?_
  refine r_step rfl rfl rfl ?_
  refine r_step rfl rfl rfl ?_
  refine r_step rfl rfl rfl ?_
  try dsimp only
  rw [na1]
  refine r_ild rfl rfl rfl (show i + 1 < E.2.2.1 by omega) (by omega) ?_
  refine rF_call rfl rfl rfl rfl rfl rfl D ?_
  refine r_brT rfl rfl ?_ ?_
  · rfl
  exact K
theorem L_31 (hJ : J ≤ 600) (I : Iv J w.1 w.2.2.2) (hi : i + 4 < E.2.2.1) (hL : E.2.2.1 ≤ 2560) : Lw J i 1099 E w := by
  obtain ⟨v, w1, w2, C, D, I2⟩ := A_lasts (E := E) hJ I (E.2.2.2 (i + 1)) (E.2.2.2 (i + 2)) (E.2.2.2 (i + 3))
  refine ⟨w2, I2, fun r h' K => ?_⟩
  refine r_step rfl rfl rfl ?_
  refine r_step rfl rfl rfl ?_
  refine r_step rfl rfl rfl ?_
  refine r_step rfl rfl rfl ?_
  refine r_step rfl rfl rfl ?_
  try dsimp only
  rw [na1]
  refine r_ild rfl rfl rfl (show i + 1 < E.2.2.1 by omega) (by omega) ?_
  refine r_step rfl rfl rfl ?_
  refine r_step rfl rfl rfl ?_
  refine r_step rfl rfl rfl ?_
  refine r_step rfl rfl rfl ?_
  try dsimp only
  rw [na2]
  refine r_ild rfl rfl rfl (show i + 2 < E.2.2.1 by omega) (by omega) ?_
  refine r_step rfl rfl rfl ?_
  refine r_step rfl rfl rfl ?_
  refine r_step rfl rfl rfl ?_
  refine r_step rfl rfl rfl ?_
  try dsimp only
  rw [na3]
  refine r_ild rfl rfl rfl (show i + 3 < E.2.2.1 by omega) (by omega) ?_
  refine wH_call rfl rfl rfl rfl rfl C ?_
  refine r_step rfl rfl rfl ?_
  refine r_step rfl rfl rfl ?_
  refine r_step rfl rfl rfl ?_
  refine r_step rfl rfl rfl ?_
  refine r_step rfl rfl rfl ?_
  try dsimp only
  rw [na1]
  refine r_ild rfl rfl rfl (show i + 1 < E.2.2.1 by omega) (by omega) ?_
  refine r_step rfl rfl rfl ?_
  refine r_step rfl rfl rfl ?_
  refine r_step rfl rfl rfl ?_
  refine r_step rfl rfl rfl ?_
  try dsimp only
  rw [na2]
  refine r_ild rfl rfl rfl (show i + 2 < E.2.2.1 by omega) (by omega) ?_
  refine r_step rfl rfl rfl ?_
  refine r_step rfl rfl rfl ?_
  refine r_step rfl rfl rfl ?_
  refine r_step rfl rfl rfl ?_
  try dsimp only
  rw [na3]
  refine r_ild rfl rfl rfl (show i + 3 < E.2.2.1 by omega) (by omega) ?_
  refine rF_call rfl rfl rfl rfl rfl rfl D ?_
  refine r_brT rfl rfl ?_ ?_
  · rfl
  exact K
theorem L_32 (hJ : J ≤ 600) (I : Iv J w.1 w.2.2.2) (hi : i + 4 < E.2.2.1) (hL : E.2.2.1 ≤ 2560) : Lw J i 1136 E w := by
  obtain ⟨v, w1, w2, C, D, I2⟩ := A_trial (E := E) hJ I (E.2.2.2 (i + 1)) (E.2.2.2 (i + 2)) (E.2.2.2 (i + 3)) (E.2.2.2 (i + 4))
  refine ⟨w2, I2, fun r h' K => ?_⟩
  refine r_step rfl rfl rfl ?_
  refine r_step rfl rfl rfl ?_
  refine r_step rfl rfl rfl ?_
  refine r_step rfl rfl rfl ?_
  refine r_step rfl rfl rfl ?_
  try dsimp only
  rw [na1]
  refine r_ild rfl rfl rfl (show i + 1 < E.2.2.1 by omega) (by omega) ?_
  refine r_step rfl rfl rfl ?_
  refine r_step rfl rfl rfl ?_
  refine r_step rfl rfl rfl ?_
  refine r_step rfl rfl rfl ?_
  try dsimp only
  rw [na2]
  refine r_ild rfl rfl rfl (show i + 2 < E.2.2.1 by omega) (by omega) ?_
  refine r_step rfl rfl rfl ?_
  refine r_step rfl rfl rfl ?_
  refine r_step rfl rfl rfl ?_
  refine r_step rfl rfl rfl ?_
  try dsimp only
  rw [na3]
  refine r_ild rfl rfl rfl (show i + 3 < E.2.2.1 by omega) (by omega) ?_
  refine r_step rfl rfl rfl ?_
  refine r_step rfl rfl rfl ?_
  refine r_step rfl rfl rfl ?_
  refine r_step rfl rfl rfl ?_
  try dsimp only
  rw [na4]
  refine r_ild rfl rfl rfl (show i + 4 < E.2.2.1 by omega) (by omega) ?_
  refine wH_call rfl rfl rfl rfl rfl C ?_
  refine r_step rfl rfl rfl ?_
  refine r_step rfl rfl rfl ?_
  refine r_step rfl rfl rfl ?_
  refine r_step rfl rfl rfl ?_
  refine r_step rfl rfl rfl ?_
  try dsimp only
  rw [na1]
  refine r_ild rfl rfl rfl (show i + 1 < E.2.2.1 by omega) (by omega) ?_
  refine r_step rfl rfl rfl ?_
  refine r_step rfl rfl rfl ?_
  refine r_step rfl rfl rfl ?_
  refine r_step rfl rfl rfl ?_
  try dsimp only
  rw [na2]
  refine r_ild rfl rfl rfl (show i + 2 < E.2.2.1 by omega) (by omega) ?_
  refine r_step rfl rfl rfl ?_
  refine r_step rfl rfl rfl ?_
  refine r_step rfl rfl rfl ?_
  refine r_step rfl rfl rfl ?_
  try dsimp only
  rw [na3]
  refine r_ild rfl rfl rfl (show i + 3 < E.2.2.1 by omega) (by omega) ?_
  refine r_step rfl rfl rfl ?_
  refine r_step rfl rfl rfl ?_
  refine r_step rfl rfl rfl ?_
  refine r_step rfl rfl rfl ?_
  try dsimp only
  rw [na4]
  refine r_ild rfl rfl rfl (show i + 4 < E.2.2.1 by omega) (by omega) ?_
  refine rF_call rfl rfl rfl rfl rfl rfl D ?_
  refine r_brT rfl rfl ?_ ?_
  · rfl
  exact K
theorem L_33 (hJ : J ≤ 600) (I : Iv J w.1 w.2.2.2) (hi : i + 4 < E.2.2.1) (hL : E.2.2.1 ≤ 2560) : Lw J i 1183 E w := by
  obtain ⟨v, w1, w2, C, D, I2⟩ := A_only (E := E) I (E.2.2.2 (i + 1)) (E.2.2.2 (i + 2)) (E.2.2.2 (i + 3))
  refine ⟨w2, I2, fun r h' K => ?_⟩
  refine r_step rfl rfl rfl ?_
  refine r_step rfl rfl rfl ?_
  refine r_step rfl rfl rfl ?_
  refine r_step rfl rfl rfl ?_
  refine r_step rfl rfl rfl ?_
  try dsimp only
  rw [na1]
  refine r_ild rfl rfl rfl (show i + 1 < E.2.2.1 by omega) (by omega) ?_
  refine r_step rfl rfl rfl ?_
  refine r_step rfl rfl rfl ?_
  refine r_step rfl rfl rfl ?_
  refine r_step rfl rfl rfl ?_
  try dsimp only
  rw [na2]
  refine r_ild rfl rfl rfl (show i + 2 < E.2.2.1 by omega) (by omega) ?_
  refine r_step rfl rfl rfl ?_
  refine r_step rfl rfl rfl ?_
  refine r_step rfl rfl rfl ?_
  refine r_step rfl rfl rfl ?_
  try dsimp only
  rw [na3]
  refine r_ild rfl rfl rfl (show i + 3 < E.2.2.1 by omega) (by omega) ?_
  refine wH_call rfl rfl rfl rfl rfl C ?_
  refine r_step rfl rfl rfl ?_
  refine r_step rfl rfl rfl ?_
  refine r_step rfl rfl rfl ?_
  refine r_step rfl rfl rfl ?_
  refine r_step rfl rfl rfl ?_
  try dsimp only
  rw [na1]
  refine r_ild rfl rfl rfl (show i + 1 < E.2.2.1 by omega) (by omega) ?_
  refine r_step rfl rfl rfl ?_
  refine r_step rfl rfl rfl ?_
  refine r_step rfl rfl rfl ?_
  refine r_step rfl rfl rfl ?_
  try dsimp only
  rw [na2]
  refine r_ild rfl rfl rfl (show i + 2 < E.2.2.1 by omega) (by omega) ?_
  refine r_step rfl rfl rfl ?_
  refine r_step rfl rfl rfl ?_
  refine r_step rfl rfl rfl ?_
  refine r_step rfl rfl rfl ?_
  try dsimp only
  rw [na3]
  refine r_ild rfl rfl rfl (show i + 3 < E.2.2.1 by omega) (by omega) ?_
  refine rF_call rfl rfl rfl rfl rfl rfl D ?_
  refine r_brT rfl rfl ?_ ?_
  · rfl
  exact K
theorem L_34 (hJ : J ≤ 600) (I : Iv J w.1 w.2.2.2) (hi : i + 4 < E.2.2.1) (hL : E.2.2.1 ≤ 2560) : Lw J i 1220 E w := by
  obtain ⟨v, w1, w2, C, D, I2⟩ := A_off (E := E) I (E.2.2.2 (i + 1)) (E.2.2.2 (i + 2))
  refine ⟨w2, I2, fun r h' K => ?_⟩
  refine r_step rfl rfl rfl ?_
  refine r_step rfl rfl rfl ?_
  refine r_step rfl rfl rfl ?_
  refine r_step rfl rfl rfl ?_
  refine r_step rfl rfl rfl ?_
  try dsimp only
  rw [na1]
  refine r_ild rfl rfl rfl (show i + 1 < E.2.2.1 by omega) (by omega) ?_
  refine r_step rfl rfl rfl ?_
  refine r_step rfl rfl rfl ?_
  refine r_step rfl rfl rfl ?_
  refine r_step rfl rfl rfl ?_
  try dsimp only
  rw [na2]
  refine r_ild rfl rfl rfl (show i + 2 < E.2.2.1 by omega) (by omega) ?_
  refine wH_call rfl rfl rfl rfl rfl C ?_
  refine r_step rfl rfl rfl ?_
  refine r_step rfl rfl rfl ?_
  refine r_step rfl rfl rfl ?_
  refine r_step rfl rfl rfl ?_
  refine r_step rfl rfl rfl ?_
  try dsimp only
  rw [na1]
  refine r_ild rfl rfl rfl (show i + 1 < E.2.2.1 by omega) (by omega) ?_
  refine r_step rfl rfl rfl ?_
  refine r_step rfl rfl rfl ?_
  refine r_step rfl rfl rfl ?_
  refine r_step rfl rfl rfl ?_
  try dsimp only
  rw [na2]
  refine r_ild rfl rfl rfl (show i + 2 < E.2.2.1 by omega) (by omega) ?_
  refine rF_call rfl rfl rfl rfl rfl rfl D ?_
  refine r_brT rfl rfl ?_ ?_
  · rfl
  exact K
theorem L_35 (hJ : J ≤ 600) (I : Iv J w.1 w.2.2.2) (hi : i + 4 < E.2.2.1) (hL : E.2.2.1 ≤ 2560) : Lw J i 1247 E w := by
  obtain ⟨v, w1, w2, C, D, I2⟩ := A_truest (E := E) I (E.2.2.2 (i + 1)) (E.2.2.2 (i + 2)) (E.2.2.2 (i + 3))
  refine ⟨w2, I2, fun r h' K => ?_⟩
  refine r_step rfl rfl rfl ?_
  refine r_step rfl rfl rfl ?_
  refine r_step rfl rfl rfl ?_
  refine r_step rfl rfl rfl ?_
  refine r_step rfl rfl rfl ?_
  try dsimp only
  rw [na1]
  refine r_ild rfl rfl rfl (show i + 1 < E.2.2.1 by omega) (by omega) ?_
  refine r_step rfl rfl rfl ?_
  refine r_step rfl rfl rfl ?_
  refine r_step rfl rfl rfl ?_
  refine r_step rfl rfl rfl ?_
  try dsimp only
  rw [na2]
  refine r_ild rfl rfl rfl (show i + 2 < E.2.2.1 by omega) (by omega) ?_
  refine r_step rfl rfl rfl ?_
  refine r_step rfl rfl rfl ?_
  refine r_step rfl rfl rfl ?_
  refine r_step rfl rfl rfl ?_
  try dsimp only
  rw [na3]
  refine r_ild rfl rfl rfl (show i + 3 < E.2.2.1 by omega) (by omega) ?_
  refine wH_call rfl rfl rfl rfl rfl C ?_
  refine r_step rfl rfl rfl ?_
  refine r_step rfl rfl rfl ?_
  refine r_step rfl rfl rfl ?_
  refine r_step rfl rfl rfl ?_
  refine r_step rfl rfl rfl ?_
  try dsimp only
  rw [na1]
  refine r_ild rfl rfl rfl (show i + 1 < E.2.2.1 by omega) (by omega) ?_
  refine r_step rfl rfl rfl ?_
  refine r_step rfl rfl rfl ?_
  refine r_step rfl rfl rfl ?_
  refine r_step rfl rfl rfl ?_
  try dsimp only
  rw [na2]
  refine r_ild rfl rfl rfl (show i + 2 < E.2.2.1 by omega) (by omega) ?_
  refine r_step rfl rfl rfl ?_
  refine r_step rfl rfl rfl ?_
  refine r_step rfl rfl rfl ?_
  refine r_step rfl rfl rfl ?_
  try dsimp only
  rw [na3]
  refine r_ild rfl rfl rfl (show i + 3 < E.2.2.1 by omega) (by omega) ?_
  refine rF_call rfl rfl rfl rfl rfl rfl D ?_
  refine r_brT rfl rfl ?_ ?_
  · rfl
  exact K
theorem L_36 (hJ : J ≤ 600) (I : Iv J w.1 w.2.2.2) (hi : i + 4 < E.2.2.1) (hL : E.2.2.1 ≤ 2560) : Lw J i 1284 E w := by
  obtain ⟨v, w1, w2, C, D, I2⟩ := A_judge (E := E) I (E.2.2.2 (i + 1)) (E.2.2.2 (i + 2)) (E.2.2.2 (i + 3))
  refine ⟨w2, I2, fun r h' K => ?_⟩
  refine r_step rfl rfl rfl ?_
  refine r_step rfl rfl rfl ?_
  refine r_step rfl rfl rfl ?_
  refine r_step rfl rfl rfl ?_
  refine r_step rfl rfl rfl ?_
  try dsimp only
  rw [na1]
  refine r_ild rfl rfl rfl (show i + 1 < E.2.2.1 by omega) (by omega) ?_
  refine r_step rfl rfl rfl ?_
  refine r_step rfl rfl rfl ?_
  refine r_step rfl rfl rfl ?_
  refine r_step rfl rfl rfl ?_
  try dsimp only
  rw [na2]
  refine r_ild rfl rfl rfl (show i + 2 < E.2.2.1 by omega) (by omega) ?_
  refine r_step rfl rfl rfl ?_
  refine r_step rfl rfl rfl ?_
  refine r_step rfl rfl rfl ?_
  refine r_step rfl rfl rfl ?_
  try dsimp only
  rw [na3]
  refine r_ild rfl rfl rfl (show i + 3 < E.2.2.1 by omega) (by omega) ?_
  refine wH_call rfl rfl rfl rfl rfl C ?_
  refine r_step rfl rfl rfl ?_
  refine r_step rfl rfl rfl ?_
  refine r_step rfl rfl rfl ?_
  refine r_step rfl rfl rfl ?_
  refine r_step rfl rfl rfl ?_
  try dsimp only
  rw [na1]
  refine r_ild rfl rfl rfl (show i + 1 < E.2.2.1 by omega) (by omega) ?_
  refine r_step rfl rfl rfl ?_
  refine r_step rfl rfl rfl ?_
  refine r_step rfl rfl rfl ?_
  refine r_step rfl rfl rfl ?_
  try dsimp only
  rw [na2]
  refine r_ild rfl rfl rfl (show i + 2 < E.2.2.1 by omega) (by omega) ?_
  refine r_step rfl rfl rfl ?_
  refine r_step rfl rfl rfl ?_
  refine r_step rfl rfl rfl ?_
  refine r_step rfl rfl rfl ?_
  try dsimp only
  rw [na3]
  refine r_ild rfl rfl rfl (show i + 3 < E.2.2.1 by omega) (by omega) ?_
  refine rF_call rfl rfl rfl rfl rfl rfl D ?_
  refine r_brT rfl rfl ?_ ?_
  · rfl
  exact K
theorem L_37 (hJ : J ≤ 600) (I : Iv J w.1 w.2.2.2) (hi : i + 4 < E.2.2.1) (hL : E.2.2.1 ≤ 2560) : Lw J i 1321 E w := by
  obtain ⟨v, w1, w2, C, D, I2⟩ := A_node (E := E) I (E.2.2.2 (i + 1)) (E.2.2.2 (i + 2)) (E.2.2.2 (i + 3)) (E.2.2.2 (i + 4))
  refine ⟨w2, I2, fun r h' K => ?_⟩
  refine r_step rfl rfl rfl ?_
  refine r_step rfl rfl rfl ?_
  refine r_step rfl rfl rfl ?_
  refine r_step rfl rfl rfl ?_
  refine r_step rfl rfl rfl ?_
  try dsimp only
  rw [na1]
  refine r_ild rfl rfl rfl (show i + 1 < E.2.2.1 by omega) (by omega) ?_
  refine r_step rfl rfl rfl ?_
  refine r_step rfl rfl rfl ?_
  refine r_step rfl rfl rfl ?_
  refine r_step rfl rfl rfl ?_
  try dsimp only
  rw [na2]
  refine r_ild rfl rfl rfl (show i + 2 < E.2.2.1 by omega) (by omega) ?_
  refine r_step rfl rfl rfl ?_
  refine r_step rfl rfl rfl ?_
  refine r_step rfl rfl rfl ?_
  refine r_step rfl rfl rfl ?_
  try dsimp only
  rw [na3]
  refine r_ild rfl rfl rfl (show i + 3 < E.2.2.1 by omega) (by omega) ?_
  refine r_step rfl rfl rfl ?_
  refine r_step rfl rfl rfl ?_
  refine r_step rfl rfl rfl ?_
  refine r_step rfl rfl rfl ?_
  try dsimp only
  rw [na4]
  refine r_ild rfl rfl rfl (show i + 4 < E.2.2.1 by omega) (by omega) ?_
  refine wH_call rfl rfl rfl rfl rfl C ?_
  refine r_step rfl rfl rfl ?_
  refine r_step rfl rfl rfl ?_
  refine r_step rfl rfl rfl ?_
  refine r_step rfl rfl rfl ?_
  refine r_step rfl rfl rfl ?_
  try dsimp only
  rw [na1]
  refine r_ild rfl rfl rfl (show i + 1 < E.2.2.1 by omega) (by omega) ?_
  refine r_step rfl rfl rfl ?_
  refine r_step rfl rfl rfl ?_
  refine r_step rfl rfl rfl ?_
  refine r_step rfl rfl rfl ?_
  try dsimp only
  rw [na2]
  refine r_ild rfl rfl rfl (show i + 2 < E.2.2.1 by omega) (by omega) ?_
  refine r_step rfl rfl rfl ?_
  refine r_step rfl rfl rfl ?_
  refine r_step rfl rfl rfl ?_
  refine r_step rfl rfl rfl ?_
  try dsimp only
  rw [na3]
  refine r_ild rfl rfl rfl (show i + 3 < E.2.2.1 by omega) (by omega) ?_
  refine r_step rfl rfl rfl ?_
  refine r_step rfl rfl rfl ?_
  refine r_step rfl rfl rfl ?_
  refine r_step rfl rfl rfl ?_
  try dsimp only
  rw [na4]
  refine r_ild rfl rfl rfl (show i + 4 < E.2.2.1 by omega) (by omega) ?_
  refine rF_call rfl rfl rfl rfl rfl rfl D ?_
  refine r_brT rfl rfl ?_ ?_
  · rfl
  exact K
theorem L_38 (hJ : J ≤ 600) (I : Iv J w.1 w.2.2.2) (hi : i + 4 < E.2.2.1) (hL : E.2.2.1 ≤ 2560) : Lw J i 1368 E w := by
  obtain ⟨v, w1, w2, C, D, I2⟩ := A_own (E := E) I (E.2.2.2 (i + 1)) (E.2.2.2 (i + 2)) (E.2.2.2 (i + 3)) (E.2.2.2 (i + 4))
  refine ⟨w2, I2, fun r h' K => ?_⟩
  refine r_step rfl rfl rfl ?_
  refine r_step rfl rfl rfl ?_
  refine r_step rfl rfl rfl ?_
  refine r_step rfl rfl rfl ?_
  refine r_step rfl rfl rfl ?_
  try dsimp only
  rw [na1]
  refine r_ild rfl rfl rfl (show i + 1 < E.2.2.1 by omega) (by omega) ?_
  refine r_step rfl rfl rfl ?_
  refine r_step rfl rfl rfl ?_
  refine r_step rfl rfl rfl ?_
  refine r_step rfl rfl rfl ?_
  try dsimp only
  rw [na2]
  refine r_ild rfl rfl rfl (show i + 2 < E.2.2.1 by omega) (by omega) ?_
  refine r_step rfl rfl rfl ?_
  refine r_step rfl rfl rfl ?_
  refine r_step rfl rfl rfl ?_
  refine r_step rfl rfl rfl ?_
  try dsimp only
  rw [na3]
  refine r_ild rfl rfl rfl (show i + 3 < E.2.2.1 by omega) (by omega) ?_
  refine r_step rfl rfl rfl ?_
  refine r_step rfl rfl rfl ?_
  refine r_step rfl rfl rfl ?_
  refine r_step rfl rfl rfl ?_
  try dsimp only
  rw [na4]
  refine r_ild rfl rfl rfl (show i + 4 < E.2.2.1 by omega) (by omega) ?_
  refine wH_call rfl rfl rfl rfl rfl C ?_
  refine r_step rfl rfl rfl ?_
  refine r_step rfl rfl rfl ?_
  refine r_step rfl rfl rfl ?_
  refine r_step rfl rfl rfl ?_
  refine r_step rfl rfl rfl ?_
  try dsimp only
  rw [na1]
  refine r_ild rfl rfl rfl (show i + 1 < E.2.2.1 by omega) (by omega) ?_
  refine r_step rfl rfl rfl ?_
  refine r_step rfl rfl rfl ?_
  refine r_step rfl rfl rfl ?_
  refine r_step rfl rfl rfl ?_
  try dsimp only
  rw [na2]
  refine r_ild rfl rfl rfl (show i + 2 < E.2.2.1 by omega) (by omega) ?_
  refine r_step rfl rfl rfl ?_
  refine r_step rfl rfl rfl ?_
  refine r_step rfl rfl rfl ?_
  refine r_step rfl rfl rfl ?_
  try dsimp only
  rw [na3]
  refine r_ild rfl rfl rfl (show i + 3 < E.2.2.1 by omega) (by omega) ?_
  refine r_step rfl rfl rfl ?_
  refine r_step rfl rfl rfl ?_
  refine r_step rfl rfl rfl ?_
  refine r_step rfl rfl rfl ?_
  try dsimp only
  rw [na4]
  refine r_ild rfl rfl rfl (show i + 4 < E.2.2.1 by omega) (by omega) ?_
  refine rF_call rfl rfl rfl rfl rfl rfl D ?_
  refine r_brT rfl rfl ?_ ?_
  · rfl
  exact K
theorem L_39 (hJ : J ≤ 600) (I : Iv J w.1 w.2.2.2) (hi : i + 4 < E.2.2.1) (hL : E.2.2.1 ≤ 2560) : Lw J i 1415 E w := by
  obtain ⟨v, w1, w2, C, D, I2⟩ := A_leading (E := E) I (E.2.2.2 (i + 1)) (E.2.2.2 (i + 2)) (E.2.2.2 (i + 3)) (E.2.2.2 (i + 4))
  refine ⟨w2, I2, fun r h' K => ?_⟩
  refine r_step rfl rfl rfl ?_
  refine r_step rfl rfl rfl ?_
  refine r_step rfl rfl rfl ?_
  refine r_step rfl rfl rfl ?_
  refine r_step rfl rfl rfl ?_
  try dsimp only
  rw [na1]
  refine r_ild rfl rfl rfl (show i + 1 < E.2.2.1 by omega) (by omega) ?_
  refine r_step rfl rfl rfl ?_
  refine r_step rfl rfl rfl ?_
  refine r_step rfl rfl rfl ?_
  refine r_step rfl rfl rfl ?_
  try dsimp only
  rw [na2]
  refine r_ild rfl rfl rfl (show i + 2 < E.2.2.1 by omega) (by omega) ?_
  refine r_step rfl rfl rfl ?_
  refine r_step rfl rfl rfl ?_
  refine r_step rfl rfl rfl ?_
  refine r_step rfl rfl rfl ?_
  try dsimp only
  rw [na3]
  refine r_ild rfl rfl rfl (show i + 3 < E.2.2.1 by omega) (by omega) ?_
  refine r_step rfl rfl rfl ?_
  refine r_step rfl rfl rfl ?_
  refine r_step rfl rfl rfl ?_
  refine r_step rfl rfl rfl ?_
  try dsimp only
  rw [na4]
  refine r_ild rfl rfl rfl (show i + 4 < E.2.2.1 by omega) (by omega) ?_
  refine wH_call rfl rfl rfl rfl rfl C ?_
  refine r_step rfl rfl rfl ?_
  refine r_step rfl rfl rfl ?_
  refine r_step rfl rfl rfl ?_
  refine r_step rfl rfl rfl ?_
  refine r_step rfl rfl rfl ?_
  try dsimp only
  rw [na1]
  refine r_ild rfl rfl rfl (show i + 1 < E.2.2.1 by omega) (by omega) ?_
  refine r_step rfl rfl rfl ?_
  refine r_step rfl rfl rfl ?_
  refine r_step rfl rfl rfl ?_
  refine r_step rfl rfl rfl ?_
  try dsimp only
  rw [na2]
  refine r_ild rfl rfl rfl (show i + 2 < E.2.2.1 by omega) (by omega) ?_
  refine r_step rfl rfl rfl ?_
  refine r_step rfl rfl rfl ?_
  refine r_step rfl rfl rfl ?_
  refine r_step rfl rfl rfl ?_
  try dsimp only
  rw [na3]
  refine r_ild rfl rfl rfl (show i + 3 < E.2.2.1 by omega) (by omega) ?_
  refine r_step rfl rfl rfl ?_
  refine r_step rfl rfl rfl ?_
  refine r_step rfl rfl rfl ?_
  refine r_step rfl rfl rfl ?_
  try dsimp only
  rw [na4]
  refine r_ild rfl rfl rfl (show i + 4 < E.2.2.1 by omega) (by omega) ?_
  refine rF_call rfl rfl rfl rfl rfl rfl D ?_
  refine r_brT rfl rfl ?_ ?_
  · rfl
  exact K
theorem L_40 (hJ : J ≤ 600) (I : Iv J w.1 w.2.2.2) (hi : i + 4 < E.2.2.1) (hL : E.2.2.1 ≤ 2560) : Lw J i 1462 E w := by
  obtain ⟨v, w1, w2, C, D, I2⟩ := A_window (E := E) I (E.2.2.2 (i + 1)) (E.2.2.2 (i + 2)) (E.2.2.2 (i + 3))
  refine ⟨w2, I2, fun r h' K => ?_⟩
  refine r_step rfl rfl rfl ?_
  refine r_step rfl rfl rfl ?_
  refine r_step rfl rfl rfl ?_
  refine r_step rfl rfl rfl ?_
  refine r_step rfl rfl rfl ?_
  try dsimp only
  rw [na1]
  refine r_ild rfl rfl rfl (show i + 1 < E.2.2.1 by omega) (by omega) ?_
  refine r_step rfl rfl rfl ?_
  refine r_step rfl rfl rfl ?_
  refine r_step rfl rfl rfl ?_
  refine r_step rfl rfl rfl ?_
  try dsimp only
  rw [na2]
  refine r_ild rfl rfl rfl (show i + 2 < E.2.2.1 by omega) (by omega) ?_
  refine r_step rfl rfl rfl ?_
  refine r_step rfl rfl rfl ?_
  refine r_step rfl rfl rfl ?_
  refine r_step rfl rfl rfl ?_
  try dsimp only
  rw [na3]
  refine r_ild rfl rfl rfl (show i + 3 < E.2.2.1 by omega) (by omega) ?_
  refine wH_call rfl rfl rfl rfl rfl C ?_
  refine r_step rfl rfl rfl ?_
  refine r_step rfl rfl rfl ?_
  refine r_step rfl rfl rfl ?_
  refine r_step rfl rfl rfl ?_
  refine r_step rfl rfl rfl ?_
  try dsimp only
  rw [na1]
  refine r_ild rfl rfl rfl (show i + 1 < E.2.2.1 by omega) (by omega) ?_
  refine r_step rfl rfl rfl ?_
  refine r_step rfl rfl rfl ?_
  refine r_step rfl rfl rfl ?_
  refine r_step rfl rfl rfl ?_
  try dsimp only
  rw [na2]
  refine r_ild rfl rfl rfl (show i + 2 < E.2.2.1 by omega) (by omega) ?_
  refine r_step rfl rfl rfl ?_
  refine r_step rfl rfl rfl ?_
  refine r_step rfl rfl rfl ?_
  refine r_step rfl rfl rfl ?_
  try dsimp only
  rw [na3]
  refine r_ild rfl rfl rfl (show i + 3 < E.2.2.1 by omega) (by omega) ?_
  refine rF_call rfl rfl rfl rfl rfl rfl D ?_
  refine r_brT rfl rfl ?_ ?_
  · rfl
  exact K
theorem L_41 (hJ : J ≤ 600) (I : Iv J w.1 w.2.2.2) (hi : i + 4 < E.2.2.1) (hL : E.2.2.1 ≤ 2560) : Lw J i 1499 E w := by
  obtain ⟨v, w1, w2, C, D, I2⟩ := A_flow (E := E) hJ I (E.2.2.2 (i + 1)) (E.2.2.2 (i + 2)) (E.2.2.2 (i + 3))
  refine ⟨w2, I2, fun r h' K => ?_⟩
  refine r_step rfl rfl rfl ?_
  refine r_step rfl rfl rfl ?_
  refine r_step rfl rfl rfl ?_
  refine r_step rfl rfl rfl ?_
  refine r_step rfl rfl rfl ?_
  try dsimp only
  rw [na1]
  refine r_ild rfl rfl rfl (show i + 1 < E.2.2.1 by omega) (by omega) ?_
  refine r_step rfl rfl rfl ?_
  refine r_step rfl rfl rfl ?_
  refine r_step rfl rfl rfl ?_
  refine r_step rfl rfl rfl ?_
  try dsimp only
  rw [na2]
  refine r_ild rfl rfl rfl (show i + 2 < E.2.2.1 by omega) (by omega) ?_
  refine r_step rfl rfl rfl ?_
  refine r_step rfl rfl rfl ?_
  refine r_step rfl rfl rfl ?_
  refine r_step rfl rfl rfl ?_
  try dsimp only
  rw [na3]
  refine r_ild rfl rfl rfl (show i + 3 < E.2.2.1 by omega) (by omega) ?_
  refine wH_call rfl rfl rfl rfl rfl C ?_
  refine r_step rfl rfl rfl ?_
  refine r_step rfl rfl rfl ?_
  refine r_step rfl rfl rfl ?_
  refine r_step rfl rfl rfl ?_
  refine r_step rfl rfl rfl ?_
  try dsimp only
  rw [na1]
  refine r_ild rfl rfl rfl (show i + 1 < E.2.2.1 by omega) (by omega) ?_
  refine r_step rfl rfl rfl ?_
  refine r_step rfl rfl rfl ?_
  refine r_step rfl rfl rfl ?_
  refine r_step rfl rfl rfl ?_
  try dsimp only
  rw [na2]
  refine r_ild rfl rfl rfl (show i + 2 < E.2.2.1 by omega) (by omega) ?_
  refine r_step rfl rfl rfl ?_
  refine r_step rfl rfl rfl ?_
  refine r_step rfl rfl rfl ?_
  refine r_step rfl rfl rfl ?_
  try dsimp only
  rw [na3]
  refine r_ild rfl rfl rfl (show i + 3 < E.2.2.1 by omega) (by omega) ?_
  refine rF_call rfl rfl rfl rfl rfl rfl D ?_
  refine r_brT rfl rfl ?_ ?_
  · rfl
  exact K
theorem L_42 (hJ : J ≤ 600) (I : Iv J w.1 w.2.2.2) (hi : i + 4 < E.2.2.1) (hL : E.2.2.1 ≤ 2560) : Lw J i 1536 E w := by
  obtain ⟨v, w1, w2, C, D, I2⟩ := A_turn (E := E) I (E.2.2.2 (i + 1))
  refine ⟨w2, I2, fun r h' K => ?_⟩
  refine r_step rfl rfl rfl ?_
  refine r_step rfl rfl rfl ?_
  refine r_step rfl rfl rfl ?_
  refine r_step rfl rfl rfl ?_
  refine r_step rfl rfl rfl ?_
  try dsimp only
  rw [na1]
  refine r_ild rfl rfl rfl (show i + 1 < E.2.2.1 by omega) (by omega) ?_
  refine wH_call rfl rfl rfl rfl rfl C ?_
  refine r_step rfl rfl rfl ?_
  refine r_step rfl rfl rfl ?_
  refine r_step rfl rfl rfl ?_
  refine r_step rfl rfl rfl ?_
  refine r_step rfl rfl rfl ?_
  try dsimp only
  rw [na1]
  refine r_ild rfl rfl rfl (show i + 1 < E.2.2.1 by omega) (by omega) ?_
  refine rF_call rfl rfl rfl rfl rfl rfl D ?_
  refine r_brT rfl rfl ?_ ?_
  · rfl
  exact K
theorem L_43 (hJ : J ≤ 600) (I : Iv J w.1 w.2.2.2) (hi : i + 4 < E.2.2.1) (hL : E.2.2.1 ≤ 2560) : Lw J i 1553 E w := by
  obtain ⟨v, w1, w2, C, D, I2⟩ := A_pane (E := E) I (E.2.2.2 (i + 1)) (E.2.2.2 (i + 2)) (E.2.2.2 (i + 3))
  refine ⟨w2, I2, fun r h' K => ?_⟩
  refine r_step rfl rfl rfl ?_
  refine r_step rfl rfl rfl ?_
  refine r_step rfl rfl rfl ?_
  refine r_step rfl rfl rfl ?_
  refine r_step rfl rfl rfl ?_
  try dsimp only
  rw [na1]
  refine r_ild rfl rfl rfl (show i + 1 < E.2.2.1 by omega) (by omega) ?_
  refine r_step rfl rfl rfl ?_
  refine r_step rfl rfl rfl ?_
  refine r_step rfl rfl rfl ?_
  refine r_step rfl rfl rfl ?_
  try dsimp only
  rw [na2]
  refine r_ild rfl rfl rfl (show i + 2 < E.2.2.1 by omega) (by omega) ?_
  refine r_step rfl rfl rfl ?_
  refine r_step rfl rfl rfl ?_
  refine r_step rfl rfl rfl ?_
  refine r_step rfl rfl rfl ?_
  try dsimp only
  rw [na3]
  refine r_ild rfl rfl rfl (show i + 3 < E.2.2.1 by omega) (by omega) ?_
  refine wH_call rfl rfl rfl rfl rfl C ?_
  refine r_step rfl rfl rfl ?_
  refine r_step rfl rfl rfl ?_
  refine r_step rfl rfl rfl ?_
  refine r_step rfl rfl rfl ?_
  refine r_step rfl rfl rfl ?_
  try dsimp only
  rw [na1]
  refine r_ild rfl rfl rfl (show i + 1 < E.2.2.1 by omega) (by omega) ?_
  refine r_step rfl rfl rfl ?_
  refine r_step rfl rfl rfl ?_
  refine r_step rfl rfl rfl ?_
  refine r_step rfl rfl rfl ?_
  try dsimp only
  rw [na2]
  refine r_ild rfl rfl rfl (show i + 2 < E.2.2.1 by omega) (by omega) ?_
  refine r_step rfl rfl rfl ?_
  refine r_step rfl rfl rfl ?_
  refine r_step rfl rfl rfl ?_
  refine r_step rfl rfl rfl ?_
  try dsimp only
  rw [na3]
  refine r_ild rfl rfl rfl (show i + 3 < E.2.2.1 by omega) (by omega) ?_
  refine rF_call rfl rfl rfl rfl rfl rfl D ?_
  refine r_brT rfl rfl ?_ ?_
  · rfl
  exact K
theorem L_44 (hJ : J ≤ 600) (I : Iv J w.1 w.2.2.2) (hi : i + 4 < E.2.2.1) (hL : E.2.2.1 ≤ 2560) : Lw J i 1590 E w := by
  obtain ⟨v, w1, w2, C, D, I2⟩ := A_gather (E := E) I (E.2.2.2 (i + 1)) (E.2.2.2 (i + 2)) (E.2.2.2 (i + 3))
  refine ⟨w2, I2, fun r h' K => ?_⟩
  refine r_step rfl rfl rfl ?_
  refine r_step rfl rfl rfl ?_
  refine r_step rfl rfl rfl ?_
  refine r_step rfl rfl rfl ?_
  refine r_step rfl rfl rfl ?_
  try dsimp only
  rw [na1]
  refine r_ild rfl rfl rfl (show i + 1 < E.2.2.1 by omega) (by omega) ?_
  refine r_step rfl rfl rfl ?_
  refine r_step rfl rfl rfl ?_
  refine r_step rfl rfl rfl ?_
  refine r_step rfl rfl rfl ?_
  try dsimp only
  rw [na2]
  refine r_ild rfl rfl rfl (show i + 2 < E.2.2.1 by omega) (by omega) ?_
  refine r_step rfl rfl rfl ?_
  refine r_step rfl rfl rfl ?_
  refine r_step rfl rfl rfl ?_
  refine r_step rfl rfl rfl ?_
  try dsimp only
  rw [na3]
  refine r_ild rfl rfl rfl (show i + 3 < E.2.2.1 by omega) (by omega) ?_
  refine wH_call rfl rfl rfl rfl rfl C ?_
  refine r_step rfl rfl rfl ?_
  refine r_step rfl rfl rfl ?_
  refine r_step rfl rfl rfl ?_
  refine r_step rfl rfl rfl ?_
  refine r_step rfl rfl rfl ?_
  try dsimp only
  rw [na1]
  refine r_ild rfl rfl rfl (show i + 1 < E.2.2.1 by omega) (by omega) ?_
  refine r_step rfl rfl rfl ?_
  refine r_step rfl rfl rfl ?_
  refine r_step rfl rfl rfl ?_
  refine r_step rfl rfl rfl ?_
  try dsimp only
  rw [na2]
  refine r_ild rfl rfl rfl (show i + 2 < E.2.2.1 by omega) (by omega) ?_
  refine r_step rfl rfl rfl ?_
  refine r_step rfl rfl rfl ?_
  refine r_step rfl rfl rfl ?_
  refine r_step rfl rfl rfl ?_
  try dsimp only
  rw [na3]
  refine r_ild rfl rfl rfl (show i + 3 < E.2.2.1 by omega) (by omega) ?_
  refine rF_call rfl rfl rfl rfl rfl rfl D ?_
  refine r_brT rfl rfl ?_ ?_
  · rfl
  exact K
theorem L_45 (hJ : J ≤ 600) (I : Iv J w.1 w.2.2.2) (hi : i + 4 < E.2.2.1) (hL : E.2.2.1 ≤ 2560) : Lw J i 1627 E w := by
  obtain ⟨v, w1, w2, C, D, I2⟩ := A_write (E := E) I (E.2.2.2 (i + 1))
  refine ⟨w2, I2, fun r h' K => ?_⟩
  refine r_step rfl rfl rfl ?_
  refine r_step rfl rfl rfl ?_
  refine r_step rfl rfl rfl ?_
  refine r_step rfl rfl rfl ?_
  refine r_step rfl rfl rfl ?_
  try dsimp only
  rw [na1]
  refine r_ild rfl rfl rfl (show i + 1 < E.2.2.1 by omega) (by omega) ?_
  refine wH_call rfl rfl rfl rfl rfl C ?_
  refine r_step rfl rfl rfl ?_
  refine r_step rfl rfl rfl ?_
  refine r_step rfl rfl rfl ?_
  refine r_step rfl rfl rfl ?_
  refine r_step rfl rfl rfl ?_
  try dsimp only
  rw [na1]
  refine r_ild rfl rfl rfl (show i + 1 < E.2.2.1 by omega) (by omega) ?_
  refine rF_call rfl rfl rfl rfl rfl rfl D ?_
  refine r_brT rfl rfl ?_ ?_
  · rfl
  exact K
theorem L_46 (hJ : J ≤ 600) (I : Iv J w.1 w.2.2.2) (hi : i + 4 < E.2.2.1) (hL : E.2.2.1 ≤ 2560) : Lw J i 1644 E w := by
  obtain ⟨v, w1, w2, C, D, I2⟩ := A_octet (E := E) I (E.2.2.2 (i + 1))
  refine ⟨w2, I2, fun r h' K => ?_⟩
  refine r_step rfl rfl rfl ?_
  refine r_step rfl rfl rfl ?_
  refine r_step rfl rfl rfl ?_
  refine r_step rfl rfl rfl ?_
  refine r_step rfl rfl rfl ?_
  try dsimp only
  rw [na1]
  refine r_ild rfl rfl rfl (show i + 1 < E.2.2.1 by omega) (by omega) ?_
  refine wH_call rfl rfl rfl rfl rfl C ?_
  refine r_step rfl rfl rfl ?_
  refine r_step rfl rfl rfl ?_
  refine r_step rfl rfl rfl ?_
  refine r_step rfl rfl rfl ?_
  refine r_step rfl rfl rfl ?_
  try dsimp only
  rw [na1]
  refine r_ild rfl rfl rfl (show i + 1 < E.2.2.1 by omega) (by omega) ?_
  refine rF_call rfl rfl rfl rfl rfl rfl D ?_
  refine r_brT rfl rfl ?_ ?_
  · rfl
  exact K
theorem L_47 (hJ : J ≤ 600) (I : Iv J w.1 w.2.2.2) (hi : i + 4 < E.2.2.1) (hL : E.2.2.1 ≤ 2560) : Lw J i 1661 E w := by
  obtain ⟨v, w1, w2, C, D, I2⟩ := A_feed (E := E) I (E.2.2.2 (i + 1)) (E.2.2.2 (i + 2)) (E.2.2.2 (i + 3))
  refine ⟨w2, I2, fun r h' K => ?_⟩
  refine r_step rfl rfl rfl ?_
  refine r_step rfl rfl rfl ?_
  refine r_step rfl rfl rfl ?_
  refine r_step rfl rfl rfl ?_
  refine r_step rfl rfl rfl ?_
  try dsimp only
  rw [na1]
  refine r_ild rfl rfl rfl (show i + 1 < E.2.2.1 by omega) (by omega) ?_
  refine r_step rfl rfl rfl ?_
  refine r_step rfl rfl rfl ?_
  refine r_step rfl rfl rfl ?_
  refine r_step rfl rfl rfl ?_
  try dsimp only
  rw [na2]
  refine r_ild rfl rfl rfl (show i + 2 < E.2.2.1 by omega) (by omega) ?_
  refine r_step rfl rfl rfl ?_
  refine r_step rfl rfl rfl ?_
  refine r_step rfl rfl rfl ?_
  refine r_step rfl rfl rfl ?_
  try dsimp only
  rw [na3]
  refine r_ild rfl rfl rfl (show i + 3 < E.2.2.1 by omega) (by omega) ?_
  refine wH_call rfl rfl rfl rfl rfl C ?_
  refine r_step rfl rfl rfl ?_
  refine r_step rfl rfl rfl ?_
  refine r_step rfl rfl rfl ?_
  refine r_step rfl rfl rfl ?_
  refine r_step rfl rfl rfl ?_
  try dsimp only
  rw [na1]
  refine r_ild rfl rfl rfl (show i + 1 < E.2.2.1 by omega) (by omega) ?_
  refine r_step rfl rfl rfl ?_
  refine r_step rfl rfl rfl ?_
  refine r_step rfl rfl rfl ?_
  refine r_step rfl rfl rfl ?_
  try dsimp only
  rw [na2]
  refine r_ild rfl rfl rfl (show i + 2 < E.2.2.1 by omega) (by omega) ?_
  refine r_step rfl rfl rfl ?_
  refine r_step rfl rfl rfl ?_
  refine r_step rfl rfl rfl ?_
  refine r_step rfl rfl rfl ?_
  try dsimp only
  rw [na3]
  refine r_ild rfl rfl rfl (show i + 3 < E.2.2.1 by omega) (by omega) ?_
  refine rF_call rfl rfl rfl rfl rfl rfl D ?_
  refine r_brT rfl rfl ?_ ?_
  · rfl
  exact K
theorem L_48 (hJ : J ≤ 600) (I : Iv J w.1 w.2.2.2) (hi : i + 4 < E.2.2.1) (hL : E.2.2.1 ≤ 2560) : Lw J i 1698 E w := by
  obtain ⟨v, w1, w2, C, D, I2⟩ := A_end (E := E) I (E.2.2.2 (i + 1))
  refine ⟨w2, I2, fun r h' K => ?_⟩
  refine r_step rfl rfl rfl ?_
  refine r_step rfl rfl rfl ?_
  refine r_step rfl rfl rfl ?_
  refine r_step rfl rfl rfl ?_
  refine r_step rfl rfl rfl ?_
  try dsimp only
  rw [na1]
  refine r_ild rfl rfl rfl (show i + 1 < E.2.2.1 by omega) (by omega) ?_
  refine wH_call rfl rfl rfl rfl rfl C ?_
  refine r_step rfl rfl rfl ?_
  refine r_step rfl rfl rfl ?_
  refine r_step rfl rfl rfl ?_
  refine r_step rfl rfl rfl ?_
  refine r_step rfl rfl rfl ?_
  try dsimp only
  rw [na1]
  refine r_ild rfl rfl rfl (show i + 1 < E.2.2.1 by omega) (by omega) ?_
  refine rF_call rfl rfl rfl rfl rfl rfl D ?_
  refine r_brT rfl rfl ?_ ?_
  · rfl
  exact K
theorem L_49 (hJ : J ≤ 600) (I : Iv J w.1 w.2.2.2) (hi : i + 4 < E.2.2.1) (hL : E.2.2.1 ≤ 2560) : Lw J i 1715 E w := by
  obtain ⟨v, w1, w2, C, D, I2⟩ := A_read (E := E) I (E.2.2.2 (i + 1))
  refine ⟨w2, I2, fun r h' K => ?_⟩
  refine r_step rfl rfl rfl ?_
  refine r_step rfl rfl rfl ?_
  refine r_step rfl rfl rfl ?_
  refine r_step rfl rfl rfl ?_
  refine r_step rfl rfl rfl ?_
  try dsimp only
  rw [na1]
  refine r_ild rfl rfl rfl (show i + 1 < E.2.2.1 by omega) (by omega) ?_
  refine wH_call rfl rfl rfl rfl rfl C ?_
  refine r_step rfl rfl rfl ?_
  refine r_step rfl rfl rfl ?_
  refine r_step rfl rfl rfl ?_
  refine r_step rfl rfl rfl ?_
  refine r_step rfl rfl rfl ?_
  try dsimp only
  rw [na1]
  refine r_ild rfl rfl rfl (show i + 1 < E.2.2.1 by omega) (by omega) ?_
  refine rF_call rfl rfl rfl rfl rfl rfl D ?_
  refine r_brT rfl rfl ?_ ?_
  · rfl
  exact K
theorem L_50 (hJ : J ≤ 600) (I : Iv J w.1 w.2.2.2) (hi : i + 4 < E.2.2.1) (hL : E.2.2.1 ≤ 2560) : Lw J i 1732 E w := by
  obtain ⟨v, w1, w2, C, D, I2⟩ := A_fault (E := E) I (E.2.2.2 (i + 1))
  refine ⟨w2, I2, fun r h' K => ?_⟩
  refine r_step rfl rfl rfl ?_
  refine r_step rfl rfl rfl ?_
  refine r_step rfl rfl rfl ?_
  refine r_step rfl rfl rfl ?_
  refine r_step rfl rfl rfl ?_
  try dsimp only
  rw [na1]
  refine r_ild rfl rfl rfl (show i + 1 < E.2.2.1 by omega) (by omega) ?_
  refine wH_call rfl rfl rfl rfl rfl C ?_
  refine r_step rfl rfl rfl ?_
  refine r_step rfl rfl rfl ?_
  refine r_step rfl rfl rfl ?_
  refine r_step rfl rfl rfl ?_
  refine r_step rfl rfl rfl ?_
  try dsimp only
  rw [na1]
  refine r_ild rfl rfl rfl (show i + 1 < E.2.2.1 by omega) (by omega) ?_
  refine rF_call rfl rfl rfl rfl rfl rfl D ?_
  refine r_brT rfl rfl ?_ ?_
  · rfl
  exact K
theorem L_51 (hJ : J ≤ 600) (I : Iv J w.1 w.2.2.2) (hi : i + 4 < E.2.2.1) (hL : E.2.2.1 ≤ 2560) : Lw J i 1749 E w := by
  obtain ⟨v, w1, w2, C, D, I2⟩ := A_keep (E := E) I (E.2.2.2 (i + 1))
  refine ⟨w2, I2, fun r h' K => ?_⟩
  refine r_step rfl rfl rfl ?_
  refine r_step rfl rfl rfl ?_
  refine r_step rfl rfl rfl ?_
  refine r_step rfl rfl rfl ?_
  refine r_step rfl rfl rfl ?_
  try dsimp only
  rw [na1]
  refine r_ild rfl rfl rfl (show i + 1 < E.2.2.1 by omega) (by omega) ?_
  refine wH_call rfl rfl rfl rfl rfl C ?_
  refine r_step rfl rfl rfl ?_
  refine r_step rfl rfl rfl ?_
  refine r_step rfl rfl rfl ?_
  refine r_step rfl rfl rfl ?_
  refine r_step rfl rfl rfl ?_
  try dsimp only
  rw [na1]
  refine r_ild rfl rfl rfl (show i + 1 < E.2.2.1 by omega) (by omega) ?_
  refine rF_call rfl rfl rfl rfl rfl rfl D ?_
  refine r_brT rfl rfl ?_ ?_
  · rfl
  exact K
theorem L_52 (hJ : J ≤ 600) (I : Iv J w.1 w.2.2.2) (hi : i + 4 < E.2.2.1) (hL : E.2.2.1 ≤ 2560) : Lw J i 1766 E w := by
  obtain ⟨v, w1, w2, C, D, I2⟩ := A_back (E := E) I (E.2.2.2 (i + 1))
  refine ⟨w2, I2, fun r h' K => ?_⟩
  refine r_step rfl rfl rfl ?_
  refine r_step rfl rfl rfl ?_
  refine r_step rfl rfl rfl ?_
  refine r_step rfl rfl rfl ?_
  refine r_step rfl rfl rfl ?_
  try dsimp only
  rw [na1]
  refine r_ild rfl rfl rfl (show i + 1 < E.2.2.1 by omega) (by omega) ?_
  refine wH_call rfl rfl rfl rfl rfl C ?_
  refine r_step rfl rfl rfl ?_
  refine r_step rfl rfl rfl ?_
  refine r_step rfl rfl rfl ?_
  refine r_step rfl rfl rfl ?_
  refine r_step rfl rfl rfl ?_
  try dsimp only
  rw [na1]
  refine r_ild rfl rfl rfl (show i + 1 < E.2.2.1 by omega) (by omega) ?_
  refine rF_call rfl rfl rfl rfl rfl rfl D ?_
  refine r_brT rfl rfl ?_ ?_
  · rfl
  exact K
end LAW
