/-! EVERY RUN; THE LAW OUT OF A RUN ON PAPER -/
theorem hSnd (l : Launch) {g : hV} (ok : hAdOk g) : ∀ n, hSay l g n := by
  intro n
  induction n with
  | zero =>
    intro mi k L st h r h' q hq hx
    simp [hExec] at hx
  | succ n ih =>
    intro mi k L st h r h' q hq hx p en R s m args below meth c Q Ts H locs cells slots ls cF sF X hh hl hlo e1 e2 hcF hsF hret
    obtain ⟨e, he, cc⟩ := hExec_inv hx
    have hpc : hPc mi k = e.2.2.1 := by unfold hPc; rw [he]
    rw [hpc]
    rcases cc with ⟨hk, k1, L1, st1, h1, hs, hx1⟩ | ⟨hk, hr, hrok, rfl⟩ | ⟨hk0, hk1, qc, r1, h1, hqc, c1, c2, c3, c4, hx1, hx2⟩
    · obtain ⟨a1, a2⟩ := hExec_mono n hx1
      refine hStp hq he hk X hh hl hlo hs (by omega) (by omega) ?_
      intro H1 locs1 ls1 cells1 slots1 g1 g2 hh1 hl1 hlo1
      exact ih mi k1 L1 st1 h1 r h' q hq hx1 p en R s m args below meth c Q Ts H1 locs1 cells1 slots1 ls1 cF sF X hh1 hl1 hlo1 (by omega) (by omega) hcF hsF hret
    · have e3 : cells = cF := by omega
      have e4 : slots = sF := by omega
      subst e3
      subst e4
      exact hret e k st H locs ls he hr hrok hh hlo
    · obtain ⟨a1, a2⟩ := hExec_mono n hx2
      refine hCall ih hq he hk0 hk1 X hh hl hlo hqc c1 c2 c3 c4 hx1 (by omega) (by omega) ?_
      intro H1 locs1 ls1 cells1 slots1 g1 g2 hh1 hl1 hlo1
      exact ih mi (k + 1) L _ h1 r h' q hq hx2 p en R s m args below meth c Q Ts H1 locs1 cells1 slots1 ls1 cF sF X hh1 hl1 hlo1 (by omega) (by omega) hcF hsF hret
/-- the heap on paper at the law's entry -/
def hStart (L : Nat) (xs : Nat → Int32) : hH := (2, 0, fun a => match a with
  | 0 => .inr (7, L, .inl xs)
  | 1 => .inr (7, 4, .inl hWid)
  | _ => .inr (99, 0, .inl fun _ => 0))
/-- what is left to show, all on paper -/
def hGoal (L : Nat) (xs : Nat → Int32) : Prop := ∃ (n : Nat) (h' : hH), hExec n 278 0 [.ref 0, hU, hU, hU] [] (hStart L xs) = some (some (.int 1), h') ∧ h'.1 ≤ 600000 ∧ h'.2.1 ≤ 7302250
