/-! turn -/
def wR (w : hWo) (v : Nat) (f : Nat → Nat) : hWo := (w.1, w.2.1, w.2.2.1, fun a s => if a = v then f s else w.2.2.2 a s)
theorem wR_P {w : hWo} {v : Nat} {f : Nat → Nat} (s : Nat) : (wR w v f).2.2.2 v s = f s := if_pos rfl
theorem wP_wR {w : hWo} {v p c : Nat} {f : Nat → Nat} : wP (wR w v f) v p c = wR w v (fun s => if s = p then c else f s) := by
  unfold wP wR
  refine Prod.ext rfl (Prod.ext rfl (Prod.ext rfl ?_))
  funext a s
  dsimp only
  by_cases h1 : a = v
  · subst h1
    by_cases h2 : s = p
    · rw [if_pos ⟨rfl, h2⟩, if_pos rfl, if_pos h2]
    · rw [if_neg (fun z => h2 z.2), if_pos rfl, if_pos rfl, if_neg h2]
  · rw [if_neg (fun z => h1 z.1), if_neg h1, if_neg h1]
theorem wR_id {w : hWo} {v : Nat} : wR w v (w.2.2.2 v) = w := by
  unfold wR
  refine Prod.ext rfl (Prod.ext rfl (Prod.ext rfl ?_))
  funext a s
  dsimp only
  by_cases h1 : a = v
  · subst h1
    rw [if_pos rfl]
  · rw [if_neg h1]
/-- the rows shifted behind a place -/
def shP (f : Nat → Nat) (n k : Nat) : Nat → Nat := fun s => if k < s ∧ s < n then f (s - 1) else f s
section XTN
variable {E : hEn} {w : hWo}
theorem open_loop {v n c : Nat} {f : Nat → Nat} (hv : v < 2) (hn : n ≤ 6) (hf : ∀ s, s < 6 → f s < 31) : ∀ k, k < n → ∀ r h', hRun 78 25 [.ref (181 + 50 * v), .ref (bs c), .int (nI 0)] [.int (nI 0)] (hW E (wR w v (shP f n 0))) r h' → hRun 78 25 [.ref (181 + 50 * v), .ref (bs c), .int (nI k)] [.int (nI k)] (hW E (wR w v (shP f n k))) r h' := by
  intro k
  induction k with
  | zero =>
    intro hk r h' K
    exact K
  | succ k ih =>
    intro hk r h' K
    have e1 : (wR w v (shP f n (k + 1))).2.2.2 v k = f k := by
      rw [wR_P]
      unfold shP
      rw [if_neg (by omega)]
    have e2 : wP (wR w v (shP f n (k + 1))) v (k + 1) (f k) = wR w v (shP f n k) := by
      rw [wP_wR]
      congr 1
      funext s
      unfold shP
      by_cases a : s = k + 1
      · rw [if_pos a, if_pos (by omega), a]
        rfl
      · rw [if_neg a]
        by_cases b : k + 1 < s ∧ s < n
        · rw [if_pos b, if_pos (by omega)]
        · rw [if_neg b, if_neg (by omega)]
    refine r_brF rfl rfl ?_ ?_
    · exact nI_nle (by omega) (by omega)
    refine r_step rfl rfl rfl ?_
    refine wW_get hv rfl rfl ?_
    refine r_step rfl rfl rfl ?_
    refine r_step rfl rfl rfl ?_
    refine wW_get hv rfl rfl ?_
    refine r_step rfl rfl rfl ?_
    refine r_step rfl rfl rfl ?_
    refine r_step rfl rfl rfl ?_
    dsimp only
    rw [nI_pred]
    refine wP_ld hv (show k < 6 by omega) rfl ?_
    rw [e1]
    refine wP_ist hv (show k + 1 < 6 by omega) (hf k (by omega)) rfl ?_
    rw [e2]
    refine r_step rfl rfl rfl ?_
    refine r_step rfl rfl rfl ?_
    dsimp only
    rw [pk_m1]
    refine r_step rfl rfl rfl ?_
    exact ih (by omega) r h' K
theorem x_openNext {v rm mo nu nn : Nat} (hv : v < 2) (hP : Ip w.2.2.2) (hb : 1 ≤ rm ∧ rm ≤ 24 ∧ 1 ≤ nu ∧ nu ≤ mo ∧ mo ≤ 6) (h1 : w.1 35 1 (4 * v + 1) = nI rm) (h2 : w.1 35 1 (4 * v + 2) = nI mo) (h3 : w.1 35 1 (4 * v + 3) = nI nu) (hnn : nn = if nu < mo then nu + 1 else nu) : hRun 78 0 [.ref (181 + 50 * v), hU, hU] [] (hW E w) none (hW E (wS (wR (wS w 35 (s2 (w.1 35) 1 (4 * v + 3) (nI nn))) v (fun s => if s = 0 then w.2.2.2 v (nn - 1) else shP (w.2.2.2 v) nn 0 s)) (w.2.2.2 v (nn - 1)) (begF (w.1 (w.2.2.2 v (nn - 1))) (nI rm)))) := by
  have hnn1 : 1 ≤ nn ∧ nn ≤ 6 := by
    rw [hnn]
    split <;> omega
  have hpn := hP.1 v hv (nn - 1) (by omega)
  obtain ⟨w1, hw1⟩ : ∃ w1, w1 = wS w 35 (s2 (w.1 35) 1 (4 * v + 3) (nI nn)) := ⟨_, rfl⟩
  have e3 : w1.1 35 1 (4 * v + 3) = nI nn := by rw [hw1, wS_at, s2_at, if_pos ⟨rfl, rfl⟩]
  have e1 : w1.1 35 1 (4 * v + 1) = nI rm := by rw [hw1, wS_at, s2_at, if_neg (by omega)]; exact h1
  have eP : w1.2.2.2 = w.2.2.2 := by rw [hw1]; rfl
  have eC : ∀ c, c ≠ 35 → w1.1 c = w.1 c := fun c hc => by rw [hw1, wS_ne hc]
  have main : hRun 78 11 [.ref (181 + 50 * v), hU, hU] [] (hW E w1) none (hW E (wS (wR w1 v (fun s => if s = 0 then w.2.2.2 v (nn - 1) else shP (w.2.2.2 v) nn 0 s)) (w.2.2.2 v (nn - 1)) (begF (w.1 (w.2.2.2 v (nn - 1))) (nI rm)))) := by
    refine r_step rfl rfl rfl ?_
    refine wW_get hv rfl rfl ?_
    refine r_step rfl rfl rfl ?_
    refine wW_getE hv rfl rfl e3 ?_
    refine r_step rfl rfl rfl ?_
    refine r_step rfl rfl rfl ?_
    dsimp only
    rw [nI_s1 (by omega)]
    refine wP_ld hv (show nn - 1 < 6 by omega) rfl ?_
    rw [eP]
    refine r_step rfl rfl rfl ?_
    refine r_step rfl rfl rfl ?_
    refine wW_getE hv rfl rfl e3 ?_
    refine r_step rfl rfl rfl ?_
    refine r_step rfl rfl rfl ?_
    dsimp only
    rw [nI_s1 (by omega)]
    refine r_step rfl rfl rfl ?_
    refine r_step rfl rfl rfl ?_
    have hsh : shP (w.2.2.2 v) nn (nn - 1) = w.2.2.2 v := by
      funext s
      unfold shP
      rw [if_neg (by omega)]
    have key := open_loop (E := E) (w := w1) (v := v) (n := nn) (c := w.2.2.2 v (nn - 1)) (f := w.2.2.2 v) hv hnn1.2 (fun s hs => by have := hP.1 v hv s hs; omega) (nn - 1) (by omega) none (hW E (wS (wR w1 v (fun s => if s = 0 then w.2.2.2 v (nn - 1) else shP (w.2.2.2 v) nn 0 s)) (w.2.2.2 v (nn - 1)) (begF (w.1 (w.2.2.2 v (nn - 1))) (nI rm)))) ?_
    · rw [hsh, ← eP, wR_id] at key
      rw [← eP]
      exact key
    · have e1' : (wR w1 v (fun s => if s = 0 then w.2.2.2 v (nn - 1) else shP (w.2.2.2 v) nn 0 s)).1 35 1 (4 * v + 1) = nI rm := e1
      have ew : (wR w1 v (fun s => if s = 0 then w.2.2.2 v (nn - 1) else shP (w.2.2.2 v) nn 0 s)).1 (w.2.2.2 v (nn - 1)) = w.1 (w.2.2.2 v (nn - 1)) := eC _ (by omega)
      refine r_brT rfl rfl ?_ ?_
      · decide
      refine r_step rfl rfl rfl ?_
      refine wW_get hv rfl rfl ?_
      refine r_step rfl rfl rfl ?_
      refine r_step rfl rfl rfl ?_
      refine wP_ist (p := 0) hv (by omega) (by omega) rfl ?_
      rw [wP_wR]
      refine r_step rfl rfl rfl ?_
      refine r_step rfl rfl rfl ?_
      refine wW_getE hv rfl rfl e1' ?_
      refine wS_call (by omega) rfl rfl rfl rfl rfl (c_begin _) ?_
      rw [ew]
      (refine r_rtE rfl rfl ?_ ?_ ?_ <;> rfl)
  refine r_step rfl rfl rfl ?_
  refine wW_getE hv rfl rfl h3 ?_
  refine r_step rfl rfl rfl ?_
  refine wW_getE hv rfl rfl h2 ?_
  by_cases c : nu < mo
  · rw [if_pos c] at hnn
    refine r_brF rfl rfl ?_ ?_
    · exact nle c (by omega)
    refine r_step rfl rfl rfl ?_
    refine r_step rfl rfl rfl ?_
    refine wW_getE hv rfl rfl h3 ?_
    refine r_step rfl rfl rfl ?_
    refine r_step rfl rfl rfl ?_
    dsimp only
    rw [nI_1, ← hnn]
    refine wW_set hv rfl rfl rfl ?_
    rw [← hw1]
    exact main
  · rw [if_neg c] at hnn
    have e0 : w1 = w := by
      rw [hw1, hnn]
      have : s2 (w.1 35) 1 (4 * v + 3) (nI nu) = w.1 35 := by
        funext a i
        rw [s2_at]
        split
        · rename_i hc
          rw [hc.1, hc.2, h3]
        · rfl
      rw [this, wS_id]
    refine r_brT rfl rfl ?_ ?_
    · exact nI_le (by omega) (by omega)
    rw [e0] at main
    rw [← hw1, e0]
    exact main
end XTN
/-- banks shifted behind a place -/
def upB (u : Nat → Int32) (v n k : Nat) : Nat → Int32 := fun i => if 1148 * (18 + 6 * v + k) + 1148 ≤ i ∧ i < 1148 * (18 + 6 * v + n) then u (i - 1148) else u i
section KTN
variable {h : hH} {M : hT2} {x : Int64}
theorem kturn_loop {v n : Nat} {u : Nat → Int32} {rv : Int32} {r : Option Value} {h' : hH} (hv : v < 2) (hn : n ≤ 6) (hn1 : 1 ≤ n) (K : hRun 259 56 [.ref 281, .int (nI v), .int rv, .int (nI 0)] [] (hpM h 281 (s1 M 1 (upB u v n 0)) x) r h') : ∀ k, k < n → hRun 259 43 [.ref 281, .int (nI v), .int rv, .int (nI k)] [.int (nI k)] (hpM h 281 (s1 M 1 (upB u v n k)) x) r h' := by
  intro k
  induction k with
  | zero =>
    intro hk
    refine r_brT rfl rfl ?_ ?_
    · decide
    exact K
  | succ k ih =>
    intro hk
    have e : cpW (1148 * (18 + 6 * v + (k + 1))) (1148 * (18 + 6 * v + k)) 1148 0 (upB u v n (k + 1)) = upB u v n k := by
      funext i
      rw [cpW_at (by omega) 1148 0 _ i (by omega)]
      unfold upB
      by_cases a : 1148 * (18 + 6 * v + (k + 1)) + 0 ≤ i ∧ i < 1148 * (18 + 6 * v + (k + 1)) + 0 + 1148
      · rw [if_pos a, if_neg (by omega), if_pos (by omega)]
        refine congrArg u ?_
        omega
      · rw [if_neg a]
        by_cases b : 1148 * (18 + 6 * v + (k + 1)) + 1148 ≤ i ∧ i < 1148 * (18 + 6 * v + n)
        · rw [if_pos b, if_pos (by omega)]
        · rw [if_neg b, if_neg (by omega)]
    refine r_brF rfl rfl ?_ ?_
    · exact nI_nle (by omega) (by omega)
    (repeat (first | refine r_fw rfl rfl rfl rfl ?_ | refine rM_get rfl rfl ?_)); try dsimp only
    try simp only [na0, na1, na2, na3, na4, na5, na6, na7, na8, na16, na88, na148, nm3, nI_add]
    refine r_callS rfl rfl rfl rfl (k_paneAt v (k + 1)) ?_
    (repeat (first | refine r_fw rfl rfl rfl rfl ?_ | refine rM_get rfl rfl ?_)); try dsimp only
    try simp only [na0, na1, na2, na3, na4, na5, na6, na7, na8, na16, na88, na148, nm3, nI_add]
    rw [nI_pred]
    refine r_callS rfl rfl rfl rfl (k_paneAt v k) ?_
    refine rM_call rfl rfl rfl rfl rfl (m_copies (T := 1148 * (18 + 6 * v + (k + 1))) (F := 1148 * (18 + 6 * v + k)) (by omega) (by omega)) ?_
    rw [s1_s1, s1_at, e]
    (repeat (first | refine r_fw rfl rfl rfl rfl ?_ | refine rM_get rfl rfl ?_)); try dsimp only
    try simp only [na0, na1, na2, na3, na4, na5, na6, na7, na8, na16, na88, na148, nm3, nI_add]
    refine r_step rfl rfl rfl ?_
    rw [pk_m1]
    refine r_step rfl rfl rfl ?_
    exact ih (by omega)
end KTN
section CD3
variable {J : Nat} {E : hEn} {w : hWo}
theorem A_turn (I : Iv J w.1 w.2.2.2) (s : Int32) : Ans J 146 259 [.ref 2, .int s, hU] [.ref 281, .int s, hU, hU] E w := by
  obtain ⟨M, hMd⟩ : ∃ M, M = s2 (w.1 36) 0 0 0 := ⟨_, rfl⟩
  rcases winst I hMd s with ⟨v, rm, mo, nu, hv, rfl, ho, hbd, ⟨w1, w2, w3⟩, ⟨m7, m8⟩, hpn⟩ | ⟨hno, hnm⟩
  · have hm7 : 0 < M 7 v := by rw [m7]; exact nI_lt (a := 0) (by omega) (by omega)
    have hP := I.2.2.1
    obtain ⟨nn, hnn⟩ : ∃ nn, nn = if nu < mo then nu + 1 else nu := ⟨_, rfl⟩
    have hnn1 : 1 ≤ nn ∧ nn ≤ mo ∧ nn ≤ nu + 1 := by
      rw [hnn]
      split <;> omega
    have hpn1 := hP.1 v hv (nn - 1) (by omega)
    have hop := x_openNext (E := E) hv hP hbd w1 w2 w3 hnn
    obtain ⟨W1, hW1⟩ : ∃ W1, W1 = wS (wR (wS w 35 (s2 (w.1 35) 1 (4 * v + 3) (nI nn))) v (fun s => if s = 0 then w.2.2.2 v (nn - 1) else shP (w.2.2.2 v) nn 0 s)) (w.2.2.2 v (nn - 1)) (begF (w.1 (w.2.2.2 v (nn - 1))) (nI rm)) := ⟨_, rfl⟩
    rw [← hW1] at hop
    have q1 : ∀ c, c ≠ 35 → c ≠ w.2.2.2 v (nn - 1) → W1.1 c = w.1 c := by
      intro c a b
      rw [hW1, wS_ne b]
      exact wS_ne a
    have q2 : W1.1 (w.2.2.2 v (nn - 1)) = begF (w.1 (w.2.2.2 v (nn - 1))) (nI rm) := by rw [hW1, wS_at]
    have q35 : W1.1 35 = s2 (w.1 35) 1 (4 * v + 3) (nI nn) := by
      rw [hW1, wS_ne (by omega)]
      show (wS w 35 (s2 (w.1 35) 1 (4 * v + 3) (nI nn))).1 35 = _
      exact wS_at
    have qP : ∀ u s, W1.2.2.2 u s = if u = v then (if s = 0 then w.2.2.2 v (nn - 1) else shP (w.2.2.2 v) nn 0 s) else w.2.2.2 u s := by
      intro u s
      rw [hW1]
      rfl
    have qx : W1.2.2.1 = w.2.2.1 := by rw [hW1]; rfl
    have eMj : ∀ j, j ≠ 0 → M j = w.1 36 j := fun j hj => by rw [hMd, s2_row hj]
    obtain ⟨A0, hG0, hS0, hM0, hr0⟩ := hpn 0 (by omega)
    have er : M 1 (1148 * (18 + 6 * v + 0) + 1) = nI rm := by
      rw [← hr0 rfl]
      exact hM0.2.1.1 1 (by omega) (by omega) (by omega)
    obtain ⟨M8, hM8⟩ : ∃ M8, M8 = s1 M 8 (upd (M 8) v (nI nn)) := ⟨_, rfl⟩
    have e81 : M8 1 = M 1 := by rw [hM8, s1_row, if_neg (by omega)]
    have e88 : M8 8 v = nI nn := by rw [hM8, s1_row, if_pos rfl, pk_us]
    obtain ⟨vN, hvN⟩ : ∃ vN, vN = bgW (upB (M 1) v nn 0) (1148 * (18 + 6 * v)) (nI rm) := ⟨_, rfl⟩
    have u0 : upB (M 1) v nn (nn - 1) = M 1 := by
      funext i
      unfold upB
      rw [if_neg (by omega)]
    have hIp : Ip W1.2.2.2 := by
      have pf : ∀ s, s < 6 → ∃ t, t < 6 ∧ (if s = 0 then w.2.2.2 v (nn - 1) else shP (w.2.2.2 v) nn 0 s) = w.2.2.2 v t ∧ t = if s = 0 then nn - 1 else if s < nn then s - 1 else s := by
        intro s hs
        refine ⟨if s = 0 then nn - 1 else if s < nn then s - 1 else s, ?_, ?_, rfl⟩
        · split
          · omega
          · split <;> omega
        · by_cases a : s = 0
          · rw [if_pos a, if_pos a]
          · rw [if_neg a, if_neg a]
            unfold shP
            by_cases b : s < nn
            · rw [if_pos (by omega), if_pos b]
            · rw [if_neg (by omega), if_neg b]
      refine ⟨fun u hu s hs => ?_, fun u hu s t hs ht e => ?_⟩
      · rw [qP]
        by_cases a : u = v
        · subst a
          rw [if_pos rfl]
          obtain ⟨t, t1, t2, -⟩ := pf s hs
          rw [t2]
          exact hP.1 u hu t t1
        · rw [if_neg a]
          exact hP.1 u hu s hs
      · rw [qP, qP] at e
        by_cases a : u = v
        · subst a
          rw [if_pos rfl, if_pos rfl] at e
          obtain ⟨a1, a2, a3, a4⟩ := pf s hs
          obtain ⟨b1, b2, b3, b4⟩ := pf t ht
          rw [a3, b3] at e
          have := hP.2 u hu a1 b1 a2 b2 e
          rw [a4, b4] at this
          by_cases c1 : s = 0
          · rw [if_pos c1] at this
            by_cases c2 : t = 0
            · omega
            · rw [if_neg c2] at this
              split at this <;> omega
          · rw [if_neg c1] at this
            by_cases c2 : t = 0
            · rw [if_pos c2] at this
              split at this <;> omega
            · rw [if_neg c2] at this
              split at this <;> split at this <;> omega
        · rw [if_neg a, if_neg a] at e
          exact hP.2 u hu s t hs ht e
    have hvo : ∀ i, (i < 1148 * (18 + 6 * v) ∨ 1148 * (18 + 6 * v + nn) ≤ i) → vN i = M 1 i := by
      intro i hi
      rw [hvN, bgW_o (by unfold Ot; omega)]
      unfold upB
      rw [if_neg (by omega)]
    have hI : Iv (J + 1) (wM W1 (s1 M8 1 vN) w.2.2.1).1 W1.2.2.2 := by
      have eV : ∀ c, c ≠ 36 → (wM W1 (s1 M8 1 vN) w.2.2.1).1 c = W1.1 c := fun c hc => if_neg hc
      have e36 : (wM W1 (s1 M8 1 vN) w.2.2.1).1 36 = s1 M8 1 vN := rfl
      refine Iv_win I hv ⟨fun c a1 a2 a3 a4 => ?_, ⟨?_, fun i hi => ?_⟩, fun i a1 a2 => ?_, fun u hu => ?_, fun j a1 a2 => ?_, fun j a1 => ?_, fun u hu => ?_⟩ hIp ?_
      · rw [eV c (by omega), q1 c (by omega) (by omega)]
      · rw [eV 35 (by omega), q35, s2_row (by omega)]
      · rw [eV 35 (by omega), q35, s2_at, if_neg (by omega)]
      · rw [e36, s1_at, hvo i (by omega), eMj 1 (by omega)]
      · rw [e36, s1_row, if_neg (by omega), s1_row, if_neg (by omega), hM8, s1_row, if_neg (by omega), s1_row, if_pos rfl, pk_un hu, eMj 7 (by omega), eMj 8 (by omega)]
        exact ⟨rfl, rfl⟩
      · rw [e36, s1_row, if_neg (by omega), hM8, s1_row, if_neg (by omega), eMj j (by omega)]
      · rw [e36, s1_row, if_neg (by omega), hM8, s1_row, if_neg (by omega), hMd, s2_at, if_neg (by omega)]
      · funext s
        rw [qP, if_neg hu]
      · refine Or.inr ⟨?_, rm, mo, nn, ⟨hbd.1, hbd.2.1, hnn1.1, hnn1.2.1, hbd.2.2.2.2⟩, ⟨?_, ?_, ?_⟩, ⟨?_, ?_⟩, fun k hk => ?_⟩
        · rw [eV 35 (by omega), q35, s2_at, if_neg (by omega)]; exact ho
        · rw [eV 35 (by omega), q35, s2_at, if_neg (by omega)]; exact w1
        · rw [eV 35 (by omega), q35, s2_at, if_neg (by omega)]; exact w2
        · rw [eV 35 (by omega), q35, s2_at, if_pos ⟨rfl, rfl⟩]
        · rw [e36, s1_row, if_neg (by omega), hM8, s1_row, if_neg (by omega)]; exact m7
        · rw [e36, s1_row, if_neg (by omega)]; exact e88
        · rw [e36, s1_at, qP, if_pos rfl]
          by_cases c0 : k = 0
          · subst c0
            rw [if_pos rfl, eV _ (by omega), q2, Nat.add_zero]
            refine ⟨nwA rm, Gd_nw hbd.1 hbd.2.1, RS_beg _ _, ?_, fun _ => rfl⟩
            rw [hvN]
            exact RM_beg _ _ _
          · have hsk : shP (w.2.2.2 v) nn 0 k = w.2.2.2 v (k - 1) := by
              unfold shP
              rw [if_pos (by omega)]
            obtain ⟨A, a1, a2, a3, a4⟩ := hpn (k - 1) (by omega)
            have hpk := hP.1 v hv (k - 1) (by omega)
            have hne : w.2.2.2 v (k - 1) ≠ w.2.2.2 v (nn - 1) := fun z => by have := hP.2 v hv (k - 1) (nn - 1) (by omega) (by omega) z; omega
            rw [if_neg c0, hsk, eV _ (by omega), q1 _ (by omega) hne]
            refine ⟨A, Gd_mono a1 (Nat.le_refl _) (by omega), a2, RM_cong a3 (Nat.le_trans a1.1.2.2 a1.1.2.1) (by have := a1.2.2.1.2; omega) (fun i hi => ?_), fun z => absurd z c0⟩
            rw [hvN, bgW_o (by unfold Ot; omega)]
            unfold upB
            rw [if_pos (by omega)]
            refine congrArg (M 1) ?_
            omega
    refine Ans_i (v := nI nn) (u := nI nn) (x' := w.2.2.1) (M' := s1 M8 1 vN) (w1 := W1) hMd rfl rfl rfl rfl (q1 36 (by omega) (by omega)) qx hI ?_ ?_ rfl
    · have e3 : W1.1 35 1 (4 * v + 3) = nI nn := by rw [q35, s2_at, if_pos ⟨rfl, rfl⟩]
      (repeat (first | refine r_fy rfl rfl rfl rfl ?_ | (refine r_rtE rfl rfl ?_ ?_ ?_ <;> rfl) | refine wS_getE (by omega) rfl rfl (by with_reducible assumption) ?_ | refine wS_get (by omega) rfl rfl ?_ | refine wW_getE (by with_reducible assumption) rfl rfl (by with_reducible assumption) ?_ | refine wW_get (by with_reducible assumption) rfl rfl ?_ | refine wP_ld (by with_reducible assumption) (by omega) rfl ?_ | refine wP_ld (p := 0) (by with_reducible assumption) (by omega) rfl ?_ | refine wH_call rfl rfl rfl rfl rfl (x_opened_t (by with_reducible assumption) (by with_reducible assumption)) ?_ | refine wH_call rfl rfl rfl rfl rfl (x_opened_f (by with_reducible assumption)) ?_ | refine r_get rfl rfl rfl ?_ | refine r_brT rfl rfl (by with_reducible first | assumption | rfl | exact nz10 | exact nI_pos (by omega) | exact nI_lt (by omega) (by omega) | exact nI_nlt (by omega) (by omega) | exact nI_le (by omega) (by omega) | exact nI_ge (by omega) (by omega)) ?_ | refine r_brF rfl rfl (by with_reducible first | assumption | rfl | exact nz10 | exact nI_pos (by omega) | exact nI_lt (by omega) (by omega) | exact nI_nlt (by omega) (by omega) | exact nI_le (by omega) (by omega) | exact nI_ge (by omega) (by omega)) ?_ | refine wH_call rfl rfl rfl rfl rfl (x_standing_t (by with_reducible assumption) (by with_reducible assumption)) ?_ | refine wH_call rfl rfl rfl rfl rfl (x_standing_f (by with_reducible assumption)) ?_ | refine r_callS rfl rfl rfl rfl (p_isSummary (by with_reducible assumption)) ?_ | refine r_callS rfl rfl rfl rfl (p_isThing (by with_reducible assumption)) ?_ | refine r_callS rfl rfl rfl rfl (p_isRoom (by with_reducible assumption)) ?_ | refine r_callS rfl rfl rfl rfl (p_isTop (by with_reducible assumption)) ?_ | refine r_callS rfl rfl rfl rfl (p_isWeight (by with_reducible assumption)) ?_ | refine r_callS rfl rfl rfl rfl (p_isShare (by with_reducible assumption)) ?_ | refine r_callS rfl rfl rfl rfl (p_isWindow (by with_reducible assumption)) ?_ | refine r_callS rfl rfl rfl rfl (p_isImage (by with_reducible assumption)) ?_ | refine r_tswd rfl (by with_reducible assumption) ?_ | refine wS_ildE (by omega) rfl rfl (by first | assumption | omega | (simp only [lS]; omega)) (by with_reducible assumption) ?_ | refine wS_ild (by omega) rfl rfl (by first | assumption | omega | (simp only [lS]; omega)) ?_)); try dsimp only
      refine rF_call rfl rfl rfl rfl (wc_win hv) rfl hop ?_
      (repeat (first | refine r_fy rfl rfl rfl rfl ?_ | (refine r_rtE rfl rfl ?_ ?_ ?_ <;> rfl) | refine wS_getE (by omega) rfl rfl (by with_reducible assumption) ?_ | refine wS_get (by omega) rfl rfl ?_ | refine wW_getE (by with_reducible assumption) rfl rfl (by with_reducible assumption) ?_ | refine wW_get (by with_reducible assumption) rfl rfl ?_ | refine wP_ld (by with_reducible assumption) (by omega) rfl ?_ | refine wP_ld (p := 0) (by with_reducible assumption) (by omega) rfl ?_ | refine wH_call rfl rfl rfl rfl rfl (x_opened_t (by with_reducible assumption) (by with_reducible assumption)) ?_ | refine wH_call rfl rfl rfl rfl rfl (x_opened_f (by with_reducible assumption)) ?_ | refine r_get rfl rfl rfl ?_ | refine r_brT rfl rfl (by with_reducible first | assumption | rfl | exact nz10 | exact nI_pos (by omega) | exact nI_lt (by omega) (by omega) | exact nI_nlt (by omega) (by omega) | exact nI_le (by omega) (by omega) | exact nI_ge (by omega) (by omega)) ?_ | refine r_brF rfl rfl (by with_reducible first | assumption | rfl | exact nz10 | exact nI_pos (by omega) | exact nI_lt (by omega) (by omega) | exact nI_nlt (by omega) (by omega) | exact nI_le (by omega) (by omega) | exact nI_ge (by omega) (by omega)) ?_ | refine wH_call rfl rfl rfl rfl rfl (x_standing_t (by with_reducible assumption) (by with_reducible assumption)) ?_ | refine wH_call rfl rfl rfl rfl rfl (x_standing_f (by with_reducible assumption)) ?_ | refine r_callS rfl rfl rfl rfl (p_isSummary (by with_reducible assumption)) ?_ | refine r_callS rfl rfl rfl rfl (p_isThing (by with_reducible assumption)) ?_ | refine r_callS rfl rfl rfl rfl (p_isRoom (by with_reducible assumption)) ?_ | refine r_callS rfl rfl rfl rfl (p_isTop (by with_reducible assumption)) ?_ | refine r_callS rfl rfl rfl rfl (p_isWeight (by with_reducible assumption)) ?_ | refine r_callS rfl rfl rfl rfl (p_isShare (by with_reducible assumption)) ?_ | refine r_callS rfl rfl rfl rfl (p_isWindow (by with_reducible assumption)) ?_ | refine r_callS rfl rfl rfl rfl (p_isImage (by with_reducible assumption)) ?_ | refine r_tswd rfl (by with_reducible assumption) ?_ | refine wS_ildE (by omega) rfl rfl (by first | assumption | omega | (simp only [lS]; omega)) (by with_reducible assumption) ?_ | refine wS_ild (by omega) rfl rfl (by first | assumption | omega | (simp only [lS]; omega)) ?_)); try dsimp only
    · have tail : hRun 259 26 [.ref 281, .int (nI v), hU, hU] [] (hpM (hW E W1) 281 M8 w.2.2.1) (some (.int (nI nn))) (hpM (hW E W1) 281 (s1 M8 1 vN) w.2.2.1) := by
        have er8 : M8 1 (1148 * (18 + 6 * v + 0) + 1) = nI rm := by rw [e81]; exact er
        have fin : hRun 259 56 [.ref 281, .int (nI v), .int (nI rm), .int (nI 0)] [] (hpM (hW E W1) 281 (s1 M8 1 (upB (M 1) v nn 0)) w.2.2.1) (some (.int (nI nn))) (hpM (hW E W1) 281 (s1 M8 1 vN) w.2.2.1) := by
          have e9 : (s1 M8 1 vN) 8 v = nI nn := by rw [s1_row, if_neg (by omega)]; exact e88
          (repeat (first | refine r_fw rfl rfl rfl rfl ?_ | refine rM_get rfl rfl ?_)); try dsimp only
          try simp only [na0, na1, na2, na3, na4, na5, na6, na7, na8, na16, na88, na148, nm3, nI_add]
          refine r_callS rfl rfl rfl rfl (k_paneAt v 0) ?_
          (repeat (first | refine r_fw rfl rfl rfl rfl ?_ | refine rM_get rfl rfl ?_)); try dsimp only
          try simp only [na0, na1, na2, na3, na4, na5, na6, na7, na8, na16, na88, na148, nm3, nI_add]
          refine rM_call rfl rfl rfl rfl rfl (m_begins (B := 1148 * (18 + 6 * v + 0)) _ (by omega)) ?_
          rw [s1_s1, s1_at]
          rw [show bgW (upB (M 1) v nn 0) (1148 * (18 + 6 * v + 0)) (nI rm) = vN from hvN.symm]
          (repeat (first | refine r_fw rfl rfl rfl rfl ?_ | refine rM_get rfl rfl ?_)); try dsimp only
          try simp only [na0, na1, na2, na3, na4, na5, na6, na7, na8, na16, na88, na148, nm3, nI_add]
          refine rM_ildE (j := 8) rfl rfl (show v < 2 from hv) e9 ?_
          (refine r_rtE rfl rfl ?_ ?_ ?_ <;> rfl)
        have lp := kturn_loop (h := hW E W1) (M := M8) (x := w.2.2.1) (v := v) (n := nn) (u := M 1) (rv := nI rm) hv (by omega) hnn1.1 fin (nn - 1) (by omega)
        rw [u0, ← e81, s1_id] at lp
        (repeat (first | refine r_fw rfl rfl rfl rfl ?_ | refine rM_get rfl rfl ?_)); try dsimp only
        try simp only [na0, na1, na2, na3, na4, na5, na6, na7, na8, na16, na88, na148, nm3, nI_add]
        refine r_callS rfl rfl rfl rfl (k_paneAt v 0) ?_
        (repeat (first | refine r_fw rfl rfl rfl rfl ?_ | refine rM_get rfl rfl ?_)); try dsimp only
        try simp only [na0, na1, na2, na3, na4, na5, na6, na7, na8, na16, na88, na148, nm3, nI_add]
        refine rM_ildE (j := 1) rfl rfl (show 1148 * (18 + 6 * v + 0) + 1 < 35588 by omega) er8 ?_
        (repeat (first | refine r_fw rfl rfl rfl rfl ?_ | refine rM_get rfl rfl ?_)); try dsimp only
        try simp only [na0, na1, na2, na3, na4, na5, na6, na7, na8, na16, na88, na148, nm3, nI_add]
        refine rM_ildE (j := 8) rfl rfl (show v < 2 from hv) e88 ?_
        (repeat (first | refine r_fw rfl rfl rfl rfl ?_ | refine rM_get rfl rfl ?_)); try dsimp only
        try simp only [na0, na1, na2, na3, na4, na5, na6, na7, na8, na16, na88, na148, nm3, nI_add]
        rw [nI_s1 hnn1.1]
        exact lp
      have pre : ∀ r h', hRun 259 17 [.ref 281, .int (nI v), hU, hU] [.int (nI mo), .int (nI nu)] (hpM (hW E W1) 281 M w.2.2.1) r h' → hRun 259 3 [.ref 281, .int (nI v), hU, hU] [] (hpM (hW E W1) 281 M w.2.2.1) r h' := by
        intro r h' K
        (repeat (first | refine r_fw rfl rfl rfl rfl ?_ | refine rM_get rfl rfl ?_)); try dsimp only
        try simp only [na0, na1, na2, na3, na4, na5, na6, na7, na8, na16, na88, na148, nm3, nI_add]
        refine rM_call rfl rfl rfl rfl rfl (k_isWindow_t hv hm7) ?_
        refine r_brF rfl rfl ?_ ?_
        · exact nz10
        (repeat (first | refine r_fw rfl rfl rfl rfl ?_ | refine rM_get rfl rfl ?_)); try dsimp only
        try simp only [na0, na1, na2, na3, na4, na5, na6, na7, na8, na16, na88, na148, nm3, nI_add]
        refine rM_ildE (j := 8) rfl rfl (show v < 2 from hv) m8 ?_
        (repeat (first | refine r_fw rfl rfl rfl rfl ?_ | refine rM_get rfl rfl ?_)); try dsimp only
        try simp only [na0, na1, na2, na3, na4, na5, na6, na7, na8, na16, na88, na148, nm3, nI_add]
        refine rM_ildE (j := 7) rfl rfl (show v < 2 from hv) m7 ?_
        exact K
      refine pre _ _ ?_
      by_cases c : nu < mo
      · have hnn2 : nn = nu + 1 := by rw [hnn, if_pos c]
        refine r_brF rfl rfl ?_ ?_
        · exact nle c (by omega)
        (repeat (first | refine r_fw rfl rfl rfl rfl ?_ | refine rM_get rfl rfl ?_)); try dsimp only
        try simp only [na0, na1, na2, na3, na4, na5, na6, na7, na8, na16, na88, na148, nm3, nI_add]
        refine rM_ildE (j := 8) rfl rfl (show v < 2 from hv) m8 ?_
        (repeat (first | refine r_fw rfl rfl rfl rfl ?_ | refine rM_get rfl rfl ?_)); try dsimp only
        try simp only [na0, na1, na2, na3, na4, na5, na6, na7, na8, na16, na88, na148, nm3, nI_add]
        refine rM_ist (j := 8) rfl rfl (show v < 2 from hv) ?_
        rw [← hnn2, ← hM8]
        exact tail
      · have hnn2 : nn = nu := by rw [hnn, if_neg c]
        have e0 : M8 = M := by
          rw [hM8, hnn2]
          have : upd (M 8) v (nI nu) = M 8 := by
            funext i
            unfold upd
            split
            · rename_i z
              rw [z, m8]
            · rfl
          rw [this, s1_id]
        rw [e0] at tail
        rw [e0]
        refine r_brT rfl rfl ?_ ?_
        · exact nI_le (by omega) (by omega)
        exact tail
  · refine Ans_3 (v := -2) (u := -2) hMd I rfl rfl rfl rfl ?_ ?_ rfl
    · (repeat (first | refine r_fy rfl rfl rfl rfl ?_ | (refine r_rtE rfl rfl ?_ ?_ ?_ <;> rfl) | refine wS_getE (by omega) rfl rfl (by with_reducible assumption) ?_ | refine wS_get (by omega) rfl rfl ?_ | refine wW_getE (by with_reducible assumption) rfl rfl (by with_reducible assumption) ?_ | refine wW_get (by with_reducible assumption) rfl rfl ?_ | refine wP_ld (by with_reducible assumption) (by omega) rfl ?_ | refine wP_ld (p := 0) (by with_reducible assumption) (by omega) rfl ?_ | refine wH_call rfl rfl rfl rfl rfl (x_opened_t (by with_reducible assumption) (by with_reducible assumption)) ?_ | refine wH_call rfl rfl rfl rfl rfl (x_opened_f (by with_reducible assumption)) ?_ | refine r_get rfl rfl rfl ?_ | refine r_brT rfl rfl (by with_reducible first | assumption | rfl | exact nz10 | exact nI_pos (by omega) | exact nI_lt (by omega) (by omega) | exact nI_nlt (by omega) (by omega) | exact nI_le (by omega) (by omega) | exact nI_ge (by omega) (by omega)) ?_ | refine r_brF rfl rfl (by with_reducible first | assumption | rfl | exact nz10 | exact nI_pos (by omega) | exact nI_lt (by omega) (by omega) | exact nI_nlt (by omega) (by omega) | exact nI_le (by omega) (by omega) | exact nI_ge (by omega) (by omega)) ?_ | refine wH_call rfl rfl rfl rfl rfl (x_standing_t (by with_reducible assumption) (by with_reducible assumption)) ?_ | refine wH_call rfl rfl rfl rfl rfl (x_standing_f (by with_reducible assumption)) ?_ | refine r_callS rfl rfl rfl rfl (p_isSummary (by with_reducible assumption)) ?_ | refine r_callS rfl rfl rfl rfl (p_isThing (by with_reducible assumption)) ?_ | refine r_callS rfl rfl rfl rfl (p_isRoom (by with_reducible assumption)) ?_ | refine r_callS rfl rfl rfl rfl (p_isTop (by with_reducible assumption)) ?_ | refine r_callS rfl rfl rfl rfl (p_isWeight (by with_reducible assumption)) ?_ | refine r_callS rfl rfl rfl rfl (p_isShare (by with_reducible assumption)) ?_ | refine r_callS rfl rfl rfl rfl (p_isWindow (by with_reducible assumption)) ?_ | refine r_callS rfl rfl rfl rfl (p_isImage (by with_reducible assumption)) ?_ | refine r_tswd rfl (by with_reducible assumption) ?_ | refine wS_ildE (by omega) rfl rfl (by first | assumption | omega | (simp only [lS]; omega)) (by with_reducible assumption) ?_ | refine wS_ild (by omega) rfl rfl (by first | assumption | omega | (simp only [lS]; omega)) ?_)); try dsimp only
    · (repeat (first | refine r_fy rfl rfl rfl rfl ?_ | (refine r_rtE rfl rfl ?_ ?_ ?_ <;> rfl) | refine rM_get rfl rfl ?_ | refine rM_call rfl rfl rfl rfl rfl (k_isWindow_t (by with_reducible assumption) (by with_reducible assumption)) ?_ | refine rM_call rfl rfl rfl rfl rfl (k_isWindow_f (by with_reducible assumption)) ?_ | refine rM_ildE (j := 7) rfl rfl (show _ < 2 by omega) (by with_reducible assumption) ?_ | refine rM_ildE (j := 8) rfl rfl (show _ < 2 by omega) (by with_reducible assumption) ?_ | refine r_callS rfl rfl rfl rfl (k_paneAt _ _) ?_ | refine r_callS rfl rfl rfl rfl (k_paneAt _ 0) ?_ | refine r_brT rfl rfl (by with_reducible first | assumption | rfl | exact nz10 | exact nI_pos (by omega) | exact nI_lt (by omega) (by omega) | exact nI_nlt (by omega) (by omega) | exact nI_le (by omega) (by omega) | exact nI_ge (by omega) (by omega)) ?_ | refine r_brF rfl rfl (by with_reducible first | assumption | rfl | exact nz10 | exact nI_pos (by omega) | exact nI_lt (by omega) (by omega) | exact nI_nlt (by omega) (by omega) | exact nI_le (by omega) (by omega) | exact nI_ge (by omega) (by omega)) ?_ | refine rM_call rfl rfl rfl rfl rfl (k_isThere_t (by with_reducible assumption) (by with_reducible assumption)) ?_ | refine rM_call rfl rfl rfl rfl rfl (k_isThere_f (by with_reducible assumption)) ?_ | refine rM_call rfl rfl rfl rfl rfl (m_manyE (by omega) (by with_reducible assumption)) ?_ | refine rM_call rfl rfl rfl rfl rfl (q_isSummary (by with_reducible assumption)) ?_ | (refine r_callS rfl rfl rfl rfl (m_bank _) ?_; rw [nm1148]) | refine r_callS rfl rfl rfl rfl (q_isThing (by with_reducible assumption)) ?_ | refine r_callS rfl rfl rfl rfl (q_isTop (by with_reducible assumption)) ?_ | refine r_callS rfl rfl rfl rfl (q_isPart (by with_reducible assumption)) ?_ | refine r_callS rfl rfl rfl rfl (q_isIn (by with_reducible assumption) (by decide) (by first | exact lx_m1 (by omega) | decide)) ?_ | refine rM_call rfl rfl rfl rfl rfl (m_ofE (u := 0) (by omega) (by omega) (by omega) (by with_reducible assumption)) ?_ | refine rM_call rfl rfl rfl rfl rfl (m_ofE (u := 1) (by omega) (by omega) (by omega) (by with_reducible assumption)) ?_ | refine rM_call rfl rfl rfl rfl rfl (m_ofE (u := 2) (by omega) (by omega) (by omega) (by with_reducible assumption)) ?_ | refine r_tswd rfl (by with_reducible assumption) ?_ | (simp only [Option.toList, List.drop, List.cons_append, List.nil_append, na0, na1, na2, na3, na4, na5, na6, na7, na8, na16, na88, na148, nm3, nI_add]; refine rM_ildE (j := 1) rfl rfl (show _ < 35588 by omega) (by with_reducible assumption) ?_) | (simp only [Option.toList, List.drop, List.cons_append, List.nil_append, na0, na1, na2, na3, na4, na5, na6, na7, na8, na16, na88, na148, nm3, nI_add]; refine rM_ild (j := 1) rfl rfl (show _ < 35588 by omega) ?_))); try simp only [Option.toList, List.drop, List.cons_append, List.nil_append, na0, na1, na2, na3, na4, na5, na6, na7, na8, na16, na88, na148, nm3, nI_add]
end CD3
