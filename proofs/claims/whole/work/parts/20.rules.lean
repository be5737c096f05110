/-! RUNS ON PAPER: rules -/
theorem hExec_more : ∀ (n : Nat) {mi k : Nat} {L st : List Value} {h : hH} {o : Option Value × hH}, hExec n mi k L st h = some o → hExec (n + 1) mi k L st h = some o
  | 0, _, _, _, _, _, _, hx => by simp [hExec] at hx
  | n + 1, mi, k, L, st, h, o, hx => by
    obtain ⟨r, h'⟩ := o
    obtain ⟨e, he, c⟩ := hExec_inv hx
    rw [hExec, he]
    try dsimp only
    rcases c with ⟨hk, k1, L1, st1, h1, hs, hx1⟩ | ⟨hk, hr, hrok, rfl⟩ | ⟨hk0, hk1, q, r1, h1, hq, c1, c2, c3, c4, hx1, hx2⟩
    · rw [hk]
      try dsimp only
      rw [hs]
      exact hExec_more n hx1
    · rw [hk]
      try dsimp only
      rw [hr]
      try dsimp only
      rw [if_pos hrok]
      rfl
    · split
      · rename_i w; exact absurd w hk0
      · rename_i w; exact absurd w hk1
      · rw [hq]
        try dsimp only
        rw [if_pos ⟨c1, c2, c3, c4⟩, hExec_more n hx1]
        exact hExec_more n hx2
theorem hExec_le {n n' : Nat} (hn : n ≤ n') {mi k : Nat} {L st : List Value} {h : hH} {o : Option Value × hH} (hx : hExec n mi k L st h = some o) : hExec n' mi k L st h = some o := by
  obtain ⟨d, rfl⟩ := Nat.le.dest hn
  clear hn
  induction d with
  | zero => exact hx
  | succ d ih => exact hExec_more _ ih
/-- the run from here on comes to its end, with r and h' -/
def hRun (mi k : Nat) (L st : List Value) (h : hH) (r : Option Value) (h' : hH) : Prop := ∃ n, hExec n mi k L st h = some (r, h')
section RUL
variable {mi k : Nat} {L st : List Value} {h h' : hH} {r : Option Value} {e : hE}
theorem r_step {k1 : Nat} {L1 st1 : List Value} {h1 : hH} (he : hI mi k = some e) (hk : hKd e = 0) (hs : hStep e k L st h = some (k1, L1, st1, h1)) (K : hRun mi k1 L1 st1 h1 r h') : hRun mi k L st h r h' := by
  obtain ⟨n, hn⟩ := K
  refine ⟨n + 1, ?_⟩
  rw [hExec, he]
  try dsimp only
  rw [hk]
  try dsimp only
  rw [hs]
  exact hn
theorem r_ret (he : hI mi k = some e) (hk : hKd e = 1) (hr : hRet e st = some r) (hrok : hRok mi r = true) : hRun mi k L st h r h := by
  refine ⟨1, ?_⟩
  rw [hExec, he]
  try dsimp only
  rw [hk]
  try dsimp only
  rw [hr]
  try dsimp only
  rw [if_pos hrok]
  rfl
theorem r_call {q : hR} {r1 : Option Value} {h1 : hH} {x y : Nat} (he : hI mi k = some e) (hk : hKd e = 2) (hx : e.2.2.2.1 = x) (hy : e.2.2.2.2.1 = y) (hq : hmR x = some q) (hc : hRcv e q.2.2.2.2.2.1 (st.take y).reverse h = true) (hs : decide (hCats (st.drop y) ≤ 8 ∧ (st.take y).length = y ∧ (hFl (st.take y).reverse).length ≤ q.2.2.1) = true) (C : hRun x 0 (hEnt (st.take y).reverse q.2.2.1) [] h r1 h1) (K : hRun mi (k + 1) L (r1.toList ++ st.drop y) h1 r h') : hRun mi k L st h r h' := by
  obtain ⟨n, hn⟩ := C
  obtain ⟨n2, hn2⟩ := K
  refine ⟨max n n2 + 1, ?_⟩
  subst hx
  subst hy
  rw [hExec, he]
  try dsimp only
  rw [hk]
  try dsimp only
  rw [hq]
  try dsimp only
  have hs2 := of_decide_eq_true hs
  rw [if_pos ⟨hc, hs2.1, hs2.2.1, hs2.2.2⟩, hExec_le (Nat.le_max_left n n2) hn]
  exact hExec_le (Nat.le_max_right n n2) hn2
/-- a branch: its condition, where it goes, what is left on the stack -/
def hBr (e : hE) (k : Nat) (st : List Value) : Option (Prop × Nat × Nat × List Value) := match e.1 with
  | .ifCond c _ => (match st with
    | .int x :: r => (match c with
      | .eq => some (x = 0, e.2.2.2.1, k + 1, r)
      | .ne => some (x = 0, k + 1, e.2.2.2.1, r)
      | .lt => some (x < 0, e.2.2.2.1, k + 1, r)
      | .ge => some (0 ≤ x, e.2.2.2.1, k + 1, r)
      | .gt => some (0 < x, e.2.2.2.1, k + 1, r)
      | .le => some (x ≤ 0, e.2.2.2.1, k + 1, r))
    | _ => none)
  | .if_icmp c _ => (match st with
    | .int y :: .int x :: r => (match c with
      | .eq => some (x = y, e.2.2.2.1, k + 1, r)
      | .ne => some (x = y, k + 1, e.2.2.2.1, r)
      | .lt => some (x < y, e.2.2.2.1, k + 1, r)
      | .ge => some (y ≤ x, e.2.2.2.1, k + 1, r)
      | .gt => some (y < x, e.2.2.2.1, k + 1, r)
      | .le => some (x ≤ y, e.2.2.2.1, k + 1, r))
    | _ => none)
  | _ => none
theorem hBr_ok {P : Prop} {t u : Nat} {r0 : List Value} (hb : hBr e k st = some (P, t, u, r0)) : hKd e = 0 ∧ (P → hStep e k L st h = some (t, L, r0, h)) ∧ (¬ P → hStep e k L st h = some (u, L, r0, h)) := by
  obtain ⟨i, len, pc, x, y, z, zl, ts⟩ := e
  unfold hBr at hb
  cases i with
  | ifCond c o =>
    dsimp only at hb
    split at hb
    · rename_i a r
      cases c <;> simp only [Option.some.injEq, Prod.mk.injEq] at hb <;> obtain ⟨rfl, rfl, rfl, rfl⟩ := hb <;> refine ⟨rfl, fun hp => ?_, fun hp => ?_⟩ <;> simp [hStep, hIf1, hCmp, hp]
    · cases hb
  | if_icmp c o =>
    dsimp only at hb
    split at hb
    · rename_i a b r
      cases c <;> simp only [Option.some.injEq, Prod.mk.injEq] at hb <;> obtain ⟨rfl, rfl, rfl, rfl⟩ := hb <;> refine ⟨rfl, fun hp => ?_, fun hp => ?_⟩ <;> simp [hStep, hIf2, hCmp, hp]
    · cases hb
  | _ => cases hb
theorem r_br {P : Prop} {t u : Nat} {r0 : List Value} (he : hI mi k = some e) (hb : hBr e k st = some (P, t, u, r0)) (kt : P → hRun mi t L r0 h r h') (kf : ¬ P → hRun mi u L r0 h r h') : hRun mi k L st h r h' := by
  obtain ⟨h1, h2, h3⟩ := hBr_ok (L := L) (h := h) hb
  by_cases hp : P
  · exact r_step he h1 (h2 hp) (kt hp)
  · exact r_step he h1 (h3 hp) (kf hp)
theorem r_brT {P : Prop} {t u : Nat} {r0 : List Value} (he : hI mi k = some e) (hb : hBr e k st = some (P, t, u, r0)) (hp : P) (kt : hRun mi t L r0 h r h') : hRun mi k L st h r h' := r_step he (hBr_ok (L := L) (h := h) hb).1 ((hBr_ok hb).2.1 hp) kt
theorem r_brF {P : Prop} {t u : Nat} {r0 : List Value} (he : hI mi k = some e) (hb : hBr e k st = some (P, t, u, r0)) (hp : ¬ P) (kf : hRun mi u L r0 h r h') : hRun mi k L st h r h' := r_step he (hBr_ok (L := L) (h := h) hb).1 ((hBr_ok hb).2.2 hp) kf
/-- an instruction that goes on, not back -/
def hFw (e : hE) (k : Nat) : Bool := match e.1 with
  | .goto _ => decide (k < e.2.2.2.1)
  | .ifCond _ _ => false
  | .if_icmp _ _ => false
  | _ => true
theorem r_fw {k1 : Nat} {L1 st1 : List Value} {h1 : hH} (he : hI mi k = some e) (hk : hKd e = 0) (hf : hFw e k = true) (hs : hStep e k L st h = some (k1, L1, st1, h1)) (K : hRun mi k1 L1 st1 h1 r h') : hRun mi k L st h r h' := r_step he hk hs K
theorem r_get {i len pc ci y a : Nat} {z : Int32} {zl : Int64} {ts : List Nat} {fs : List Value} {v : Value} {st : List Value} (he : hI mi k = some (.getfield i, len, pc, ci, y, z, zl, ts)) (ha : h.2.2 a = .inl (ci, fs)) (hv : fs[y]? = some v) (K : hRun mi (k + 1) L (v :: st) h r h') : hRun mi k L (.ref a :: st) h r h' := by
  refine r_step he rfl ?_ K
  simp [hStep, hGet, ha, hv]
theorem r_put {i len pc ci y a : Nat} {z : Int32} {zl : Int64} {ts : List Nat} {fs : List Value} {v : Value} {st : List Value} (he : hI mi k = some (.putfield i, len, pc, ci, y, z, zl, ts)) (ha : h.2.2 a = .inl (ci, fs)) (hf : hFit (hTy ci y) v = true) (hl : decide (y < fs.length) = true) (K : hRun mi (k + 1) L st (hSt h a (.inl (ci, fs.set y v))) r h') : hRun mi k L (v :: .ref a :: st) h r h' := by
  refine r_step he rfl ?_ K
  simp [hStep, hPut, ha, hf, of_decide_eq_true hl]
theorem r_ild {len pc x y a p n t : Nat} {z : Int32} {zl : Int64} {ts : List Nat} {f : Nat → Int32} {st : List Value} (he : hI mi k = some (.iaload, len, pc, x, y, z, zl, ts)) (ha : h.2.2 a = .inr (t, n, .inl f)) (ht : decide (t = 0 ∨ t = 7) = true) (hp : p < n) (hn : n < 2 ^ 31) (K : hRun mi (k + 1) L (.int (f p) :: st) h r h') : hRun mi k L (.int (nI p) :: .ref a :: st) h r h' := by
  refine r_step he rfl ?_ K
  have h1 := nI_in hp hn
  simp only [hStep, hIld, ha, if_pos (of_decide_eq_true ht), if_pos h1]
  rw [nI_clamp (by omega)]
theorem r_ist {len pc x y a p n : Nat} {z : Int32} {zl : Int64} {ts : List Nat} {f : Nat → Int32} {v : Int32} {st : List Value} (he : hI mi k = some (.iastore, len, pc, x, y, z, zl, ts)) (ha : h.2.2 a = .inr (0, n, .inl f)) (hp : p < n) (hn : n < 2 ^ 31) (K : hRun mi (k + 1) L st (hSt h a (.inr (0, n, .inl (upd f p v)))) r h') : hRun mi k L (.int v :: .int (nI p) :: .ref a :: st) h r h' := by
  refine r_step he rfl ?_ K
  have h1 := nI_in hp hn
  simp only [hStep, hIst, ha, if_pos h1]
  rw [nI_clamp (by omega)]
  rfl
end RUL
