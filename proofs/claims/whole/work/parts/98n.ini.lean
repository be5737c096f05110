/-! THE CONSTRUCTORS -/
section RNW
variable {mi k : Nat} {L st : List Value} {h h' : hH} {r : Option Value}
theorem r_newA {t len pc kd y n : Nat} {z : Int32} {zl : Int64} {ts : List Nat} {ty : ArrayType} (he : hI mi k = some (.newarray ty, len, pc, kd, y, z, zl, ts)) (hn : n ≤ 100000) (K : hRun mi (k + 1) L (.ref h.1 :: st) (hNw h n (.inr (kd, n, .inl fun _ => 0))) r h') : hRun mi k L (.int (nI n) :: st) h r h' := by
  refine r_step he rfl ?_ K
  simp only [hStep, hNewA, if_neg (nI_pos (show n < 2 ^ 31 by omega)), nI_clamp (show n < 2 ^ 31 by omega), if_pos hn]
theorem r_newQ {i len pc kd y n : Nat} {z : Int32} {zl : Int64} {ts : List Nat} (he : hI mi k = some (.anewarray i, len, pc, kd, y, z, zl, ts)) (hn : n ≤ 100000) (K : hRun mi (k + 1) L (.ref h.1 :: st) (hNw h n (.inr (kd, n, .inr fun _ => none))) r h') : hRun mi k L (.int (nI n) :: st) h r h' := by
  refine r_step he rfl ?_ K
  simp only [hStep, hNewQ, if_neg (nI_pos (show n < 2 ^ 31 by omega)), nI_clamp (show n < 2 ^ 31 by omega), if_pos hn]
theorem r_ast {len pc x y a p n t v : Nat} {z : Int32} {zl : Int64} {ts : List Nat} {g : Nat → Option Nat} (he : hI mi k = some (.aastore, len, pc, x, y, z, zl, ts)) (ha : h.2.2 a = .inr (t, n, .inr g)) (ht : decide (3 ≤ t ∧ t ≤ 6 ∧ n < 2147483648) = true) (hp : p < n) (hv : hAs t (h.2.2 v) = true) (K : hRun mi (k + 1) L st (hSt h a (.inr (t, n, .inr (va_up g p (some v))))) r h') : hRun mi k L (.ref v :: .int (nI p) :: .ref a :: st) h r h' := by
  have ht := of_decide_eq_true ht
  refine r_step he rfl ?_ K
  have h1 := nI_in hp ht.2.2
  simp only [hStep, hAst, ha, if_pos (show 3 ≤ t ∧ t ≤ 6 from ⟨ht.1, ht.2.1⟩), if_pos h1, if_pos hv]
  rw [nI_clamp (by omega)]
/-- a constructor of ours called -/
theorem r_ini {i len pc x a ci : Nat} {z : Int32} {zl : Int64} {ts : List Nat} {Q : hR} {fs : List Value} {h1 : hH} (he : hI mi k = some (.invokespecial i, len, pc, x, 1, z, zl, ts)) (hx : decide (x = 1000) = false) (hQ : hmR x = some Q) (h5 : Q.2.2.2.2.2.1 = ci) (hc : h.2.2 a = .inl (ci, fs)) (hs : decide (hCats st ≤ 8 ∧ 1 ≤ Q.2.2.1) = true) (C : hRun x 0 (hEnt [.ref a] Q.2.2.1) [] h none h1) (K : hRun mi (k + 1) L st h1 r h') : hRun mi k L (.ref a :: st) h r h' := by
  have hx := of_decide_eq_false hx
  have hs := of_decide_eq_true hs
  refine r_call he ?_ rfl rfl hQ ?_ (decide_eq_true ⟨hs.1, rfl, hs.2⟩) C K
  · show (if x = 1000 then 0 else 2) = 2
    rw [if_neg hx]
  · show (match h.2.2 a with | .inl o => o.1 == Q.2.2.2.2.2.1 | .inr _ => false) = true
    rw [hc, h5]
    simp
end RNW
/-- an object in the making: its arrays come behind it -/
def oHp (ci : Nat) (arr : Nat → hC) (b k s : Nat) (fs : List Value) (f : Nat → hC) : hH := (b + 1 + k, s, fun a => if a = b then .inl (ci, fs) else if b < a ∧ a ≤ b + k then arr (a - b) else f a)
theorem oHp_0 {ci n : Nat} {arr : Nat → hC} {h : hH} {fs : List Value} : hNw h n (.inl (ci, fs)) = oHp ci arr h.1 0 (h.2.1 + n) fs h.2.2 := by
  unfold hNw oHp
  refine congrArg (fun z => (h.1 + 1, h.2.1 + n, z)) (funext fun a => ?_)
  by_cases e : a = h.1
  · rw [if_pos e, if_pos e]
  · rw [if_neg e, if_neg e, if_neg (by omega)]
theorem oHp_b {ci b k s : Nat} {arr : Nat → hC} {fs : List Value} {f : Nat → hC} : (oHp ci arr b k s fs f).2.2 b = .inl (ci, fs) := if_pos rfl
section ROH
variable {mi K : Nat} {L st : List Value} {h' : hH} {r : Option Value} {ci b k s : Nat} {arr f : Nat → hC} {fs : List Value}
theorem o_put {i len pc y : Nat} {z : Int32} {zl : Int64} {ts : List Nat} {v : Value} (he : hI mi K = some (.putfield i, len, pc, ci, y, z, zl, ts)) (hf : hFit (hTy ci y) v = true) (hl : decide (y < fs.length) = true) (Kk : hRun mi (K + 1) L st (oHp ci arr b k s (fs.set y v) f) r h') : hRun mi K L (v :: .ref b :: st) (oHp ci arr b k s fs f) r h' := by
  refine r_put he oHp_b hf hl ?_
  have e : hSt (oHp ci arr b k s fs f) b (.inl (ci, fs.set y v)) = oHp ci arr b k s (fs.set y v) f := by
    unfold hSt oHp
    refine congrArg (fun z => (b + 1 + k, s, z)) (funext fun a => ?_)
    dsimp only
    by_cases e : a = b
    · rw [if_pos e, if_pos e]
    · rw [if_neg e, if_neg e, if_neg e]
  rw [e]
  exact Kk
theorem o_new {l1 p1 kd y1 i2 l2 p2 y n : Nat} {ty : ArrayType} {z1 z2 : Int32} {zl1 zl2 : Int64} {ts1 ts2 : List Nat} (he1 : hI mi K = some (.newarray ty, l1, p1, kd, y1, z1, zl1, ts1)) (he2 : hI mi (K + 1) = some (.putfield i2, l2, p2, ci, y, z2, zl2, ts2)) (hn : n ≤ 100000) (ha : arr (k + 1) = .inr (kd, n, .inl fun _ => 0)) (hf : hFit (hTy ci y) (.ref (b + 1 + k)) = true) (hl : decide (y < fs.length) = true) (Kk : hRun mi (K + 2) L st (oHp ci arr b (k + 1) (s + n) (fs.set y (.ref (b + 1 + k))) f) r h') : hRun mi K L (.int (nI n) :: .ref b :: st) (oHp ci arr b k s fs f) r h' := by
  refine r_newA (t := 0) he1 hn ?_
  have e : hNw (oHp ci arr b k s fs f) n (.inr (kd, n, .inl fun _ => 0)) = oHp ci arr b (k + 1) (s + n) fs f := by
    unfold hNw oHp
    refine congrArg (fun z => (b + 1 + k + 1, s + n, z)) (funext fun a => ?_)
    dsimp only
    by_cases e : a = b + 1 + k
    · rw [if_pos e, if_neg (by omega), if_pos (by omega), show a - b = k + 1 by omega, ha]
    · rw [if_neg e]
      by_cases e2 : a = b
      · rw [if_pos e2, if_pos e2]
      · rw [if_neg e2, if_neg e2]
        by_cases e3 : b < a ∧ a ≤ b + k
        · rw [if_pos e3, if_pos (by omega)]
        · rw [if_neg e3, if_neg (by omega)]
  rw [e]
  exact o_put he2 hf hl Kk
end ROH
abbrev Z2 : hT2 := fun _ _ => 0
/-- a new summary -/
def hNS (h : hH) : hH := hpS (h.1 + 8, h.2.1 + 1147, h.2.2) h.1 Z2
theorem i_sum (h : hH) : hRun 26 0 [.ref h.1] [] (hNw h 15 (.inl (5, hDf 5))) none (hNS h) := by
  obtain ⟨b, s, f⟩ := h
  rw [oHp_0 (arr := fun j => .inr (0, lS j, .inl fun _ => 0))]
  refine r_step rfl rfl rfl ?_
  refine r_step rfl rfl rfl ?_
  refine r_step rfl rfl rfl ?_
  refine r_step rfl rfl rfl ?_
  refine o_new (n := 24) rfl rfl (by decide) rfl rfl rfl ?_
  refine r_step rfl rfl rfl ?_
  refine r_step rfl rfl rfl ?_
  refine o_new (n := 24) rfl rfl (by decide) rfl rfl rfl ?_
  refine r_step rfl rfl rfl ?_
  refine r_step rfl rfl rfl ?_
  refine o_new (n := 24) rfl rfl (by decide) rfl rfl rfl ?_
  refine r_step rfl rfl rfl ?_
  refine r_step rfl rfl rfl ?_
  refine o_new (n := 1000) rfl rfl (by decide) rfl rfl rfl ?_
  refine r_step rfl rfl rfl ?_
  refine r_step rfl rfl rfl ?_
  refine o_new (n := 20) rfl rfl (by decide) rfl rfl rfl ?_
  refine r_step rfl rfl rfl ?_
  refine r_step rfl rfl rfl ?_
  refine o_new (n := 20) rfl rfl (by decide) rfl rfl rfl ?_
  refine r_step rfl rfl rfl ?_
  refine r_step rfl rfl rfl ?_
  refine o_new (n := 20) rfl rfl (by decide) rfl rfl rfl ?_
  exact r_ret rfl rfl rfl rfl
/-- a row of summaries -/
def sC (B a : Nat) : hC := if (a - B) % 8 = 0 then .inl (5, oS a Z2) else .inr (0, lS ((a - B) % 8), .inl fun _ => 0)
def Sh (ci : Nat) (fs : List Value) (b s n : Nat) (f : Nat → hC) : hH := (b + 2 + 8 * n, s + 1147 * n, fun a => if a = b then .inl (ci, fs) else if a = b + 1 then .inr (5, 6, .inr fun j => if j < n then some (b + 2 + 8 * j) else none) else if b + 2 ≤ a ∧ a < b + 2 + 8 * n then sC (b + 2) a else f a)
theorem Sh_b {ci b s n : Nat} {fs : List Value} {f : Nat → hC} : (Sh ci fs b s n f).2.2 b = .inl (ci, fs) := if_pos rfl
theorem Sh_s {ci b s n : Nat} {fs : List Value} {f : Nat → hC} : hSt (hNS (Sh ci fs b s n f)) (b + 1) (.inr (5, 6, .inr (va_up (fun j => if j < n then some (b + 2 + 8 * j) else none) n (some (b + 2 + 8 * n))))) = Sh ci fs b s (n + 1) f := by
  unfold hSt hNS hpS Sh
  refine Prod.ext (by show b + 2 + 8 * n + 8 = b + 2 + 8 * (n + 1); omega) (Prod.ext (by show s + 1147 * n + 1147 = s + 1147 * (n + 1); omega) (funext fun a => ?_))
  dsimp only
  by_cases e1 : a = b + 1
  · rw [if_pos e1, if_neg (by omega), if_pos e1]
    refine congrArg (fun g => Sum.inr (5, 6, Sum.inr g)) (funext fun j => ?_)
    unfold va_up
    by_cases q : j = n
    · rw [if_pos q, if_pos (by omega), q]
    · rw [if_neg q]
      dsimp only
      by_cases q2 : j < n
      · rw [if_pos q2, if_pos (by omega)]
      · rw [if_neg q2, if_neg (by omega)]
  · rw [if_neg e1]
    by_cases e2 : a = b + 2 + 8 * n
    · rw [if_pos e2, if_neg (by omega), if_neg e1, if_pos (by omega)]
      unfold sC
      rw [if_pos (by omega), e2]
    · rw [if_neg e2]
      by_cases e3 : b + 2 + 8 * n < a ∧ a ≤ b + 2 + 8 * n + 7
      · rw [if_pos e3, if_neg (by omega), if_neg e1, if_pos (by omega)]
        unfold sC
        rw [if_neg (by omega), show (a - (b + 2)) % 8 = a - (b + 2 + 8 * n) by omega]
      · rw [if_neg e3]
        by_cases e4 : a = b
        · rw [if_pos e4, if_pos e4]
        · rw [if_neg e4, if_neg e4, if_neg e1, if_neg e1]
          by_cases e5 : b + 2 ≤ a ∧ a < b + 2 + 8 * n
          · rw [if_pos e5, if_pos (by omega)]
          · rw [if_neg e5, if_neg (by omega)]
theorem Sh_new {ci b s n : Nat} {fs : List Value} {f : Nat → hC} : (hNS (Sh ci fs b s n f)).2.2 (b + 1) = .inr (5, 6, .inr fun j => if j < n then some (b + 2 + 8 * j) else none) ∧ hAs 5 ((hNS (Sh ci fs b s n f)).2.2 (b + 2 + 8 * n)) = true := by
  constructor
  · show (if b + 1 = b + 2 + 8 * n then _ else if b + 2 + 8 * n < b + 1 ∧ b + 1 ≤ b + 2 + 8 * n + 7 then _ else if b + 1 = b then _ else if b + 1 = b + 1 then _ else _) = _
    rw [if_neg (by omega), if_neg (by omega), if_neg (by omega), if_pos rfl]
  · have : (hNS (Sh ci fs b s n f)).2.2 (b + 2 + 8 * n) = .inl (5, oS (b + 2 + 8 * n) Z2) := if_pos rfl
    rw [this]
    rfl
theorem shelf_new_loop {b s : Nat} {fs : List Value} {f : Nat → hC} (hfs : fs[0]? = some (.ref (b + 1))) : ∀ d n, n + d = 6 → hRun 23 8 [.ref b, .int (nI n)] [] (Sh 4 fs b s n f) none (Sh 4 fs b s 6 f) := by
  intro d
  induction d with
  | zero =>
    intro n hn
    rw [show n = 6 by omega]
    refine r_step rfl rfl rfl ?_
    refine r_step rfl rfl rfl ?_
    refine r_brT rfl rfl ?_ ?_
    · decide
    exact r_ret rfl rfl rfl rfl
  | succ d ih =>
    intro n hn
    obtain ⟨n1, n2⟩ := Sh_new (ci := 4) (b := b) (s := s) (n := n) (fs := fs) (f := f)
    refine r_step rfl rfl rfl ?_
    refine r_step rfl rfl rfl ?_
    refine r_brF rfl rfl ?_ ?_
    · exact nle (b := 6) (by omega) (by omega)
    refine r_step rfl rfl rfl ?_
    refine r_get rfl Sh_b hfs ?_
    refine r_step rfl rfl rfl ?_
    refine r_step rfl rfl rfl ?_
    refine r_step rfl rfl rfl ?_
    refine r_ini (fs := hDf 5) rfl rfl rfl rfl (if_pos rfl) rfl (i_sum (Sh 4 fs b s n f)) ?_
    refine r_ast rfl n1 rfl (by omega) n2 ?_
    rw [show (Sh 4 fs b s n f).1 = b + 2 + 8 * n from rfl, Sh_s]
    refine r_step rfl rfl rfl ?_
    try dsimp only
    rw [nI_1]
    refine r_step rfl rfl rfl ?_
    exact ih (n + 1) (by omega)
theorem win_new_loop {b s : Nat} {fs : List Value} {f : Nat → hC} (hfs : fs[4]? = some (.ref (b + 1))) : ∀ d n, n + d = 6 → hRun 76 8 [.ref b, .int (nI n)] [] (Sh 7 fs b s n f) none (Sh 7 fs b s 6 f) := by
  intro d
  induction d with
  | zero =>
    intro n hn
    rw [show n = 6 by omega]
    refine r_step rfl rfl rfl ?_
    refine r_step rfl rfl rfl ?_
    refine r_brT rfl rfl ?_ ?_
    · decide
    exact r_ret rfl rfl rfl rfl
  | succ d ih =>
    intro n hn
    obtain ⟨n1, n2⟩ := Sh_new (ci := 7) (b := b) (s := s) (n := n) (fs := fs) (f := f)
    refine r_step rfl rfl rfl ?_
    refine r_step rfl rfl rfl ?_
    refine r_brF rfl rfl ?_ ?_
    · exact nle (b := 6) (by omega) (by omega)
    refine r_step rfl rfl rfl ?_
    refine r_get rfl Sh_b hfs ?_
    refine r_step rfl rfl rfl ?_
    refine r_step rfl rfl rfl ?_
    refine r_step rfl rfl rfl ?_
    refine r_ini (fs := hDf 5) rfl rfl rfl rfl (if_pos rfl) rfl (i_sum (Sh 7 fs b s n f)) ?_
    refine r_ast rfl n1 rfl (by omega) n2 ?_
    rw [show (Sh 7 fs b s n f).1 = b + 2 + 8 * n from rfl, Sh_s]
    refine r_step rfl rfl rfl ?_
    try dsimp only
    rw [nI_1]
    refine r_step rfl rfl rfl ?_
    exact ih (n + 1) (by omega)
theorem Sh_0 {ci n y : Nat} {h : hH} {fs : List Value} : hSt (hNw (hNw h n (.inl (ci, fs))) 6 (.inr (5, 6, .inr fun _ => none))) h.1 (.inl (ci, fs.set y (.ref (h.1 + 1)))) = Sh ci (fs.set y (.ref (h.1 + 1))) h.1 (h.2.1 + n + 6) 0 h.2.2 := by
  unfold hSt hNw Sh
  refine Prod.ext rfl (Prod.ext rfl (funext fun a => ?_))
  dsimp only
  by_cases e : a = h.1
  · simp only [if_pos e]
  · simp only [if_neg e]
    by_cases e2 : a = h.1 + 1
    · have ez : (fun _ : Nat => (none : Option Nat)) = fun j => if j < 0 then some (h.1 + 2 + 8 * j) else none := funext fun j => by rw [if_neg (by omega)]
      simp only [if_pos e2]
      rw [ez]
    · simp only [if_neg e2]
      rw [if_neg (by omega)]
theorem nw_b {h : hH} {n m : Nat} {c c2 : hC} : (hNw (hNw h n c) m c2).2.2 h.1 = c := by
  show (if h.1 = h.1 + 1 then c2 else if h.1 = h.1 then c else _) = c
  rw [if_neg (by omega), if_pos rfl]
theorem i_shelf (h : hH) : hRun 23 0 [.ref h.1, hU] [] (hNw h 2 (.inl (4, hDf 4))) none (Sh 4 [.ref (h.1 + 1), .int 0] h.1 (h.2.1 + 8) 6 h.2.2) := by
  refine r_step rfl rfl rfl ?_
  refine r_step rfl rfl rfl ?_
  refine r_step rfl rfl rfl ?_
  refine r_step rfl rfl rfl ?_
  refine r_newQ (n := 6) rfl (by decide) ?_
  refine r_put rfl nw_b rfl rfl ?_
  rw [show (hNw h 2 (.inl (4, hDf 4))).1 = h.1 + 1 from rfl, Sh_0 (y := 0)]
  refine r_step rfl rfl rfl ?_
  refine r_step rfl rfl rfl ?_
  exact shelf_new_loop rfl 6 0 rfl
theorem i_win (h : hH) : hRun 76 0 [.ref h.1, hU] [] (hNw h 5 (.inl (7, hDf 7))) none (Sh 7 [.int 0, .int 0, .int 0, .int 0, .ref (h.1 + 1)] h.1 (h.2.1 + 11) 6 h.2.2) := by
  refine r_step rfl rfl rfl ?_
  refine r_step rfl rfl rfl ?_
  refine r_step rfl rfl rfl ?_
  refine r_step rfl rfl rfl ?_
  refine r_newQ (n := 6) rfl (by decide) ?_
  refine r_put rfl nw_b rfl rfl ?_
  rw [show (hNw h 5 (.inl (7, hDf 7))).1 = h.1 + 1 from rfl, Sh_0 (y := 4)]
  refine r_step rfl rfl rfl ?_
  refine r_step rfl rfl rfl ?_
  exact win_new_loop rfl 6 0 rfl
theorem i_list (h : hH) : hRun 3 0 [.ref h.1] [] (hNw h 4 (.inl (1, hDf 1))) none (oHp 1 (fun _ => .inr (0, 48, .inl fun _ => 0)) h.1 3 (h.2.1 + 148) [.ref (h.1 + 1), .ref (h.1 + 2), .ref (h.1 + 3), .int 0] h.2.2) := by
  rw [oHp_0 (arr := fun _ => .inr (0, 48, .inl fun _ => 0))]
  refine r_step rfl rfl rfl ?_
  refine r_step rfl rfl rfl ?_
  refine r_step rfl rfl rfl ?_
  refine r_step rfl rfl rfl ?_
  refine o_new (n := 48) rfl rfl (by decide) rfl rfl rfl ?_
  refine r_step rfl rfl rfl ?_
  refine r_step rfl rfl rfl ?_
  refine o_new (n := 48) rfl rfl (by decide) rfl rfl rfl ?_
  refine r_step rfl rfl rfl ?_
  refine r_step rfl rfl rfl ?_
  refine o_new (n := 48) rfl rfl (by decide) rfl rfl rfl ?_
  exact r_ret rfl rfl rfl rfl
theorem i_oct (h : hH) : hRun 9 0 [.ref h.1] [] (hNw h 2 (.inl (2, hDf 2))) none (oHp 2 (fun _ => .inr (0, 300, .inl fun _ => 0)) h.1 1 (h.2.1 + 302) [.ref (h.1 + 1), .int 0] h.2.2) := by
  rw [oHp_0 (arr := fun _ => .inr (0, 300, .inl fun _ => 0))]
  refine r_step rfl rfl rfl ?_
  refine r_step rfl rfl rfl ?_
  refine r_step rfl rfl rfl ?_
  refine r_step rfl rfl rfl ?_
  refine o_new (n := 300) rfl rfl (by decide) rfl rfl rfl ?_
  exact r_ret rfl rfl rfl rfl
theorem i_rdr (h : hH) : hRun 13 0 [.ref h.1] [] (hNw h 2 (.inl (3, hDf 3))) none (oHp 3 (fun _ => .inr (0, 0, .inl fun _ => 0)) h.1 0 (h.2.1 + 2) [.int 0, .int (-1)] h.2.2) := by
  rw [oHp_0 (arr := fun _ => .inr (0, 0, .inl fun _ => 0))]
  refine r_step rfl rfl rfl ?_
  refine r_step rfl rfl rfl ?_
  refine r_step rfl rfl rfl ?_
  refine r_step rfl rfl rfl ?_
  refine o_put rfl rfl rfl ?_
  exact r_ret rfl rfl rfl rfl
theorem i_drw (a : Nat) (h : hH) : hRun 0 0 [.ref a] [] h none h := by
  refine r_step rfl rfl rfl ?_
  refine r_step rfl rfl rfl ?_
  exact r_ret rfl rfl rfl rfl
/-- the reference's -/
def M00 : hT2 := fun a q => if a = 0 ∧ q = 6 then -1 else 0
theorem i_mod (h : hH) : hRun 158 0 [.ref h.1] [] (hNw h 19 (.inl (9, hDf 9))) none (hpM (h.1 + 12, h.2.1 + 38424, h.2.2) h.1 M00 0) := by
  rw [oHp_0 (arr := fun j => .inr (tM j, lM j, .inl fun _ => 0))]
  refine r_step rfl rfl rfl ?_
  refine r_step rfl rfl rfl ?_
  refine r_step rfl rfl rfl ?_
  refine r_step rfl rfl rfl ?_
  refine o_new (n := 35588) rfl rfl (by decide) rfl rfl rfl ?_
  refine r_step rfl rfl rfl ?_
  refine r_step rfl rfl rfl ?_
  refine o_new (n := 48) rfl rfl (by decide) rfl rfl rfl ?_
  refine r_step rfl rfl rfl ?_
  refine r_step rfl rfl rfl ?_
  refine o_new (n := 48) rfl rfl (by decide) rfl rfl rfl ?_
  refine r_step rfl rfl rfl ?_
  refine r_step rfl rfl rfl ?_
  refine o_new (n := 48) rfl rfl (by decide) rfl rfl rfl ?_
  refine r_step rfl rfl rfl ?_
  refine r_step rfl rfl rfl ?_
  refine o_new (n := 1000) rfl rfl (by decide) rfl rfl rfl ?_
  refine r_step rfl rfl rfl ?_
  refine r_step rfl rfl rfl ?_
  refine o_new (n := 1111) rfl rfl (by decide) rfl rfl rfl ?_
  refine r_step rfl rfl rfl ?_
  refine r_step rfl rfl rfl ?_
  refine o_new (n := 2) rfl rfl (by decide) rfl rfl rfl ?_
  refine r_step rfl rfl rfl ?_
  refine r_step rfl rfl rfl ?_
  refine o_new (n := 2) rfl rfl (by decide) rfl rfl rfl ?_
  refine r_step rfl rfl rfl ?_
  refine r_step rfl rfl rfl ?_
  refine o_new (n := 256) rfl rfl (by decide) rfl rfl rfl ?_
  refine r_step rfl rfl rfl ?_
  refine r_step rfl rfl rfl ?_
  refine o_new (n := 300) rfl rfl (by decide) rfl rfl rfl ?_
  refine r_step rfl rfl rfl ?_
  refine r_step rfl rfl rfl ?_
  refine o_put rfl rfl rfl ?_
  refine r_step rfl rfl rfl ?_
  refine r_step rfl rfl rfl ?_
  refine o_new (n := 2) rfl rfl (by decide) rfl rfl rfl ?_
  refine r_rtE rfl rfl rfl rfl ?_
  unfold oHp hpM
  refine Prod.ext rfl (Prod.ext (by show h.2.1 + 19 + 35588 + 48 + 48 + 48 + 1000 + 1111 + 2 + 2 + 256 + 300 + 2 = h.2.1 + 38424; omega) (funext fun a => ?_))
  dsimp only
  by_cases e : a = h.1
  · rw [if_pos e, if_pos e]
    rfl
  · rw [if_neg e, if_neg e]
    by_cases e2 : h.1 < a ∧ a ≤ h.1 + 11
    · rw [if_pos e2, if_pos e2]
      refine congrArg (fun g => Sum.inr (tM (a - h.1), lM (a - h.1), Sum.inl g)) (funext fun q => ?_)
      unfold M00
      rw [if_neg (by omega)]
    · rw [if_neg e2, if_neg e2]
