/-! the world at the beginning -/
def W0 : Nat → hT2 := fun c => if c = 34 then (fun a q => if a = 0 ∧ q = 1 then -1 else 0) else if c = 36 then M00 else Z2
def w0 : hWo := (W0, 0, 0, fun v k => 19 + 6 * v + k)
noncomputable def E0 (L : Nat) (xs : Nat → Int32) : hEn := ((gq34 L xs).1, (gq34 L xs).2.1, L, xs)
def dC : hC := .inr (99, 0, .inl fun _ => 0)
def Sup (h : hH) : Prop := ∀ a, 293 ≤ a → h.2.2 a = dC
theorem Sup_nw {h : hH} {n : Nat} {c : hC} (hs : Sup h) (hn : h.1 < 293) : Sup (hNw h n c) := fun a ha => by
  show (if a = h.1 then c else h.2.2 a) = dC
  rw [if_neg (by omega)]
  exact hs a ha
theorem Sup_nh {h : hH} {b s : Nat} {c : hC} (hs : Sup h) (hn : b < 293) : Sup (nwH b s c h.2.2) := fun a ha => by
  show (if a = b then c else h.2.2 a) = dC
  rw [if_neg (by omega)]
  exact hs a ha
theorem Sup_st {h : hH} {b : Nat} {c : hC} (hs : Sup h) (hn : b < 293) : Sup (hSt h b c) := fun a ha => by
  show (if a = b then c else h.2.2 a) = dC
  rw [if_neg (by omega)]
  exact hs a ha
theorem Sup_sh {h : hH} {ci b s : Nat} {fs : List Value} (hs : Sup h) (hn : b + 50 ≤ 293) : Sup (Sh ci fs b s 6 h.2.2) := fun a ha => by
  show (if a = b then _ else if a = b + 1 then _ else if b + 2 ≤ a ∧ a < b + 2 + 8 * 6 then _ else h.2.2 a) = dC
  rw [if_neg (by omega), if_neg (by omega), if_neg (by omega)]
  exact hs a ha
theorem Sup_oh {h : hH} {ci b k s : Nat} {arr : Nat → hC} {fs : List Value} (hs : Sup h) (hn : b + k < 293) : Sup (oHp ci arr b k s fs h.2.2) := fun a ha => by
  show (if a = b then _ else if b < a ∧ a ≤ b + k then _ else h.2.2 a) = dC
  rw [if_neg (by omega), if_neg (by omega)]
  exact hs a ha
theorem Sup_ns {h : hH} {n s b : Nat} (hs : Sup h) (hn : b + 7 < 293) : Sup (hpS (n, s, h.2.2) b Z2) := fun a ha => by
  show (if a = b then _ else if b < a ∧ a ≤ b + 7 then _ else h.2.2 a) = dC
  rw [if_neg (by omega), if_neg (by omega)]
  exact hs a ha
theorem Sup_tr {h : hH} {s : Nat} (hs : Sup h) : Sup (tH s h.2.2) := fun a ha => by
  show (if a = 73 then _ else if a = 74 then _ else if a = 75 then _ else if a = 76 then _ else if a = 77 then _ else if a = 78 then _ else h.2.2 a) = dC
  rw [if_neg (by omega), if_neg (by omega), if_neg (by omega), if_neg (by omega), if_neg (by omega), if_neg (by omega)]
  exact hs a ha
theorem Sup_mo {h : hH} {n s b : Nat} {M : hT2} {x : Int64} (hs : Sup h) (hn : b + 11 < 293) : Sup (hpM (n, s, h.2.2) b M x) := fun a ha => by
  show (if a = b then _ else if b < a ∧ a ≤ b + 11 then _ else h.2.2 a) = dC
  rw [if_neg (by omega), if_neg (by omega)]
  exact hs a ha
theorem Sup_0 (L : Nat) (xs : Nat → Int32) : Sup (hStart L xs) := fun a ha => by
  match a, ha with
  | 0, ha => omega
  | 1, ha => omega
  | a + 2, _ => rfl
section SUP
variable (L : Nat) (xs : Nat → Int32)
theorem sp_1 : Sup (gq1 L xs) := Sup_nh (Sup_0 L xs) (by decide)
theorem sp_2 : Sup (gq2 L xs) := Sup_sh (sp_1 L xs) (by decide)
theorem sp_3 : Sup (gq3 L xs) := Sup_st (sp_2 L xs) (by decide)
theorem sp_4 : Sup (gq4 L xs) := Sup_nh (sp_3 L xs) (by decide)
theorem sp_5 : Sup (gq5 L xs) := Sup_st (sp_4 L xs) (by decide)
theorem sp_6 : Sup (gq6 L xs) := Sup_nh (sp_5 L xs) (by decide)
theorem sp_7 : Sup (gq7 L xs) := Sup_st (sp_6 L xs) (by decide)
theorem sp_8 : Sup (gq8 L xs) := Sup_oh (sp_7 L xs) (by decide)
theorem sp_9 : Sup (gq9 L xs) := Sup_st (sp_8 L xs) (by decide)
theorem sp_10 : Sup (gq10 L xs) := Sup_oh (sp_9 L xs) (by decide)
theorem sp_11 : Sup (gq11 L xs) := Sup_st (sp_10 L xs) (by decide)
theorem sp_12 : Sup (gq12 L xs) := Sup_oh (sp_11 L xs) (by decide)
theorem sp_13 : Sup (gq13 L xs) := Sup_st (sp_12 L xs) (by decide)
theorem sp_14 : Sup (gq14 L xs) := Sup_ns (sp_13 L xs) (by decide)
theorem sp_15 : Sup (gq15 L xs) := Sup_st (sp_14 L xs) (by decide)
theorem sp_16 : Sup (gq16 L xs) := Sup_oh (sp_15 L xs) (by decide)
theorem sp_17 : Sup (gq17 L xs) := Sup_st (sp_16 L xs) (by decide)
theorem sp_18 : Sup (gq18 L xs) := Sup_nh (sp_17 L xs) (by decide)
theorem sp_19 : Sup (gq19 L xs) := Sup_st (sp_18 L xs) (by decide)
theorem sp_20 : Sup (gq20 L xs) := Sup_tr (sp_19 L xs)
theorem sp_21 : Sup (gq21 L xs) := Sup_st (sp_20 L xs) (by decide)
theorem sp_22 : Sup (gq22 L xs) := Sup_nh (sp_21 L xs) (by decide)
theorem sp_23 : Sup (gq23 L xs) := Sup_st (sp_22 L xs) (by decide)
theorem sp_24 : Sup (gq24 L xs) := Sup_nh (sp_23 L xs) (by decide)
theorem sp_25 : Sup (gq25 L xs) := Sup_st (sp_24 L xs) (by decide)
theorem sp_26 : Sup (gq26 L xs) := Sup_sh (sp_25 L xs) (by decide)
theorem sp_27 : Sup (gq27 L xs) := Sup_st (sp_26 L xs) (by decide)
theorem sp_28 : Sup (gq28 L xs) := Sup_sh (sp_27 L xs) (by decide)
theorem sp_29 : Sup (gq29 L xs) := Sup_st (sp_28 L xs) (by decide)
theorem sp_30 : Sup (gq30 L xs) := Sup_sh (sp_29 L xs) (by decide)
theorem sp_31 : Sup (gq31 L xs) := Sup_st (sp_30 L xs) (by decide)
theorem sp_32 : Sup (gq32 L xs) := Sup_sh (sp_31 L xs) (by decide)
theorem sp_33 : Sup (gq33 L xs) := Sup_st (sp_32 L xs) (by decide)
theorem sp_34 : Sup (gq34 L xs) := Sup_mo (sp_33 L xs) (by decide)
theorem va_2 {a b : Nat} {g : Nat → Nat} (h0 : g 0 = a) (h1 : g 1 = b) : va_up (va_up (fun _ => none) 0 (some a)) 1 (some b) = fun s : Nat => if s < 2 then some (g s) else none := by
  funext s
  unfold va_up
  by_cases q1 : s = 1
  · subst q1
    rw [if_pos rfl, if_pos (by omega), h1]
  · rw [if_neg q1]
    by_cases q0 : s = 0
    · subst q0
      rw [if_pos rfl, if_pos (by omega), h0]
    · rw [if_neg q0, if_neg (by omega)]
theorem stp {P : Nat → Prop} {n : Nat} (h : ∀ a, a < n → P a) (k : P n) : ∀ a, a < n + 1 → P a := fun a ha => by
  by_cases e : a = n
  · rw [e]; exact k
  · exact h a (by omega)
theorem sp_W : Sup (hW (E0 L xs) w0) := fun a ha => by
  show wCl (E0 L xs) w0 a = dC
  unfold wCl
  rw [hZr_17 ha]
  dsimp only
  rw [if_neg (by decide), if_neg (by decide), if_neg (by decide), if_neg (by decide), if_neg (by decide), if_neg (by decide)]
  unfold wSt
  split <;> first | rfl | (exfalso; omega)
end SUP
theorem bs_5 {s : Nat} (h : s < 6) : 5 + 8 * s = bs s := by
  unfold bs
  rw [if_pos h]
theorem bs_83 {s : Nat} (h : s < 6) : 83 + 8 * s = bs (7 + s) := by
  unfold bs
  rw [if_neg (by omega), if_neg (by omega), if_pos (by omega), show 7 + s - 7 = s by omega]
theorem bs_133 {s : Nat} (h : s < 6) : 133 + 8 * s = bs (13 + s) := by
  unfold bs
  rw [if_neg (by omega), if_neg (by omega), if_neg (by omega), if_pos (by omega), show 13 + s - 13 = s by omega]
theorem bs_183 {s : Nat} (h : s < 6) : 183 + 8 * s = bs (19 + 6 * 0 + s) := by
  unfold bs
  rw [if_neg (by omega), if_neg (by omega), if_neg (by omega), if_neg (by omega), if_pos (by omega), show 19 + 6 * 0 + s - 19 = s by omega]
theorem bs_233 {s : Nat} (h : s < 6) : 233 + 8 * s = bs (19 + 6 * 1 + s) := by
  unfold bs
  rw [if_neg (by omega), if_neg (by omega), if_neg (by omega), if_neg (by omega), if_neg (by omega), show 19 + 6 * 1 + s - 25 = s by omega]
section FIN
variable (L : Nat) (xs : Nat → Int32)
def Pq (L : Nat) (xs : Nat → Int32) (a : Nat) : Prop := (gq34 L xs).2.2 a = (hW (E0 L xs) w0).2.2 a
theorem fq_0 : ∀ a, a < 0 → Pq L xs a := fun a h => absurd h (by omega)
theorem fq_1 : ∀ a, a < 20 → Pq L xs a := by
  have h0 : ∀ a, a < 0 → Pq L xs a := fq_0 L xs
  have h1 : ∀ a, a < 1 → Pq L xs a := stp h0 rfl
  have h2 : ∀ a, a < 2 → Pq L xs a := stp h1 rfl
  have h3 : ∀ a, a < 3 → Pq L xs a := stp h2 rfl
  have h4 : ∀ a, a < 4 → Pq L xs a := stp h3 rfl
  have h5 : ∀ a, a < 5 → Pq L xs a := stp h4 (congrArg (fun g : Nat → Option Nat => (Sum.inr (5, 6, Sum.inr g) : hC)) (funext fun s => by by_cases q : s < 6; (· rw [if_pos q, if_pos q]; exact congrArg some (bs_5 q)); (· rw [if_neg q, if_neg q])) : (Sum.inr (5, 6, Sum.inr fun s => if s < 6 then some (5 + 8 * s) else none) : hC) = Sum.inr (5, 6, Sum.inr fun s => if s < 6 then some (bs s) else none))
  have h6 : ∀ a, a < 6 → Pq L xs a := stp h5 rfl
  have h7 : ∀ a, a < 7 → Pq L xs a := stp h6 rfl
  have h8 : ∀ a, a < 8 → Pq L xs a := stp h7 rfl
  have h9 : ∀ a, a < 9 → Pq L xs a := stp h8 rfl
  have h10 : ∀ a, a < 10 → Pq L xs a := stp h9 rfl
  have h11 : ∀ a, a < 11 → Pq L xs a := stp h10 rfl
  have h12 : ∀ a, a < 12 → Pq L xs a := stp h11 rfl
  have h13 : ∀ a, a < 13 → Pq L xs a := stp h12 rfl
  have h14 : ∀ a, a < 14 → Pq L xs a := stp h13 rfl
  have h15 : ∀ a, a < 15 → Pq L xs a := stp h14 rfl
  have h16 : ∀ a, a < 16 → Pq L xs a := stp h15 rfl
  have h17 : ∀ a, a < 17 → Pq L xs a := stp h16 rfl
  have h18 : ∀ a, a < 18 → Pq L xs a := stp h17 rfl
  have h19 : ∀ a, a < 19 → Pq L xs a := stp h18 rfl
  have h20 : ∀ a, a < 20 → Pq L xs a := stp h19 rfl
  exact h20
theorem fq_2 : ∀ a, a < 40 → Pq L xs a := by
  have h20 : ∀ a, a < 20 → Pq L xs a := fq_1 L xs
  have h21 : ∀ a, a < 21 → Pq L xs a := stp h20 rfl
  have h22 : ∀ a, a < 22 → Pq L xs a := stp h21 rfl
  have h23 : ∀ a, a < 23 → Pq L xs a := stp h22 rfl
  have h24 : ∀ a, a < 24 → Pq L xs a := stp h23 rfl
  have h25 : ∀ a, a < 25 → Pq L xs a := stp h24 rfl
  have h26 : ∀ a, a < 26 → Pq L xs a := stp h25 rfl
  have h27 : ∀ a, a < 27 → Pq L xs a := stp h26 rfl
  have h28 : ∀ a, a < 28 → Pq L xs a := stp h27 rfl
  have h29 : ∀ a, a < 29 → Pq L xs a := stp h28 rfl
  have h30 : ∀ a, a < 30 → Pq L xs a := stp h29 rfl
  have h31 : ∀ a, a < 31 → Pq L xs a := stp h30 rfl
  have h32 : ∀ a, a < 32 → Pq L xs a := stp h31 rfl
  have h33 : ∀ a, a < 33 → Pq L xs a := stp h32 rfl
  have h34 : ∀ a, a < 34 → Pq L xs a := stp h33 rfl
  have h35 : ∀ a, a < 35 → Pq L xs a := stp h34 rfl
  have h36 : ∀ a, a < 36 → Pq L xs a := stp h35 rfl
  have h37 : ∀ a, a < 37 → Pq L xs a := stp h36 rfl
  have h38 : ∀ a, a < 38 → Pq L xs a := stp h37 rfl
  have h39 : ∀ a, a < 39 → Pq L xs a := stp h38 rfl
  have h40 : ∀ a, a < 40 → Pq L xs a := stp h39 rfl
  exact h40
theorem fq_3 : ∀ a, a < 60 → Pq L xs a := by
  have h40 : ∀ a, a < 40 → Pq L xs a := fq_2 L xs
  have h41 : ∀ a, a < 41 → Pq L xs a := stp h40 rfl
  have h42 : ∀ a, a < 42 → Pq L xs a := stp h41 rfl
  have h43 : ∀ a, a < 43 → Pq L xs a := stp h42 rfl
  have h44 : ∀ a, a < 44 → Pq L xs a := stp h43 rfl
  have h45 : ∀ a, a < 45 → Pq L xs a := stp h44 rfl
  have h46 : ∀ a, a < 46 → Pq L xs a := stp h45 rfl
  have h47 : ∀ a, a < 47 → Pq L xs a := stp h46 rfl
  have h48 : ∀ a, a < 48 → Pq L xs a := stp h47 rfl
  have h49 : ∀ a, a < 49 → Pq L xs a := stp h48 rfl
  have h50 : ∀ a, a < 50 → Pq L xs a := stp h49 rfl
  have h51 : ∀ a, a < 51 → Pq L xs a := stp h50 rfl
  have h52 : ∀ a, a < 52 → Pq L xs a := stp h51 rfl
  have h53 : ∀ a, a < 53 → Pq L xs a := stp h52 rfl
  have h54 : ∀ a, a < 54 → Pq L xs a := stp h53 (show _ = Sum.inr (4, 2, Sum.inr fun s => if s < 2 then some (81 + 50 * s) else none) by rw [← va_2 (a := 81) (b := 131) (g := fun s => 81 + 50 * s) rfl rfl]; rfl)
  have h55 : ∀ a, a < 55 → Pq L xs a := stp h54 (show _ = Sum.inr (6, 2, Sum.inr fun s => if s < 2 then some (181 + 50 * s) else none) by rw [← va_2 (a := 181) (b := 231) (g := fun s => 181 + 50 * s) rfl rfl]; rfl)
  have h56 : ∀ a, a < 56 → Pq L xs a := stp h55 rfl
  have h57 : ∀ a, a < 57 → Pq L xs a := stp h56 rfl
  have h58 : ∀ a, a < 58 → Pq L xs a := stp h57 rfl
  have h59 : ∀ a, a < 59 → Pq L xs a := stp h58 rfl
  have h60 : ∀ a, a < 60 → Pq L xs a := stp h59 rfl
  exact h60
theorem fq_4 : ∀ a, a < 80 → Pq L xs a := by
  have h60 : ∀ a, a < 60 → Pq L xs a := fq_3 L xs
  have h61 : ∀ a, a < 61 → Pq L xs a := stp h60 rfl
  have h62 : ∀ a, a < 62 → Pq L xs a := stp h61 rfl
  have h63 : ∀ a, a < 63 → Pq L xs a := stp h62 rfl
  have h64 : ∀ a, a < 64 → Pq L xs a := stp h63 rfl
  have h65 : ∀ a, a < 65 → Pq L xs a := stp h64 rfl
  have h66 : ∀ a, a < 66 → Pq L xs a := stp h65 rfl
  have h67 : ∀ a, a < 67 → Pq L xs a := stp h66 rfl
  have h68 : ∀ a, a < 68 → Pq L xs a := stp h67 rfl
  have h69 : ∀ a, a < 69 → Pq L xs a := stp h68 rfl
  have h70 : ∀ a, a < 70 → Pq L xs a := stp h69 rfl
  have h71 : ∀ a, a < 71 → Pq L xs a := stp h70 rfl
  have h72 : ∀ a, a < 72 → Pq L xs a := stp h71 rfl
  have h73 : ∀ a, a < 73 → Pq L xs a := stp h72 rfl
  have h74 : ∀ a, a < 74 → Pq L xs a := stp h73 rfl
  have h75 : ∀ a, a < 75 → Pq L xs a := stp h74 rfl
  have h76 : ∀ a, a < 76 → Pq L xs a := stp h75 rfl
  have h77 : ∀ a, a < 77 → Pq L xs a := stp h76 rfl
  have h78 : ∀ a, a < 78 → Pq L xs a := stp h77 rfl
  have h79 : ∀ a, a < 79 → Pq L xs a := stp h78 rfl
  have h80 : ∀ a, a < 80 → Pq L xs a := stp h79 rfl
  exact h80
theorem fq_5 : ∀ a, a < 100 → Pq L xs a := by
  have h80 : ∀ a, a < 80 → Pq L xs a := fq_4 L xs
  have h81 : ∀ a, a < 81 → Pq L xs a := stp h80 rfl
  have h82 : ∀ a, a < 82 → Pq L xs a := stp h81 rfl
  have h83 : ∀ a, a < 83 → Pq L xs a := stp h82 (congrArg (fun g : Nat → Option Nat => (Sum.inr (5, 6, Sum.inr g) : hC)) (funext fun s => by by_cases q : s < 6; (· rw [if_pos q, if_pos q]; exact congrArg some (bs_83 q)); (· rw [if_neg q, if_neg q])) : (Sum.inr (5, 6, Sum.inr fun s => if s < 6 then some (83 + 8 * s) else none) : hC) = Sum.inr (5, 6, Sum.inr fun s => if s < 6 then some (bs (7 + s)) else none))
  have h84 : ∀ a, a < 84 → Pq L xs a := stp h83 rfl
  have h85 : ∀ a, a < 85 → Pq L xs a := stp h84 rfl
  have h86 : ∀ a, a < 86 → Pq L xs a := stp h85 rfl
  have h87 : ∀ a, a < 87 → Pq L xs a := stp h86 rfl
  have h88 : ∀ a, a < 88 → Pq L xs a := stp h87 rfl
  have h89 : ∀ a, a < 89 → Pq L xs a := stp h88 rfl
  have h90 : ∀ a, a < 90 → Pq L xs a := stp h89 rfl
  have h91 : ∀ a, a < 91 → Pq L xs a := stp h90 rfl
  have h92 : ∀ a, a < 92 → Pq L xs a := stp h91 rfl
  have h93 : ∀ a, a < 93 → Pq L xs a := stp h92 rfl
  have h94 : ∀ a, a < 94 → Pq L xs a := stp h93 rfl
  have h95 : ∀ a, a < 95 → Pq L xs a := stp h94 rfl
  have h96 : ∀ a, a < 96 → Pq L xs a := stp h95 rfl
  have h97 : ∀ a, a < 97 → Pq L xs a := stp h96 rfl
  have h98 : ∀ a, a < 98 → Pq L xs a := stp h97 rfl
  have h99 : ∀ a, a < 99 → Pq L xs a := stp h98 rfl
  have h100 : ∀ a, a < 100 → Pq L xs a := stp h99 rfl
  exact h100
theorem fq_6 : ∀ a, a < 120 → Pq L xs a := by
  have h100 : ∀ a, a < 100 → Pq L xs a := fq_5 L xs
  have h101 : ∀ a, a < 101 → Pq L xs a := stp h100 rfl
  have h102 : ∀ a, a < 102 → Pq L xs a := stp h101 rfl
  have h103 : ∀ a, a < 103 → Pq L xs a := stp h102 rfl
  have h104 : ∀ a, a < 104 → Pq L xs a := stp h103 rfl
  have h105 : ∀ a, a < 105 → Pq L xs a := stp h104 rfl
  have h106 : ∀ a, a < 106 → Pq L xs a := stp h105 rfl
  have h107 : ∀ a, a < 107 → Pq L xs a := stp h106 rfl
  have h108 : ∀ a, a < 108 → Pq L xs a := stp h107 rfl
  have h109 : ∀ a, a < 109 → Pq L xs a := stp h108 rfl
  have h110 : ∀ a, a < 110 → Pq L xs a := stp h109 rfl
  have h111 : ∀ a, a < 111 → Pq L xs a := stp h110 rfl
  have h112 : ∀ a, a < 112 → Pq L xs a := stp h111 rfl
  have h113 : ∀ a, a < 113 → Pq L xs a := stp h112 rfl
  have h114 : ∀ a, a < 114 → Pq L xs a := stp h113 rfl
  have h115 : ∀ a, a < 115 → Pq L xs a := stp h114 rfl
  have h116 : ∀ a, a < 116 → Pq L xs a := stp h115 rfl
  have h117 : ∀ a, a < 117 → Pq L xs a := stp h116 rfl
  have h118 : ∀ a, a < 118 → Pq L xs a := stp h117 rfl
  have h119 : ∀ a, a < 119 → Pq L xs a := stp h118 rfl
  have h120 : ∀ a, a < 120 → Pq L xs a := stp h119 rfl
  exact h120
theorem fq_7 : ∀ a, a < 140 → Pq L xs a := by
  have h120 : ∀ a, a < 120 → Pq L xs a := fq_6 L xs
  have h121 : ∀ a, a < 121 → Pq L xs a := stp h120 rfl
  have h122 : ∀ a, a < 122 → Pq L xs a := stp h121 rfl
  have h123 : ∀ a, a < 123 → Pq L xs a := stp h122 rfl
  have h124 : ∀ a, a < 124 → Pq L xs a := stp h123 rfl
  have h125 : ∀ a, a < 125 → Pq L xs a := stp h124 rfl
  have h126 : ∀ a, a < 126 → Pq L xs a := stp h125 rfl
  have h127 : ∀ a, a < 127 → Pq L xs a := stp h126 rfl
  have h128 : ∀ a, a < 128 → Pq L xs a := stp h127 rfl
  have h129 : ∀ a, a < 129 → Pq L xs a := stp h128 rfl
  have h130 : ∀ a, a < 130 → Pq L xs a := stp h129 rfl
  have h131 : ∀ a, a < 131 → Pq L xs a := stp h130 rfl
  have h132 : ∀ a, a < 132 → Pq L xs a := stp h131 rfl
  have h133 : ∀ a, a < 133 → Pq L xs a := stp h132 (congrArg (fun g : Nat → Option Nat => (Sum.inr (5, 6, Sum.inr g) : hC)) (funext fun s => by by_cases q : s < 6; (· rw [if_pos q, if_pos q]; exact congrArg some (bs_133 q)); (· rw [if_neg q, if_neg q])) : (Sum.inr (5, 6, Sum.inr fun s => if s < 6 then some (133 + 8 * s) else none) : hC) = Sum.inr (5, 6, Sum.inr fun s => if s < 6 then some (bs (13 + s)) else none))
  have h134 : ∀ a, a < 134 → Pq L xs a := stp h133 rfl
  have h135 : ∀ a, a < 135 → Pq L xs a := stp h134 rfl
  have h136 : ∀ a, a < 136 → Pq L xs a := stp h135 rfl
  have h137 : ∀ a, a < 137 → Pq L xs a := stp h136 rfl
  have h138 : ∀ a, a < 138 → Pq L xs a := stp h137 rfl
  have h139 : ∀ a, a < 139 → Pq L xs a := stp h138 rfl
  have h140 : ∀ a, a < 140 → Pq L xs a := stp h139 rfl
  exact h140
theorem fq_8 : ∀ a, a < 160 → Pq L xs a := by
  have h140 : ∀ a, a < 140 → Pq L xs a := fq_7 L xs
  have h141 : ∀ a, a < 141 → Pq L xs a := stp h140 rfl
  have h142 : ∀ a, a < 142 → Pq L xs a := stp h141 rfl
  have h143 : ∀ a, a < 143 → Pq L xs a := stp h142 rfl
  have h144 : ∀ a, a < 144 → Pq L xs a := stp h143 rfl
  have h145 : ∀ a, a < 145 → Pq L xs a := stp h144 rfl
  have h146 : ∀ a, a < 146 → Pq L xs a := stp h145 rfl
  have h147 : ∀ a, a < 147 → Pq L xs a := stp h146 rfl
  have h148 : ∀ a, a < 148 → Pq L xs a := stp h147 rfl
  have h149 : ∀ a, a < 149 → Pq L xs a := stp h148 rfl
  have h150 : ∀ a, a < 150 → Pq L xs a := stp h149 rfl
  have h151 : ∀ a, a < 151 → Pq L xs a := stp h150 rfl
  have h152 : ∀ a, a < 152 → Pq L xs a := stp h151 rfl
  have h153 : ∀ a, a < 153 → Pq L xs a := stp h152 rfl
  have h154 : ∀ a, a < 154 → Pq L xs a := stp h153 rfl
  have h155 : ∀ a, a < 155 → Pq L xs a := stp h154 rfl
  have h156 : ∀ a, a < 156 → Pq L xs a := stp h155 rfl
  have h157 : ∀ a, a < 157 → Pq L xs a := stp h156 rfl
  have h158 : ∀ a, a < 158 → Pq L xs a := stp h157 rfl
  have h159 : ∀ a, a < 159 → Pq L xs a := stp h158 rfl
  have h160 : ∀ a, a < 160 → Pq L xs a := stp h159 rfl
  exact h160
theorem fq_9 : ∀ a, a < 180 → Pq L xs a := by
  have h160 : ∀ a, a < 160 → Pq L xs a := fq_8 L xs
  have h161 : ∀ a, a < 161 → Pq L xs a := stp h160 rfl
  have h162 : ∀ a, a < 162 → Pq L xs a := stp h161 rfl
  have h163 : ∀ a, a < 163 → Pq L xs a := stp h162 rfl
  have h164 : ∀ a, a < 164 → Pq L xs a := stp h163 rfl
  have h165 : ∀ a, a < 165 → Pq L xs a := stp h164 rfl
  have h166 : ∀ a, a < 166 → Pq L xs a := stp h165 rfl
  have h167 : ∀ a, a < 167 → Pq L xs a := stp h166 rfl
  have h168 : ∀ a, a < 168 → Pq L xs a := stp h167 rfl
  have h169 : ∀ a, a < 169 → Pq L xs a := stp h168 rfl
  have h170 : ∀ a, a < 170 → Pq L xs a := stp h169 rfl
  have h171 : ∀ a, a < 171 → Pq L xs a := stp h170 rfl
  have h172 : ∀ a, a < 172 → Pq L xs a := stp h171 rfl
  have h173 : ∀ a, a < 173 → Pq L xs a := stp h172 rfl
  have h174 : ∀ a, a < 174 → Pq L xs a := stp h173 rfl
  have h175 : ∀ a, a < 175 → Pq L xs a := stp h174 rfl
  have h176 : ∀ a, a < 176 → Pq L xs a := stp h175 rfl
  have h177 : ∀ a, a < 177 → Pq L xs a := stp h176 rfl
  have h178 : ∀ a, a < 178 → Pq L xs a := stp h177 rfl
  have h179 : ∀ a, a < 179 → Pq L xs a := stp h178 rfl
  have h180 : ∀ a, a < 180 → Pq L xs a := stp h179 rfl
  exact h180
theorem fq_10 : ∀ a, a < 200 → Pq L xs a := by
  have h180 : ∀ a, a < 180 → Pq L xs a := fq_9 L xs
  have h181 : ∀ a, a < 181 → Pq L xs a := stp h180 rfl
  have h182 : ∀ a, a < 182 → Pq L xs a := stp h181 rfl
  have h183 : ∀ a, a < 183 → Pq L xs a := stp h182 (congrArg (fun g : Nat → Option Nat => (Sum.inr (5, 6, Sum.inr g) : hC)) (funext fun s => by by_cases q : s < 6; (· rw [if_pos q, if_pos q]; exact congrArg some (bs_183 q)); (· rw [if_neg q, if_neg q])) : (Sum.inr (5, 6, Sum.inr fun s => if s < 6 then some (183 + 8 * s) else none) : hC) = Sum.inr (5, 6, Sum.inr fun s => if s < 6 then some (bs (19 + 6 * 0 + s)) else none))
  have h184 : ∀ a, a < 184 → Pq L xs a := stp h183 rfl
  have h185 : ∀ a, a < 185 → Pq L xs a := stp h184 rfl
  have h186 : ∀ a, a < 186 → Pq L xs a := stp h185 rfl
  have h187 : ∀ a, a < 187 → Pq L xs a := stp h186 rfl
  have h188 : ∀ a, a < 188 → Pq L xs a := stp h187 rfl
  have h189 : ∀ a, a < 189 → Pq L xs a := stp h188 rfl
  have h190 : ∀ a, a < 190 → Pq L xs a := stp h189 rfl
  have h191 : ∀ a, a < 191 → Pq L xs a := stp h190 rfl
  have h192 : ∀ a, a < 192 → Pq L xs a := stp h191 rfl
  have h193 : ∀ a, a < 193 → Pq L xs a := stp h192 rfl
  have h194 : ∀ a, a < 194 → Pq L xs a := stp h193 rfl
  have h195 : ∀ a, a < 195 → Pq L xs a := stp h194 rfl
  have h196 : ∀ a, a < 196 → Pq L xs a := stp h195 rfl
  have h197 : ∀ a, a < 197 → Pq L xs a := stp h196 rfl
  have h198 : ∀ a, a < 198 → Pq L xs a := stp h197 rfl
  have h199 : ∀ a, a < 199 → Pq L xs a := stp h198 rfl
  have h200 : ∀ a, a < 200 → Pq L xs a := stp h199 rfl
  exact h200
theorem fq_11 : ∀ a, a < 220 → Pq L xs a := by
  have h200 : ∀ a, a < 200 → Pq L xs a := fq_10 L xs
  have h201 : ∀ a, a < 201 → Pq L xs a := stp h200 rfl
  have h202 : ∀ a, a < 202 → Pq L xs a := stp h201 rfl
  have h203 : ∀ a, a < 203 → Pq L xs a := stp h202 rfl
  have h204 : ∀ a, a < 204 → Pq L xs a := stp h203 rfl
  have h205 : ∀ a, a < 205 → Pq L xs a := stp h204 rfl
  have h206 : ∀ a, a < 206 → Pq L xs a := stp h205 rfl
  have h207 : ∀ a, a < 207 → Pq L xs a := stp h206 rfl
  have h208 : ∀ a, a < 208 → Pq L xs a := stp h207 rfl
  have h209 : ∀ a, a < 209 → Pq L xs a := stp h208 rfl
  have h210 : ∀ a, a < 210 → Pq L xs a := stp h209 rfl
  have h211 : ∀ a, a < 211 → Pq L xs a := stp h210 rfl
  have h212 : ∀ a, a < 212 → Pq L xs a := stp h211 rfl
  have h213 : ∀ a, a < 213 → Pq L xs a := stp h212 rfl
  have h214 : ∀ a, a < 214 → Pq L xs a := stp h213 rfl
  have h215 : ∀ a, a < 215 → Pq L xs a := stp h214 rfl
  have h216 : ∀ a, a < 216 → Pq L xs a := stp h215 rfl
  have h217 : ∀ a, a < 217 → Pq L xs a := stp h216 rfl
  have h218 : ∀ a, a < 218 → Pq L xs a := stp h217 rfl
  have h219 : ∀ a, a < 219 → Pq L xs a := stp h218 rfl
  have h220 : ∀ a, a < 220 → Pq L xs a := stp h219 rfl
  exact h220
theorem fq_12 : ∀ a, a < 240 → Pq L xs a := by
  have h220 : ∀ a, a < 220 → Pq L xs a := fq_11 L xs
  have h221 : ∀ a, a < 221 → Pq L xs a := stp h220 rfl
  have h222 : ∀ a, a < 222 → Pq L xs a := stp h221 rfl
  have h223 : ∀ a, a < 223 → Pq L xs a := stp h222 rfl
  have h224 : ∀ a, a < 224 → Pq L xs a := stp h223 rfl
  have h225 : ∀ a, a < 225 → Pq L xs a := stp h224 rfl
  have h226 : ∀ a, a < 226 → Pq L xs a := stp h225 rfl
  have h227 : ∀ a, a < 227 → Pq L xs a := stp h226 rfl
  have h228 : ∀ a, a < 228 → Pq L xs a := stp h227 rfl
  have h229 : ∀ a, a < 229 → Pq L xs a := stp h228 rfl
  have h230 : ∀ a, a < 230 → Pq L xs a := stp h229 rfl
  have h231 : ∀ a, a < 231 → Pq L xs a := stp h230 rfl
  have h232 : ∀ a, a < 232 → Pq L xs a := stp h231 rfl
  have h233 : ∀ a, a < 233 → Pq L xs a := stp h232 (congrArg (fun g : Nat → Option Nat => (Sum.inr (5, 6, Sum.inr g) : hC)) (funext fun s => by by_cases q : s < 6; (· rw [if_pos q, if_pos q]; exact congrArg some (bs_233 q)); (· rw [if_neg q, if_neg q])) : (Sum.inr (5, 6, Sum.inr fun s => if s < 6 then some (233 + 8 * s) else none) : hC) = Sum.inr (5, 6, Sum.inr fun s => if s < 6 then some (bs (19 + 6 * 1 + s)) else none))
  have h234 : ∀ a, a < 234 → Pq L xs a := stp h233 rfl
  have h235 : ∀ a, a < 235 → Pq L xs a := stp h234 rfl
  have h236 : ∀ a, a < 236 → Pq L xs a := stp h235 rfl
  have h237 : ∀ a, a < 237 → Pq L xs a := stp h236 rfl
  have h238 : ∀ a, a < 238 → Pq L xs a := stp h237 rfl
  have h239 : ∀ a, a < 239 → Pq L xs a := stp h238 rfl
  have h240 : ∀ a, a < 240 → Pq L xs a := stp h239 rfl
  exact h240
theorem fq_13 : ∀ a, a < 260 → Pq L xs a := by
  have h240 : ∀ a, a < 240 → Pq L xs a := fq_12 L xs
  have h241 : ∀ a, a < 241 → Pq L xs a := stp h240 rfl
  have h242 : ∀ a, a < 242 → Pq L xs a := stp h241 rfl
  have h243 : ∀ a, a < 243 → Pq L xs a := stp h242 rfl
  have h244 : ∀ a, a < 244 → Pq L xs a := stp h243 rfl
  have h245 : ∀ a, a < 245 → Pq L xs a := stp h244 rfl
  have h246 : ∀ a, a < 246 → Pq L xs a := stp h245 rfl
  have h247 : ∀ a, a < 247 → Pq L xs a := stp h246 rfl
  have h248 : ∀ a, a < 248 → Pq L xs a := stp h247 rfl
  have h249 : ∀ a, a < 249 → Pq L xs a := stp h248 rfl
  have h250 : ∀ a, a < 250 → Pq L xs a := stp h249 rfl
  have h251 : ∀ a, a < 251 → Pq L xs a := stp h250 rfl
  have h252 : ∀ a, a < 252 → Pq L xs a := stp h251 rfl
  have h253 : ∀ a, a < 253 → Pq L xs a := stp h252 rfl
  have h254 : ∀ a, a < 254 → Pq L xs a := stp h253 rfl
  have h255 : ∀ a, a < 255 → Pq L xs a := stp h254 rfl
  have h256 : ∀ a, a < 256 → Pq L xs a := stp h255 rfl
  have h257 : ∀ a, a < 257 → Pq L xs a := stp h256 rfl
  have h258 : ∀ a, a < 258 → Pq L xs a := stp h257 rfl
  have h259 : ∀ a, a < 259 → Pq L xs a := stp h258 rfl
  have h260 : ∀ a, a < 260 → Pq L xs a := stp h259 rfl
  exact h260
theorem fq_14 : ∀ a, a < 280 → Pq L xs a := by
  have h260 : ∀ a, a < 260 → Pq L xs a := fq_13 L xs
  have h261 : ∀ a, a < 261 → Pq L xs a := stp h260 rfl
  have h262 : ∀ a, a < 262 → Pq L xs a := stp h261 rfl
  have h263 : ∀ a, a < 263 → Pq L xs a := stp h262 rfl
  have h264 : ∀ a, a < 264 → Pq L xs a := stp h263 rfl
  have h265 : ∀ a, a < 265 → Pq L xs a := stp h264 rfl
  have h266 : ∀ a, a < 266 → Pq L xs a := stp h265 rfl
  have h267 : ∀ a, a < 267 → Pq L xs a := stp h266 rfl
  have h268 : ∀ a, a < 268 → Pq L xs a := stp h267 rfl
  have h269 : ∀ a, a < 269 → Pq L xs a := stp h268 rfl
  have h270 : ∀ a, a < 270 → Pq L xs a := stp h269 rfl
  have h271 : ∀ a, a < 271 → Pq L xs a := stp h270 rfl
  have h272 : ∀ a, a < 272 → Pq L xs a := stp h271 rfl
  have h273 : ∀ a, a < 273 → Pq L xs a := stp h272 rfl
  have h274 : ∀ a, a < 274 → Pq L xs a := stp h273 rfl
  have h275 : ∀ a, a < 275 → Pq L xs a := stp h274 rfl
  have h276 : ∀ a, a < 276 → Pq L xs a := stp h275 rfl
  have h277 : ∀ a, a < 277 → Pq L xs a := stp h276 rfl
  have h278 : ∀ a, a < 278 → Pq L xs a := stp h277 rfl
  have h279 : ∀ a, a < 279 → Pq L xs a := stp h278 rfl
  have h280 : ∀ a, a < 280 → Pq L xs a := stp h279 rfl
  exact h280
theorem fq_15 : ∀ a, a < 293 → Pq L xs a := by
  have h280 : ∀ a, a < 280 → Pq L xs a := fq_14 L xs
  have h281 : ∀ a, a < 281 → Pq L xs a := stp h280 rfl
  have h282 : ∀ a, a < 282 → Pq L xs a := stp h281 rfl
  have h283 : ∀ a, a < 283 → Pq L xs a := stp h282 rfl
  have h284 : ∀ a, a < 284 → Pq L xs a := stp h283 rfl
  have h285 : ∀ a, a < 285 → Pq L xs a := stp h284 rfl
  have h286 : ∀ a, a < 286 → Pq L xs a := stp h285 rfl
  have h287 : ∀ a, a < 287 → Pq L xs a := stp h286 rfl
  have h288 : ∀ a, a < 288 → Pq L xs a := stp h287 rfl
  have h289 : ∀ a, a < 289 → Pq L xs a := stp h288 rfl
  have h290 : ∀ a, a < 290 → Pq L xs a := stp h289 rfl
  have h291 : ∀ a, a < 291 → Pq L xs a := stp h290 rfl
  have h292 : ∀ a, a < 292 → Pq L xs a := stp h291 rfl
  have h293 : ∀ a, a < 293 → Pq L xs a := stp h292 rfl
  exact h293
theorem g_W : gq34 L xs = hW (E0 L xs) w0 := by
  refine Prod.ext rfl (Prod.ext rfl (funext fun a => ?_))
  by_cases q : a < 293
  · exact fq_15 L xs a q
  · exact (sp_34 L xs a (by omega)).trans (sp_W L xs a (by omega)).symm
end FIN
theorem Iv_0 : Iv 0 w0.1 w0.2.2.2 := by
  have hz : ∀ c, c ≠ 34 → c ≠ 36 → W0 c = Z2 := fun c a b => by
    unfold W0
    rw [if_neg a, if_neg b]
  have h36 : W0 36 = M00 := rfl
  have h34 : W0 34 = fun a q => if a = 0 ∧ q = 1 then -1 else 0 := rfl
  refine ⟨fun q hq => Or.inl ⟨?_, rfl⟩, fun v hv => Or.inl ⟨rfl, rfl⟩, ⟨fun v hv k hk => ?_, fun v hv k l hk hl e => ?_⟩, ⟨0, by omega, rfl, rfl, fun i hi => absurd hi (by omega)⟩, ⟨0, fun _ => 0, by omega, rfl, rfl, fun i hi => absurd hi (by omega)⟩, ⟨⟨rfl, rfl⟩, ⟨rfl, rfl⟩, Or.inl rfl, Or.inl rfl⟩⟩
  · have a : cq q ≤ 18 := by
      unfold cq
      split <;> omega
    show W0 (cq q) 0 0 = 0
    rw [hz _ (by omega) (by omega)]
  · show 19 + 6 * v ≤ 19 + 6 * v + k ∧ 19 + 6 * v + k < 25 + 6 * v
    omega
  · have : 19 + 6 * v + k = 19 + 6 * v + l := e
    omega
