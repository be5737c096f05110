/-! THE DECODING OF EVERY INSTRUCTION: a small piece of the bytes is decoded, and it is the method's own piece. -/
theorem rd_bind {ε α β : Type} (r : Reader ε α) (f : α → Reader ε β) (c : ByteArray) (p : Nat) : Reader.runAt (r >>= f) c p = match Reader.runAt r c p with
  | .ok (a, q) => Reader.runAt (f a) c q
  | .error e => .error e := by
  show (r c p >>= fun x => f x.1 c x.2) = _
  unfold Reader.runAt ReaderT.run StateT.run
  cases r c p with
  | error e => rfl
  | ok x => rfl
def rdR (d : Nat) {α : Type} (r1 r2 : Decoder α) : Prop := ∀ (c1 c2 : ByteArray) (p : Nat) (a : α) (p' : Nat), Reader.runAt r1 c1 p = .ok (a, p') → p ≤ p' ∧ (p + d ≤ c2.size → (∀ i, p ≤ i → i < p' → c1[i]? = c2[i + d]?) → Reader.runAt r2 c2 (p + d) = .ok (a, p' + d) ∧ p' + d ≤ c2.size)
theorem rd_b {d : Nat} {α β : Type} {r1 r2 : Decoder α} {f1 f2 : α → Decoder β} (h : rdR d r1 r2) (hf : ∀ a, rdR d (f1 a) (f2 a)) : rdR d (r1 >>= f1) (r2 >>= f2) := by
  intro c1 c2 p a p' e
  rw [rd_bind] at e
  cases hr : Reader.runAt r1 c1 p with
  | error x => rw [hr] at e; cases e
  | ok x =>
    rw [hr] at e
    obtain ⟨b, q⟩ := x
    obtain ⟨h1, h2⟩ := h c1 c2 p b q hr
    obtain ⟨h3, h4⟩ := hf b c1 c2 q a p' e
    refine ⟨Nat.le_trans h1 h3, fun hz hi => ?_⟩
    obtain ⟨g1, g2⟩ := h2 hz (fun i i1 i2 => hi i i1 (by omega))
    rw [rd_bind, g1]
    exact h4 g2 (fun i i1 i2 => hi i (by omega) i2)
theorem rd_p {d : Nat} {α : Type} (a : α) : rdR d (pure a) (pure a) := by
  intro c1 c2 p b p' e
  have e : (Except.ok (a, p) : Except DecodeError (α × Nat)) = .ok (b, p') := e
  cases e
  exact ⟨Nat.le_refl _, fun hz _ => ⟨rfl, hz⟩⟩
theorem rd_t {d : Nat} {α : Type} (x : DecodeError) (r : Decoder α) : rdR d (throw x) r := by
  intro c1 c2 p b p' e
  have e : (Except.error x : Except DecodeError (α × Nat)) = .ok (b, p') := e
  cases e
theorem rd_u1y {c : ByteArray} {p : Nat} (h : p < c.size) : Reader.runAt (Reader.u1 : Decoder Nat) c p = .ok (c[p].toNat, p + 1) := by
  show (dite (p < c.size) _ _ : Decoder Nat) c p = _
  rw [dif_pos h]
  rfl
theorem rd_u1n {c : ByteArray} {p : Nat} (h : ¬ p < c.size) : Reader.runAt (Reader.u1 : Decoder Nat) c p = .error (.truncated p) := by
  show (dite (p < c.size) _ _ : Decoder Nat) c p = _
  rw [dif_neg h]
  rfl
theorem rd_u1 {d : Nat} : rdR d (Reader.u1 : Decoder Nat) Reader.u1 := by
  intro c1 c2 p b p' e
  by_cases h : p < c1.size
  · rw [rd_u1y h] at e
    cases e
    refine ⟨by omega, fun hz hi => ?_⟩
    have h2 := hi p (Nat.le_refl _) (by omega)
    rw [getElem?_pos c1 p h] at h2
    have h3 : p + d < c2.size := by
      rcases Nat.lt_or_ge (p + d) c2.size with q | q
      · exact q
      · rw [getElem?_neg c2 (p + d) (by omega)] at h2
        cases h2
    rw [getElem?_pos c2 (p + d) h3] at h2
    have h4 := Option.some.inj h2
    rw [rd_u1y h3, h4, show p + 1 + d = p + d + 1 by omega]
    exact ⟨rfl, by omega⟩
  · rw [rd_u1n h] at e
    cases e
theorem rd_u2 {d : Nat} : rdR d (Reader.u2 : Decoder Nat) Reader.u2 := rd_b rd_u1 fun _ => rd_b rd_u1 fun _ => rd_p _
theorem rd_u4 {d : Nat} : rdR d (Reader.u4 : Decoder Nat) Reader.u4 := rd_b rd_u2 fun _ => rd_b rd_u2 fun _ => rd_p _
theorem rd_m {d : Nat} {α β : Type} {r : Decoder α} (f : α → β) (h : rdR d r r) : rdR d (f <$> r) (f <$> r) := by
  have e : (f <$> r) = (r >>= fun a => Pure.pure (f a)) := rfl
  rw [e]
  exact rd_b h fun _ => rd_p _
theorem rd_s1 {d : Nat} : rdR d (Reader.s1 : Decoder Int) Reader.s1 := rd_m _ rd_u1
theorem rd_s2 {d : Nat} : rdR d (Reader.s2 : Decoder Int) Reader.s2 := rd_m _ rd_u2
theorem rd_s4 {d : Nat} : rdR d (Reader.s4 : Decoder Int) Reader.s4 := rd_m _ rd_u4
theorem rd_go {d : Nat} {α : Type} {r : Decoder α} (h : rdR d r r) : ∀ (n : Nat) (acc : Array α), rdR d (Reader.times.go r n acc) (Reader.times.go r n acc)
  | 0, acc => rd_p acc
  | n + 1, acc => rd_b h fun a => rd_go h n (acc.push a)
theorem rd_times {d : Nat} {α : Type} {r : Decoder α} (h : rdR d r r) (n : Nat) : rdR d (Reader.times n r) (Reader.times n r) := rd_go h n #[]
theorem rd_byy {c : ByteArray} {n p : Nat} (h : p + n ≤ c.size) : Reader.runAt (Reader.bytes n : Decoder ByteArray) c p = .ok (c.extract p (p + n), p + n) := by
  show (ite (p + n ≤ c.size) _ _ : Decoder ByteArray) c p = _
  rw [if_pos h]
  rfl
theorem rd_byn {c : ByteArray} {n p : Nat} (h : ¬ p + n ≤ c.size) : Reader.runAt (Reader.bytes n : Decoder ByteArray) c p = .error (.truncated c.size) := by
  show (ite (p + n ≤ c.size) _ _ : Decoder ByteArray) c p = _
  rw [if_neg h]
  rfl
theorem rd_pady {c : ByteArray} {p : Nat} (h : p + (4 - p % 4) % 4 ≤ c.size) : Reader.runAt Decoder.padding c p = .ok ((), p + (4 - p % 4) % 4) := by
  have e : Decoder.padding = ((Reader.pos : Decoder Nat) >>= fun q => (Reader.bytes ((4 - q % 4) % 4) : Decoder ByteArray) >>= fun _ => Pure.pure ()) := rfl
  rw [e, rd_bind]
  have e2 : Reader.runAt (Reader.pos : Decoder Nat) c p = .ok (p, p) := rfl
  rw [e2]
  show Reader.runAt ((Reader.bytes ((4 - p % 4) % 4) : Decoder ByteArray) >>= fun _ => Pure.pure ()) c p = _
  rw [rd_bind, rd_byy h]
  rfl
theorem rd_padn {c : ByteArray} {p : Nat} (h : ¬ p + (4 - p % 4) % 4 ≤ c.size) : Reader.runAt Decoder.padding c p = .error (.truncated c.size) := by
  have e : Decoder.padding = ((Reader.pos : Decoder Nat) >>= fun q => (Reader.bytes ((4 - q % 4) % 4) : Decoder ByteArray) >>= fun _ => Pure.pure ()) := rfl
  rw [e, rd_bind]
  have e2 : Reader.runAt (Reader.pos : Decoder Nat) c p = .ok (p, p) := rfl
  rw [e2]
  show Reader.runAt ((Reader.bytes ((4 - p % 4) % 4) : Decoder ByteArray) >>= fun _ => Pure.pure ()) c p = _
  rw [rd_bind, rd_byn h]
theorem rd_pad {d : Nat} (hd : d % 4 = 0) : rdR d Decoder.padding Decoder.padding := by
  intro c1 c2 p b p' e
  by_cases h : p + (4 - p % 4) % 4 ≤ c1.size
  · rw [rd_pady h] at e
    cases e
    refine ⟨by omega, fun hz hi => ?_⟩
    have hm : (p + d) % 4 = p % 4 := by omega
    have h3 : p + d + (4 - (p + d) % 4) % 4 ≤ c2.size := by
      rw [hm]
      rcases Nat.eq_zero_or_pos ((4 - p % 4) % 4) with q | q
      · omega
      · have h2 := hi (p + (4 - p % 4) % 4 - 1) (by omega) (by omega)
        rw [getElem?_pos c1 _ (by omega)] at h2
        rcases Nat.lt_or_ge (p + (4 - p % 4) % 4 - 1 + d) c2.size with q | q
        · omega
        · rw [getElem?_neg c2 _ (by omega)] at h2
          cases h2
    rw [rd_pady h3, hm, show p + (4 - p % 4) % 4 + d = p + d + (4 - p % 4) % 4 by omega]
    rw [hm] at h3
    exact ⟨rfl, h3⟩
  · rw [rd_padn h] at e
    cases e
theorem rd_tb {d : Nat} {α β : Type} (x : DecodeError) (f : β → Decoder α) (r : Decoder α) : rdR d ((throw x : Decoder β) >>= f) r := by
  intro c1 c2 p b p' e
  rw [rd_bind] at e
  have e : (Except.error x : Except DecodeError (α × Nat)) = .ok (b, p') := e
  cases e
theorem rd_un {d : Nat} {α β : Type} (c : Prop) [Decidable c] (x y : DecodeError) {r1 r2 : Decoder α} {f g : β → Decoder α} (h : rdR d r1 r2) : rdR d (if c then r1 else ((throw x : Decoder β) >>= f)) (if c then r2 else ((throw y : Decoder β) >>= g)) := by
  by_cases hc : c
  · rw [if_pos hc, if_pos hc]
    exact h
  · rw [if_neg hc, if_neg hc]
    exact rd_tb x _ _
theorem rd_tsw {d : Nat} (hd : d % 4 = 0) (a b : Nat) : rdR d (Decoder.tableswitch a) (Decoder.tableswitch b) := by
  unfold Decoder.tableswitch
  refine rd_b (rd_pad hd) fun _ => rd_b rd_s4 fun _ => rd_b rd_s4 fun _ => rd_b rd_s4 fun _ => ?_
  refine rd_un _ _ _ (rd_b (rd_times rd_s4 _) fun _ => rd_p _)
theorem rd_lsw {d : Nat} (hd : d % 4 = 0) (a b : Nat) : rdR d (Decoder.lookupswitch a) (Decoder.lookupswitch b) := by
  unfold Decoder.lookupswitch
  refine rd_b (rd_pad hd) fun _ => rd_b rd_s4 fun _ => rd_b rd_s4 fun _ => ?_
  refine rd_un _ _ _ (rd_b (rd_times (rd_b rd_s4 fun _ => rd_b rd_s4 fun _ => rd_p _) _) fun _ => ?_)
  exact rd_un _ _ _ (rd_p _)
theorem rd_iface {d : Nat} (a b : Nat) : rdR d (Decoder.invokeinterface a) (Decoder.invokeinterface b) := by
  unfold Decoder.invokeinterface
  exact rd_b rd_u2 fun _ => rd_b rd_u1 fun _ => rd_b rd_u1 fun _ => rd_un _ _ _ (rd_p _)
theorem rd_dyn {d : Nat} (a b : Nat) : rdR d (Decoder.invokedynamic a) (Decoder.invokedynamic b) := by
  unfold Decoder.invokedynamic
  exact rd_b rd_u2 fun _ => rd_b rd_u2 fun _ => rd_un _ _ _ (rd_p _)
theorem rd_multi {d : Nat} (a b : Nat) : rdR d (Decoder.multianewarray a) (Decoder.multianewarray b) := by
  unfold Decoder.multianewarray
  exact rd_b rd_u2 fun _ => rd_b rd_u1 fun _ => rd_un _ _ _ (rd_p _)
theorem rd_newarray {d : Nat} (a b : Nat) : rdR d (Decoder.newarray a) (Decoder.newarray b) := by
  unfold Decoder.newarray
  refine rd_b rd_u1 fun n => ?_
  split <;> first | exact rd_p _ | exact rd_t _ _
theorem rd_wide {d : Nat} (a b : Nat) : rdR d (Decoder.wide a) (Decoder.wide b) := by
  unfold Decoder.wide
  refine rd_b rd_u1 fun n => ?_
  split <;> first | exact rd_p _ | exact rd_t _ _ | exact rd_b rd_u2 fun _ => rd_p _ | exact rd_b rd_u2 fun _ => rd_b rd_s2 fun _ => rd_p _
set_option maxHeartbeats 4000000 in
set_option maxRecDepth 100000 in
theorem rd_instr {d : Nat} (hd : d % 4 = 0) (a b : Nat) : rdR d (Decoder.instr a) (Decoder.instr b) := by
  unfold Decoder.instr
  refine rd_b rd_u1 fun n => ?_
  split <;> first | exact rd_p _ | exact rd_b rd_u1 fun _ => rd_p _ | exact rd_b rd_u2 fun _ => rd_p _ | exact rd_b rd_s2 fun _ => rd_p _ | exact rd_b rd_s1 fun _ => rd_p _ | exact rd_b rd_s4 fun _ => rd_p _ | exact rd_t _ _ | exact rd_newarray _ _ | exact rd_tsw hd _ _ | exact rd_lsw hd _ _ | exact rd_wide _ _ | exact rd_iface _ _ | exact rd_dyn _ _ | exact rd_multi _ _ | exact rd_b rd_u1 fun _ => rd_b rd_s1 fun _ => rd_p _
theorem rd_dec {small code : ByteArray} {d p len : Nat} {i : Instr} (hd : d % 4 = 0) (h : decode small p = .ok (i, len)) (hs : p + len ≤ small.size) (hc : ∀ j, j < small.size → small[j]? = code[j + d]?) (hz : 0 < len) : decode code (p + d) = .ok (i, len) := by
  have e : ∀ (c : ByteArray) (q : Nat), decode c q = match Reader.runAt (Decoder.instr q) c q with
    | .ok (a, n) => .ok (a, n - q)
    | .error x => .error x := by
    intro c q
    unfold decode
    cases Reader.runAt (Decoder.instr q) c q with
    | error x => rfl
    | ok x => rfl
  rw [e] at h
  cases hr : Reader.runAt (Decoder.instr p) small p with
  | error x => rw [hr] at h; cases h
  | ok x =>
    obtain ⟨a, n⟩ := x
    rw [hr] at h
    have h1 : a = i ∧ n - p = len := by
      have := Except.ok.inj h
      exact ⟨congrArg Prod.fst this, congrArg Prod.snd this⟩
    obtain ⟨h2, h3⟩ := rd_instr hd p (p + d) small code p a n hr
    have hsz : p + d ≤ code.size := by
      have g := hc p (by omega)
      rw [getElem?_pos small p (by omega)] at g
      rcases Nat.lt_or_ge (p + d) code.size with q | q
      · omega
      · rw [getElem?_neg code _ (by omega)] at g
        cases g
    obtain ⟨h4, -⟩ := h3 hsz (fun j j1 j2 => hc j (by omega))
    rw [e, h4]
    show (Except.ok (a, n + d - (p + d)) : Except DecodeError (Instr × Nat)) = _
    rw [h1.1, show n + d - (p + d) = len by omega]

