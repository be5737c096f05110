/-! one summary becomes another; a bank is copied; a new one; one number changed -/
section BEC
variable {mi k : Nat} {L : List Value} {h h' : hH} {r : Option Value} {a b : Nat} {S T : hT2}
theorem rS_cpy {i len pc y j N : Nat} {z : Int32} {zl : Int64} {ts : List Nat} {f : Nat → Int32} (he : hI mi k = some (.invokestatic i, len, pc, 1001, y, z, zl, ts)) (h0 : (hpS h b S).2.2 (a + j) = .inr (0, lS j, .inl f)) (hj : decide (1 ≤ j ∧ j ≤ 7) = true) (hN : lS j = N) (K : hRun mi (k + 1) L [] (hpS h b (s1 S j (va_cpy f (S j) 0 0 (lS j)))) r h') : hRun mi k L [.int (nI N), .int 0, .ref (b + j), .int 0, .ref (a + j)] (hpS h b S) r h' := by
  have hj := of_decide_eq_true hj
  subst hN
  have hl := lS_lt j
  refine r_step he rfl ?_ K
  simp only [hStep, hCpy, h0, hpS_j hj.1 hj.2]
  have z0 : (0 : Int32).toNatClampNeg = 0 := by decide
  rw [if_pos ?_, z0, nI_clamp hl, hpS_st hj.1 hj.2]
  rw [z0, nI_clamp hl]
  exact ⟨trivial, trivial, by decide, by decide, nI_pos hl, by omega, by omega, by decide⟩
theorem rB_get {i len pc y : Nat} {z : Int32} {zl : Int64} {ts : List Nat} {v : Value} {st : List Value} {Q : hT2} (hA : h.2.2 a = .inl (5, oS a T)) (hs : a < b ∨ b + 7 < a) (he : hI mi k = some (.getfield i, len, pc, 5, y, z, zl, ts)) (hv : (oS a T)[y]? = some v) (K : hRun mi (k + 1) L (v :: st) (hpS h b Q) r h') : hRun mi k L (.ref a :: st) (hpS h b Q) r h' := r_get he ((hpS_n hs).trans hA) hv K
/-- one has become another -/
def Bc (T S : hT2) : Prop := (∀ j, j ≤ 7 → S 0 j = T 0 j) ∧ ∀ r p, 1 ≤ r → r ≤ 7 → p < lS r → S r p = T r p
theorem c_become_f (hA : h.2.2 a = .inl (5, oS a T)) (hs : a < b ∨ b + 7 < a) (ht : T 0 0 = 0) : hRun 50 0 [.ref b, .ref a] [] (hpS h b S) none (hpS h b (s2 S 0 0 0)) := by
  (repeat (first | refine r_fw rfl rfl rfl rfl ?_ | refine rS_get rfl rfl ?_ | refine rS_ild rfl rfl (by first | assumption | omega | (simp only [lS]; omega)) ?_)); try dsimp only
  refine rB_get hA hs rfl rfl ?_
  rw [ht]
  refine rS_set rfl rfl rfl ?_
  (repeat (first | refine r_fw rfl rfl rfl rfl ?_ | refine rS_get rfl rfl ?_ | refine rS_ild rfl rfl (by first | assumption | omega | (simp only [lS]; omega)) ?_)); try dsimp only
  refine r_brT rfl rfl ?_ ?_
  · rfl
  (refine r_rtE rfl rfl ?_ ?_ ?_ <;> rfl)
theorem c_become0 (hA : h.2.2 a = .inl (5, oS a T)) (hB : ∀ j, 1 ≤ j → j ≤ 7 → h.2.2 (a + j) = .inr (0, lS j, .inl (T j))) (hs : a + 7 < b ∨ b + 7 < a) (ht : T 0 0 = 1) : ∃ S', hRun 50 0 [.ref b, .ref a] [] (hpS h b S) none (hpS h b S') ∧ Bc T S' := by
  have hs2 : a < b ∨ b + 7 < a := by omega
  have hj : ∀ (Q : hT2) j, 1 ≤ j → j ≤ 7 → (hpS h b Q).2.2 (a + j) = .inr (0, lS j, .inl (T j)) := fun Q j h1 h2 => (hpS_n (by omega)).trans (hB j h1 h2)
  apply Exists.intro
  apply And.intro
  · (repeat (first | refine r_fw rfl rfl rfl rfl ?_ | refine rS_get rfl rfl ?_ | refine rS_ild rfl rfl (by first | assumption | omega | (simp only [lS]; omega)) ?_)); try dsimp only
    refine rB_get hA hs2 rfl rfl ?_
    rw [ht]
    refine rS_set rfl rfl rfl ?_
    (repeat (first | refine r_fw rfl rfl rfl rfl ?_ | refine rS_get rfl rfl ?_ | refine rS_ild rfl rfl (by first | assumption | omega | (simp only [lS]; omega)) ?_)); try dsimp only
    refine r_brF rfl rfl ?_ ?_
    · exact nz10
    (repeat (first | refine r_fw rfl rfl rfl rfl ?_ | refine rS_get rfl rfl ?_ | refine rS_ild rfl rfl (by first | assumption | omega | (simp only [lS]; omega)) ?_)); try dsimp only
    refine rB_get hA hs2 rfl rfl ?_
    refine rS_set rfl rfl rfl ?_
    (repeat (first | refine r_fw rfl rfl rfl rfl ?_ | refine rS_get rfl rfl ?_ | refine rS_ild rfl rfl (by first | assumption | omega | (simp only [lS]; omega)) ?_)); try dsimp only
    refine rB_get hA hs2 rfl rfl ?_
    refine rS_set rfl rfl rfl ?_
    (repeat (first | refine r_fw rfl rfl rfl rfl ?_ | refine rS_get rfl rfl ?_ | refine rS_ild rfl rfl (by first | assumption | omega | (simp only [lS]; omega)) ?_)); try dsimp only
    refine rB_get hA hs2 rfl rfl ?_
    refine rS_set rfl rfl rfl ?_
    (repeat (first | refine r_fw rfl rfl rfl rfl ?_ | refine rS_get rfl rfl ?_ | refine rS_ild rfl rfl (by first | assumption | omega | (simp only [lS]; omega)) ?_)); try dsimp only
    refine rB_get hA hs2 rfl rfl ?_
    refine rS_set rfl rfl rfl ?_
    (repeat (first | refine r_fw rfl rfl rfl rfl ?_ | refine rS_get rfl rfl ?_ | refine rS_ild rfl rfl (by first | assumption | omega | (simp only [lS]; omega)) ?_)); try dsimp only
    refine rB_get hA hs2 rfl rfl ?_
    refine rS_set rfl rfl rfl ?_
    (repeat (first | refine r_fw rfl rfl rfl rfl ?_ | refine rS_get rfl rfl ?_ | refine rS_ild rfl rfl (by first | assumption | omega | (simp only [lS]; omega)) ?_)); try dsimp only
    refine rB_get hA hs2 rfl rfl ?_
    refine rS_set rfl rfl rfl ?_
    (repeat (first | refine r_fw rfl rfl rfl rfl ?_ | refine rS_get rfl rfl ?_ | refine rS_ild rfl rfl (by first | assumption | omega | (simp only [lS]; omega)) ?_)); try dsimp only
    refine rB_get hA hs2 rfl rfl ?_
    refine rS_set rfl rfl rfl ?_
    (repeat (first | refine r_fw rfl rfl rfl rfl ?_ | refine rS_get rfl rfl ?_ | refine rS_ild rfl rfl (by first | assumption | omega | (simp only [lS]; omega)) ?_)); try dsimp only
    refine rB_get hA hs2 rfl rfl ?_
    (repeat (first | refine r_fw rfl rfl rfl rfl ?_ | refine rS_get rfl rfl ?_ | refine rS_ild rfl rfl (by first | assumption | omega | (simp only [lS]; omega)) ?_)); try dsimp only
    refine rS_cpy (j := 1) (N := 24) rfl (hj _ 1 (by omega) (by omega)) rfl rfl ?_
    (repeat (first | refine r_fw rfl rfl rfl rfl ?_ | refine rS_get rfl rfl ?_ | refine rS_ild rfl rfl (by first | assumption | omega | (simp only [lS]; omega)) ?_)); try dsimp only
    refine rB_get hA hs2 rfl rfl ?_
    (repeat (first | refine r_fw rfl rfl rfl rfl ?_ | refine rS_get rfl rfl ?_ | refine rS_ild rfl rfl (by first | assumption | omega | (simp only [lS]; omega)) ?_)); try dsimp only
    refine rS_cpy (j := 2) (N := 24) rfl (hj _ 2 (by omega) (by omega)) rfl rfl ?_
    (repeat (first | refine r_fw rfl rfl rfl rfl ?_ | refine rS_get rfl rfl ?_ | refine rS_ild rfl rfl (by first | assumption | omega | (simp only [lS]; omega)) ?_)); try dsimp only
    refine rB_get hA hs2 rfl rfl ?_
    (repeat (first | refine r_fw rfl rfl rfl rfl ?_ | refine rS_get rfl rfl ?_ | refine rS_ild rfl rfl (by first | assumption | omega | (simp only [lS]; omega)) ?_)); try dsimp only
    refine rS_cpy (j := 3) (N := 24) rfl (hj _ 3 (by omega) (by omega)) rfl rfl ?_
    (repeat (first | refine r_fw rfl rfl rfl rfl ?_ | refine rS_get rfl rfl ?_ | refine rS_ild rfl rfl (by first | assumption | omega | (simp only [lS]; omega)) ?_)); try dsimp only
    refine rB_get hA hs2 rfl rfl ?_
    (repeat (first | refine r_fw rfl rfl rfl rfl ?_ | refine rS_get rfl rfl ?_ | refine rS_ild rfl rfl (by first | assumption | omega | (simp only [lS]; omega)) ?_)); try dsimp only
    refine rS_cpy (j := 4) (N := 1000) rfl (hj _ 4 (by omega) (by omega)) rfl rfl ?_
    (repeat (first | refine r_fw rfl rfl rfl rfl ?_ | refine rS_get rfl rfl ?_ | refine rS_ild rfl rfl (by first | assumption | omega | (simp only [lS]; omega)) ?_)); try dsimp only
    refine rB_get hA hs2 rfl rfl ?_
    (repeat (first | refine r_fw rfl rfl rfl rfl ?_ | refine rS_get rfl rfl ?_ | refine rS_ild rfl rfl (by first | assumption | omega | (simp only [lS]; omega)) ?_)); try dsimp only
    refine rS_cpy (j := 5) (N := 20) rfl (hj _ 5 (by omega) (by omega)) rfl rfl ?_
    (repeat (first | refine r_fw rfl rfl rfl rfl ?_ | refine rS_get rfl rfl ?_ | refine rS_ild rfl rfl (by first | assumption | omega | (simp only [lS]; omega)) ?_)); try dsimp only
    refine rB_get hA hs2 rfl rfl ?_
    (repeat (first | refine r_fw rfl rfl rfl rfl ?_ | refine rS_get rfl rfl ?_ | refine rS_ild rfl rfl (by first | assumption | omega | (simp only [lS]; omega)) ?_)); try dsimp only
    refine rS_cpy (j := 6) (N := 20) rfl (hj _ 6 (by omega) (by omega)) rfl rfl ?_
    (repeat (first | refine r_fw rfl rfl rfl rfl ?_ | refine rS_get rfl rfl ?_ | refine rS_ild rfl rfl (by first | assumption | omega | (simp only [lS]; omega)) ?_)); try dsimp only
    refine rB_get hA hs2 rfl rfl ?_
    (repeat (first | refine r_fw rfl rfl rfl rfl ?_ | refine rS_get rfl rfl ?_ | refine rS_ild rfl rfl (by first | assumption | omega | (simp only [lS]; omega)) ?_)); try dsimp only
    refine rS_cpy (j := 7) (N := 20) rfl (hj _ 7 (by omega) (by omega)) rfl rfl ?_
    (refine r_rtE rfl rfl ?_ ?_ ?_ <;> rfl)
  · refine ⟨fun j h1 => ?_, fun r p h1 h2 h3 => ?_⟩
    · have : j = 0 ∨ j = 1 ∨ j = 2 ∨ j = 3 ∨ j = 4 ∨ j = 5 ∨ j = 6 ∨ j = 7 := by omega
      rcases this with rfl | rfl | rfl | rfl | rfl | rfl | rfl | rfl
      · exact ht.symm
      all_goals rfl
    · have e : ∀ f g : Nat → Int32, va_cpy f g 0 0 (lS r) p = f p := fun f g => by rw [pk_cpy_in (by omega) (by omega)]; congr 1; omega
      have : r = 1 ∨ r = 2 ∨ r = 3 ∨ r = 4 ∨ r = 5 ∨ r = 6 ∨ r = 7 := by omega
      rcases this with rfl | rfl | rfl | rfl | rfl | rfl | rfl <;> exact e _ _
theorem c_become (hA : h.2.2 a = .inl (5, oS a T)) (hB : ∀ j, 1 ≤ j → j ≤ 7 → h.2.2 (a + j) = .inr (0, lS j, .inl (T j))) (hs : a + 7 < b ∨ b + 7 < a) (ht : T 0 0 = 1) : ∃ S', Bc T S' ∧ hRun 50 0 [.ref b, .ref a] [] (hpS h b S) none (hpS h b S') := by
  obtain ⟨S', h1, h2⟩ := c_become0 (S := S) hA hB hs ht
  exact ⟨S', h2, h1⟩
end BEC
theorem RS_bec {A : aS} {T S : hT2} (h : RS A T) (hn : A.2.1.length ≤ 24) (b : Bc T S) : RS A S := by
  obtain ⟨h0, ⟨h1, h2, h3, h4⟩, h5⟩ := h
  obtain ⟨b1, b2⟩ := b
  refine ⟨(b1 0 (by omega)).trans h0, ⟨fun j a c d => (b1 j c).trans (h1 j a c d), (b1 5 (by omega)).trans h2, ?_, fun t ht => (b2 4 t (by omega) (by omega) ht).trans (h4 t ht)⟩, ?_⟩
  · refine Rc_cong h3 (fun r p r1 r2 hp => b2 r p r1 (by omega) ?_)
    have : r = 1 ∨ r = 2 ∨ r = 3 := by omega
    rcases this with rfl | rfl | rfl <;> exact (by omega : p < 24)
  · intro k hk
    have m : ∀ n, n % 20 < 20 := fun n => Nat.mod_lt _ (by omega)
    rw [b2 5 _ (by omega) (by omega) (m _), b2 6 _ (by omega) (by omega) (m _), b2 7 _ (by omega) (by omega) (m _)]
    exact h5 k hk
theorem bs_sep {q c : Nat} (hq : q < 31) (hc : c < 31) (h : q ≠ c) : bs c + 7 < bs q ∨ bs q + 7 < bs c := by
  unfold bs
  repeat' split
  all_goals omega
section XBE
variable {E : hEn} {w : hWo}
theorem x_become {q c : Nat} (hq : q < 31) (hc : c < 31) (hn : q ≠ c) (ht : w.1 c 0 0 = 1) : ∃ T, Bc (w.1 c) T ∧ hRun 50 0 [.ref (bs q), .ref (bs c)] [] (hpS (hW E w) (bs q) (w.1 q)) none (hpS (hW E w) (bs q) T) :=
  c_become (h := hW E w) (wc_0 hc) (fun j h1 h2 => wc_j hc h1 h2) (bs_sep hq hc hn) ht
theorem x_become_f {q c : Nat} (hq : q < 31) (hc : c < 31) (hn : q ≠ c) (ht : w.1 c 0 0 = 0) : hRun 50 0 [.ref (bs q), .ref (bs c)] [] (hpS (hW E w) (bs q) (w.1 q)) none (hpS (hW E w) (bs q) (s2 (w.1 q) 0 0 0)) :=
  c_become_f (h := hW E w) (wc_0 hc) (by have := bs_sep hq hc hn; omega) ht
end XBE
theorem cpW_at {T F : Nat} (hs : F + 1148 ≤ T ∨ T + 1148 ≤ F) : ∀ d k (w : Nat → Int32) q, k + d ≤ 1148 → cpW T F d k w q = if T + k ≤ q ∧ q < T + k + d then w (F + (q - T)) else w q
  | 0, k, w, q, _ => by rw [cpW, if_neg (by omega)]
  | d + 1, k, w, q, h => by
    rw [cpW, cpW_at hs d (k + 1) _ q (by omega)]
    unfold upd
    by_cases e : q = T + k
    · subst e
      rw [if_neg (by omega), if_pos rfl, if_pos (by omega), show T + k - T = k by omega]
    · by_cases c : T + (k + 1) ≤ q ∧ q < T + (k + 1) + d
      · rw [if_pos c, if_neg (by omega), if_pos (by omega)]
      · rw [if_neg c, if_neg e, if_neg (by omega)]
theorem cpW_in {T F : Nat} (hs : F + 1148 ≤ T ∨ T + 1148 ≤ F) (w : Nat → Int32) {i : Nat} (hi : i < 1148) : cpW T F 1148 0 w (T + i) = w (F + i) := by
  rw [cpW_at hs 1148 0 w _ (by omega), if_pos (by omega), show T + i - T = i by omega]
theorem cpW_o {T F : Nat} (hs : F + 1148 ≤ T ∨ T + 1148 ≤ F) (w : Nat → Int32) {q : Nat} (h : Ot T q) : cpW T F 1148 0 w q = w q := by
  unfold Ot at h
  rw [cpW_at hs 1148 0 w _ (by omega), if_neg (by omega)]
theorem RM_cp {A : aS} {v : Nat → Int32} {T F X Y : Nat} (hs : F + 1148 ≤ T ∨ T + 1148 ≤ F) (hG : Gd X Y A) (h : RM A v F) : RM A (cpW T F 1148 0 v) T := RM_cong h (Nat.le_trans hG.1.2.2 hG.1.2.1) (by have := hG.2.2.1.2; omega) (fun i hi => cpW_in hs v hi)
/-- a new one -/
def nwA (r : Nat) : aS := (fun j => if j = 1 then r else 0, [], fun _ => 0, [])
theorem flF_at (v : Int32) : ∀ d p (f : Nat → Int32) q, flF v d p f q = if p ≤ q ∧ q < p + d then v else f q
  | 0, p, f, q => by rw [flF, if_neg (by omega)]
  | d + 1, p, f, q => by
    rw [flF, flF_at v d (p + 1)]
    unfold upd
    grind
theorem RS_beg (S : hT2) (r : Nat) : RS (nwA r) (begF S (nI r)) := by
  have e : ∀ j, begF S (nI r) 0 j = beg0 S (nI r) 0 j := fun j => rfl
  refine ⟨rfl, ⟨fun j h1 h2 h3 => ?_, rfl, fun p hp => absurd hp (by simp [nwA]), fun t ht => ?_⟩, fun k hk => absurd hk (by simp [nwA])⟩
  · rw [e]
    have : j = 1 ∨ j = 2 ∨ j = 3 ∨ j = 4 ∨ j = 6 ∨ j = 7 := by omega
    rcases this with rfl | rfl | rfl | rfl | rfl | rfl <;> rfl
  · unfold begF
    rw [s1_at, flF_at, if_pos (by omega)]
    rfl
theorem zrW_at (B : Nat) : ∀ d k (w : Nat → Int32) q, zrW B d k w q = if B + k ≤ q ∧ q < B + k + d then 0 else w q
  | 0, k, w, q => by rw [zrW, if_neg (by omega)]
  | d + 1, k, w, q => by
    rw [zrW, zrW_at B d (k + 1)]
    unfold upd
    grind
theorem bgW_o {w : Nat → Int32} {B q : Nat} {r : Int32} (h : Ot B q) : bgW w B r q = w q := by
  unfold Ot at h
  unfold bgW upd
  rw [if_neg (by omega), if_neg (by omega), zrW_at, if_neg (by omega)]
theorem bgW_z {w : Nat → Int32} {B i : Nat} {r : Int32} (h1 : 2 ≤ i) (h2 : i < 1148) : bgW w B r (B + i) = 0 := by
  unfold bgW upd
  rw [if_neg (by omega), if_neg (by omega), zrW_at, if_pos (by omega)]
theorem RM_beg (w : Nat → Int32) (B r : Nat) : RM (nwA r) (bgW w B (nI r)) B := by
  refine RM_of ?_ (fun j h1 h2 h3 => ?_) ?_ (fun p hp => absurd hp (by simp [nwA])) (fun t ht => ?_) ⟨?_, fun k hk => absurd hk (by simp [nwA])⟩
  · unfold bgW upd
    rw [if_neg (by omega), if_pos rfl]
  · have : j = 1 ∨ j = 2 ∨ j = 3 ∨ j = 4 ∨ j = 6 ∨ j = 7 := by omega
    rcases this with rfl | rfl | rfl | rfl | rfl | rfl
    · unfold bgW
      exact pk_us
    all_goals exact bgW_z (by decide) (by decide)
  · exact bgW_z (by omega) (by omega)
  · rw [Nat.add_assoc]
    exact bgW_z (by omega) (by omega)
  · exact bgW_z (by omega) (by omega)
theorem sm_0 : ∀ n, sm (fun _ => 0) n = 0
  | 0 => rfl
  | n + 1 => by rw [sm, sm_0 n]
theorem Gd_nw {r X Y : Nat} (h1 : 1 ≤ r) (h2 : r ≤ 24) : Gd X Y (nwA r) := by
  refine ⟨⟨h1, h2, Nat.zero_le _⟩, ⟨Nat.zero_le _, Nat.zero_le _, Nat.zero_le _⟩, ⟨Nat.zero_le _, rfl⟩, ⟨fun c hc => ?_, List.nodup_nil, List.Pairwise.nil, Nat.le_refl _⟩, ?_⟩
  · exact absurd hc (by simp [nwA])
  · show sm (fun _ => 0) 1000 ≤ 0
    rw [sm_0]
    exact Nat.le_refl _
/-- one number changed -/
theorem RS_num {A : aS} {S : hT2} {j v : Nat} (h : RS A S) (hj : j = 1 ∨ j = 2 ∨ j = 3 ∨ j = 4 ∨ j = 6) : RS (uN A.1 j v, A.2) (s2 S 0 j (nI v)) := by
  obtain ⟨h0, ⟨h1, h2, h3, h4⟩, h5⟩ := h
  refine ⟨?_, ⟨fun i a b c => ?_, ?_, ?_, fun t ht => ?_⟩, fun k hk => ?_⟩
  · rw [s2_at, if_neg (by omega)]; exact h0
  · rw [s2_at]
    dsimp only
    rw [uN_at]
    by_cases e : i = j
    · rw [if_pos ⟨rfl, e⟩, if_pos e]
    · rw [if_neg (by omega), if_neg e]; exact h1 i a b c
  · rw [s2_at, if_neg (by omega)]; exact h2
  · exact Rc_cong h3 (fun r p r1 _ _ => by rw [s2_at, if_neg (by omega)])
  · rw [s2_at, if_neg (by omega)]; exact h4 t ht
  · dsimp only at hk ⊢
    rw [uN_at, if_neg (by omega), s2_at, if_neg (by omega), s2_at, if_neg (by omega), s2_at, if_neg (by omega)]
    exact h5 k hk
theorem RM_num {A : aS} {w : Nat → Int32} {B j v : Nat} (h : RM A w B) (hj : j = 1 ∨ j = 2 ∨ j = 3 ∨ j = 4 ∨ j = 6) : RM (uN A.1 j v, A.2) (upd w (B + mj j) (nI v)) B := by
  obtain ⟨h0, h1, h2, h3, h4, h5⟩ := RM_to h
  have m : mj j = 1 ∨ mj j = 3 ∨ mj j = 4 ∨ mj j = 5 ∨ mj j = 7 := by
    rcases hj with rfl | rfl | rfl | rfl | rfl <;> simp [mj]
  refine RM_of ?_ (fun i a b c => ?_) ?_ (fun p hp => ?_) (fun t ht => ?_) ⟨?_, fun k hk => ?_⟩
  · rw [pk_un (by omega)]; exact h0
  · dsimp only
    rw [uN_at]
    unfold upd
    by_cases e : i = j
    · rw [if_pos (by rw [e]), if_pos e]
    · have : mj i ≠ mj j := fun z => e (mj_in b (by omega) z)
      rw [if_neg (by omega), if_neg e]; exact h1 i a b c
  · rw [pk_un (by omega)]; exact h2
  · rw [pk_un (by omega), pk_un (by omega), pk_un (by omega)]; exact h3 p hp
  · rw [pk_un (by omega)]; exact h4 t ht
  · rw [pk_un (by omega)]; exact h5.1
  · rw [pk_un (by omega), pk_un (by omega), pk_un (by omega)]; exact h5.2 k hk
