/-! MERGED: lists -/
def meL1 (A B : aS) : List aK := A.2.1.map (fun c => (c.1, c.2.1 + hiA B c.1, c.2.2 + loA B c.1))
def niP (A : aS) (c : aK) : Bool := decide (¬ fiA A.2.1 c.1 < A.2.1.length)
def meL2 (A B : aS) : List aK := (B.2.1.filter (niP A)).map (fun c => (c.1, A.1 3 + c.2.1, c.2.2))
def mgD (A B : aS) : List aK := (meL1 A B ++ meL2 A B).foldl raA []
def mgK (A B : aS) : Nat := min (mgD A B).length (A.1 1)
def mgA (A B : aS) : aS := (fun j => if j = 2 then A.1 2 + B.1 2 else if j = 3 then (if mgK A B < (mgD A B).length then max (A.1 3 + B.1 3) (gC (mgD A B) (mgK A B)).2.1 else A.1 3 + B.1 3) else A.1 j, ((mgD A B).take (mgK A B)).foldl puA [], fun t => A.2.2.1 t + B.2.2.1 t, A.2.2.2)
theorem rn_perm : ∀ (L D : List aK), (L.foldl raA D).Perm (L ++ D)
  | [], D => List.Perm.refl _
  | x :: L, D => by
    rw [List.foldl_cons]
    exact (rn_perm L (raA D x)).trans (((raA_perm D x).append_left L).trans List.perm_middle)
theorem Nd_perm {C D : List aK} (h : C.Perm D) (k : Nd D) : Nd C := (h.map _).nodup_iff.mpr k
theorem rn_srt : ∀ (L D : List aK), Fs D → Nd (L ++ D) → Fs (L.foldl raA D)
  | [], D, h, _ => h
  | x :: L, D, h, k => by
    rw [List.foldl_cons]
    have k2 : (x.1 :: (L ++ D).map fun c => c.1).Nodup := k
    rw [List.nodup_cons] at k2
    refine rn_srt L (raA D x) (raA_srt h (fun y hy e => k2.1 ?_)) ?_
    · exact List.mem_map.mpr ⟨y, List.mem_append_right _ hy, e⟩
    · exact Nd_perm (((raA_perm D x).append_left L).trans List.perm_middle) k
theorem meL_nd {A B : aS} {X Y X' Y' : Nat} (hG : Gd X Y A) (hH : Gd X' Y' B) : Nd (meL1 A B ++ meL2 A B) := by
  unfold Nd meL1 meL2
  rw [List.map_append, List.map_map, List.map_map, List.nodup_append]
  refine ⟨hG.2.2.2.1.2.1, Nd_sub hH.2.2.2.1.2.1 List.filter_sublist, ?_⟩
  intro a ha b hb e
  obtain ⟨c, hc, rfl⟩ := List.mem_map.mp ha
  obtain ⟨d, hd, rfl⟩ := List.mem_map.mp hb
  have h2 := (List.mem_filter.mp hd).2
  obtain ⟨p, hp, rfl⟩ := gC_ex hc
  have h3 := fiA_of (C := A.2.1) hG.2.2.2.1.2.1 hp
  have e2 : (gC A.2.1 p).1 = d.1 := e
  unfold niP at h2
  rw [← e2, h3] at h2
  exact absurd hp (by simpa using h2)
theorem mgD_srt {A B : aS} {X Y X' Y' : Nat} (hG : Gd X Y A) (hH : Gd X' Y' B) : Fs (mgD A B) := rn_srt _ [] List.Pairwise.nil (by rw [List.append_nil]; exact meL_nd hG hH)
theorem mgD_perm (A B : aS) : (mgD A B).Perm (meL1 A B ++ meL2 A B) := by
  have := rn_perm (meL1 A B ++ meL2 A B) []
  rw [List.append_nil] at this
  exact this
theorem mgD_len {A B : aS} {X Y X' Y' : Nat} (hG : Gd X Y A) (hH : Gd X' Y' B) : (mgD A B).length ≤ 48 := by
  have h24 := Nat.le_trans hG.1.2.2 hG.1.2.1
  have k24 := Nat.le_trans hH.1.2.2 hH.1.2.1
  rw [(mgD_perm A B).length_eq]
  unfold meL1 meL2
  rw [List.length_append, List.length_map, List.length_map]
  have := List.length_filter_le (niP A) B.2.1
  omega
theorem me_b {A B : aS} {X Y X' Y' : Nat} (hG : Gd X Y A) (hH : Gd X' Y' B) : ∀ c, c ∈ meL1 A B ++ meL2 A B → c.1 < 1000 ∧ 1 ≤ c.2.1 ∧ c.2.1 ≤ A.1 2 + B.1 2 ∧ c.2.2 ≤ c.2.1 := by
  intro c hc
  have ha := hG.2.1
  have hb := hH.2.1
  rcases List.mem_append.mp hc with h | h
  · obtain ⟨d, hd, rfl⟩ := List.mem_map.mp h
    have h1 := hG.2.2.2.1.1 d hd
    have h2 := hiA_le d.1 hH
    dsimp only
    omega
  · obtain ⟨d, hd, rfl⟩ := List.mem_map.mp h
    have h1 := hH.2.2.2.1.1 d (List.mem_filter.mp hd).1
    dsimp only
    omega
/-- rising: by count, of like ones the lesser things first -/
def fob (x y : aK) : Bool := decide (x.2.1 < y.2.1) || (decide (x.2.1 = y.2.1) && decide (x.1 < y.1))
theorem fob_iff (x y : aK) : fob x y = true ↔ x.2.1 < y.2.1 ∨ (x.2.1 = y.2.1 ∧ x.1 < y.1) := by simp [fob]
def Fo (D : List aK) : Prop := D.Pairwise (fun a b => fob a b = true)
theorem Fo_iff (D : List aK) : Fo D ↔ ∀ p q, p < q → q < D.length → fob (gC D p) (gC D q) = true := by
  unfold Fo
  rw [List.pairwise_iff_getElem]
  constructor
  · intro h p q h1 h2
    rw [gC_lt (show p < D.length by omega), gC_lt h2]
    exact h p q _ _ h1
  · intro h p q h1 h2 h3
    have := h p q h3 h2
    rw [gC_lt (show p < D.length by omega), gC_lt h2] at this
    exact this
theorem Fo_uniq {C D : List aK} (h : Fo C) (k : Fo D) (p : C.Perm D) : C = D := List.Perm.eq_of_pairwise (le := fun a b => fob a b = true) (fun _ _ _ _ a b => absurd b (fun z => by rw [fob_iff] at a z; omega)) h k p
theorem Fo_pu {R : List aK} {x : aK} (h : Fo R) (hx : ∀ y, y ∈ R → y.2.1 ≤ x.2.1 → fob y x = true) : Fo (puA R x) := by
  have hk := bhA_le R x.2.1 R.length
  have hs := (Fo_iff R).mp h
  have hg := bhA_gt R x.2.1 R.length
  have hl : ∀ p, p < bhA R x.2.1 R.length → fob (gC R p) x = true := by
    intro p hp
    have h1 := bhA_le2 R x.2.1 R.length (by omega)
    refine hx _ (gC_mem (by omega)) ?_
    by_cases e : p = bhA R x.2.1 R.length - 1
    · rw [e]; exact h1
    · have := (fob_iff _ _).mp (hs p (bhA R x.2.1 R.length - 1) (by omega) (by omega))
      omega
  rw [Fo_iff]
  intro p q hpq hq
  unfold puA at hq ⊢
  rw [inA_len hk] at hq
  rw [gC_in hk, gC_in hk]
  by_cases p1 : p < bhA R x.2.1 R.length
  · rw [if_pos p1]
    by_cases q1 : q < bhA R x.2.1 R.length
    · rw [if_pos q1]; exact hs p q hpq (by omega)
    · rw [if_neg q1]
      by_cases q2 : q = bhA R x.2.1 R.length
      · rw [if_pos q2]; exact hl p p1
      · rw [if_neg q2]; exact hs p (q - 1) (by omega) (by omega)
  · rw [if_neg p1, if_neg (show ¬ q < bhA R x.2.1 R.length by omega), if_neg (show ¬ q = bhA R x.2.1 R.length by omega)]
    by_cases p2 : p = bhA R x.2.1 R.length
    · rw [if_pos p2]
      have := hg (q - 1) (by omega) (by omega)
      rw [fob_iff]
      omega
    · rw [if_neg p2]; exact hs (p - 1) (q - 1) (by omega) (by omega)
theorem puA_perm (C : List aK) (x : aK) : (puA C x).Perm (x :: C) := inA_perm _ _ _
/-- the greatest counts come one by one -/
theorem pu_fold : ∀ (D R : List aK), Fs D → Fo R → (∀ y, y ∈ R → ∀ x, x ∈ D → fab y x = true) → Fo (D.foldl puA R) ∧ (D.foldl puA R).Perm (D ++ R)
  | [], R, _, h, _ => ⟨h, List.Perm.refl _⟩
  | x :: D, R, hD, hR, hy => by
    have hD2 := List.pairwise_cons.mp hD
    rw [List.foldl_cons]
    have h1 : Fo (puA R x) := Fo_pu hR (fun y hy2 hle => by
      have := (fab_iff _ _).mp (hy y hy2 x List.mem_cons_self)
      rw [fob_iff]
      omega)
    obtain ⟨k1, k2⟩ := pu_fold D (puA R x) hD2.2 h1 (fun y hy2 z hz => by
      rcases List.mem_cons.mp ((puA_perm R x).mem_iff.mp hy2) with rfl | hy3
      · exact hD2.1 z hz
      · exact hy y hy3 z (List.mem_cons_of_mem _ hz))
    exact ⟨k1, k2.trans (((puA_perm R x).append_left D).trans List.perm_middle)⟩
theorem Fs_take {D : List aK} (h : Fs D) (k : Nat) : Fs (D.take k) := List.Pairwise.sublist (List.take_sublist k D) h
theorem mg_fold {A B : aS} {X Y X' Y' : Nat} (hG : Gd X Y A) (hH : Gd X' Y' B) (k : Nat) : Fo (((mgD A B).take k).foldl puA []) ∧ (((mgD A B).take k).foldl puA []).Perm ((mgD A B).take k) := by
  have := pu_fold ((mgD A B).take k) [] (Fs_take (mgD_srt hG hH) k) List.Pairwise.nil (fun y hy => absurd hy (by simp))
  rw [List.append_nil] at this
  exact this
theorem sum_nd {f : Nat → Nat} {n : Nat} : ∀ (L : List Nat) (f : Nat → Nat), L.Nodup → (∀ t, t ∈ L → t < n) → (L.map f).sum ≤ sm f n
  | [], _, _, _ => Nat.zero_le _
  | t :: L, f, h, hb => by
    rw [List.nodup_cons] at h
    have ih := sum_nd (f := f) (n := n) L (uN f t 0) h.2 (fun x hx => hb x (List.mem_cons_of_mem _ hx))
    have e : L.map (uN f t 0) = L.map f := by
      refine List.map_congr_left (fun x hx => ?_)
      have hne : ¬ x = t := fun z => h.1 (by rw [← z]; exact hx)
      rw [uN_at, if_neg hne]
    rw [e] at ih
    have := sm_uN (f := f) (t := t) (v := 0) (n := n) (hb t List.mem_cons_self)
    rw [List.map_cons, List.sum_cons]
    omega
def loC (C : List aK) (t : Nat) : Nat := if fiA C t < C.length then (gC C (fiA C t)).2.2 else 0
theorem fiA_cons (c : aK) (C : List aK) (t : Nat) : fiA (c :: C) t = if c.1 = t then 0 else fiA C t + 1 := by
  unfold fiA
  rw [List.findIdx_cons]
  by_cases h : c.1 = t
  · rw [if_pos h, show (c.1 == t) = true by simpa using h]
    rfl
  · rw [if_neg h, show (c.1 == t) = false by simpa using h]
    rfl
theorem sm_le2 {f g : Nat → Nat} : ∀ n, (∀ t, f t ≤ g t) → sm f n ≤ sm g n
  | 0, _ => Nat.le_refl _
  | n + 1, h => by
    have := sm_le2 n h
    have := h n
    unfold sm
    omega
theorem sm_lo : ∀ C : List aK, (∀ c, c ∈ C → c.1 < 1000) → sm (loC C) 1000 ≤ lwS C
  | [], _ => by
    have : loC [] = fun _ => 0 := by
      funext t
      rfl
    rw [this, sm_0]
    exact Nat.zero_le _
  | c :: C, h => by
    have ih := sm_lo C (fun x hx => h x (List.mem_cons_of_mem _ hx))
    have e : ∀ t, loC (c :: C) t ≤ uN (loC C) c.1 c.2.2 t := by
      intro t
      unfold loC
      rw [fiA_cons, uN_at]
      by_cases e : c.1 = t
      · rw [if_pos e, if_pos (by simp), if_pos e.symm]
        exact Nat.le_refl _
      · have e2 : ¬ t = c.1 := fun z => e z.symm
        rw [if_neg e, if_neg e2, List.length_cons, gC_cons]
        by_cases f : fiA C t < C.length
        · rw [if_pos (by omega), if_pos f]
          exact Nat.le_refl _
        · rw [if_neg (by omega)]
          exact Nat.zero_le _
    have h1 := sm_le2 1000 e
    have h2 := sm_uN (f := loC C) (t := c.1) (v := c.2.2) (n := 1000) (h c List.mem_cons_self)
    rw [lwS_cons]
    omega
theorem sm_plus (f g : Nat → Nat) : ∀ n, sm (fun t => f t + g t) n = sm f n + sm g n
  | 0 => rfl
  | n + 1 => by
    rw [sm, sm, sm, sm_plus f g n]
    omega
theorem sum_pl {f g : aK → Nat} : ∀ C : List aK, (C.map (fun c => f c + g c)).sum = (C.map f).sum + (C.map g).sum
  | [] => rfl
  | c :: C => by
    rw [List.map_cons, List.map_cons, List.map_cons, List.sum_cons, List.sum_cons, List.sum_cons, sum_pl C]
    omega
theorem me_lws {A B : aS} {X Y X' Y' : Nat} (hG : Gd X Y A) (hH : Gd X' Y' B) : lwS (meL1 A B ++ meL2 A B) ≤ A.1 2 + B.1 2 := by
  have hb : ∀ c, c ∈ meL1 A B ++ meL2 A B → c.2.2 = loC A.2.1 c.1 + loC B.2.1 c.1 := by
    intro c hc
    rcases List.mem_append.mp hc with h | h
    · obtain ⟨d, hd, rfl⟩ := List.mem_map.mp h
      obtain ⟨p, hp, rfl⟩ := gC_ex hd
      have e : loC A.2.1 (gC A.2.1 p).1 = (gC A.2.1 p).2.2 := (hiA_of hG hp).2
      dsimp only
      rw [e]
      rfl
    · obtain ⟨d, hd, rfl⟩ := List.mem_map.mp h
      have h2 := (List.mem_filter.mp hd).2
      obtain ⟨p, hp, rfl⟩ := gC_ex (List.mem_filter.mp hd).1
      have e : loC B.2.1 (gC B.2.1 p).1 = (gC B.2.1 p).2.2 := (hiA_of hH hp).2
      have e2 : loC A.2.1 (gC B.2.1 p).1 = 0 := if_neg (by unfold niP at h2; simpa using h2)
      dsimp only
      rw [e, e2, Nat.zero_add]
  have e : lwS (meL1 A B ++ meL2 A B) = (((meL1 A B ++ meL2 A B).map (fun c => c.1)).map (fun t => loC A.2.1 t + loC B.2.1 t)).sum := by
    unfold lwS
    rw [List.map_map]
    refine congrArg List.sum (List.map_congr_left (fun c hc => ?_))
    exact hb c hc
  have h1 := sum_nd (f := fun _ => 0) (n := 1000) _ (fun t => loC A.2.1 t + loC B.2.1 t) (meL_nd hG hH) (fun t ht => by
    obtain ⟨c, hc, rfl⟩ := List.mem_map.mp ht
    exact (me_b hG hH c hc).1)
  rw [sm_plus] at h1
  have h2 := sm_lo A.2.1 (fun c hc => (hG.2.2.2.1.1 c hc).1)
  have h3 := sm_lo B.2.1 (fun c hc => (hH.2.2.2.1.1 c hc).1)
  have h4 := hG.2.2.2.1.2.2.2
  have h5 := hH.2.2.2.1.2.2.2
  omega
theorem Gd_mg {A B : aS} {X Y X' Y' Z : Nat} (hG : Gd X Y A) (hH : Gd X' Y' B) (hZ : A.1 2 + B.1 2 ≤ Z) : Gd Z Y (mgA A B) := by
  obtain ⟨f1, f2⟩ := mg_fold hG hH (mgK A B)
  have hmem : ∀ c, c ∈ ((mgD A B).take (mgK A B)).foldl puA [] → c ∈ meL1 A B ++ meL2 A B := fun c hc => (mgD_perm A B).mem_iff.mp (List.mem_of_mem_take (f2.mem_iff.mp hc))
  have hb := me_b hG hH
  have a := hG.2.1
  have b := hH.2.1
  refine ⟨⟨hG.1.1, hG.1.2.1, ?_⟩, ⟨?_, ?_, a.2.2⟩, hG.2.2.1, ⟨fun c hc => hb c (hmem c hc), ?_, ?_, ?_⟩, ?_⟩
  · show (((mgD A B).take (mgK A B)).foldl puA []).length ≤ A.1 1
    rw [f2.length_eq, List.length_take]
    unfold mgK
    omega
  · show A.1 2 + B.1 2 ≤ Z
    exact hZ
  · show (if mgK A B < (mgD A B).length then max (A.1 3 + B.1 3) (gC (mgD A B) (mgK A B)).2.1 else A.1 3 + B.1 3) ≤ A.1 2 + B.1 2
    by_cases c : mgK A B < (mgD A B).length
    · rw [if_pos c]
      have := hb _ ((mgD_perm A B).mem_iff.mp (gC_mem c))
      omega
    · rw [if_neg c]
      omega
  · exact Nd_perm f2 (Nd_sub (Nd_perm (mgD_perm A B) (meL_nd hG hH)) (List.take_sublist _ _))
  · refine List.Pairwise.imp (fun {x y} hxy => ?_) f1
    have := (fob_iff x y).mp hxy
    omega
  · show lwS (((mgD A B).take (mgK A B)).foldl puA []) ≤ A.1 2 + B.1 2
    rw [lwS_perm f2]
    have h1 := lwS_sub (List.take_sublist (mgK A B) (mgD A B))
    have h2 := lwS_perm (mgD_perm A B)
    have h3 := me_lws hG hH
    omega
  · show sm (fun t => A.2.2.1 t + B.2.2.1 t) 1000 ≤ A.1 2 + B.1 2
    rw [sm_plus]
    have h1 := hG.2.2.2.2
    have h2 := hH.2.2.2.2
    omega
