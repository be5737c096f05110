/-! THE MACHINE ON PAPER: heaps are functions of places; a place is a number from 2 on; 0 is the script, 1 the table WIDTHS. -/
/-- a cell: an object (its class, its fields), or an array (its kind, length, contents) -/
abbrev hC : Type := (Nat × List Value) ⊕ (Nat × Nat × ((Nat → Int32) ⊕ (Nat → Option Nat)))
/-- a heap: the next place, the slots used, the cells -/
abbrev hH : Type := Nat × Nat × (Nat → hC)
def hSt (h : hH) (a : Nat) (e : hC) : hH := (h.1, h.2.1, fun q => if q = a then e else h.2.2 q)
def hNw (h : hH) (n : Nat) (e : hC) : hH := (h.1 + 1, h.2.1 + n, fun q => if q = h.1 then e else h.2.2 q)
def hU : Value := .float 0
def hClr (L : List Value) (i : Nat) : List Value := match i with
  | 0 => L
  | j + 1 => match L[j]? with
    | some w => if w.category = 2 then L.set j hU else L
    | none => L
def hS1 (L : List Value) (i : Nat) (v : Value) : List Value := (hClr L i).set i v
def hS2 (L : List Value) (i : Nat) (v : Value) : List Value := ((hClr L i).set i v).set (i + 1) hU
def hTy (ci k : Nat) : FieldType := match ci with
  | 0 => tyX0 k
  | 1 => tyX1 k
  | 2 => tyX2 k
  | 3 => tyX3 k
  | 4 => tyX4 k
  | 5 => tyX5 k
  | 6 => tyX6 k
  | 7 => tyX7 k
  | 8 => tyX8 k
  | _ => tyX9 k
/-- does a value fit a field's type -/
def hFit (ty : FieldType) (v : Value) : Bool := match ty, v with
  | .int, .int _ => true
  | .long, .long _ => true
  | .boolean, .int x => x == 0 || x == 1
  | .object _, .ref _ => true
  | .object _, .null => true
  | .array _, .ref _ => true
  | .array _, .null => true
  | _, _ => false
def hNf (ci : Nat) : Nat := match ci with
  | 0 => 1
  | 1 => 4
  | 2 => 2
  | 3 => 2
  | 4 => 2
  | 5 => 15
  | 6 => 1
  | 7 => 5
  | 8 => 12
  | _ => 19
def hDf (ci : Nat) : List Value := (List.range (hNf ci)).map fun k => defaultValue (hTy ci k)
def hLk : List (Int × Int) → List Nat → Nat → Int → Nat
  | (a, _) :: ps, t :: ts, d, v => if v = a then t else hLk ps ts d v
  | _, _, d, _ => d
def hKc (t : Nat) : Nat := match t with
  | 4 => 4
  | 5 => 5
  | _ => 7
/-- may this cell's address lie in an array of that kind -/
def hAs (t : Nat) (e : hC) : Bool := match e with
  | .inl o => 4 ≤ t && t ≤ 6 && o.1 == hKc t
  | .inr (t', _, .inl _) => t == 3 && t' == 0
  | .inr (_, _, .inr _) => false
def hCmp (c : ClassFile.Cond) (x y : Int32) : Bool := match c with
  | .eq => decide (x = y)
  | .ne => !decide (x = y)
  | .lt => decide (x < y)
  | .ge => decide (y ≤ x)
  | .gt => decide (y < x)
  | .le => decide (x ≤ y)
abbrev hS : Type := Nat × List Value × List Value × hH
def hLoad (e : hE) (k : Nat) (L st : List Value) (h : hH) (f : Value → Bool) : Option hS := match L[e.2.2.2.1]? with
  | some v => if f v = true then some (k + 1, L, v :: st, h) else none
  | none => none
def hIsI (v : Value) : Bool := match v with
  | .int _ => true
  | _ => false
def hIsL (v : Value) : Bool := match v with
  | .long _ => true
  | _ => false
def hIsA (v : Value) : Bool := match v with
  | .ref _ => true
  | .null => true
  | _ => false
def hSto1 (e : hE) (k : Nat) (L st : List Value) (h : hH) (f : Value → Bool) : Option hS := match st with
  | v :: r => if f v = true then some (k + 1, hS1 L e.2.2.2.1 v, r, h) else none
  | [] => none
def hSto2 (e : hE) (k : Nat) (L st : List Value) (h : hH) : Option hS := match st with
  | .long v :: r => some (k + 1, hS2 L e.2.2.2.1 (.long v), r, h)
  | _ => none
def hInc (e : hE) (k : Nat) (L st : List Value) (h : hH) : Option hS := match L[e.2.2.2.1]? with
  | some (.int v) => some (k + 1, hS1 L e.2.2.2.1 (.int (v + e.2.2.2.2.2.1)), st, h)
  | _ => none
def hOp2 (k : Nat) (L st : List Value) (h : hH) (f : Int32 → Int32 → Int32) : Option hS := match st with
  | .int y :: .int x :: r => some (k + 1, L, .int (f x y) :: r, h)
  | _ => none
def hOp1 (k : Nat) (L st : List Value) (h : hH) (f : Int32 → Value) : Option hS := match st with
  | .int x :: r => some (k + 1, L, f x :: r, h)
  | _ => none
def hOpD (k : Nat) (L st : List Value) (h : hH) (f : Int32 → Int32 → Int32) : Option hS := match st with
  | .int y :: .int x :: r => if y = 0 then none else some (k + 1, L, .int (f x y) :: r, h)
  | _ => none
def hOpL (k : Nat) (L st : List Value) (h : hH) (f : Int64 → Int64 → Value) : Option hS := match st with
  | .long y :: .long x :: r => some (k + 1, L, f x y :: r, h)
  | _ => none
def hOpLD (k : Nat) (L st : List Value) (h : hH) (f : Int64 → Int64 → Int64) : Option hS := match st with
  | .long y :: .long x :: r => if y = 0 then none else some (k + 1, L, .long (f x y) :: r, h)
  | _ => none
def hL2i (k : Nat) (L st : List Value) (h : hH) : Option hS := match st with
  | .long x :: r => some (k + 1, L, .int x.toInt32 :: r, h)
  | _ => none
def hDup (k : Nat) (L st : List Value) (h : hH) : Option hS := match st with
  | v :: r => if v.category = 1 then some (k + 1, L, v :: v :: r, h) else none
  | _ => none
def hDup2 (k : Nat) (L st : List Value) (h : hH) : Option hS := match st with
  | v :: w :: r => if v.category = 1 then (if w.category = 1 then some (k + 1, L, v :: w :: v :: w :: r, h) else none) else none
  | _ => none
def hPop (k : Nat) (L st : List Value) (h : hH) : Option hS := match st with
  | v :: r => if v.category = 1 then some (k + 1, L, r, h) else none
  | _ => none
def hIf1 (e : hE) (c : ClassFile.Cond) (k : Nat) (L st : List Value) (h : hH) : Option hS := match st with
  | .int x :: r => some (cond (hCmp c x 0) e.2.2.2.1 (k + 1), L, r, h)
  | _ => none
def hIf2 (e : hE) (c : ClassFile.Cond) (k : Nat) (L st : List Value) (h : hH) : Option hS := match st with
  | .int y :: .int x :: r => some (cond (hCmp c x y) e.2.2.2.1 (k + 1), L, r, h)
  | _ => none
def hNull (t u : Nat) (L st : List Value) (h : hH) : Option hS := match st with
  | .null :: r => some (t, L, r, h)
  | .ref _ :: r => some (u, L, r, h)
  | _ => none
def hTsw (e : hE) (lo hi : Int) (L st : List Value) (h : hH) : Option hS := match st with
  | .int x :: r => if x.toInt < lo ∨ hi < x.toInt then some (e.2.2.2.1, L, r, h) else match e.2.2.2.2.2.2.2[(x.toInt - lo).toNat]? with
    | some t => some (t, L, r, h)
    | none => none
  | _ => none
def hLsw (e : hE) (ps : List (Int × Int)) (L st : List Value) (h : hH) : Option hS := match st with
  | .int x :: r => some (hLk ps e.2.2.2.2.2.2.2 e.2.2.2.1 x.toInt, L, r, h)
  | _ => none
def hGet (e : hE) (k : Nat) (L st : List Value) (h : hH) : Option hS := match st with
  | .ref a :: r => match h.2.2 a with
    | .inl o => if o.1 = e.2.2.2.1 then (match o.2[e.2.2.2.2.1]? with
      | some v => some (k + 1, L, v :: r, h)
      | none => none) else none
    | .inr _ => none
  | _ => none
def hPut (e : hE) (k : Nat) (L st : List Value) (h : hH) : Option hS := match st with
  | v :: .ref a :: r => match h.2.2 a with
    | .inl o => if o.1 = e.2.2.2.1 then (if hFit (hTy e.2.2.2.1 e.2.2.2.2.1) v = true then (if e.2.2.2.2.1 < o.2.length then some (k + 1, L, r, hSt h a (.inl (o.1, o.2.set e.2.2.2.2.1 v))) else none) else none) else none
    | .inr _ => none
  | _ => none
def hIld (k : Nat) (L st : List Value) (h : hH) : Option hS := match st with
  | .int i :: .ref a :: r => match h.2.2 a with
    | .inr (t, n, .inl f) => if t = 0 ∨ t = 7 then (if ¬ (i < 0 ∨ n ≤ i.toNatClampNeg) then some (k + 1, L, .int (f i.toNatClampNeg) :: r, h) else none) else none
    | _ => none
  | _ => none
def hIst (k : Nat) (L st : List Value) (h : hH) : Option hS := match st with
  | .int v :: .int i :: .ref a :: r => match h.2.2 a with
    | .inr (t, n, .inl f) => if t = 0 then (if ¬ (i < 0 ∨ n ≤ i.toNatClampNeg) then some (k + 1, L, r, hSt h a (.inr (0, n, .inl (upd f i.toNatClampNeg v)))) else none) else none
    | _ => none
  | _ => none
def hBld (k : Nat) (L st : List Value) (h : hH) : Option hS := match st with
  | .int i :: .ref a :: r => match h.2.2 a with
    | .inr (t, n, .inl f) => if t = 1 ∨ t = 2 then (if ¬ (i < 0 ∨ n ≤ i.toNatClampNeg) then some (k + 1, L, .int (f i.toNatClampNeg) :: r, h) else none) else none
    | _ => none
  | _ => none
def hBst (k : Nat) (L st : List Value) (h : hH) : Option hS := match st with
  | .int v :: .int i :: .ref a :: r => match h.2.2 a with
    | .inr (t, n, .inl f) => if ¬ (i < 0 ∨ n ≤ i.toNatClampNeg) then (if t = 1 then some (k + 1, L, r, hSt h a (.inr (1, n, .inl (upd f i.toNatClampNeg v.toInt8.toInt32)))) else if t = 2 then (if v = 0 ∨ v = 1 then some (k + 1, L, r, hSt h a (.inr (2, n, .inl (upd f i.toNatClampNeg v)))) else none) else none) else none
    | _ => none
  | _ => none
def hAld (k : Nat) (L st : List Value) (h : hH) : Option hS := match st with
  | .int i :: .ref a :: r => match h.2.2 a with
    | .inr (t, n, .inr g) => if 3 ≤ t ∧ t ≤ 6 then (if ¬ (i < 0 ∨ n ≤ i.toNatClampNeg) then some (k + 1, L, va_rf (g i.toNatClampNeg) :: r, h) else none) else none
    | _ => none
  | _ => none
def hAst (k : Nat) (L st : List Value) (h : hH) : Option hS := match st with
  | .ref v :: .int i :: .ref a :: r => match h.2.2 a with
    | .inr (t, n, .inr g) => if 3 ≤ t ∧ t ≤ 6 then (if ¬ (i < 0 ∨ n ≤ i.toNatClampNeg) then (if hAs t (h.2.2 v) = true then some (k + 1, L, r, hSt h a (.inr (t, n, .inr (va_up g i.toNatClampNeg (some v))))) else none) else none) else none
    | _ => none
  | _ => none
def hLen (k : Nat) (L st : List Value) (h : hH) : Option hS := match st with
  | .ref a :: r => match h.2.2 a with
    | .inr (t, n, _) => if t ≤ 7 then some (k + 1, L, .int (Int32.ofNat n) :: r, h) else none
    | .inl _ => none
  | _ => none
def hNewO (e : hE) (k : Nat) (L st : List Value) (h : hH) : Option hS := some (k + 1, L, .ref h.1 :: st, hNw h (hNf e.2.2.2.1) (.inl (e.2.2.2.1, hDf e.2.2.2.1)))
def hNewA (e : hE) (k : Nat) (L st : List Value) (h : hH) : Option hS := match st with
  | .int n :: r => if n < 0 then none else if n.toNatClampNeg ≤ 100000 then some (k + 1, L, .ref h.1 :: r, hNw h n.toNatClampNeg (.inr (e.2.2.2.1, n.toNatClampNeg, .inl fun _ => 0))) else none
  | _ => none
def hNewQ (e : hE) (k : Nat) (L st : List Value) (h : hH) : Option hS := match st with
  | .int n :: r => if n < 0 then none else if n.toNatClampNeg ≤ 100000 then some (k + 1, L, .ref h.1 :: r, hNw h n.toNatClampNeg (.inr (e.2.2.2.1, n.toNatClampNeg, .inr fun _ => none))) else none
  | _ => none
def hCats (st : List Value) : Nat := (st.map fun v => v.category).sum
def hObj (k : Nat) (L st : List Value) (h : hH) : Option hS := match st with
  | .ref _ :: r => if hCats r ≤ 8 then some (k + 1, L, r, h) else none
  | _ => none
def hCpy (k : Nat) (L st : List Value) (h : hH) : Option hS := match st with
  | .int n :: .int dp :: .ref a :: .int sp :: .ref a0 :: r => match h.2.2 a0, h.2.2 a with
    | .inr (t0, n0, .inl f), .inr (t1, n1, .inl g) => if t0 = 0 ∧ t1 = 0 ∧ ¬ sp < 0 ∧ ¬ dp < 0 ∧ ¬ n < 0 ∧ sp.toNatClampNeg + n.toNatClampNeg ≤ n0 ∧ dp.toNatClampNeg + n.toNatClampNeg ≤ n1 ∧ hCats r ≤ 8 then some (k + 1, L, r, hSt h a (.inr (0, n1, .inl (va_cpy f g sp.toNatClampNeg dp.toNatClampNeg n.toNatClampNeg)))) else none
    | _, _ => none
  | _ => none
/-- one instruction that is no call of a method of ours and no return -/
def hStep (e : hE) (k : Nat) (L st : List Value) (h : hH) : Option hS := match e.1 with
  | .iload _ => hLoad e k L st h hIsI
  | .iload_n _ => hLoad e k L st h hIsI
  | .lload _ => hLoad e k L st h hIsL
  | .lload_n _ => hLoad e k L st h hIsL
  | .aload _ => hLoad e k L st h hIsA
  | .aload_n _ => hLoad e k L st h hIsA
  | .istore _ => hSto1 e k L st h hIsI
  | .istore_n _ => hSto1 e k L st h hIsI
  | .astore _ => hSto1 e k L st h hIsA
  | .astore_n _ => hSto1 e k L st h hIsA
  | .lstore _ => hSto2 e k L st h
  | .lstore_n _ => hSto2 e k L st h
  | .iinc _ _ => hInc e k L st h
  | .iconst _ => some (k + 1, L, .int e.2.2.2.2.2.1 :: st, h)
  | .bipush _ => some (k + 1, L, .int e.2.2.2.2.2.1 :: st, h)
  | .sipush _ => some (k + 1, L, .int e.2.2.2.2.2.1 :: st, h)
  | .ldc _ => some (k + 1, L, .int e.2.2.2.2.2.1 :: st, h)
  | .ldc_w _ => some (k + 1, L, .int e.2.2.2.2.2.1 :: st, h)
  | .lconst _ => some (k + 1, L, .long e.2.2.2.2.2.2.1 :: st, h)
  | .ldc2_w _ => some (k + 1, L, .long e.2.2.2.2.2.2.1 :: st, h)
  | .aconst_null => some (k + 1, L, .null :: st, h)
  | .iadd => hOp2 k L st h (fun x y => x + y)
  | .isub => hOp2 k L st h (fun x y => x - y)
  | .imul => hOp2 k L st h (fun x y => x * y)
  | .iand => hOp2 k L st h (fun x y => x &&& y)
  | .ior => hOp2 k L st h (fun x y => x ||| y)
  | .ishl => hOp2 k L st h (fun x y => x <<< (y &&& 31))
  | .ishr => hOp2 k L st h (fun x y => x >>> (y &&& 31))
  | .iushr => hOp2 k L st h (fun x y => (x.toUInt32 >>> (y.toUInt32 &&& Int32.toUInt32 31)).toInt32)
  | .idiv => hOpD k L st h (fun x y => x / y)
  | .irem => hOpD k L st h (fun x y => x - x / y * y)
  | .ineg => hOp1 k L st h (fun x => .int (-x))
  | .i2l => hOp1 k L st h (fun x => .long x.toInt64)
  | .i2b => hOp1 k L st h (fun x => .int x.toInt8.toInt32)
  | .l2i => hL2i k L st h
  | .ladd => hOpL k L st h (fun x y => .long (x + y))
  | .lmul => hOpL k L st h (fun x y => .long (x * y))
  | .land => hOpL k L st h (fun x y => .long (x &&& y))
  | .lcmp => hOpL k L st h (fun x y => .int (lg_cmp x y))
  | .ldiv => hOpLD k L st h (fun x y => x / y)
  | .lrem => hOpLD k L st h (fun x y => x - x / y * y)
  | .dup => hDup k L st h
  | .dup2 => hDup2 k L st h
  | .pop => hPop k L st h
  | .goto _ => some (e.2.2.2.1, L, st, h)
  | .ifCond c _ => hIf1 e c k L st h
  | .if_icmp c _ => hIf2 e c k L st h
  | .ifnull _ => hNull e.2.2.2.1 (k + 1) L st h
  | .ifnonnull _ => hNull (k + 1) e.2.2.2.1 L st h
  | .tableswitch _ lo hi _ => hTsw e lo hi L st h
  | .lookupswitch _ ps => hLsw e ps.toList L st h
  | .getfield _ => hGet e k L st h
  | .putfield _ => hPut e k L st h
  | .getstatic _ => some (k + 1, L, .ref 1 :: st, h)
  | .iaload => hIld k L st h
  | .iastore => hIst k L st h
  | .baload => hBld k L st h
  | .bastore => hBst k L st h
  | .aaload => hAld k L st h
  | .aastore => hAst k L st h
  | .arraylength => hLen k L st h
  | .new _ => hNewO e k L st h
  | .newarray _ => hNewA e k L st h
  | .anewarray _ => hNewQ e k L st h
  | .invokespecial _ => hObj k L st h
  | .invokestatic _ => hCpy k L st h
  | _ => none
/-- 0: an instruction by hStep; 1: a return; 2: a call of a method of ours -/
def hKd (e : hE) : Nat := match e.1 with
  | .ireturn => 1
  | .lreturn => 1
  | .areturn => 1
  | .return_ => 1
  | .invokevirtual _ => 2
  | .invokespecial _ => if e.2.2.2.1 = 1000 then 0 else 2
  | .invokestatic _ => if e.2.2.2.1 = 1001 then 0 else 2
  | _ => 0
/-- what a return gives -/
def hRet (e : hE) (st : List Value) : Option (Option Value) := match e.1 with
  | .ireturn => (match st with
    | [.int v] => some (some (.int v))
    | _ => none)
  | .lreturn => (match st with
    | [.long v] => some (some (.long v))
    | _ => none)
  | .areturn => (match st with
    | [.ref a] => some (some (.ref a))
    | [.null] => some (some .null)
    | _ => none)
  | .return_ => (match st with
    | [] => some none
    | _ => none)
  | _ => none
def hFl : List Value → List Value
  | [] => []
  | v :: r => if v.category = 2 then v :: hU :: hFl r else v :: hFl r
def hEnt (as : List Value) (n : Nat) : List Value := hFl as ++ List.replicate (n - (hFl as).length) hU
/-- does what a method returns fit its type -/
def hRok (mi : Nat) (r : Option Value) : Bool := match hmR mi with
  | some q => (match q.2.2.2.1, r with
    | none, none => true
    | some ty, some v => hFit ty v
    | _, _ => false)
  | none => false
/-- the receiver is an object of the method's class -/
def hRcv (e : hE) (ci : Nat) (as : List Value) (h : hH) : Bool := match e.1 with
  | .invokestatic _ => true
  | _ => match as with
    | .ref a :: _ => (match h.2.2 a with
      | .inl o => o.1 == ci
      | .inr _ => false)
    | _ => false
noncomputable def hExec : Nat → Nat → Nat → List Value → List Value → hH → Option (Option Value × hH)
  | 0, _, _, _, _, _ => none
  | n + 1, mi, k, L, st, h => match hI mi k with
    | none => none
    | some e => match hKd e with
      | 0 => (match hStep e k L st h with
        | some (k', L', st', h') => hExec n mi k' L' st' h'
        | none => none)
      | 1 => (match hRet e st with
        | some r => if hRok mi r = true then some (r, h) else none
        | none => none)
      | _ => (match hmR e.2.2.2.1 with
        | none => none
        | some q => if hRcv e q.2.2.2.2.2.1 (st.take e.2.2.2.2.1).reverse h = true ∧ hCats (st.drop e.2.2.2.2.1) ≤ 8 ∧ (st.take e.2.2.2.2.1).length = e.2.2.2.2.1 ∧ (hFl (st.take e.2.2.2.2.1).reverse).length ≤ q.2.2.1 then (match hExec n e.2.2.2.1 0 (hEnt (st.take e.2.2.2.2.1).reverse q.2.2.1) [] h with
          | some (r, h1) => hExec n mi (k + 1) L (r.toList ++ st.drop e.2.2.2.2.1) h1
          | none => none) else none)
