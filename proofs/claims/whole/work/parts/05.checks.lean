/-! WHAT THE LINKED PROGRAM MUST KEEP TO, decided by the kernel. -/
noncomputable def hPc (mi k : Nat) : Nat := match hI mi k with
  | some e => e.2.2.1
  | none => 0
noncomputable def hNx (mi k : Nat) (e : hE) : Bool := hPc mi (k + 1) == e.2.2.1 + e.2.1
noncomputable def hTg (mi t : Nat) (e : hE) (off : Int) : Bool := decide ((e.2.2.1 : Int) + off = (hPc mi t : Int))
/-- the row of a callee: what a call wants of it -/
def hCl (q c : hR) (y : Nat) : Bool := y == c.2.2.2.2.1 && decide (c.2.2.2.2.2.2.2.1 + 1 ≤ q.2.2.2.2.2.2.2.1) && decide (8 + (c.2.2.1 + 11) + c.2.2.2.2.2.2.2.2.1 ≤ q.2.2.2.2.2.2.2.2.1)
def hTX (ci : Nat) : u_T := match ci with
  | 0 => TX0
  | 1 => TX1
  | 2 => TX2
  | 3 => TX3
  | 4 => TX4
  | 5 => TX5
  | 6 => TX6
  | 7 => TX7
  | 8 => TX8
  | _ => TX9
noncomputable def hOK (mi k : Nat) (q : hR) (e : hE) : Bool :=
  let own := q.2.2.2.2.2.1
  let x := e.2.2.2.1
  let y := e.2.2.2.2.1
  let z := e.2.2.2.2.2.1
  let zl := e.2.2.2.2.2.2.1
  match e.1 with
  | .iload i => e.2.1 == 2 && x == i && hNx mi k e
  | .lload i => e.2.1 == 2 && x == i && hNx mi k e
  | .aload i => e.2.1 == 2 && x == i && hNx mi k e
  | .iload_n i => e.2.1 == 1 && x == i.val && hNx mi k e
  | .lload_n i => e.2.1 == 1 && x == i.val && hNx mi k e
  | .aload_n i => e.2.1 == 1 && x == i.val && hNx mi k e
  | .istore i => e.2.1 == 2 && x == i && decide (x < q.2.2.1) && hNx mi k e
  | .astore i => e.2.1 == 2 && x == i && decide (x < q.2.2.1) && hNx mi k e
  | .lstore i => e.2.1 == 2 && x == i && decide (x + 1 < q.2.2.1) && hNx mi k e
  | .istore_n i => e.2.1 == 1 && x == i.val && decide (x < q.2.2.1) && hNx mi k e
  | .astore_n i => e.2.1 == 1 && x == i.val && decide (x < q.2.2.1) && hNx mi k e
  | .lstore_n i => e.2.1 == 1 && x == i.val && decide (x + 1 < q.2.2.1) && hNx mi k e
  | .iinc i c => e.2.1 == 3 && x == i && decide (Int32.ofInt c = z) && decide (x < q.2.2.1) && hNx mi k e
  | .iconst n => e.2.1 == 1 && decide (Int32.ofInt n = z) && hNx mi k e
  | .bipush n => e.2.1 == 2 && decide ((Int8.ofInt n).toInt32 = z) && hNx mi k e
  | .sipush n => e.2.1 == 3 && decide ((Int16.ofInt n).toInt32 = z) && hNx mi k e
  | .ldc i => e.2.1 == 2 && hct.any (fun r => r.1 == own && r.2.1 == i && decide (r.2.2.1 = z)) && hNx mi k e
  | .ldc_w i => e.2.1 == 3 && hct.any (fun r => r.1 == own && r.2.1 == i && decide (r.2.2.1 = z)) && hNx mi k e
  | .lconst n => e.2.1 == 1 && decide (Int64.ofNat n.val = zl) && hNx mi k e
  | .ldc2_w i => e.2.1 == 3 && hcg.any (fun r => r.1 == own && r.2.1 == i && decide (r.2.2.1 = zl)) && hNx mi k e
  | .goto o => e.2.1 == 3 && hTg mi x e o
  | .ifCond _ o => e.2.1 == 3 && hTg mi x e o && hNx mi k e
  | .if_icmp _ o => e.2.1 == 3 && hTg mi x e o && hNx mi k e
  | .ifnull o => e.2.1 == 3 && hTg mi x e o && hNx mi k e
  | .ifnonnull o => e.2.1 == 3 && hTg mi x e o && hNx mi k e
  | .tableswitch d _ _ offs => hTg mi x e d && e.2.2.2.2.2.2.2.length == offs.size && (e.2.2.2.2.2.2.2.zip offs.toList).all (fun r => hTg mi r.1 e r.2)
  | .lookupswitch d ps => hTg mi x e d && e.2.2.2.2.2.2.2.length == ps.toList.length && (e.2.2.2.2.2.2.2.zip ps.toList).all (fun r => hTg mi r.1 e r.2.2) && (ps.toList.zip (ps.toList.drop 1)).all (fun (a, next) => a.1 < next.1)
  | .getfield i => e.2.1 == 3 && hfl.any (fun r => r.1 == own && r.2.1 == i && r.2.2.1 == x && r.2.2.2.1 == y) && decide (x < 10) && decide (y < hNf x) && hNx mi k e
  | .putfield i => e.2.1 == 3 && hfl.any (fun r => r.1 == own && r.2.1 == i && r.2.2.1 == x && r.2.2.2.1 == y) && decide (x < 10) && decide (y < hNf x) && (!(hTX x y).2.2.2 || (decide (q.1.name = "<init>") && own == x)) && hNx mi k e
  | .getstatic i => e.2.1 == 3 && own == 6 && i == 21 && hNx mi k e
  | .new i => e.2.1 == 3 && hcl.any (fun r => r.1 == own && r.2.1 == i && r.2.2.1 == x) && decide (x < 10) && hNx mi k e
  | .newarray t => e.2.1 == 2 && (match t with
    | .int => x == 0
    | .byte => x == 1
    | .boolean => x == 2
    | _ => false) && hNx mi k e
  | .anewarray i => e.2.1 == 3 && hca.any (fun r => r.1 == own && r.2.1 == i && r.2.2.1 == x) && hNx mi k e
  | .invokespecial i => e.2.1 == 3 && hNx mi k e && (if x = 1000 then hmo.any (fun r => r.1 == own && r.2.1 == i) && decide (1 ≤ q.2.2.2.2.2.2.2.1) && decide (20 ≤ q.2.2.2.2.2.2.2.2.1) else (match hmR x with
    | some c => hCl q c y && !c.2.2.2.2.2.2.1 && decide (c.1.name = "<init>") && decide (c.2.2.2.1 = none) && (hml.any (fun r => r.1 == own && r.2.1 == i && r.2.2.1 == x) || hmn.any (fun r => r.1 == own && r.2.1 == i && r.2.2.1 == x))
    | none => false))
  | .invokestatic i => e.2.1 == 3 && hNx mi k e && (if x = 1001 then hma.any (fun r => r.1 == own && r.2.1 == i) && decide (1 ≤ q.2.2.2.2.2.2.2.1) && decide (26 ≤ q.2.2.2.2.2.2.2.2.1) else (match hmR x with
    | some c => hCl q c y && c.2.2.2.2.2.2.1 && (hml.any (fun r => r.1 == own && r.2.1 == i && r.2.2.1 == x) || hmn.any (fun r => r.1 == own && r.2.1 == i && r.2.2.1 == x))
    | none => false))
  | .invokevirtual i => e.2.1 == 3 && hNx mi k e && (match hmR x with
    | some c => hCl q c y && !c.2.2.2.2.2.2.1 && decide (1 ≤ y) && hml.any (fun r => r.1 == own && r.2.1 == i && r.2.2.1 == x)
    | none => false)
  | .ireturn => e.2.1 == 1
  | .lreturn => e.2.1 == 1
  | .areturn => e.2.1 == 1
  | .return_ => e.2.1 == 1
  | _ => e.2.1 == 1 && hNx mi k e
noncomputable def hOKm (mi : Nat) : Bool := match hmR mi with
  | some q => (hP mi).zipIdx.all (fun r => r.1.zipIdx.all (fun e => hOK mi (16 * r.2 + e.2) q e.1))
  | none => true
noncomputable def hDcm (mi : Nat) : Bool := match hmR mi with
  | some q => (hP mi).all (fun r => r.all (fun e => decide (decode q.2.1 e.2.2.1 = .ok (e.1, e.2.1))))
  | none => true
set_option maxRecDepth 100000 in
theorem hok_0 : (List.range' 0 40).all hOKm = true := by decide +kernel
set_option maxRecDepth 100000 in
theorem hok_1 : (List.range' 40 40).all hOKm = true := by decide +kernel
set_option maxRecDepth 100000 in
theorem hok_2 : (List.range' 80 40).all hOKm = true := by decide +kernel
set_option maxRecDepth 100000 in
theorem hok_3 : (List.range' 120 40).all hOKm = true := by decide +kernel
set_option maxRecDepth 100000 in
theorem hok_4 : (List.range' 160 40).all hOKm = true := by decide +kernel
set_option maxRecDepth 100000 in
theorem hok_5 : (List.range' 200 40).all hOKm = true := by decide +kernel
set_option maxRecDepth 100000 in
theorem hok_6 : (List.range' 240 38).all hOKm = true := by decide +kernel
set_option maxRecDepth 100000 in
theorem hok_7 : (List.range' 278 1).all hOKm = true := by decide +kernel
set_option maxRecDepth 100000 in
theorem hok_8 : (List.range' 279 4).all hOKm = true := by decide +kernel
