/-! THE PLACES OF THE TABLES' WORDS, decided by the kernel. -/
def hNm (c : Nat) : String := hcn[c]?.getD ""
def hWm (q : hR) : Bool := q.2.2.2.2.2.1 == 10 || (decide (lw_tbl[q.2.2.2.2.2.2.2.2.2.2.1]? = some (cond q.2.2.2.2.2.2.1 (.static q.1) (.instanceMethod q.1))) && (q.2.2.2.2.2.2.1 || decide (q.1.name = "<init>") || decide (lw_tbl[q.2.2.2.2.2.2.2.2.2.2.2.1]? = some (.selects q.1.cls q.1 q.1))) && decide (lw_tbl[q.2.2.2.2.2.2.2.2.2.2.2.2]? = some (.initialized q.1.cls))
  && decide (q.1.cls = hNm q.2.2.2.2.2.1) && decide (q.1.cls ≠ "java/lang/invoke/MethodHandle") && decide (q.1.cls ≠ "java/lang/invoke/VarHandle") && decide ((parseMethodDescriptor q.1.desc).map (fun d => d.parameters.length) = some (cond q.2.2.2.2.2.2.1 q.2.2.2.2.1 (q.2.2.2.2.1 - 1))))
set_option maxRecDepth 100000 in
theorem hwm_all : hmT.all (fun l => l.all hWm) = true := by decide +kernel
def hWc (q : hR) : Option Cond := if q.2.2.2.2.2.1 = 10 then none else lw_tbl[q.2.2.2.2.2.2.2.2.2.1]?
def hWd (q : hR) : Option Cond := if q.2.2.2.2.2.1 = 10 then none else some (.code q.1 q.2.1 q.2.2.1 q.2.2.2.1)
set_option maxRecDepth 100000 in
theorem hwk_0 : hm_0.map hWc = hm_0.map hWd := by rfl
set_option maxRecDepth 100000 in
theorem hwk_1 : hm_1.map hWc = hm_1.map hWd := by rfl
set_option maxRecDepth 100000 in
theorem hwk_2 : hm_2.map hWc = hm_2.map hWd := by rfl
set_option maxRecDepth 100000 in
theorem hwk_3 : hm_3.map hWc = hm_3.map hWd := by rfl
set_option maxRecDepth 100000 in
theorem hwk_4 : hm_4.map hWc = hm_4.map hWd := by rfl
set_option maxRecDepth 100000 in
theorem hwk_5 : hm_5.map hWc = hm_5.map hWd := by rfl
set_option maxRecDepth 100000 in
theorem hwk_6 : hm_6.map hWc = hm_6.map hWd := by rfl
set_option maxRecDepth 100000 in
theorem hwk_7 : hm_7.map hWc = hm_7.map hWd := by rfl
set_option maxRecDepth 100000 in
theorem hwk_8 : hm_8.map hWc = hm_8.map hWd := by rfl
set_option maxRecDepth 100000 in
theorem hwk_9 : hm_9.map hWc = hm_9.map hWd := by rfl
set_option maxRecDepth 100000 in
theorem hwk_10 : hm_10.map hWc = hm_10.map hWd := by rfl
set_option maxRecDepth 100000 in
theorem hwk_11 : hm_11.map hWc = hm_11.map hWd := by rfl
set_option maxRecDepth 100000 in
theorem hwk_12 : hm_12.map hWc = hm_12.map hWd := by rfl
set_option maxRecDepth 100000 in
theorem hwk_13 : hm_13.map hWc = hm_13.map hWd := by rfl
set_option maxRecDepth 100000 in
theorem hwk_14 : hm_14.map hWc = hm_14.map hWd := by rfl
set_option maxRecDepth 100000 in
theorem hwk_15 : hm_15.map hWc = hm_15.map hWd := by rfl
set_option maxRecDepth 100000 in
theorem hwk_16 : hm_16.map hWc = hm_16.map hWd := by rfl
set_option maxRecDepth 100000 in
theorem hwk_17 : hm_17.map hWc = hm_17.map hWd := by rfl
set_option maxRecDepth 100000 in
theorem hwf_all : hfl.all (fun r => decide (lw_tbl[r.2.2.2.2]? = some (.fieldLink (hNm r.1) r.2.1 (hNm r.2.2.1) (hTX r.2.2.1 r.2.2.2.1).2.1 (hTX r.2.2.1 r.2.2.2.1).2.2.1)) && decide ((hTX r.2.2.1 r.2.2.2.1).1 = hNm r.2.2.1)) = true := by decide +kernel
def hMn (mi : Nat) : MethodName := match hmR mi with
  | some q => q.1
  | none => ⟨"", "", ""⟩
set_option maxRecDepth 100000 in
theorem hwl_all : hml.all (fun r => decide (lw_tbl[r.2.2.2]? = some (.methodLink (hNm r.1) r.2.1 (hMn r.2.2.1)))) = true := by decide +kernel
set_option maxRecDepth 100000 in
theorem hwn_all : hmn.all (fun r => decide (lw_tbl[r.2.2.2.2]? = some (.methodLinkNest (hNm r.1) r.2.1 (hMn r.2.2.1) (hNm r.2.2.2.1)))) = true := by decide +kernel
set_option maxRecDepth 100000 in
theorem hwo_all : hmo.all (fun r => decide (lw_tbl[r.2.2]? = some (.methodLink (hNm r.1) r.2.1 objectInit))) = true := by decide +kernel
set_option maxRecDepth 100000 in
theorem hwa_all : hma.all (fun r => decide (lw_tbl[r.2.2]? = some (.methodLink (hNm r.1) r.2.1 arraycopyName))) = true := by decide +kernel
set_option maxRecDepth 100000 in
theorem hwc_all : hcl.all (fun r => decide (lw_tbl[r.2.2.2]? = some (.classLink (hNm r.1) r.2.1 (hNm r.2.2.1)))) = true := by decide +kernel
def hAn (t : Nat) : String := match t with
  | 3 => "[I"
  | 4 => "HeavyThings$Shelf"
  | 5 => "HeavyThings$Summary"
  | _ => "HeavyThings$Window"
set_option maxRecDepth 100000 in
theorem hwq_all : hca.all (fun r => decide (lw_tbl[r.2.2.2]? = some (.classLink (hNm r.1) r.2.1 (hAn r.2.2.1))) && decide (3 ≤ r.2.2.1) && decide (r.2.2.1 ≤ 6)) = true := by decide +kernel
set_option maxRecDepth 100000 in
theorem hwt_all : hct.all (fun r => decide (lw_tbl[r.2.2.2]? = some (.constant (hNm r.1) r.2.1 r.2.2.1))) = true := by decide +kernel
set_option maxRecDepth 100000 in
theorem hwg_all : hcg.all (fun r => decide (lw_tbl[r.2.2.2]? = some (.constantLong (hNm r.1) r.2.1 r.2.2.1))) = true := by decide +kernel
set_option maxRecDepth 100000 in
theorem hwi_all : (List.range 10).all (fun c => hin.any (fun r => r.1 == c && decide (lw_tbl[r.2.2.1]? = some (.instantiable (hNm c) (hNf c))) && decide (lw_tbl[r.2.2.2]? = some (.initialized (hNm c))))) = true := by decide +kernel
set_option maxRecDepth 100000 in
theorem hwu_all : (List.range 10).all (fun c => (u_ws (hNm c) (hTX c) (hNf c)).all (fun w => decide (w ∈ lw_tbl))) = true := by decide +kernel
set_option maxRecDepth 100000 in
theorem hwv_all : decide (lw_tbl[180]? = some (.arrayClass .int)) && decide (lw_tbl[1030]? = some (.arrayClass .byte)) && decide (lw_tbl[1031]? = some (.arrayClass .boolean)) && decide (lw_tbl[103]? = some (.arrayOver (.object "HeavyThings$Summary"))) && decide (lw_tbl[189]? = some (.arrayOver (.object "HeavyThings$Shelf"))) && decide (lw_tbl[191]? = some (.arrayOver (.object "HeavyThings$Window"))) && decide (lw_tbl[267]? = some (.arrayOver (.array .int))) && decide (lw_tbl[94]? = some (.instanceMethod objectInit)) && decide (lw_tbl[95]? = some (.code objectInit ⟨#[0xb1]⟩ 1 none)) && decide (lw_tbl[547]? = some (.native arraycopyName)) && decide (lw_tbl[546]? = some (.static arraycopyName)) && decide (lw_tbl[87]? = some (.initialized "java/lang/System")) && decide (lw_tbl[801]? = some (.laysStatic "HeavyThings$Tree" "WIDTHS" "[I")) && decide (lw_tbl[800]? = some (.fieldLink "HeavyThings$Tree" 21 "HeavyThings$Tree" "WIDTHS" "[I")) && goodWord (.native arraycopyName) && goodWord (.static arraycopyName) = true := by decide +kernel

set_option maxRecDepth 100000 in
theorem hwp_own : (List.range 10).all (fun c => plainName (hNm c)) = true := by decide +kernel
set_option maxRecDepth 100000 in
theorem hwp_max : plainFor ⟨"java/lang/Math", "max", "(II)I"⟩ = true := by decide +kernel
set_option maxRecDepth 100000 in
theorem hwp_min : plainFor ⟨"java/lang/Math", "min", "(II)I"⟩ = true := by decide +kernel
set_option maxRecDepth 100000 in
theorem hwp_minl : plainFor ⟨"java/lang/Math", "min", "(JJ)J"⟩ = true := by decide +kernel
set_option maxRecDepth 100000 in
theorem hwp_fill : plainFor ⟨"java/util/Arrays", "fill", "([II)V"⟩ = true := by decide +kernel
