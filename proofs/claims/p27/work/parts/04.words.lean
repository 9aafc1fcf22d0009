
/-! THE TABLES' WORDS: each link of the small machine stands among the claim's own -/
def ARC : Nat := 4
def TBL : List Jvm.Cond := lw_tbl.filter goodWord
theorem tbl_of {i : Nat} {w : Jvm.Cond} (h : lw_tbl[i]? = some w) (hg : goodWord w = true) : w ∈ TBL := List.mem_filter.mpr ⟨List.mem_of_getElem? h, hg⟩
theorem tbl_good {w : Jvm.Cond} (h : w ∈ TBL) : (w.onTables && w.keeps) = true ∨ ∃ ty, w = .arrayClass ty := good_of_word (List.mem_filter.mp h).2
def fldW (e : Nat × Nat × Nat × Nat × Nat) : Jvm.Cond := .fieldLink (RN e.1) e.2.1 (TX e.2.2.1 e.2.2.2.1).1 (TX e.2.2.1 e.2.2.2.1).2.1 (TX e.2.2.1 e.2.2.2.1).2.2.1
theorem fld_ok : fldT.all (fun e => decide (lw_tbl[e.2.2.2.2]? = some (fldW e)) && decide (e.2.2.1 < NCl) && decide (e.2.2.2.1 < NX e.2.2.1)) = true := by decide +kernel
def yn (q : Nat) : MethodName := match tM[q]? with
  | some e => eY e
  | none => ⟨"", "", ""⟩
theorem yn_of {q : Nat} {e : Ent} (h : tM[q]? = some e) : yn q = eY e := by simp only [yn, h]
theorem mth_ok : mthT.all (fun e => decide (lw_tbl[e.2.2.2]? = some (.methodLink (RN e.1) e.2.1 (yn e.2.2.1)))) = true := by decide +kernel
def nstW (e : Nat × Nat × Nat × Nat) : Jvm.Cond := .methodLinkNest (RN e.1) e.2.1 (yn e.2.2.1) hostOf
theorem nst_ok : nstT.all (fun e => decide (lw_tbl[e.2.2.2]? = some (nstW e))) = true := by decide +kernel
theorem cls_ok : clsT.all (fun e => decide (lw_tbl[e.2.2.2]? = some (.classLink (RN e.1) e.2.1 (RN e.2.2.1)))) = true := by decide +kernel
def stC (k : Nat) : String × String := (stsT[k]?).getD ("", "")
theorem sta_ok : staT.all (fun e => decide (lw_tbl[e.2.2.2]? = some (.fieldLink (RN e.1) e.2.1 (stC e.2.2.1).1 (stC e.2.2.1).2 "[I"))) = true := by decide +kernel
def conW (e : Nat × Nat × Nat × Nat) : Jvm.Cond := .constant (RN e.1) e.2.1 (nI e.2.2.1)
theorem con_ok : conT.all (fun e => decide (lw_tbl[e.2.2.2]? = some (conW e))) = true := by decide +kernel
def colW (e : Nat × Nat × Nat × Nat) : Jvm.Cond := .constantLong (RN e.1) e.2.1 (Int64.ofNat e.2.2.1)
theorem col_ok : colT.all (fun e => decide (lw_tbl[e.2.2.2]? = some (colW e))) = true := by decide +kernel
theorem obj_ok : objT.all (fun e => decide (lw_tbl[e.2.2]? = some (.methodLink (RN e.1) e.2.1 Lib.objectInit))) = true := by decide +kernel
def sysN (w : Nat) : MethodName := if w = 0 then Lib.Math.max.name else if w = 1 then Lib.Math.min.name else arraycopyName
theorem sys_ok : sysT.all (fun e => decide (lw_tbl[e.2.2.2]? = some (.methodLink (RN e.1) e.2.1 (sysN e.2.2.1)))) = true := by decide +kernel
def sysPl (k : Nat) : Nat := (sysP[k]?).getD 0
theorem sysP_ok : (lw_tbl[sysPl 0]? = some (.static Lib.Math.max.name) ∧ lw_tbl[sysPl 1]? = some (.initialized "java/lang/Math") ∧ lw_tbl[sysPl 2]? = some (.code Lib.Math.max.name Lib.Math.max.code 2 (some .int)) ∧ lw_tbl[sysPl 3]? = some (.static Lib.Math.min.name) ∧ lw_tbl[sysPl 4]? = some (.code Lib.Math.min.name Lib.Math.min.code 2 (some .int))) ∧ (lw_tbl[sysPl 5]? = some (.native arraycopyName) ∧ lw_tbl[sysPl 6]? = some (.static arraycopyName) ∧ lw_tbl[sysPl 7]? = some (.initialized "java/lang/System")) ∧ (lw_tbl[sysPl 8]? = some (.instanceMethod Lib.objectInit) ∧ lw_tbl[sysPl 9]? = some (.code Lib.objectInit ⟨#[0xb1]⟩ 1 none)) ∧ lw_tbl[sysPl 10]? = some (.arrayClass .int) ∧ lw_tbl[sysPl 11]? = some (.arrayClass .char) ∧ lw_tbl[sysPl 12]? = some (.arrayOver (.object (RN ARC))) := by decide +kernel
def metW (q : Nat × Nat × Nat × Nat × Nat) : Bool := match tM[q.1]? with
  | some e => decide (lw_tbl[q.2.2.1]? = some (.initialized (eY e).cls)) && (if eS e then decide (lw_tbl[q.2.2.2.1]? = some (.static (eY e))) else decide (lw_tbl[q.2.2.2.1]? = some (.instanceMethod (eY e))) && (decide ((eY e).name = "<init>") || decide (lw_tbl[q.2.2.2.2]? = some (.selects (eY e).cls (eY e) (eY e)))))
  | none => false
theorem met_ok : metT.all metW = true := by decide +kernel
def codW (q : Nat) : Jvm.Cond := match tM[q]? with
  | some e => .code (eY e) (eB e) (eL e) (eR e)
  | none => .tt
set_option maxRecDepth 100000 in
theorem met_code : metT.map (fun q => lw_tbl[q.2.1]?) = metT.map (fun q => some (codW q.1)) := by rfl
theorem met_all : (List.range tM.length).all (fun q => decide (q = lawId) || metT.any (fun e => e.1 == q)) = true := by decide +kernel
def entW (e : Ent) : Bool := plainName (eY e).cls && decide ((eY e).cls ≠ "java/lang/invoke/MethodHandle") && decide ((eY e).cls ≠ "java/lang/invoke/VarHandle") && decide ((parseMethodDescriptor (eY e).desc).map (fun d => d.parameters.length) = some (eN e)) && decide ((eY e).cls = RN (eC e))
theorem ent_ok : tM.all entW = true := by decide +kernel
def layPl (c k : Nat) : Nat := (((layT[c]?).getD [])[k]?).getD 0
theorem lay_ok : (List.range NCl).all (fun c => (List.range (NX c)).all (fun k => decide (lw_tbl[layPl c k]? = some (u_lay (RN c) (TX c) k)) && goodWord (u_lay (RN c) (TX c) k))) = true := by decide +kernel
theorem ins_ok : (List.range NCl).all (fun c => decide (lw_tbl[(insT[c]?).getD 0]? = some (.instantiable (RN c) (NX c))) && decide (lw_tbl[(iniT[c]?).getD 0]? = some (.initialized (RN c)))) = true := by decide +kernel
theorem typ_ok : (List.range NCl).all (fun c => (List.range (NX c)).all (fun k => decide (parseFieldDescriptor (TX c k).2.2.1 = some (tX c k)) && (List.range (NX c)).all (fun k2 => decide (k = k2) || decide ((TX c k).2.1 ≠ (TX c k2).2.1)))) = true := by decide +kernel
