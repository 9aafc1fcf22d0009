/-! WHAT THE MACHINE'S ROWS MUST BE: each block's rows are what the bytes say -/
def ln : Instr → Nat
  | .bipush _ | .iload _ | .istore _ | .newarray _ => 2
  | .sipush _ | .iinc _ _ | .ifCond _ _ | .if_icmp _ _ | .ifnonnull _ | .goto _ | .getfield _ | .putfield _ | .getstatic _ | .new _ | .anewarray _ | .invokevirtual _ | .invokespecial _ | .invokestatic _ => 3
  | _ => 1
def isSw : Instr → Bool
  | .tableswitch _ _ _ _ | .lookupswitch _ _ => true
  | _ => false
def tyk (t : Nat) (ty : FieldType) : Bool := match ty with
  | .int => decide (t = 0)
  | .boolean => decide (t = 1)
  | .object _ => decide (t = 2)
  | .array _ => decide (t = 2)
  | _ => false
def okC (ent : Ent) (ix q na mc ms mcL msL t : Nat) (e : Ent) : Bool :=
  decide (na = eN e) && decide (mc = eMc e) && decide (ms = eMs e) && decide (mcL = eMc ent) && decide (msL = eMs ent) && decide (eF e + 1 ≤ eF ent) && decide (8 + (eL e + 11) + eLo e ≤ eLo ent) &&
  (if t = 0 then mthT.any (fun w => w.1 == eC ent && w.2.1 == ix && w.2.2.1 == q) else nstT.any (fun w => w.1 == eC ent && w.2.1 == ix && w.2.2.1 == q)) && decide (q ≠ lawId)
def chkO (ent : Ent) (pc : Nat) (i : Instr) (xs : List Nat) (nx : Nat) : Bool := match i with
  | .iconst n => match xs with
    | [j] => decide (nI j = Int32.ofInt n)
    | _ => true
  | .bipush n => match xs with
    | [j] => decide ((Int8.ofInt n).toInt32 = nI j)
    | _ => decide ((Int8.ofInt n).toInt32 = Int32.ofInt n)
  | .sipush n => match xs with
    | [j] => decide ((Int16.ofInt n).toInt32 = nI j)
    | _ => decide ((Int16.ofInt n).toInt32 = Int32.ofInt n)
  | .iload j => decide (xs = [j])
  | .iload_n j => decide (xs = [j.val])
  | .aload_n j => decide (xs = [j.val])
  | .istore j => decide (xs = [j])
  | .istore_n j => decide (xs = [j.val])
  | .astore_n j => decide (xs = [j.val])
  | .iinc j n => match xs with
    | [j'] => decide (j' = j)
    | [j', k] => decide (j' = j) && decide (nI k = Int32.ofInt n)
    | _ => false
  | .ifCond _ o => match xs with
    | [t] => decide ((pc : Int) + o = (t : Int))
    | _ => false
  | .if_icmp _ o => match xs with
    | [t] => decide ((pc : Int) + o = (t : Int))
    | _ => false
  | .ifnonnull o => match xs with
    | [t] => decide ((pc : Int) + o = (t : Int))
    | _ => false
  | .goto o => match xs with
    | [t] => decide ((pc : Int) + o = (t : Int))
    | _ => false
  | .tableswitch d lo hi os => match xs with
    | t :: ts => decide (decode (eB ent) pc = .ok (.tableswitch d lo hi os, nx - pc)) && decide ((pc : Int) + d = (t : Int)) && decide (os.toList.map (fun o : Int => (pc : Int) + o) = ts.map (fun t : Nat => Int.ofNat t)) && decide (hi = lo + ts.length - 1) && decide (-1000 ≤ lo) && decide (hi ≤ 1000)
    | _ => false
  | .lookupswitch d ps => match xs with
    | t :: ts => decide (decode (eB ent) pc = .ok (.lookupswitch d ps, nx - pc)) && decide ((pc : Int) + d = (t : Int)) && decide (ps.toList.map (fun q : Int × Int => (pc : Int) + q.2) = ts.map (fun t : Nat => Int.ofNat t)) && ps.toList.all (fun q => decide ((Int32.ofInt q.1).toInt = q.1)) && (ps.toList.zip (ps.toList.drop 1)).all (fun (a, next) => a.1 < next.1)
    | _ => false
  | .getfield ix => match xs with
    | [ci, f, _] => fldT.any (fun e => e.1 == eC ent && e.2.1 == ix && e.2.2.1 == ci && e.2.2.2.1 == f)
    | _ => false
  | .putfield ix => match xs with
    | [ci, f, t] => fldT.any (fun e => e.1 == eC ent && e.2.1 == ix && e.2.2.1 == ci && e.2.2.2.1 == f) && tyk t (tX ci f) && (!(TX ci f).2.2.2 || (decide ((eY ent).name = "<init>") && decide ((TX ci f).1 = RN (eC ent))))
    | _ => false
  | .getstatic ix => match xs with
    | [k] => staT.any (fun e => e.1 == eC ent && e.2.1 == ix && e.2.2.1 == k)
    | _ => false
  | .newarray ty => match xs with
    | [t, mcL, msL] => decide (mcL = eMc ent) && decide (msL = eMs ent) && ((decide (t = 0) && decide (ty = .int)) || (decide (t = 1) && decide (ty = .char)))
    | _ => false
  | .anewarray ix => match xs with
    | [mcL, msL] => decide (mcL = eMc ent) && decide (msL = eMs ent) && clsT.any (fun e => e.1 == eC ent && e.2.1 == ix && e.2.2.1 == ARC)
    | _ => false
  | .new ix => match xs with
    | [ci, N, mcL, msL] => decide (mcL = eMc ent) && decide (msL = eMs ent) && decide (N = NX ci) && decide (ci < NCl) && clsT.any (fun e => e.1 == eC ent && e.2.1 == ix && e.2.2.1 == ci)
    | _ => false
  | .invokevirtual ix => match xs with
    | [q, na, _, _, cn, mc, ms, mcL, msL, t] => match tM[q]? with
      | some e => okC ent ix q na mc ms mcL msL t e && decide (t = 0) && decide (cn = eC e) && decide (cn < NCl) && !eS e && decide ((eY e).name ≠ "<init>")
      | none => false
    | _ => false
  | .invokespecial ix => match xs with
    | [q, na, _, _, _, mc, ms, mcL, msL, t] => match tM[q]? with
      | some e => okC ent ix q na mc ms mcL msL t e && decide ((eY e).name = "<init>") && !eS e && decide (eR e = none)
      | none => false
    | [] => objT.any (fun e => e.1 == eC ent && e.2.1 == ix) && decide (1 ≤ eF ent) && decide (20 ≤ eLo ent)
    | _ => false
  | .invokestatic ix => match xs with
    | [q, na, _, _, _, mc, ms, mcL, msL, t] => match tM[q]? with
      | some e => okC ent ix q na mc ms mcL msL t e && eS e
      | none => false
    | [w] => sysT.any (fun e => e.1 == eC ent && e.2.1 == ix && e.2.2.1 == w) && decide (1 ≤ eF ent) && decide (8 + (nativeFrameWords "java/lang/System" "arraycopy" 5 + 11) ≤ eLo ent || (decide (w < 2) && decide (21 ≤ eLo ent)))
    | _ => false
  | .ireturn => (decide (xs = [0]) && decide (eR ent = some .int)) || (decide (xs = [1]) && decide (eR ent = some .boolean))
  | .return_ => decide (eR ent = none)
  | _ => true
def chk1 (ent : Ent) (pc : Nat) (i : Instr) (xs : List Nat) (nx : Nat) : Bool := (isSw i || (decide (decode (eB ent) pc = .ok (i, ln i)) && decide (nx = pc + ln i))) && chkO ent pc i xs nx
def hd (ops : List Op) (e : Nat) : Nat := match ops with
  | [] => e
  | (pc, _, _) :: _ => pc
def chkL (ent : Ent) : List Op → Nat → Bool
  | [], _ => true
  | (pc, i, xs) :: r, e => chk1 ent pc i xs (hd r e) && chkL ent r e
def chkE (ent : Ent) : Bool := (eBl ent).all (fun b => decide (hd b.2.1 b.2.2 = b.1) && chkL ent b.2.1 b.2.2)

theorem ce0 : chkE e0 = true := by decide +kernel
theorem ce1 : chkE e1 = true := by decide +kernel
theorem ce2 : chkE e2 = true := by decide +kernel
theorem ce3 : chkE e3 = true := by decide +kernel
theorem ce4 : chkE e4 = true := by decide +kernel
theorem ce5 : chkE e5 = true := by decide +kernel
theorem ce6 : chkE e6 = true := by decide +kernel
theorem ce7 : chkE e7 = true := by decide +kernel
theorem ce8 : chkE e8 = true := by decide +kernel
theorem ce9 : chkE e9 = true := by decide +kernel
theorem ce10 : chkE e10 = true := by decide +kernel
theorem ce11 : chkE e11 = true := by decide +kernel
theorem ce12 : chkE e12 = true := by decide +kernel
theorem ce13 : chkE e13 = true := by decide +kernel
theorem ce14 : chkE e14 = true := by decide +kernel
theorem ce15 : chkE e15 = true := by decide +kernel
theorem ce16 : chkE e16 = true := by decide +kernel
theorem ce17 : chkE e17 = true := by decide +kernel
theorem ce18 : chkE e18 = true := by decide +kernel
theorem ce19 : chkE e19 = true := by decide +kernel
theorem ce20 : chkE e20 = true := by decide +kernel
theorem ce21 : chkE e21 = true := by decide +kernel
theorem ce22 : chkE e22 = true := by decide +kernel
theorem ce23 : chkE e23 = true := by decide +kernel
theorem ce24 : chkE e24 = true := by decide +kernel
theorem ce25 : chkE e25 = true := by decide +kernel
theorem ce26 : chkE e26 = true := by decide +kernel
theorem ce27 : chkE e27 = true := by decide +kernel
theorem ce28 : chkE e28 = true := by decide +kernel
theorem ce29 : chkE e29 = true := by decide +kernel
theorem ce30 : chkE e30 = true := by decide +kernel
theorem ce31 : chkE e31 = true := by decide +kernel
theorem ce32 : chkE e32 = true := by decide +kernel
theorem ce33 : chkE e33 = true := by decide +kernel
theorem ce34 : chkE e34 = true := by decide +kernel
theorem ce35 : chkE e35 = true := by decide +kernel
theorem ce36 : chkE e36 = true := by decide +kernel
theorem ce37 : chkE e37 = true := by decide +kernel
theorem ce38 : chkE e38 = true := by decide +kernel
theorem ce39 : chkE e39 = true := by decide +kernel
theorem ce40 : chkE e40 = true := by decide +kernel
theorem ce41 : chkE e41 = true := by decide +kernel
theorem ce42 : chkE e42 = true := by decide +kernel
theorem ce43 : chkE e43 = true := by decide +kernel
theorem ce44 : chkE e44 = true := by decide +kernel
theorem ce45 : chkE e45 = true := by decide +kernel
theorem ce46 : chkE e46 = true := by decide +kernel
theorem ce47 : chkE e47 = true := by decide +kernel
theorem ce48 : chkE e48 = true := by decide +kernel
theorem ce49 : chkE e49 = true := by decide +kernel
theorem ce50 : chkE e50 = true := by decide +kernel
theorem ce51 : chkE e51 = true := by decide +kernel
theorem ce52 : chkE e52 = true := by decide +kernel
theorem ce53 : chkE e53 = true := by decide +kernel
theorem ce54 : chkE e54 = true := by decide +kernel
theorem ce55 : chkE e55 = true := by decide +kernel
theorem ce56 : chkE e56 = true := by decide +kernel
theorem ce57 : chkE e57 = true := by decide +kernel
theorem ce58 : chkE e58 = true := by decide +kernel
theorem ce59 : chkE e59 = true := by decide +kernel
theorem ce60 : chkE e60 = true := by decide +kernel
theorem ce61 : chkE e61 = true := by decide +kernel
theorem ce62 : chkE e62 = true := by decide +kernel
theorem ce63 : chkE e63 = true := by decide +kernel
theorem ce64 : chkE e64 = true := by decide +kernel
theorem ce65 : chkE e65 = true := by decide +kernel
theorem ce66 : chkE e66 = true := by decide +kernel
theorem ce67 : chkE e67 = true := by decide +kernel
theorem ce68 : chkE e68 = true := by decide +kernel
theorem ce69 : chkE e69 = true := by decide +kernel
theorem ce70 : chkE e70 = true := by decide +kernel
theorem ce71 : chkE e71 = true := by decide +kernel
theorem ce72 : chkE e72 = true := by decide +kernel
theorem ce73 : chkE e73 = true := by decide +kernel
theorem ce74 : chkE e74 = true := by decide +kernel
theorem ce75 : chkE e75 = true := by decide +kernel
theorem ce76 : chkE e76 = true := by decide +kernel
theorem ce77 : chkE e77 = true := by decide +kernel
theorem ce78 : chkE e78 = true := by decide +kernel
theorem ce79 : chkE e79 = true := by decide +kernel
theorem ce80 : chkE e80 = true := by decide +kernel
theorem ce81 : chkE e81 = true := by decide +kernel
theorem ce82 : chkE e82 = true := by decide +kernel
theorem ce83 : chkE e83 = true := by decide +kernel
theorem ce84 : chkE e84 = true := by decide +kernel
theorem ce85 : chkE e85 = true := by decide +kernel
theorem ce86 : chkE e86 = true := by decide +kernel
theorem ce87 : chkE e87 = true := by decide +kernel
theorem ce88 : chkE e88 = true := by decide +kernel
theorem ce89 : chkE e89 = true := by decide +kernel
theorem ce90 : chkE e90 = true := by decide +kernel
theorem ce91 : chkE e91 = true := by decide +kernel
theorem ce92 : chkE e92 = true := by decide +kernel
theorem ce93 : chkE e93 = true := by decide +kernel
theorem ce94 : chkE e94 = true := by decide +kernel
theorem ce95 : chkE e95 = true := by decide +kernel
theorem ce96 : chkE e96 = true := by decide +kernel
theorem ce97 : chkE e97 = true := by decide +kernel
theorem ce98 : chkE e98 = true := by decide +kernel
theorem ce99 : chkE e99 = true := by decide +kernel
theorem ce100 : chkE e100 = true := by decide +kernel
theorem ce101 : chkE e101 = true := by decide +kernel
theorem ce102 : chkE e102 = true := by decide +kernel
theorem ce103 : chkE e103 = true := by decide +kernel
theorem ce104 : chkE e104 = true := by decide +kernel
theorem ce105 : chkE e105 = true := by decide +kernel
theorem ce106 : chkE e106 = true := by decide +kernel
theorem ce107 : chkE e107 = true := by decide +kernel
theorem ce108 : chkE e108 = true := by decide +kernel
theorem ce109 : chkE e109 = true := by decide +kernel
theorem ce110 : chkE e110 = true := by decide +kernel
theorem ce111 : chkE e111 = true := by decide +kernel
theorem ce112 : chkE e112 = true := by decide +kernel
theorem ce113 : chkE e113 = true := by decide +kernel
theorem ce114 : chkE e114 = true := by decide +kernel
theorem ce115 : chkE e115 = true := by decide +kernel
theorem ce116 : chkE e116 = true := by decide +kernel
theorem ce117 : chkE e117 = true := by decide +kernel
theorem ce118 : chkE e118 = true := by decide +kernel
theorem ce119 : chkE e119 = true := by decide +kernel
theorem ce120 : chkE e120 = true := by decide +kernel
theorem ce121 : chkE e121 = true := by decide +kernel
theorem ce122 : chkE e122 = true := by decide +kernel
theorem ce123 : chkE e123 = true := by decide +kernel
theorem ce124 : chkE e124 = true := by decide +kernel
theorem ce125 : chkE e125 = true := by decide +kernel
theorem ce126 : chkE e126 = true := by decide +kernel
theorem ce127 : chkE e127 = true := by decide +kernel
theorem ce128 : chkE e128 = true := by decide +kernel
theorem ce129 : chkE e129 = true := by decide +kernel
theorem ce130 : chkE e130 = true := by decide +kernel
theorem ce131 : chkE e131 = true := by decide +kernel
theorem ce132 : chkE e132 = true := by decide +kernel
theorem ce133 : chkE e133 = true := by decide +kernel
theorem ce134 : chkE e134 = true := by decide +kernel
theorem ce135 : chkE e135 = true := by decide +kernel
theorem ce136 : chkE e136 = true := by decide +kernel
theorem ce137 : chkE e137 = true := by decide +kernel
theorem ce138 : chkE e138 = true := by decide +kernel
theorem ce139 : chkE e139 = true := by decide +kernel
theorem ce140 : chkE e140 = true := by decide +kernel
theorem ce141 : chkE e141 = true := by decide +kernel
theorem ce142 : chkE e142 = true := by decide +kernel
theorem ce143 : chkE e143 = true := by decide +kernel
theorem ce144 : chkE e144 = true := by decide +kernel
theorem ce145 : chkE e145 = true := by decide +kernel
theorem ce146 : chkE e146 = true := by decide +kernel
theorem ce147 : chkE e147 = true := by decide +kernel
theorem ce148 : chkE e148 = true := by decide +kernel
theorem ce149 : chkE e149 = true := by decide +kernel
theorem ce150 : chkE e150 = true := by decide +kernel
theorem ce151 : chkE e151 = true := by decide +kernel
theorem ce152 : chkE e152 = true := by decide +kernel
theorem ce153 : chkE e153 = true := by decide +kernel
theorem ce154 : chkE e154 = true := by decide +kernel
theorem ce155 : chkE e155 = true := by decide +kernel
theorem ce156 : chkE e156 = true := by decide +kernel
theorem ce157 : chkE e157 = true := by decide +kernel
theorem ce158 : chkE e158 = true := by decide +kernel
theorem ce159 : chkE e159 = true := by decide +kernel
theorem ce160 : chkE e160 = true := by decide +kernel
theorem ce161 : chkE e161 = true := by decide +kernel
theorem ce162 : chkE e162 = true := by decide +kernel
theorem ce163 : chkE e163 = true := by decide +kernel
theorem ce164 : chkE e164 = true := by decide +kernel
theorem ce165 : chkE e165 = true := by decide +kernel
theorem ce166 : chkE e166 = true := by decide +kernel
theorem ce167 : chkE e167 = true := by decide +kernel
theorem ce168 : chkE e168 = true := by decide +kernel
theorem ce169 : chkE e169 = true := by decide +kernel
theorem ce170 : chkE e170 = true := by decide +kernel
theorem ce171 : chkE e171 = true := by decide +kernel
theorem ce172 : chkE e172 = true := by decide +kernel
theorem ce173 : chkE e173 = true := by decide +kernel
theorem ce174 : chkE e174 = true := by decide +kernel
theorem ce175 : chkE e175 = true := by decide +kernel
theorem ce176 : chkE e176 = true := by decide +kernel
theorem ce177 : chkE e177 = true := by decide +kernel
theorem ce178 : chkE e178 = true := by decide +kernel
theorem ce179 : chkE e179 = true := by decide +kernel
theorem ce180 : chkE e180 = true := by decide +kernel
theorem ce181 : chkE e181 = true := by decide +kernel
theorem ce182 : chkE e182 = true := by decide +kernel
theorem ce183 : chkE e183 = true := by decide +kernel
theorem ce184 : chkE e184 = true := by decide +kernel
theorem ce185 : chkE e185 = true := by decide +kernel
theorem ce186 : chkE e186 = true := by decide +kernel
theorem ce187 : chkE e187 = true := by decide +kernel
theorem ce188 : chkE e188 = true := by decide +kernel
theorem ce189 : chkE e189 = true := by decide +kernel
theorem ce190 : chkE e190 = true := by decide +kernel
theorem ce191 : chkE e191 = true := by decide +kernel
theorem ce192 : chkE e192 = true := by decide +kernel
theorem ce193 : chkE e193 = true := by decide +kernel
theorem ce194 : chkE e194 = true := by decide +kernel
theorem ce195 : chkE e195 = true := by decide +kernel
theorem ce196 : chkE e196 = true := by decide +kernel
theorem ce197 : chkE e197 = true := by decide +kernel
theorem ce198 : chkE e198 = true := by decide +kernel
theorem ce199 : chkE e199 = true := by decide +kernel
theorem ce200 : chkE e200 = true := by decide +kernel
theorem ce201 : chkE e201 = true := by decide +kernel
theorem ce202 : chkE e202 = true := by decide +kernel
theorem ce203 : chkE e203 = true := by decide +kernel
set_option maxRecDepth 100000 in
theorem chk_all : ∀ e ∈ tM, chkE e = true := List.forall_mem_cons.mpr ⟨ce0, List.forall_mem_cons.mpr ⟨ce1, List.forall_mem_cons.mpr ⟨ce2, List.forall_mem_cons.mpr ⟨ce3, List.forall_mem_cons.mpr ⟨ce4, List.forall_mem_cons.mpr ⟨ce5, List.forall_mem_cons.mpr ⟨ce6, List.forall_mem_cons.mpr ⟨ce7, List.forall_mem_cons.mpr ⟨ce8, List.forall_mem_cons.mpr ⟨ce9, List.forall_mem_cons.mpr ⟨ce10, List.forall_mem_cons.mpr ⟨ce11, List.forall_mem_cons.mpr ⟨ce12, List.forall_mem_cons.mpr ⟨ce13, List.forall_mem_cons.mpr ⟨ce14, List.forall_mem_cons.mpr ⟨ce15, List.forall_mem_cons.mpr ⟨ce16, List.forall_mem_cons.mpr ⟨ce17, List.forall_mem_cons.mpr ⟨ce18, List.forall_mem_cons.mpr ⟨ce19, List.forall_mem_cons.mpr ⟨ce20, List.forall_mem_cons.mpr ⟨ce21, List.forall_mem_cons.mpr ⟨ce22, List.forall_mem_cons.mpr ⟨ce23, List.forall_mem_cons.mpr ⟨ce24, List.forall_mem_cons.mpr ⟨ce25, List.forall_mem_cons.mpr ⟨ce26, List.forall_mem_cons.mpr ⟨ce27, List.forall_mem_cons.mpr ⟨ce28, List.forall_mem_cons.mpr ⟨ce29, List.forall_mem_cons.mpr ⟨ce30, List.forall_mem_cons.mpr ⟨ce31, List.forall_mem_cons.mpr ⟨ce32, List.forall_mem_cons.mpr ⟨ce33, List.forall_mem_cons.mpr ⟨ce34, List.forall_mem_cons.mpr ⟨ce35, List.forall_mem_cons.mpr ⟨ce36, List.forall_mem_cons.mpr ⟨ce37, List.forall_mem_cons.mpr ⟨ce38, List.forall_mem_cons.mpr ⟨ce39, List.forall_mem_cons.mpr ⟨ce40, List.forall_mem_cons.mpr ⟨ce41, List.forall_mem_cons.mpr ⟨ce42, List.forall_mem_cons.mpr ⟨ce43, List.forall_mem_cons.mpr ⟨ce44, List.forall_mem_cons.mpr ⟨ce45, List.forall_mem_cons.mpr ⟨ce46, List.forall_mem_cons.mpr ⟨ce47, List.forall_mem_cons.mpr ⟨ce48, List.forall_mem_cons.mpr ⟨ce49, List.forall_mem_cons.mpr ⟨ce50, List.forall_mem_cons.mpr ⟨ce51, List.forall_mem_cons.mpr ⟨ce52, List.forall_mem_cons.mpr ⟨ce53, List.forall_mem_cons.mpr ⟨ce54, List.forall_mem_cons.mpr ⟨ce55, List.forall_mem_cons.mpr ⟨ce56, List.forall_mem_cons.mpr ⟨ce57, List.forall_mem_cons.mpr ⟨ce58, List.forall_mem_cons.mpr ⟨ce59, List.forall_mem_cons.mpr ⟨ce60, List.forall_mem_cons.mpr ⟨ce61, List.forall_mem_cons.mpr ⟨ce62, List.forall_mem_cons.mpr ⟨ce63, List.forall_mem_cons.mpr ⟨ce64, List.forall_mem_cons.mpr ⟨ce65, List.forall_mem_cons.mpr ⟨ce66, List.forall_mem_cons.mpr ⟨ce67, List.forall_mem_cons.mpr ⟨ce68, List.forall_mem_cons.mpr ⟨ce69, List.forall_mem_cons.mpr ⟨ce70, List.forall_mem_cons.mpr ⟨ce71, List.forall_mem_cons.mpr ⟨ce72, List.forall_mem_cons.mpr ⟨ce73, List.forall_mem_cons.mpr ⟨ce74, List.forall_mem_cons.mpr ⟨ce75, List.forall_mem_cons.mpr ⟨ce76, List.forall_mem_cons.mpr ⟨ce77, List.forall_mem_cons.mpr ⟨ce78, List.forall_mem_cons.mpr ⟨ce79, List.forall_mem_cons.mpr ⟨ce80, List.forall_mem_cons.mpr ⟨ce81, List.forall_mem_cons.mpr ⟨ce82, List.forall_mem_cons.mpr ⟨ce83, List.forall_mem_cons.mpr ⟨ce84, List.forall_mem_cons.mpr ⟨ce85, List.forall_mem_cons.mpr ⟨ce86, List.forall_mem_cons.mpr ⟨ce87, List.forall_mem_cons.mpr ⟨ce88, List.forall_mem_cons.mpr ⟨ce89, List.forall_mem_cons.mpr ⟨ce90, List.forall_mem_cons.mpr ⟨ce91, List.forall_mem_cons.mpr ⟨ce92, List.forall_mem_cons.mpr ⟨ce93, List.forall_mem_cons.mpr ⟨ce94, List.forall_mem_cons.mpr ⟨ce95, List.forall_mem_cons.mpr ⟨ce96, List.forall_mem_cons.mpr ⟨ce97, List.forall_mem_cons.mpr ⟨ce98, List.forall_mem_cons.mpr ⟨ce99, List.forall_mem_cons.mpr ⟨ce100, List.forall_mem_cons.mpr ⟨ce101, List.forall_mem_cons.mpr ⟨ce102, List.forall_mem_cons.mpr ⟨ce103, List.forall_mem_cons.mpr ⟨ce104, List.forall_mem_cons.mpr ⟨ce105, List.forall_mem_cons.mpr ⟨ce106, List.forall_mem_cons.mpr ⟨ce107, List.forall_mem_cons.mpr ⟨ce108, List.forall_mem_cons.mpr ⟨ce109, List.forall_mem_cons.mpr ⟨ce110, List.forall_mem_cons.mpr ⟨ce111, List.forall_mem_cons.mpr ⟨ce112, List.forall_mem_cons.mpr ⟨ce113, List.forall_mem_cons.mpr ⟨ce114, List.forall_mem_cons.mpr ⟨ce115, List.forall_mem_cons.mpr ⟨ce116, List.forall_mem_cons.mpr ⟨ce117, List.forall_mem_cons.mpr ⟨ce118, List.forall_mem_cons.mpr ⟨ce119, List.forall_mem_cons.mpr ⟨ce120, List.forall_mem_cons.mpr ⟨ce121, List.forall_mem_cons.mpr ⟨ce122, List.forall_mem_cons.mpr ⟨ce123, List.forall_mem_cons.mpr ⟨ce124, List.forall_mem_cons.mpr ⟨ce125, List.forall_mem_cons.mpr ⟨ce126, List.forall_mem_cons.mpr ⟨ce127, List.forall_mem_cons.mpr ⟨ce128, List.forall_mem_cons.mpr ⟨ce129, List.forall_mem_cons.mpr ⟨ce130, List.forall_mem_cons.mpr ⟨ce131, List.forall_mem_cons.mpr ⟨ce132, List.forall_mem_cons.mpr ⟨ce133, List.forall_mem_cons.mpr ⟨ce134, List.forall_mem_cons.mpr ⟨ce135, List.forall_mem_cons.mpr ⟨ce136, List.forall_mem_cons.mpr ⟨ce137, List.forall_mem_cons.mpr ⟨ce138, List.forall_mem_cons.mpr ⟨ce139, List.forall_mem_cons.mpr ⟨ce140, List.forall_mem_cons.mpr ⟨ce141, List.forall_mem_cons.mpr ⟨ce142, List.forall_mem_cons.mpr ⟨ce143, List.forall_mem_cons.mpr ⟨ce144, List.forall_mem_cons.mpr ⟨ce145, List.forall_mem_cons.mpr ⟨ce146, List.forall_mem_cons.mpr ⟨ce147, List.forall_mem_cons.mpr ⟨ce148, List.forall_mem_cons.mpr ⟨ce149, List.forall_mem_cons.mpr ⟨ce150, List.forall_mem_cons.mpr ⟨ce151, List.forall_mem_cons.mpr ⟨ce152, List.forall_mem_cons.mpr ⟨ce153, List.forall_mem_cons.mpr ⟨ce154, List.forall_mem_cons.mpr ⟨ce155, List.forall_mem_cons.mpr ⟨ce156, List.forall_mem_cons.mpr ⟨ce157, List.forall_mem_cons.mpr ⟨ce158, List.forall_mem_cons.mpr ⟨ce159, List.forall_mem_cons.mpr ⟨ce160, List.forall_mem_cons.mpr ⟨ce161, List.forall_mem_cons.mpr ⟨ce162, List.forall_mem_cons.mpr ⟨ce163, List.forall_mem_cons.mpr ⟨ce164, List.forall_mem_cons.mpr ⟨ce165, List.forall_mem_cons.mpr ⟨ce166, List.forall_mem_cons.mpr ⟨ce167, List.forall_mem_cons.mpr ⟨ce168, List.forall_mem_cons.mpr ⟨ce169, List.forall_mem_cons.mpr ⟨ce170, List.forall_mem_cons.mpr ⟨ce171, List.forall_mem_cons.mpr ⟨ce172, List.forall_mem_cons.mpr ⟨ce173, List.forall_mem_cons.mpr ⟨ce174, List.forall_mem_cons.mpr ⟨ce175, List.forall_mem_cons.mpr ⟨ce176, List.forall_mem_cons.mpr ⟨ce177, List.forall_mem_cons.mpr ⟨ce178, List.forall_mem_cons.mpr ⟨ce179, List.forall_mem_cons.mpr ⟨ce180, List.forall_mem_cons.mpr ⟨ce181, List.forall_mem_cons.mpr ⟨ce182, List.forall_mem_cons.mpr ⟨ce183, List.forall_mem_cons.mpr ⟨ce184, List.forall_mem_cons.mpr ⟨ce185, List.forall_mem_cons.mpr ⟨ce186, List.forall_mem_cons.mpr ⟨ce187, List.forall_mem_cons.mpr ⟨ce188, List.forall_mem_cons.mpr ⟨ce189, List.forall_mem_cons.mpr ⟨ce190, List.forall_mem_cons.mpr ⟨ce191, List.forall_mem_cons.mpr ⟨ce192, List.forall_mem_cons.mpr ⟨ce193, List.forall_mem_cons.mpr ⟨ce194, List.forall_mem_cons.mpr ⟨ce195, List.forall_mem_cons.mpr ⟨ce196, List.forall_mem_cons.mpr ⟨ce197, List.forall_mem_cons.mpr ⟨ce198, List.forall_mem_cons.mpr ⟨ce199, List.forall_mem_cons.mpr ⟨ce200, List.forall_mem_cons.mpr ⟨ce201, List.forall_mem_cons.mpr ⟨ce202, List.forall_mem_cons.mpr ⟨ce203, fun _ h => absurd h List.not_mem_nil⟩⟩⟩⟩⟩⟩⟩⟩⟩⟩⟩⟩⟩⟩⟩⟩⟩⟩⟩⟩⟩⟩⟩⟩⟩⟩⟩⟩⟩⟩⟩⟩⟩⟩⟩⟩⟩⟩⟩⟩⟩⟩⟩⟩⟩⟩⟩⟩⟩⟩⟩⟩⟩⟩⟩⟩⟩⟩⟩⟩⟩⟩⟩⟩⟩⟩⟩⟩⟩⟩⟩⟩⟩⟩⟩⟩⟩⟩⟩⟩⟩⟩⟩⟩⟩⟩⟩⟩⟩⟩⟩⟩⟩⟩⟩⟩⟩⟩⟩⟩⟩⟩⟩⟩⟩⟩⟩⟩⟩⟩⟩⟩⟩⟩⟩⟩⟩⟩⟩⟩⟩⟩⟩⟩⟩⟩⟩⟩⟩⟩⟩⟩⟩⟩⟩⟩⟩⟩⟩⟩⟩⟩⟩⟩⟩⟩⟩⟩⟩⟩⟩⟩⟩⟩⟩⟩⟩⟩⟩⟩⟩⟩⟩⟩⟩⟩⟩⟩⟩⟩⟩⟩⟩⟩⟩⟩⟩⟩⟩⟩⟩⟩⟩⟩⟩⟩⟩⟩⟩⟩⟩⟩⟩⟩⟩⟩⟩⟩⟩⟩⟩⟩⟩⟩
