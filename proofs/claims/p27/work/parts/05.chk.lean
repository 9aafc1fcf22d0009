
/-! WHAT THE MACHINE'S ROWS MUST BE: each block's rows are what the bytes say -/
def ln : Instr → Nat
  | .bipush _ | .iload _ | .istore _ | .newarray _ | .aload _ | .astore _ | .lload _ | .lstore _ | .ldc _ => 2
  | .ldc2_w _ | .sipush _ | .iinc _ _ | .ifCond _ _ | .if_icmp _ _ | .ifnonnull _ | .goto _ | .getfield _ | .putfield _ | .getstatic _ | .new _ | .anewarray _ | .invokevirtual _ | .invokespecial _ | .invokestatic _ => 3
  | _ => 1
def isSw : Instr → Bool
  | .tableswitch _ _ _ _ | .lookupswitch _ _ => true
  | _ => false
def tyk (t : Nat) (ty : FieldType) : Bool := match ty with
  | .int => decide (t = 0)
  | .boolean => decide (t = 1)
  | .object _ => decide (t = 2)
  | .array _ => decide (t = 2)
  | _ => false
def okC (ent : Ent) (ix q na mc ms mcL msL t : Nat) (e : Ent) : Bool :=
  decide (na = eN e) && decide (mc = eMc e) && decide (ms = eMs e) && decide (mcL = eMc ent) && decide (msL = eMs ent) && decide (eF e + 1 ≤ eF ent) && decide (8 + (eL e + 11) + eLo e ≤ eLo ent) &&
  (if t = 0 then mthT.any (fun w => w.1 == eC ent && w.2.1 == ix && w.2.2.1 == q) else nstT.any (fun w => w.1 == eC ent && w.2.1 == ix && w.2.2.1 == q)) && decide (q ≠ lawId)
def chkO (ent : Ent) (pc : Nat) (i : Instr) (xs : List Nat) (nx : Nat) : Bool := match i with
  | .iconst n => match xs with
    | [j] => decide (nI j = Int32.ofInt n)
    | _ => true
  | .bipush n => match xs with
    | [j] => decide ((Int8.ofInt n).toInt32 = nI j)
    | _ => decide ((Int8.ofInt n).toInt32 = Int32.ofInt n)
  | .sipush n => match xs with
    | [j] => decide ((Int16.ofInt n).toInt32 = nI j)
    | _ => decide ((Int16.ofInt n).toInt32 = Int32.ofInt n)
  | .iload j => decide (xs = [j])
  | .iload_n j => decide (xs = [j.val])
  | .aload_n j => decide (xs = [j.val])
  | .aload j => decide (xs = [j])
  | .astore j => decide (xs = [j])
  | .lload j => decide (xs = [j])
  | .lload_n j => decide (xs = [j.val])
  | .lstore j => decide (xs = [j])
  | .lstore_n j => decide (xs = [j.val])
  | .lreturn => decide (eR ent = some .long)
  | .ldc ix => match xs with
    | [k] => conT.any (fun e => e.1 == eC ent && e.2.1 == ix && e.2.2.1 == k)
    | _ => false
  | .ldc2_w ix => match xs with
    | [k] => colT.any (fun e => e.1 == eC ent && e.2.1 == ix && e.2.2.1 == k)
    | _ => false
  | .istore j => decide (xs = [j])
  | .istore_n j => decide (xs = [j.val])
  | .astore_n j => decide (xs = [j.val])
  | .iinc j n => match xs with
    | [j'] => decide (j' = j)
    | [j', k] => decide (j' = j) && decide (nI k = Int32.ofInt n)
    | _ => false
  | .ifCond _ o => match xs with
    | [t] => decide ((pc : Int) + o = (t : Int))
    | _ => false
  | .if_icmp _ o => match xs with
    | [t] => decide ((pc : Int) + o = (t : Int))
    | _ => false
  | .ifnonnull o => match xs with
    | [t] => decide ((pc : Int) + o = (t : Int))
    | _ => false
  | .goto o => match xs with
    | [t] => decide ((pc : Int) + o = (t : Int))
    | _ => false
  | .tableswitch d lo hi os => match xs with
    | t :: ts => decide (decode (eB ent) pc = .ok (.tableswitch d lo hi os, nx - pc)) && decide ((pc : Int) + d = (t : Int)) && decide (os.toList.map (fun o : Int => (pc : Int) + o) = ts.map (fun t : Nat => Int.ofNat t)) && decide (hi = lo + ts.length - 1) && decide (-1000 ≤ lo) && decide (hi ≤ 1000)
    | _ => false
  | .lookupswitch d ps => match xs with
    | t :: ts => decide (decode (eB ent) pc = .ok (.lookupswitch d ps, nx - pc)) && decide ((pc : Int) + d = (t : Int)) && decide (ps.toList.map (fun q : Int × Int => (pc : Int) + q.2) = ts.map (fun t : Nat => Int.ofNat t)) && ps.toList.all (fun q => decide ((Int32.ofInt q.1).toInt = q.1)) && (ps.toList.zip (ps.toList.drop 1)).all (fun (a, next) => a.1 < next.1)
    | _ => false
  | .getfield ix => match xs with
    | [ci, f, _] => fldT.any (fun e => e.1 == eC ent && e.2.1 == ix && e.2.2.1 == ci && e.2.2.2.1 == f)
    | _ => false
  | .putfield ix => match xs with
    | [ci, f, t] => fldT.any (fun e => e.1 == eC ent && e.2.1 == ix && e.2.2.1 == ci && e.2.2.2.1 == f) && tyk t (tX ci f) && (!(TX ci f).2.2.2 || (decide ((eY ent).name = "<init>") && decide ((TX ci f).1 = RN (eC ent))))
    | _ => false
  | .getstatic ix => match xs with
    | [k] => staT.any (fun e => e.1 == eC ent && e.2.1 == ix && e.2.2.1 == k)
    | _ => false
  | .newarray ty => match xs with
    | [t, mcL, msL] => decide (mcL = eMc ent) && decide (msL = eMs ent) && ((decide (t = 0) && decide (ty = .int)) || (decide (t = 1) && decide (ty = .char)))
    | _ => false
  | .anewarray ix => match xs with
    | [mcL, msL] => decide (mcL = eMc ent) && decide (msL = eMs ent) && clsT.any (fun e => e.1 == eC ent && e.2.1 == ix && e.2.2.1 == ARC)
    | _ => false
  | .new ix => match xs with
    | [ci, N, mcL, msL] => decide (mcL = eMc ent) && decide (msL = eMs ent) && decide (N = NX ci) && decide (ci < NCl) && clsT.any (fun e => e.1 == eC ent && e.2.1 == ix && e.2.2.1 == ci)
    | _ => false
  | .invokevirtual ix => match xs with
    | [q, na, _, _, cn, mc, ms, mcL, msL, t] => match tM[q]? with
      | some e => okC ent ix q na mc ms mcL msL t e && decide (t = 0) && decide (cn = eC e) && decide (cn < NCl) && !eS e && decide ((eY e).name ≠ "<init>")
      | none => false
    | _ => false
  | .invokespecial ix => match xs with
    | [q, na, _, _, _, mc, ms, mcL, msL, t] => match tM[q]? with
      | some e => okC ent ix q na mc ms mcL msL t e && decide ((eY e).name = "<init>") && !eS e && decide (eR e = none)
      | none => false
    | [] => objT.any (fun e => e.1 == eC ent && e.2.1 == ix) && decide (1 ≤ eF ent) && decide (20 ≤ eLo ent)
    | _ => false
  | .invokestatic ix => match xs with
    | [q, na, _, _, _, mc, ms, mcL, msL, t] => match tM[q]? with
      | some e => okC ent ix q na mc ms mcL msL t e && eS e
      | none => false
    | [q, na, mc, ms, mcL, msL, t] => match tM[q]? with
      | some e => okC ent ix q na mc ms mcL msL t e && eS e
      | none => false
    | [w] => sysT.any (fun e => e.1 == eC ent && e.2.1 == ix && e.2.2.1 == w) && decide (1 ≤ eF ent) && decide (8 + (nativeFrameWords "java/lang/System" "arraycopy" 5 + 11) ≤ eLo ent || (decide (w < 2) && decide (21 ≤ eLo ent)))
    | _ => false
  | .ireturn => (decide (xs = [0]) && decide (eR ent = some .int)) || (decide (xs = [1]) && decide (eR ent = some .boolean))
  | .return_ => decide (eR ent = none)
  | _ => true
def chk1 (ent : Ent) (pc : Nat) (i : Instr) (xs : List Nat) (nx : Nat) : Bool := (isSw i || (decide (decode (eB ent) pc = .ok (i, ln i)) && decide (nx = pc + ln i))) && chkO ent pc i xs nx
def hd (ops : List Op) (e : Nat) : Nat := match ops with
  | [] => e
  | (pc, _, _) :: _ => pc
def chkL (ent : Ent) : List Op → Nat → Bool
  | [], _ => true
  | (pc, i, xs) :: r, e => chk1 ent pc i xs (hd r e) && chkL ent r e
def chkE (ent : Ent) : Bool := (eBl ent).all (fun b => decide (hd b.2.1 b.2.2 = b.1) && chkL ent b.2.1 b.2.2)

def chkB (ent : Ent) (b : Blk) : Bool := decide (hd b.2.1 b.2.2 = b.1) && chkL ent b.2.1 b.2.2
theorem all_dr {α : Type} {l : List α} {p : α → Bool} {k : Nat} (d : α) (hk : k < l.length) (h1 : p (l.getD k d) = true) (h2 : (l.drop (k + 1)).all p = true) : (l.drop k).all p = true := by
  rw [List.drop_eq_getElem_cons hk, List.all_cons, h2, Bool.and_true]
  rw [List.getD_eq_getElem?_getD, List.getElem?_eq_getElem hk] at h1
  exact h1
theorem ce0 : chkE e0 = true := by decide +kernel
theorem ce1 : chkE e1 = true := by decide +kernel
theorem ce2 : chkE e2 = true := by decide +kernel
theorem ce3 : chkE e3 = true := by decide +kernel
theorem ce4 : chkE e4 = true := by decide +kernel
theorem ce5 : chkE e5 = true := by decide +kernel
theorem ce6 : chkE e6 = true := by decide +kernel
theorem ce7 : chkE e7 = true := by decide +kernel
theorem ce8 : chkE e8 = true := by decide +kernel
theorem ce9 : chkE e9 = true := by decide +kernel
theorem ce10 : chkE e10 = true := by decide +kernel
theorem ce11 : chkE e11 = true := by decide +kernel
theorem ce12 : chkE e12 = true := by decide +kernel
theorem ce13 : chkE e13 = true := by decide +kernel
theorem ce14 : chkE e14 = true := by decide +kernel
theorem ce15 : chkE e15 = true := by decide +kernel
theorem ce16 : chkE e16 = true := by decide +kernel
theorem ce17 : chkE e17 = true := by decide +kernel
theorem ce18 : chkE e18 = true := by decide +kernel
theorem ce19 : chkE e19 = true := by decide +kernel
theorem ce20 : chkE e20 = true := by decide +kernel
theorem ce21 : chkE e21 = true := by decide +kernel
theorem ce22 : chkE e22 = true := by decide +kernel
theorem ce23 : chkE e23 = true := by decide +kernel
theorem ce24 : chkE e24 = true := by decide +kernel
theorem ce25 : chkE e25 = true := by decide +kernel
theorem ce26 : chkE e26 = true := by decide +kernel
theorem ce27 : chkE e27 = true := by decide +kernel
theorem ce28 : chkE e28 = true := by decide +kernel
theorem ce29 : chkE e29 = true := by decide +kernel
theorem ce30 : chkE e30 = true := by decide +kernel
theorem ce31 : chkE e31 = true := by decide +kernel
theorem ce32 : chkE e32 = true := by decide +kernel
theorem ce33 : chkE e33 = true := by decide +kernel
theorem ce34 : chkE e34 = true := by decide +kernel
theorem ce35 : chkE e35 = true := by decide +kernel
theorem ce36 : chkE e36 = true := by decide +kernel
theorem ce37 : chkE e37 = true := by decide +kernel
theorem ce38 : chkE e38 = true := by decide +kernel
theorem ce39 : chkE e39 = true := by decide +kernel
theorem ce40 : chkE e40 = true := by decide +kernel
theorem ce41 : chkE e41 = true := by decide +kernel
theorem ce42 : chkE e42 = true := by decide +kernel
theorem ce43 : chkE e43 = true := by decide +kernel
theorem ce44 : chkE e44 = true := by decide +kernel
theorem ce45 : chkE e45 = true := by decide +kernel
theorem ce46 : chkE e46 = true := by decide +kernel
theorem ce47 : chkE e47 = true := by decide +kernel
theorem ce48 : chkE e48 = true := by decide +kernel
theorem ce49 : chkE e49 = true := by decide +kernel
theorem ce50 : chkE e50 = true := by decide +kernel
theorem ce51 : chkE e51 = true := by decide +kernel
theorem ce52 : chkE e52 = true := by decide +kernel
theorem ce53 : chkE e53 = true := by decide +kernel
theorem ce54 : chkE e54 = true := by decide +kernel
theorem ce55 : chkE e55 = true := by decide +kernel
theorem ce56 : chkE e56 = true := by decide +kernel
theorem ce57 : chkE e57 = true := by decide +kernel
theorem ce58 : chkE e58 = true := by decide +kernel
theorem ce59 : chkE e59 = true := by decide +kernel
theorem ce60 : chkE e60 = true := by decide +kernel
theorem ce61 : chkE e61 = true := by decide +kernel
theorem ce62 : chkE e62 = true := by decide +kernel
theorem ce63 : chkE e63 = true := by decide +kernel
theorem ce64 : chkE e64 = true := by decide +kernel
theorem ce65 : chkE e65 = true := by decide +kernel
theorem ce66 : chkE e66 = true := by decide +kernel
theorem ce67 : chkE e67 = true := by decide +kernel
theorem ce68 : chkE e68 = true := by decide +kernel
theorem ce69 : chkE e69 = true := by decide +kernel
theorem ce70 : chkE e70 = true := by decide +kernel
theorem ce71 : chkE e71 = true := by decide +kernel
theorem ce72 : chkE e72 = true := by decide +kernel
theorem ce73 : chkE e73 = true := by decide +kernel
theorem ce74 : chkE e74 = true := by decide +kernel
theorem ce75 : chkE e75 = true := by decide +kernel
theorem ce76 : chkE e76 = true := by decide +kernel
theorem ce77 : chkE e77 = true := by decide +kernel
theorem ce78 : chkE e78 = true := by decide +kernel
theorem ce79 : chkE e79 = true := by decide +kernel
theorem ce80 : chkE e80 = true := by decide +kernel
theorem ce81 : chkE e81 = true := by decide +kernel
theorem ce82 : chkE e82 = true := by decide +kernel
theorem ce83 : chkE e83 = true := by decide +kernel
theorem ce84 : chkE e84 = true := by decide +kernel
theorem ce85 : chkE e85 = true := by decide +kernel
theorem ce86 : chkE e86 = true := by decide +kernel
theorem ce87 : chkE e87 = true := by decide +kernel
theorem ce88 : chkE e88 = true := by decide +kernel
theorem ce89 : chkE e89 = true := by decide +kernel
theorem ce90 : chkE e90 = true := by decide +kernel
theorem ce91 : chkE e91 = true := by decide +kernel
theorem ce92 : chkE e92 = true := by decide +kernel
theorem ce93 : chkE e93 = true := by decide +kernel
theorem ce94 : chkE e94 = true := by decide +kernel
theorem ce95 : chkE e95 = true := by decide +kernel
theorem ce96 : chkE e96 = true := by decide +kernel
theorem ce97 : chkE e97 = true := by decide +kernel
theorem ce98 : chkE e98 = true := by decide +kernel
theorem ce99 : chkE e99 = true := by decide +kernel
theorem ce100 : chkE e100 = true := by decide +kernel
theorem ce101 : chkE e101 = true := by decide +kernel
theorem ce102 : chkE e102 = true := by decide +kernel
theorem ce103 : chkE e103 = true := by decide +kernel
theorem ce104 : chkE e104 = true := by decide +kernel
theorem ce105 : chkE e105 = true := by decide +kernel
theorem ce106 : chkE e106 = true := by decide +kernel
theorem ce107 : chkE e107 = true := by decide +kernel
theorem ce108 : chkE e108 = true := by decide +kernel
theorem ce109 : chkE e109 = true := by decide +kernel
theorem ce110 : chkE e110 = true := by decide +kernel
theorem ce111 : chkE e111 = true := by decide +kernel
theorem ce112 : chkE e112 = true := by decide +kernel
theorem ce113 : chkE e113 = true := by decide +kernel
theorem ce114 : chkE e114 = true := by decide +kernel
theorem ce115 : chkE e115 = true := by decide +kernel
theorem ce116 : chkE e116 = true := by decide +kernel
theorem ce117 : chkE e117 = true := by decide +kernel
theorem ce118 : chkE e118 = true := by decide +kernel
theorem ce119 : chkE e119 = true := by decide +kernel
theorem ce120 : chkE e120 = true := by decide +kernel
theorem ce121 : chkE e121 = true := by decide +kernel
theorem ce122 : chkE e122 = true := by decide +kernel
theorem ce123 : chkE e123 = true := by decide +kernel
theorem ce124 : chkE e124 = true := by decide +kernel
theorem ce125 : chkE e125 = true := by decide +kernel
theorem ce126 : chkE e126 = true := by decide +kernel
theorem cb127_0 : chkB e127 (b127.getD 0 (0, [], 0)) = true := by decide +kernel
theorem cb127_1 : chkB e127 (b127.getD 1 (0, [], 0)) = true := by decide +kernel
theorem cb127_2 : chkB e127 (b127.getD 2 (0, [], 0)) = true := by decide +kernel
theorem cb127_3 : chkB e127 (b127.getD 3 (0, [], 0)) = true := by decide +kernel
theorem cb127_4 : chkB e127 (b127.getD 4 (0, [], 0)) = true := by decide +kernel
theorem cb127_5 : chkB e127 (b127.getD 5 (0, [], 0)) = true := by decide +kernel
theorem cb127_6 : chkB e127 (b127.getD 6 (0, [], 0)) = true := by decide +kernel
theorem cb127_7 : chkB e127 (b127.getD 7 (0, [], 0)) = true := by decide +kernel
theorem cb127_8 : chkB e127 (b127.getD 8 (0, [], 0)) = true := by decide +kernel
theorem cb127_9 : chkB e127 (b127.getD 9 (0, [], 0)) = true := by decide +kernel
theorem cb127_10 : chkB e127 (b127.getD 10 (0, [], 0)) = true := by decide +kernel
theorem cb127_11 : chkB e127 (b127.getD 11 (0, [], 0)) = true := by decide +kernel
theorem cb127_12 : chkB e127 (b127.getD 12 (0, [], 0)) = true := by decide +kernel
theorem cb127_13 : chkB e127 (b127.getD 13 (0, [], 0)) = true := by decide +kernel
theorem cb127_14 : chkB e127 (b127.getD 14 (0, [], 0)) = true := by decide +kernel
theorem cb127_15 : chkB e127 (b127.getD 15 (0, [], 0)) = true := by decide +kernel
theorem ce127 : chkE e127 = true := (show (b127.drop 0).all (chkB e127) = true from all_dr (0, [], 0) (Nat.le_of_ble_eq_true rfl) cb127_0 (all_dr (0, [], 0) (Nat.le_of_ble_eq_true rfl) cb127_1 (all_dr (0, [], 0) (Nat.le_of_ble_eq_true rfl) cb127_2 (all_dr (0, [], 0) (Nat.le_of_ble_eq_true rfl) cb127_3 (all_dr (0, [], 0) (Nat.le_of_ble_eq_true rfl) cb127_4 (all_dr (0, [], 0) (Nat.le_of_ble_eq_true rfl) cb127_5 (all_dr (0, [], 0) (Nat.le_of_ble_eq_true rfl) cb127_6 (all_dr (0, [], 0) (Nat.le_of_ble_eq_true rfl) cb127_7 (all_dr (0, [], 0) (Nat.le_of_ble_eq_true rfl) cb127_8 (all_dr (0, [], 0) (Nat.le_of_ble_eq_true rfl) cb127_9 (all_dr (0, [], 0) (Nat.le_of_ble_eq_true rfl) cb127_10 (all_dr (0, [], 0) (Nat.le_of_ble_eq_true rfl) cb127_11 (all_dr (0, [], 0) (Nat.le_of_ble_eq_true rfl) cb127_12 (all_dr (0, [], 0) (Nat.le_of_ble_eq_true rfl) cb127_13 (all_dr (0, [], 0) (Nat.le_of_ble_eq_true rfl) cb127_14 (all_dr (0, [], 0) (Nat.le_of_ble_eq_true rfl) cb127_15 (rfl)))))))))))))))))
theorem ce128 : chkE e128 = true := by decide +kernel
theorem cb129_0 : chkB e129 (b129.getD 0 (0, [], 0)) = true := by decide +kernel
theorem cb129_1 : chkB e129 (b129.getD 1 (0, [], 0)) = true := by decide +kernel
theorem cb129_2 : chkB e129 (b129.getD 2 (0, [], 0)) = true := by decide +kernel
theorem cb129_3 : chkB e129 (b129.getD 3 (0, [], 0)) = true := by decide +kernel
theorem cb129_4 : chkB e129 (b129.getD 4 (0, [], 0)) = true := by decide +kernel
theorem cb129_5 : chkB e129 (b129.getD 5 (0, [], 0)) = true := by decide +kernel
theorem cb129_6 : chkB e129 (b129.getD 6 (0, [], 0)) = true := by decide +kernel
theorem cb129_7 : chkB e129 (b129.getD 7 (0, [], 0)) = true := by decide +kernel
theorem cb129_8 : chkB e129 (b129.getD 8 (0, [], 0)) = true := by decide +kernel
theorem cb129_9 : chkB e129 (b129.getD 9 (0, [], 0)) = true := by decide +kernel
theorem cb129_10 : chkB e129 (b129.getD 10 (0, [], 0)) = true := by decide +kernel
theorem cb129_11 : chkB e129 (b129.getD 11 (0, [], 0)) = true := by decide +kernel
theorem cb129_12 : chkB e129 (b129.getD 12 (0, [], 0)) = true := by decide +kernel
theorem cb129_13 : chkB e129 (b129.getD 13 (0, [], 0)) = true := by decide +kernel
theorem cb129_14 : chkB e129 (b129.getD 14 (0, [], 0)) = true := by decide +kernel
theorem cb129_15 : chkB e129 (b129.getD 15 (0, [], 0)) = true := by decide +kernel
theorem ce129 : chkE e129 = true := (show (b129.drop 0).all (chkB e129) = true from all_dr (0, [], 0) (Nat.le_of_ble_eq_true rfl) cb129_0 (all_dr (0, [], 0) (Nat.le_of_ble_eq_true rfl) cb129_1 (all_dr (0, [], 0) (Nat.le_of_ble_eq_true rfl) cb129_2 (all_dr (0, [], 0) (Nat.le_of_ble_eq_true rfl) cb129_3 (all_dr (0, [], 0) (Nat.le_of_ble_eq_true rfl) cb129_4 (all_dr (0, [], 0) (Nat.le_of_ble_eq_true rfl) cb129_5 (all_dr (0, [], 0) (Nat.le_of_ble_eq_true rfl) cb129_6 (all_dr (0, [], 0) (Nat.le_of_ble_eq_true rfl) cb129_7 (all_dr (0, [], 0) (Nat.le_of_ble_eq_true rfl) cb129_8 (all_dr (0, [], 0) (Nat.le_of_ble_eq_true rfl) cb129_9 (all_dr (0, [], 0) (Nat.le_of_ble_eq_true rfl) cb129_10 (all_dr (0, [], 0) (Nat.le_of_ble_eq_true rfl) cb129_11 (all_dr (0, [], 0) (Nat.le_of_ble_eq_true rfl) cb129_12 (all_dr (0, [], 0) (Nat.le_of_ble_eq_true rfl) cb129_13 (all_dr (0, [], 0) (Nat.le_of_ble_eq_true rfl) cb129_14 (all_dr (0, [], 0) (Nat.le_of_ble_eq_true rfl) cb129_15 (rfl)))))))))))))))))
theorem ce130 : chkE e130 = true := by decide +kernel
theorem cb131_0 : chkB e131 (b131.getD 0 (0, [], 0)) = true := by decide +kernel
theorem cb131_1 : chkB e131 (b131.getD 1 (0, [], 0)) = true := by decide +kernel
theorem cb131_2 : chkB e131 (b131.getD 2 (0, [], 0)) = true := by decide +kernel
theorem cb131_3 : chkB e131 (b131.getD 3 (0, [], 0)) = true := by decide +kernel
theorem cb131_4 : chkB e131 (b131.getD 4 (0, [], 0)) = true := by decide +kernel
theorem cb131_5 : chkB e131 (b131.getD 5 (0, [], 0)) = true := by decide +kernel
theorem cb131_6 : chkB e131 (b131.getD 6 (0, [], 0)) = true := by decide +kernel
theorem cb131_7 : chkB e131 (b131.getD 7 (0, [], 0)) = true := by decide +kernel
theorem cb131_8 : chkB e131 (b131.getD 8 (0, [], 0)) = true := by decide +kernel
theorem cb131_9 : chkB e131 (b131.getD 9 (0, [], 0)) = true := by decide +kernel
theorem cb131_10 : chkB e131 (b131.getD 10 (0, [], 0)) = true := by decide +kernel
theorem cb131_11 : chkB e131 (b131.getD 11 (0, [], 0)) = true := by decide +kernel
theorem cb131_12 : chkB e131 (b131.getD 12 (0, [], 0)) = true := by decide +kernel
theorem cb131_13 : chkB e131 (b131.getD 13 (0, [], 0)) = true := by decide +kernel
theorem cb131_14 : chkB e131 (b131.getD 14 (0, [], 0)) = true := by decide +kernel
theorem cb131_15 : chkB e131 (b131.getD 15 (0, [], 0)) = true := by decide +kernel
theorem cb131_16 : chkB e131 (b131.getD 16 (0, [], 0)) = true := by decide +kernel
theorem ce131 : chkE e131 = true := (show (b131.drop 0).all (chkB e131) = true from all_dr (0, [], 0) (Nat.le_of_ble_eq_true rfl) cb131_0 (all_dr (0, [], 0) (Nat.le_of_ble_eq_true rfl) cb131_1 (all_dr (0, [], 0) (Nat.le_of_ble_eq_true rfl) cb131_2 (all_dr (0, [], 0) (Nat.le_of_ble_eq_true rfl) cb131_3 (all_dr (0, [], 0) (Nat.le_of_ble_eq_true rfl) cb131_4 (all_dr (0, [], 0) (Nat.le_of_ble_eq_true rfl) cb131_5 (all_dr (0, [], 0) (Nat.le_of_ble_eq_true rfl) cb131_6 (all_dr (0, [], 0) (Nat.le_of_ble_eq_true rfl) cb131_7 (all_dr (0, [], 0) (Nat.le_of_ble_eq_true rfl) cb131_8 (all_dr (0, [], 0) (Nat.le_of_ble_eq_true rfl) cb131_9 (all_dr (0, [], 0) (Nat.le_of_ble_eq_true rfl) cb131_10 (all_dr (0, [], 0) (Nat.le_of_ble_eq_true rfl) cb131_11 (all_dr (0, [], 0) (Nat.le_of_ble_eq_true rfl) cb131_12 (all_dr (0, [], 0) (Nat.le_of_ble_eq_true rfl) cb131_13 (all_dr (0, [], 0) (Nat.le_of_ble_eq_true rfl) cb131_14 (all_dr (0, [], 0) (Nat.le_of_ble_eq_true rfl) cb131_15 (all_dr (0, [], 0) (Nat.le_of_ble_eq_true rfl) cb131_16 (rfl))))))))))))))))))
theorem cb132_0 : chkB e132 (b132.getD 0 (0, [], 0)) = true := by decide +kernel
theorem cb132_1 : chkB e132 (b132.getD 1 (0, [], 0)) = true := by decide +kernel
theorem cb132_2 : chkB e132 (b132.getD 2 (0, [], 0)) = true := by decide +kernel
theorem cb132_3 : chkB e132 (b132.getD 3 (0, [], 0)) = true := by decide +kernel
theorem cb132_4 : chkB e132 (b132.getD 4 (0, [], 0)) = true := by decide +kernel
theorem cb132_5 : chkB e132 (b132.getD 5 (0, [], 0)) = true := by decide +kernel
theorem cb132_6 : chkB e132 (b132.getD 6 (0, [], 0)) = true := by decide +kernel
theorem cb132_7 : chkB e132 (b132.getD 7 (0, [], 0)) = true := by decide +kernel
theorem cb132_8 : chkB e132 (b132.getD 8 (0, [], 0)) = true := by decide +kernel
theorem cb132_9 : chkB e132 (b132.getD 9 (0, [], 0)) = true := by decide +kernel
theorem cb132_10 : chkB e132 (b132.getD 10 (0, [], 0)) = true := by decide +kernel
theorem cb132_11 : chkB e132 (b132.getD 11 (0, [], 0)) = true := by decide +kernel
theorem cb132_12 : chkB e132 (b132.getD 12 (0, [], 0)) = true := by decide +kernel
theorem cb132_13 : chkB e132 (b132.getD 13 (0, [], 0)) = true := by decide +kernel
theorem cb132_14 : chkB e132 (b132.getD 14 (0, [], 0)) = true := by decide +kernel
theorem cb132_15 : chkB e132 (b132.getD 15 (0, [], 0)) = true := by decide +kernel
theorem cb132_16 : chkB e132 (b132.getD 16 (0, [], 0)) = true := by decide +kernel
theorem cb132_17 : chkB e132 (b132.getD 17 (0, [], 0)) = true := by decide +kernel
theorem cb132_18 : chkB e132 (b132.getD 18 (0, [], 0)) = true := by decide +kernel
theorem cb132_19 : chkB e132 (b132.getD 19 (0, [], 0)) = true := by decide +kernel
theorem cb132_20 : chkB e132 (b132.getD 20 (0, [], 0)) = true := by decide +kernel
theorem cb132_21 : chkB e132 (b132.getD 21 (0, [], 0)) = true := by decide +kernel
theorem cb132_22 : chkB e132 (b132.getD 22 (0, [], 0)) = true := by decide +kernel
theorem cb132_23 : chkB e132 (b132.getD 23 (0, [], 0)) = true := by decide +kernel
theorem cb132_24 : chkB e132 (b132.getD 24 (0, [], 0)) = true := by decide +kernel
theorem cb132_25 : chkB e132 (b132.getD 25 (0, [], 0)) = true := by decide +kernel
theorem cb132_26 : chkB e132 (b132.getD 26 (0, [], 0)) = true := by decide +kernel
theorem cb132_27 : chkB e132 (b132.getD 27 (0, [], 0)) = true := by decide +kernel
theorem cb132_28 : chkB e132 (b132.getD 28 (0, [], 0)) = true := by decide +kernel
theorem cb132_29 : chkB e132 (b132.getD 29 (0, [], 0)) = true := by decide +kernel
theorem cb132_30 : chkB e132 (b132.getD 30 (0, [], 0)) = true := by decide +kernel
theorem cb132_31 : chkB e132 (b132.getD 31 (0, [], 0)) = true := by decide +kernel
theorem cb132_32 : chkB e132 (b132.getD 32 (0, [], 0)) = true := by decide +kernel
theorem cb132_33 : chkB e132 (b132.getD 33 (0, [], 0)) = true := by decide +kernel
theorem cb132_34 : chkB e132 (b132.getD 34 (0, [], 0)) = true := by decide +kernel
theorem cb132_35 : chkB e132 (b132.getD 35 (0, [], 0)) = true := by decide +kernel
theorem cb132_36 : chkB e132 (b132.getD 36 (0, [], 0)) = true := by decide +kernel
theorem cb132_37 : chkB e132 (b132.getD 37 (0, [], 0)) = true := by decide +kernel
theorem cb132_38 : chkB e132 (b132.getD 38 (0, [], 0)) = true := by decide +kernel
theorem cb132_39 : chkB e132 (b132.getD 39 (0, [], 0)) = true := by decide +kernel
theorem cb132_40 : chkB e132 (b132.getD 40 (0, [], 0)) = true := by decide +kernel
theorem cb132_41 : chkB e132 (b132.getD 41 (0, [], 0)) = true := by decide +kernel
theorem cb132_42 : chkB e132 (b132.getD 42 (0, [], 0)) = true := by decide +kernel
theorem cb132_43 : chkB e132 (b132.getD 43 (0, [], 0)) = true := by decide +kernel
theorem cb132_44 : chkB e132 (b132.getD 44 (0, [], 0)) = true := by decide +kernel
theorem cb132_45 : chkB e132 (b132.getD 45 (0, [], 0)) = true := by decide +kernel
theorem cb132_46 : chkB e132 (b132.getD 46 (0, [], 0)) = true := by decide +kernel
theorem cb132_47 : chkB e132 (b132.getD 47 (0, [], 0)) = true := by decide +kernel
theorem cb132_48 : chkB e132 (b132.getD 48 (0, [], 0)) = true := by decide +kernel
theorem cb132_49 : chkB e132 (b132.getD 49 (0, [], 0)) = true := by decide +kernel
theorem cb132_50 : chkB e132 (b132.getD 50 (0, [], 0)) = true := by decide +kernel
theorem cb132_51 : chkB e132 (b132.getD 51 (0, [], 0)) = true := by decide +kernel
theorem cb132_52 : chkB e132 (b132.getD 52 (0, [], 0)) = true := by decide +kernel
theorem cb132_53 : chkB e132 (b132.getD 53 (0, [], 0)) = true := by decide +kernel
theorem cb132_54 : chkB e132 (b132.getD 54 (0, [], 0)) = true := by decide +kernel
theorem cb132_55 : chkB e132 (b132.getD 55 (0, [], 0)) = true := by decide +kernel
theorem cb132_56 : chkB e132 (b132.getD 56 (0, [], 0)) = true := by decide +kernel
theorem cb132_57 : chkB e132 (b132.getD 57 (0, [], 0)) = true := by decide +kernel
theorem cb132_58 : chkB e132 (b132.getD 58 (0, [], 0)) = true := by decide +kernel
theorem ce132 : chkE e132 = true := (show (b132.drop 0).all (chkB e132) = true from all_dr (0, [], 0) (Nat.le_of_ble_eq_true rfl) cb132_0 (all_dr (0, [], 0) (Nat.le_of_ble_eq_true rfl) cb132_1 (all_dr (0, [], 0) (Nat.le_of_ble_eq_true rfl) cb132_2 (all_dr (0, [], 0) (Nat.le_of_ble_eq_true rfl) cb132_3 (all_dr (0, [], 0) (Nat.le_of_ble_eq_true rfl) cb132_4 (all_dr (0, [], 0) (Nat.le_of_ble_eq_true rfl) cb132_5 (all_dr (0, [], 0) (Nat.le_of_ble_eq_true rfl) cb132_6 (all_dr (0, [], 0) (Nat.le_of_ble_eq_true rfl) cb132_7 (all_dr (0, [], 0) (Nat.le_of_ble_eq_true rfl) cb132_8 (all_dr (0, [], 0) (Nat.le_of_ble_eq_true rfl) cb132_9 (all_dr (0, [], 0) (Nat.le_of_ble_eq_true rfl) cb132_10 (all_dr (0, [], 0) (Nat.le_of_ble_eq_true rfl) cb132_11 (all_dr (0, [], 0) (Nat.le_of_ble_eq_true rfl) cb132_12 (all_dr (0, [], 0) (Nat.le_of_ble_eq_true rfl) cb132_13 (all_dr (0, [], 0) (Nat.le_of_ble_eq_true rfl) cb132_14 (all_dr (0, [], 0) (Nat.le_of_ble_eq_true rfl) cb132_15 (all_dr (0, [], 0) (Nat.le_of_ble_eq_true rfl) cb132_16 (all_dr (0, [], 0) (Nat.le_of_ble_eq_true rfl) cb132_17 (all_dr (0, [], 0) (Nat.le_of_ble_eq_true rfl) cb132_18 (all_dr (0, [], 0) (Nat.le_of_ble_eq_true rfl) cb132_19 (all_dr (0, [], 0) (Nat.le_of_ble_eq_true rfl) cb132_20 (all_dr (0, [], 0) (Nat.le_of_ble_eq_true rfl) cb132_21 (all_dr (0, [], 0) (Nat.le_of_ble_eq_true rfl) cb132_22 (all_dr (0, [], 0) (Nat.le_of_ble_eq_true rfl) cb132_23 (all_dr (0, [], 0) (Nat.le_of_ble_eq_true rfl) cb132_24 (all_dr (0, [], 0) (Nat.le_of_ble_eq_true rfl) cb132_25 (all_dr (0, [], 0) (Nat.le_of_ble_eq_true rfl) cb132_26 (all_dr (0, [], 0) (Nat.le_of_ble_eq_true rfl) cb132_27 (all_dr (0, [], 0) (Nat.le_of_ble_eq_true rfl) cb132_28 (all_dr (0, [], 0) (Nat.le_of_ble_eq_true rfl) cb132_29 (all_dr (0, [], 0) (Nat.le_of_ble_eq_true rfl) cb132_30 (all_dr (0, [], 0) (Nat.le_of_ble_eq_true rfl) cb132_31 (all_dr (0, [], 0) (Nat.le_of_ble_eq_true rfl) cb132_32 (all_dr (0, [], 0) (Nat.le_of_ble_eq_true rfl) cb132_33 (all_dr (0, [], 0) (Nat.le_of_ble_eq_true rfl) cb132_34 (all_dr (0, [], 0) (Nat.le_of_ble_eq_true rfl) cb132_35 (all_dr (0, [], 0) (Nat.le_of_ble_eq_true rfl) cb132_36 (all_dr (0, [], 0) (Nat.le_of_ble_eq_true rfl) cb132_37 (all_dr (0, [], 0) (Nat.le_of_ble_eq_true rfl) cb132_38 (all_dr (0, [], 0) (Nat.le_of_ble_eq_true rfl) cb132_39 (all_dr (0, [], 0) (Nat.le_of_ble_eq_true rfl) cb132_40 (all_dr (0, [], 0) (Nat.le_of_ble_eq_true rfl) cb132_41 (all_dr (0, [], 0) (Nat.le_of_ble_eq_true rfl) cb132_42 (all_dr (0, [], 0) (Nat.le_of_ble_eq_true rfl) cb132_43 (all_dr (0, [], 0) (Nat.le_of_ble_eq_true rfl) cb132_44 (all_dr (0, [], 0) (Nat.le_of_ble_eq_true rfl) cb132_45 (all_dr (0, [], 0) (Nat.le_of_ble_eq_true rfl) cb132_46 (all_dr (0, [], 0) (Nat.le_of_ble_eq_true rfl) cb132_47 (all_dr (0, [], 0) (Nat.le_of_ble_eq_true rfl) cb132_48 (all_dr (0, [], 0) (Nat.le_of_ble_eq_true rfl) cb132_49 (all_dr (0, [], 0) (Nat.le_of_ble_eq_true rfl) cb132_50 (all_dr (0, [], 0) (Nat.le_of_ble_eq_true rfl) cb132_51 (all_dr (0, [], 0) (Nat.le_of_ble_eq_true rfl) cb132_52 (all_dr (0, [], 0) (Nat.le_of_ble_eq_true rfl) cb132_53 (all_dr (0, [], 0) (Nat.le_of_ble_eq_true rfl) cb132_54 (all_dr (0, [], 0) (Nat.le_of_ble_eq_true rfl) cb132_55 (all_dr (0, [], 0) (Nat.le_of_ble_eq_true rfl) cb132_56 (all_dr (0, [], 0) (Nat.le_of_ble_eq_true rfl) cb132_57 (all_dr (0, [], 0) (Nat.le_of_ble_eq_true rfl) cb132_58 (rfl))))))))))))))))))))))))))))))))))))))))))))))))))))))))))))
theorem ce133 : chkE e133 = true := by decide +kernel
theorem cb134_0 : chkB e134 (b134.getD 0 (0, [], 0)) = true := by decide +kernel
theorem cb134_1 : chkB e134 (b134.getD 1 (0, [], 0)) = true := by decide +kernel
theorem cb134_2 : chkB e134 (b134.getD 2 (0, [], 0)) = true := by decide +kernel
theorem cb134_3 : chkB e134 (b134.getD 3 (0, [], 0)) = true := by decide +kernel
theorem cb134_4 : chkB e134 (b134.getD 4 (0, [], 0)) = true := by decide +kernel
theorem cb134_5 : chkB e134 (b134.getD 5 (0, [], 0)) = true := by decide +kernel
theorem cb134_6 : chkB e134 (b134.getD 6 (0, [], 0)) = true := by decide +kernel
theorem cb134_7 : chkB e134 (b134.getD 7 (0, [], 0)) = true := by decide +kernel
theorem cb134_8 : chkB e134 (b134.getD 8 (0, [], 0)) = true := by decide +kernel
theorem cb134_9 : chkB e134 (b134.getD 9 (0, [], 0)) = true := by decide +kernel
theorem cb134_10 : chkB e134 (b134.getD 10 (0, [], 0)) = true := by decide +kernel
theorem cb134_11 : chkB e134 (b134.getD 11 (0, [], 0)) = true := by decide +kernel
theorem cb134_12 : chkB e134 (b134.getD 12 (0, [], 0)) = true := by decide +kernel
theorem cb134_13 : chkB e134 (b134.getD 13 (0, [], 0)) = true := by decide +kernel
theorem cb134_14 : chkB e134 (b134.getD 14 (0, [], 0)) = true := by decide +kernel
theorem cb134_15 : chkB e134 (b134.getD 15 (0, [], 0)) = true := by decide +kernel
theorem ce134 : chkE e134 = true := (show (b134.drop 0).all (chkB e134) = true from all_dr (0, [], 0) (Nat.le_of_ble_eq_true rfl) cb134_0 (all_dr (0, [], 0) (Nat.le_of_ble_eq_true rfl) cb134_1 (all_dr (0, [], 0) (Nat.le_of_ble_eq_true rfl) cb134_2 (all_dr (0, [], 0) (Nat.le_of_ble_eq_true rfl) cb134_3 (all_dr (0, [], 0) (Nat.le_of_ble_eq_true rfl) cb134_4 (all_dr (0, [], 0) (Nat.le_of_ble_eq_true rfl) cb134_5 (all_dr (0, [], 0) (Nat.le_of_ble_eq_true rfl) cb134_6 (all_dr (0, [], 0) (Nat.le_of_ble_eq_true rfl) cb134_7 (all_dr (0, [], 0) (Nat.le_of_ble_eq_true rfl) cb134_8 (all_dr (0, [], 0) (Nat.le_of_ble_eq_true rfl) cb134_9 (all_dr (0, [], 0) (Nat.le_of_ble_eq_true rfl) cb134_10 (all_dr (0, [], 0) (Nat.le_of_ble_eq_true rfl) cb134_11 (all_dr (0, [], 0) (Nat.le_of_ble_eq_true rfl) cb134_12 (all_dr (0, [], 0) (Nat.le_of_ble_eq_true rfl) cb134_13 (all_dr (0, [], 0) (Nat.le_of_ble_eq_true rfl) cb134_14 (all_dr (0, [], 0) (Nat.le_of_ble_eq_true rfl) cb134_15 (rfl)))))))))))))))))
theorem cb135_0 : chkB e135 (b135.getD 0 (0, [], 0)) = true := by decide +kernel
theorem cb135_1 : chkB e135 (b135.getD 1 (0, [], 0)) = true := by decide +kernel
theorem cb135_2 : chkB e135 (b135.getD 2 (0, [], 0)) = true := by decide +kernel
theorem cb135_3 : chkB e135 (b135.getD 3 (0, [], 0)) = true := by decide +kernel
theorem cb135_4 : chkB e135 (b135.getD 4 (0, [], 0)) = true := by decide +kernel
theorem cb135_5 : chkB e135 (b135.getD 5 (0, [], 0)) = true := by decide +kernel
theorem cb135_6 : chkB e135 (b135.getD 6 (0, [], 0)) = true := by decide +kernel
theorem cb135_7 : chkB e135 (b135.getD 7 (0, [], 0)) = true := by decide +kernel
theorem cb135_8 : chkB e135 (b135.getD 8 (0, [], 0)) = true := by decide +kernel
theorem cb135_9 : chkB e135 (b135.getD 9 (0, [], 0)) = true := by decide +kernel
theorem cb135_10 : chkB e135 (b135.getD 10 (0, [], 0)) = true := by decide +kernel
theorem cb135_11 : chkB e135 (b135.getD 11 (0, [], 0)) = true := by decide +kernel
theorem cb135_12 : chkB e135 (b135.getD 12 (0, [], 0)) = true := by decide +kernel
theorem cb135_13 : chkB e135 (b135.getD 13 (0, [], 0)) = true := by decide +kernel
theorem cb135_14 : chkB e135 (b135.getD 14 (0, [], 0)) = true := by decide +kernel
theorem cb135_15 : chkB e135 (b135.getD 15 (0, [], 0)) = true := by decide +kernel
theorem cb135_16 : chkB e135 (b135.getD 16 (0, [], 0)) = true := by decide +kernel
theorem cb135_17 : chkB e135 (b135.getD 17 (0, [], 0)) = true := by decide +kernel
theorem cb135_18 : chkB e135 (b135.getD 18 (0, [], 0)) = true := by decide +kernel
theorem cb135_19 : chkB e135 (b135.getD 19 (0, [], 0)) = true := by decide +kernel
theorem cb135_20 : chkB e135 (b135.getD 20 (0, [], 0)) = true := by decide +kernel
theorem cb135_21 : chkB e135 (b135.getD 21 (0, [], 0)) = true := by decide +kernel
theorem cb135_22 : chkB e135 (b135.getD 22 (0, [], 0)) = true := by decide +kernel
theorem cb135_23 : chkB e135 (b135.getD 23 (0, [], 0)) = true := by decide +kernel
theorem cb135_24 : chkB e135 (b135.getD 24 (0, [], 0)) = true := by decide +kernel
theorem ce135 : chkE e135 = true := (show (b135.drop 0).all (chkB e135) = true from all_dr (0, [], 0) (Nat.le_of_ble_eq_true rfl) cb135_0 (all_dr (0, [], 0) (Nat.le_of_ble_eq_true rfl) cb135_1 (all_dr (0, [], 0) (Nat.le_of_ble_eq_true rfl) cb135_2 (all_dr (0, [], 0) (Nat.le_of_ble_eq_true rfl) cb135_3 (all_dr (0, [], 0) (Nat.le_of_ble_eq_true rfl) cb135_4 (all_dr (0, [], 0) (Nat.le_of_ble_eq_true rfl) cb135_5 (all_dr (0, [], 0) (Nat.le_of_ble_eq_true rfl) cb135_6 (all_dr (0, [], 0) (Nat.le_of_ble_eq_true rfl) cb135_7 (all_dr (0, [], 0) (Nat.le_of_ble_eq_true rfl) cb135_8 (all_dr (0, [], 0) (Nat.le_of_ble_eq_true rfl) cb135_9 (all_dr (0, [], 0) (Nat.le_of_ble_eq_true rfl) cb135_10 (all_dr (0, [], 0) (Nat.le_of_ble_eq_true rfl) cb135_11 (all_dr (0, [], 0) (Nat.le_of_ble_eq_true rfl) cb135_12 (all_dr (0, [], 0) (Nat.le_of_ble_eq_true rfl) cb135_13 (all_dr (0, [], 0) (Nat.le_of_ble_eq_true rfl) cb135_14 (all_dr (0, [], 0) (Nat.le_of_ble_eq_true rfl) cb135_15 (all_dr (0, [], 0) (Nat.le_of_ble_eq_true rfl) cb135_16 (all_dr (0, [], 0) (Nat.le_of_ble_eq_true rfl) cb135_17 (all_dr (0, [], 0) (Nat.le_of_ble_eq_true rfl) cb135_18 (all_dr (0, [], 0) (Nat.le_of_ble_eq_true rfl) cb135_19 (all_dr (0, [], 0) (Nat.le_of_ble_eq_true rfl) cb135_20 (all_dr (0, [], 0) (Nat.le_of_ble_eq_true rfl) cb135_21 (all_dr (0, [], 0) (Nat.le_of_ble_eq_true rfl) cb135_22 (all_dr (0, [], 0) (Nat.le_of_ble_eq_true rfl) cb135_23 (all_dr (0, [], 0) (Nat.le_of_ble_eq_true rfl) cb135_24 (rfl))))))))))))))))))))))))))
set_option maxRecDepth 100000 in
theorem chk_all : ∀ e ∈ tM, chkE e = true := List.forall_mem_cons.mpr ⟨ce0, List.forall_mem_cons.mpr ⟨ce1, List.forall_mem_cons.mpr ⟨ce2, List.forall_mem_cons.mpr ⟨ce3, List.forall_mem_cons.mpr ⟨ce4, List.forall_mem_cons.mpr ⟨ce5, List.forall_mem_cons.mpr ⟨ce6, List.forall_mem_cons.mpr ⟨ce7, List.forall_mem_cons.mpr ⟨ce8, List.forall_mem_cons.mpr ⟨ce9, List.forall_mem_cons.mpr ⟨ce10, List.forall_mem_cons.mpr ⟨ce11, List.forall_mem_cons.mpr ⟨ce12, List.forall_mem_cons.mpr ⟨ce13, List.forall_mem_cons.mpr ⟨ce14, List.forall_mem_cons.mpr ⟨ce15, List.forall_mem_cons.mpr ⟨ce16, List.forall_mem_cons.mpr ⟨ce17, List.forall_mem_cons.mpr ⟨ce18, List.forall_mem_cons.mpr ⟨ce19, List.forall_mem_cons.mpr ⟨ce20, List.forall_mem_cons.mpr ⟨ce21, List.forall_mem_cons.mpr ⟨ce22, List.forall_mem_cons.mpr ⟨ce23, List.forall_mem_cons.mpr ⟨ce24, List.forall_mem_cons.mpr ⟨ce25, List.forall_mem_cons.mpr ⟨ce26, List.forall_mem_cons.mpr ⟨ce27, List.forall_mem_cons.mpr ⟨ce28, List.forall_mem_cons.mpr ⟨ce29, List.forall_mem_cons.mpr ⟨ce30, List.forall_mem_cons.mpr ⟨ce31, List.forall_mem_cons.mpr ⟨ce32, List.forall_mem_cons.mpr ⟨ce33, List.forall_mem_cons.mpr ⟨ce34, List.forall_mem_cons.mpr ⟨ce35, List.forall_mem_cons.mpr ⟨ce36, List.forall_mem_cons.mpr ⟨ce37, List.forall_mem_cons.mpr ⟨ce38, List.forall_mem_cons.mpr ⟨ce39, List.forall_mem_cons.mpr ⟨ce40, List.forall_mem_cons.mpr ⟨ce41, List.forall_mem_cons.mpr ⟨ce42, List.forall_mem_cons.mpr ⟨ce43, List.forall_mem_cons.mpr ⟨ce44, List.forall_mem_cons.mpr ⟨ce45, List.forall_mem_cons.mpr ⟨ce46, List.forall_mem_cons.mpr ⟨ce47, List.forall_mem_cons.mpr ⟨ce48, List.forall_mem_cons.mpr ⟨ce49, List.forall_mem_cons.mpr ⟨ce50, List.forall_mem_cons.mpr ⟨ce51, List.forall_mem_cons.mpr ⟨ce52, List.forall_mem_cons.mpr ⟨ce53, List.forall_mem_cons.mpr ⟨ce54, List.forall_mem_cons.mpr ⟨ce55, List.forall_mem_cons.mpr ⟨ce56, List.forall_mem_cons.mpr ⟨ce57, List.forall_mem_cons.mpr ⟨ce58, List.forall_mem_cons.mpr ⟨ce59, List.forall_mem_cons.mpr ⟨ce60, List.forall_mem_cons.mpr ⟨ce61, List.forall_mem_cons.mpr ⟨ce62, List.forall_mem_cons.mpr ⟨ce63, List.forall_mem_cons.mpr ⟨ce64, List.forall_mem_cons.mpr ⟨ce65, List.forall_mem_cons.mpr ⟨ce66, List.forall_mem_cons.mpr ⟨ce67, List.forall_mem_cons.mpr ⟨ce68, List.forall_mem_cons.mpr ⟨ce69, List.forall_mem_cons.mpr ⟨ce70, List.forall_mem_cons.mpr ⟨ce71, List.forall_mem_cons.mpr ⟨ce72, List.forall_mem_cons.mpr ⟨ce73, List.forall_mem_cons.mpr ⟨ce74, List.forall_mem_cons.mpr ⟨ce75, List.forall_mem_cons.mpr ⟨ce76, List.forall_mem_cons.mpr ⟨ce77, List.forall_mem_cons.mpr ⟨ce78, List.forall_mem_cons.mpr ⟨ce79, List.forall_mem_cons.mpr ⟨ce80, List.forall_mem_cons.mpr ⟨ce81, List.forall_mem_cons.mpr ⟨ce82, List.forall_mem_cons.mpr ⟨ce83, List.forall_mem_cons.mpr ⟨ce84, List.forall_mem_cons.mpr ⟨ce85, List.forall_mem_cons.mpr ⟨ce86, List.forall_mem_cons.mpr ⟨ce87, List.forall_mem_cons.mpr ⟨ce88, List.forall_mem_cons.mpr ⟨ce89, List.forall_mem_cons.mpr ⟨ce90, List.forall_mem_cons.mpr ⟨ce91, List.forall_mem_cons.mpr ⟨ce92, List.forall_mem_cons.mpr ⟨ce93, List.forall_mem_cons.mpr ⟨ce94, List.forall_mem_cons.mpr ⟨ce95, List.forall_mem_cons.mpr ⟨ce96, List.forall_mem_cons.mpr ⟨ce97, List.forall_mem_cons.mpr ⟨ce98, List.forall_mem_cons.mpr ⟨ce99, List.forall_mem_cons.mpr ⟨ce100, List.forall_mem_cons.mpr ⟨ce101, List.forall_mem_cons.mpr ⟨ce102, List.forall_mem_cons.mpr ⟨ce103, List.forall_mem_cons.mpr ⟨ce104, List.forall_mem_cons.mpr ⟨ce105, List.forall_mem_cons.mpr ⟨ce106, List.forall_mem_cons.mpr ⟨ce107, List.forall_mem_cons.mpr ⟨ce108, List.forall_mem_cons.mpr ⟨ce109, List.forall_mem_cons.mpr ⟨ce110, List.forall_mem_cons.mpr ⟨ce111, List.forall_mem_cons.mpr ⟨ce112, List.forall_mem_cons.mpr ⟨ce113, List.forall_mem_cons.mpr ⟨ce114, List.forall_mem_cons.mpr ⟨ce115, List.forall_mem_cons.mpr ⟨ce116, List.forall_mem_cons.mpr ⟨ce117, List.forall_mem_cons.mpr ⟨ce118, List.forall_mem_cons.mpr ⟨ce119, List.forall_mem_cons.mpr ⟨ce120, List.forall_mem_cons.mpr ⟨ce121, List.forall_mem_cons.mpr ⟨ce122, List.forall_mem_cons.mpr ⟨ce123, List.forall_mem_cons.mpr ⟨ce124, List.forall_mem_cons.mpr ⟨ce125, List.forall_mem_cons.mpr ⟨ce126, List.forall_mem_cons.mpr ⟨ce127, List.forall_mem_cons.mpr ⟨ce128, List.forall_mem_cons.mpr ⟨ce129, List.forall_mem_cons.mpr ⟨ce130, List.forall_mem_cons.mpr ⟨ce131, List.forall_mem_cons.mpr ⟨ce132, List.forall_mem_cons.mpr ⟨ce133, List.forall_mem_cons.mpr ⟨ce134, List.forall_mem_cons.mpr ⟨ce135, fun _ h => absurd h List.not_mem_nil⟩⟩⟩⟩⟩⟩⟩⟩⟩⟩⟩⟩⟩⟩⟩⟩⟩⟩⟩⟩⟩⟩⟩⟩⟩⟩⟩⟩⟩⟩⟩⟩⟩⟩⟩⟩⟩⟩⟩⟩⟩⟩⟩⟩⟩⟩⟩⟩⟩⟩⟩⟩⟩⟩⟩⟩⟩⟩⟩⟩⟩⟩⟩⟩⟩⟩⟩⟩⟩⟩⟩⟩⟩⟩⟩⟩⟩⟩⟩⟩⟩⟩⟩⟩⟩⟩⟩⟩⟩⟩⟩⟩⟩⟩⟩⟩⟩⟩⟩⟩⟩⟩⟩⟩⟩⟩⟩⟩⟩⟩⟩⟩⟩⟩⟩⟩⟩⟩⟩⟩⟩⟩⟩⟩⟩⟩⟩⟩⟩⟩⟩⟩⟩⟩⟩⟩
