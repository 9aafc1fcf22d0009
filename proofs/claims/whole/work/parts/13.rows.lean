/-! THE MACHINE'S ROWS, one an instruction -/
def gi (v : Option Value) (f : Int32 → Option (Cf ⊕ Rs)) : Option (Cf ⊕ Rs) := match v with
  | some (.int x) => f x
  | _ => none
theorem gi_i (x : Int32) (f : Int32 → Option (Cf ⊕ Rs)) : gi (some (.int x)) f = f x := rfl
def ga (v : Option Value) (f : Value → Option (Cf ⊕ Rs)) : Option (Cf ⊕ Rs) := match v with
  | some (.ref x) => f (.ref x)
  | some (.long x) => f (.long x)
  | _ => none
theorem ga_r (x : Nat) (f : Value → Option (Cf ⊕ Rs)) : ga (some (.ref x)) f = f (.ref x) := rfl
theorem ga_l (x : Int64) (f : Value → Option (Cf ⊕ Rs)) : ga (some (.long x)) f = f (.long x) := rfl
def gr (v : Option Value) (f : Nat → Option (Cf ⊕ Rs)) : Option (Cf ⊕ Rs) := match v with
  | some (.ref x) => f x
  | _ => none
theorem gr_r (x : Nat) (f : Nat → Option (Cf ⊕ Rs)) : gr (some (.ref x)) f = f x := rfl
def gv (v : Option Value) (f : Value → Option (Cf ⊕ Rs)) : Option (Cf ⊕ Rs) := match v with
  | some x => f x
  | none => none
theorem gv_s (x : Value) (f : Value → Option (Cf ⊕ Rs)) : gv (some x) f = f x := rfl
def go_o (v : Option AE) (f : Nat → List Value → Option (Cf ⊕ Rs)) : Option (Cf ⊕ Rs) := match v with
  | some (.inr (c, vs)) => f c vs
  | _ => none
theorem go_oo (c : Nat) (vs : List Value) (f : Nat → List Value → Option (Cf ⊕ Rs)) : go_o (some (.inr (c, vs))) f = f c vs := rfl
def go_a (v : Option AE) (f : Nat → Nat → (Nat → Int32) → Option (Cf ⊕ Rs)) : Option (Cf ⊕ Rs) := match v with
  | some (.inl (t, n, g)) => f t n g
  | _ => none
theorem go_aa (t n : Nat) (g : Nat → Int32) (f : Nat → Nat → (Nat → Int32) → Option (Cf ⊕ Rs)) : go_a (some (.inl (t, n, g))) f = f t n g := rfl
def gc (v : Option Rs) (f : List AE → Option (Cf ⊕ Rs)) (g : Int32 → List AE → Option (Cf ⊕ Rs)) : Option (Cf ⊕ Rs) := match v with
  | some (none, h) => f h
  | some (some (.int v), h) => g v h
  | _ => none
theorem gc_n (h : List AE) (f : List AE → Option (Cf ⊕ Rs)) (g : Int32 → List AE → Option (Cf ⊕ Rs)) : gc (some (none, h)) f g = f h := rfl
theorem gc_i (x : Int32) (h : List AE) (f : List AE → Option (Cf ⊕ Rs)) (g : Int32 → List AE → Option (Cf ⊕ Rs)) : gc (some (some (.int x), h)) f g = g x h := rfl
theorem gc_ite (p : Prop) [q : Decidable p] (a b : Option Rs) (f : List AE → Option (Cf ⊕ Rs)) (g : Int32 → List AE → Option (Cf ⊕ Rs)) : gc (if p then a else b) f g = if p then gc a f g else gc b f g := by
  cases q <;> rfl
section ROWS
variable (ro : RO) (call : CL) (pc : Nat) (xs : List Nat) (r : List Op) (e : Nat) (ls st : List Value) (hp : List AE) (c s : Nat) (x y : Int32) (j : Nat)
theorem rn_end : run ro call [] e ls st hp c s = some (.inl (e, ls, st, hp, c, s)) := rfl
theorem rn_iconst (n : Int) : run ro call ((pc, .iconst n, [j]) :: r) e ls st hp c s = run ro call r e ls (.int (nI j) :: st) hp c s := rfl
theorem rn_iconstN (n : Int) : run ro call ((pc, .iconst n, []) :: r) e ls st hp c s = run ro call r e ls (.int (Int32.ofInt n) :: st) hp c s := rfl
theorem rn_bipush (n : Int) : run ro call ((pc, .bipush n, [j]) :: r) e ls st hp c s = run ro call r e ls (.int (nI j) :: st) hp c s := rfl
theorem rn_bipushN (n : Int) : run ro call ((pc, .bipush n, []) :: r) e ls st hp c s = run ro call r e ls (.int (Int32.ofInt n) :: st) hp c s := rfl
theorem rn_sipush (n : Int) : run ro call ((pc, .sipush n, [j]) :: r) e ls st hp c s = run ro call r e ls (.int (nI j) :: st) hp c s := rfl
theorem rn_sipushN (n : Int) : run ro call ((pc, .sipush n, []) :: r) e ls st hp c s = run ro call r e ls (.int (Int32.ofInt n) :: st) hp c s := rfl
theorem rn_iload (n : Nat) : run ro call ((pc, .iload n, [j]) :: r) e ls st hp c s = gi ls[j]? (fun x => run ro call r e ls (.int x :: st) hp c s) := rfl
theorem rn_iload_n (n : Fin 4) : run ro call ((pc, .iload_n n, [j]) :: r) e ls st hp c s = gi ls[j]? (fun x => run ro call r e ls (.int x :: st) hp c s) := rfl
theorem rn_aload_n (n : Fin 4) : run ro call ((pc, .aload_n n, [j]) :: r) e ls st hp c s = ga ls[j]? (fun x => run ro call r e ls (x :: st) hp c s) := rfl
theorem rn_istore (n : Nat) : run ro call ((pc, .istore n, [j]) :: r) e ls (.int x :: st) hp c s = if j < ls.length then run ro call r e (ls.set j (.int x)) st hp c s else none := rfl
theorem rn_istore_n (n : Fin 4) : run ro call ((pc, .istore_n n, [j]) :: r) e ls (.int x :: st) hp c s = if j < ls.length then run ro call r e (ls.set j (.int x)) st hp c s else none := rfl
theorem rn_astore_n (n : Fin 4) (a : Nat) : run ro call ((pc, .astore_n n, [j]) :: r) e ls (.ref a :: st) hp c s = if j < ls.length then run ro call r e (ls.set j (.ref a)) st hp c s else none := rfl
theorem rn_iincK (i : Nat) (n : Int) (k : Nat) : run ro call ((pc, .iinc i n, [j, k]) :: r) e ls st hp c s = gi ls[j]? (fun x => run ro call r e (ls.set j (.int (x + nI k))) st hp c s) := rfl
theorem rn_iinc (i : Nat) (n : Int) : run ro call ((pc, .iinc i n, [j]) :: r) e ls st hp c s = gi ls[j]? (fun x => run ro call r e (ls.set j (.int (x + Int32.ofInt n))) st hp c s) := rfl
theorem rn_iadd : run ro call ((pc, .iadd, xs) :: r) e ls (.int y :: .int x :: st) hp c s = run ro call r e ls (.int (x + y) :: st) hp c s := rfl
theorem rn_isub : run ro call ((pc, .isub, xs) :: r) e ls (.int y :: .int x :: st) hp c s = run ro call r e ls (.int (x - y) :: st) hp c s := rfl
theorem rn_imul : run ro call ((pc, .imul, xs) :: r) e ls (.int y :: .int x :: st) hp c s = run ro call r e ls (.int (x * y) :: st) hp c s := rfl
theorem rn_idiv : run ro call ((pc, .idiv, xs) :: r) e ls (.int y :: .int x :: st) hp c s = if y = 0 then none else run ro call r e ls (.int (x / y) :: st) hp c s := rfl
theorem rn_irem : run ro call ((pc, .irem, xs) :: r) e ls (.int y :: .int x :: st) hp c s = if y = 0 then none else run ro call r e ls (.int (x - x / y * y) :: st) hp c s := rfl
theorem rn_ineg : run ro call ((pc, .ineg, xs) :: r) e ls (.int x :: st) hp c s = run ro call r e ls (.int (-x) :: st) hp c s := rfl
theorem rn_ishl : run ro call ((pc, .ishl, xs) :: r) e ls (.int y :: .int x :: st) hp c s = run ro call r e ls (.int (x <<< (y &&& 31)) :: st) hp c s := rfl
theorem rn_ishr : run ro call ((pc, .ishr, xs) :: r) e ls (.int y :: .int x :: st) hp c s = run ro call r e ls (.int (x >>> (y &&& 31)) :: st) hp c s := rfl
theorem rn_iand : run ro call ((pc, .iand, xs) :: r) e ls (.int y :: .int x :: st) hp c s = run ro call r e ls (.int (x &&& y) :: st) hp c s := rfl
theorem rn_ior : run ro call ((pc, .ior, xs) :: r) e ls (.int y :: .int x :: st) hp c s = run ro call r e ls (.int (x ||| y) :: st) hp c s := rfl
theorem rn_ixor : run ro call ((pc, .ixor, xs) :: r) e ls (.int y :: .int x :: st) hp c s = run ro call r e ls (.int (x ^^^ y) :: st) hp c s := rfl
theorem rn_i2c : run ro call ((pc, .i2c, xs) :: r) e ls (.int x :: st) hp c s = run ro call r e ls (.int (x.toUInt32 % 65536).toInt32 :: st) hp c s := rfl
theorem rn_dup : run ro call ((pc, .dup, xs) :: r) e ls (.int x :: st) hp c s = run ro call r e ls (.int x :: .int x :: st) hp c s := rfl
theorem rn_dupr : run ro call ((pc, .dup, xs) :: r) e ls (.ref j :: st) hp c s = run ro call r e ls (.ref j :: .ref j :: st) hp c s := rfl
theorem rn_dup2 : run ro call ((pc, .dup2, xs) :: r) e ls (.int y :: .ref j :: st) hp c s = run ro call r e ls (.int y :: .ref j :: .int y :: .ref j :: st) hp c s := rfl
theorem rn_pop : run ro call ((pc, .pop, xs) :: r) e ls (.int x :: st) hp c s = run ro call r e ls st hp c s := rfl
theorem rn_ifeq (o : Int) : run ro call ((pc, .ifCond .eq o, [j]) :: r) e ls (.int x :: st) hp c s = if x = 0 then some (.inl (j, ls, st, hp, c, s)) else run ro call r e ls st hp c s := rfl
theorem rn_ifne (o : Int) : run ro call ((pc, .ifCond .ne o, [j]) :: r) e ls (.int x :: st) hp c s = if x = 0 then run ro call r e ls st hp c s else some (.inl (j, ls, st, hp, c, s)) := rfl
theorem rn_iflt (o : Int) : run ro call ((pc, .ifCond .lt o, [j]) :: r) e ls (.int x :: st) hp c s = if x < 0 then some (.inl (j, ls, st, hp, c, s)) else run ro call r e ls st hp c s := rfl
theorem rn_ifge (o : Int) : run ro call ((pc, .ifCond .ge o, [j]) :: r) e ls (.int x :: st) hp c s = if x < 0 then run ro call r e ls st hp c s else some (.inl (j, ls, st, hp, c, s)) := rfl
theorem rn_ifgt (o : Int) : run ro call ((pc, .ifCond .gt o, [j]) :: r) e ls (.int x :: st) hp c s = if 0 < x then some (.inl (j, ls, st, hp, c, s)) else run ro call r e ls st hp c s := rfl
theorem rn_ifle (o : Int) : run ro call ((pc, .ifCond .le o, [j]) :: r) e ls (.int x :: st) hp c s = if 0 < x then run ro call r e ls st hp c s else some (.inl (j, ls, st, hp, c, s)) := rfl
theorem rn_iceq (o : Int) : run ro call ((pc, .if_icmp .eq o, [j]) :: r) e ls (.int y :: .int x :: st) hp c s = if x = y then some (.inl (j, ls, st, hp, c, s)) else run ro call r e ls st hp c s := rfl
theorem rn_icne (o : Int) : run ro call ((pc, .if_icmp .ne o, [j]) :: r) e ls (.int y :: .int x :: st) hp c s = if x = y then run ro call r e ls st hp c s else some (.inl (j, ls, st, hp, c, s)) := rfl
theorem rn_iclt (o : Int) : run ro call ((pc, .if_icmp .lt o, [j]) :: r) e ls (.int y :: .int x :: st) hp c s = if x < y then some (.inl (j, ls, st, hp, c, s)) else run ro call r e ls st hp c s := rfl
theorem rn_icge (o : Int) : run ro call ((pc, .if_icmp .ge o, [j]) :: r) e ls (.int y :: .int x :: st) hp c s = if x < y then run ro call r e ls st hp c s else some (.inl (j, ls, st, hp, c, s)) := rfl
theorem rn_icgt (o : Int) : run ro call ((pc, .if_icmp .gt o, [j]) :: r) e ls (.int y :: .int x :: st) hp c s = if y < x then some (.inl (j, ls, st, hp, c, s)) else run ro call r e ls st hp c s := rfl
theorem rn_icle (o : Int) : run ro call ((pc, .if_icmp .le o, [j]) :: r) e ls (.int y :: .int x :: st) hp c s = if y < x then run ro call r e ls st hp c s else some (.inl (j, ls, st, hp, c, s)) := rfl
theorem rn_nonnull (o : Int) (a : Nat) : run ro call ((pc, .ifnonnull o, [j]) :: r) e ls (.ref a :: st) hp c s = some (.inl (j, ls, st, hp, c, s)) := rfl
theorem rn_goto (o : Int) : run ro call ((pc, .goto o, [j]) :: r) e ls st hp c s = some (.inl (j, ls, st, hp, c, s)) := rfl
theorem rn_table (a lo b : Int) (os : Array Int) (ts : List Nat) : run ro call ((pc, .tableswitch a lo b os, j :: ts) :: r) e ls (.int x :: st) hp c s = some (.inl (tks lo ts j x, ls, st, hp, c, s)) := rfl
theorem rn_lookup (a : Int) (ps : List (Int × Int)) (ts : List Nat) : run ro call ((pc, .lookupswitch a ⟨ps⟩, j :: ts) :: r) e ls (.int x :: st) hp c s = some (.inl (lks ps ts j x, ls, st, hp, c, s)) := rfl
theorem rn_getf (i ci f t : Nat) : run ro call ((pc, .getfield i, [ci, f, t]) :: r) e ls (.ref j :: st) hp c s = go_o hp[j]? (fun c' vs => if c' = ci ∧ c' < NCl then gv vs[f]? (fun v => run ro call r e ls (v :: st) hp c s) else none) := rfl
theorem rn_putf (i ci f t : Nat) (v : Value) : run ro call ((pc, .putfield i, [ci, f, t]) :: r) e ls (v :: .ref j :: st) hp c s = go_o hp[j]? (fun c' vs => if c' = ci ∧ c' < NCl ∧ f < vs.length ∧ pok t v = true then run ro call r e ls st (hp.set j (.inr (c', vs.set f v))) c s else none) := rfl
theorem rn_gets0 (i : Nat) : run ro call ((pc, .getstatic i, [0]) :: r) e ls st hp c s = run ro call r e ls (.long 0 :: st) hp c s := rfl
theorem rn_gets1 (i : Nat) : run ro call ((pc, .getstatic i, [1]) :: r) e ls st hp c s = run ro call r e ls (.long 1 :: st) hp c s := rfl
theorem rn_iald : run ro call ((pc, .iaload, xs) :: r) e ls (.int x :: .ref j :: st) hp c s = go_a hp[j]? (fun t n f => if x < 0 ∨ n ≤ x.toNatClampNeg ∨ t ≠ 0 then none else run ro call r e ls (.int (f x.toNatClampNeg) :: st) hp c s) := rfl
theorem rn_ialr (a : Int64) : run ro call ((pc, .iaload, xs) :: r) e ls (.int x :: .long a :: st) hp c s = if x < 0 ∨ (ro a).1 ≤ x.toNatClampNeg then none else run ro call r e ls (.int ((ro a).2 x.toNatClampNeg) :: st) hp c s := rfl
theorem rn_iast : run ro call ((pc, .iastore, xs) :: r) e ls (.int y :: .int x :: .ref j :: st) hp c s = go_a hp[j]? (fun t n f => if x < 0 ∨ n ≤ x.toNatClampNeg ∨ t ≠ 0 then none else run ro call r e ls st (hp.set j (.inl (t, n, upd f x.toNatClampNeg y))) c s) := rfl
theorem rn_cald : run ro call ((pc, .caload, xs) :: r) e ls (.int x :: .ref j :: st) hp c s = go_a hp[j]? (fun t n f => if x < 0 ∨ n ≤ x.toNatClampNeg ∨ t ≠ 1 then none else run ro call r e ls (.int (f x.toNatClampNeg) :: st) hp c s) := rfl
theorem rn_cast : run ro call ((pc, .castore, xs) :: r) e ls (.int y :: .int x :: .ref j :: st) hp c s = go_a hp[j]? (fun t n f => if x < 0 ∨ n ≤ x.toNatClampNeg ∨ t ≠ 1 then none else run ro call r e ls st (hp.set j (.inl (t, n, upd f x.toNatClampNeg (vp_nar .char y)))) c s) := rfl
theorem rn_aald : run ro call ((pc, .aaload, xs) :: r) e ls (.int x :: .ref j :: st) hp c s = go_o hp[j]? (fun t vs => if x < 0 ∨ vs.length ≤ x.toNatClampNeg ∨ t ≠ NCl then none else gr vs[x.toNatClampNeg]? (fun v => run ro call r e ls (.ref v :: st) hp c s)) := rfl
theorem rn_aast (v : Nat) : run ro call ((pc, .aastore, xs) :: r) e ls (.ref v :: .int x :: .ref j :: st) hp c s = go_o hp[j]? (fun t vs => if x < 0 ∨ vs.length ≤ x.toNatClampNeg ∨ t ≠ NCl ∨ hasC 4 hp v = false then none else run ro call r e ls st (hp.set j (.inr (t, vs.set x.toNatClampNeg (.ref v)))) c s) := rfl
theorem rn_alen (a : Int64) : run ro call ((pc, .arraylength, xs) :: r) e ls (.long a :: st) hp c s = if (ro a).1 = 0 then none else run ro call r e ls (.int (Int32.ofNat (ro a).1) :: st) hp c s := rfl
theorem rn_newa (ty : ArrayType) (t mcL msL : Nat) : run ro call ((pc, .newarray ty, [t, mcL, msL]) :: r) e ls (.int x :: st) hp c s = if x < 0 ∨ 100000 < x.toNatClampNeg ∨ mcL < c + 1 ∨ msL < s + x.toNatClampNeg ∨ clo hp.length (ls ++ st) hp = false then none else run ro call r e ls (.ref hp.length :: st) (hp ++ [.inl (t, x.toNatClampNeg, fun _ => 0)]) (c + 1) (s + x.toNatClampNeg) := rfl
theorem rn_anew (i mcL msL : Nat) : run ro call ((pc, .anewarray i, [mcL, msL]) :: r) e ls (.int x :: st) hp c s = if x < 0 ∨ 100000 < x.toNatClampNeg ∨ mcL < c + 1 ∨ msL < s + x.toNatClampNeg ∨ clo hp.length (ls ++ st) hp = false then none else run ro call r e ls (.ref hp.length :: st) (hp ++ [.inr (NCl, List.replicate x.toNatClampNeg .null)]) (c + 1) (s + x.toNatClampNeg) := rfl
theorem rn_new (i ci N mcL msL : Nat) : run ro call ((pc, .new i, [ci, N, mcL, msL]) :: r) e ls st hp c s = if mcL < c + 1 ∨ msL < s + N ∨ clo hp.length (ls ++ st) hp = false then none else run ro call r e ls (.ref hp.length :: st) (hp ++ [.inr (ci, dfl ci)]) (c + 1) (s + N) := rfl
theorem rn_v0 (i q n1 n2 cn t : Nat) : run ro call ((pc, .invokevirtual i, [q, 0, n1, n2, cn, 0, 0, 0, 0, t]) :: r) e ls (.ref j :: st) hp 0 0 = if 8 < st.length ∨ hasC cn hp j = false then none else gc (cal call q n1 n2 [.ref j] (ls ++ st) hp) (fun h => run ro call r e ls st h 0 0) (fun v h => run ro call r e ls (.int v :: st) h 0 0) := by
  show (if 8 < st.length ∨ 0 < 0 ∨ 0 < 0 ∨ hasC cn hp j = false then none else gc (cal call q n1 n2 [.ref j] (ls ++ st) hp) (fun h => run ro call r e ls st h 0 0) (fun v h => run ro call r e ls (.int v :: st) h 0 0)) = _
  simp only [Nat.lt_irrefl, false_or]
theorem rn_v1 (i q n1 n2 cn t : Nat) (v1 : Value) : run ro call ((pc, .invokevirtual i, [q, 1, n1, n2, cn, 0, 0, 0, 0, t]) :: r) e ls (v1 :: .ref j :: st) hp 0 0 = if 8 < st.length ∨ hasC cn hp j = false then none else gc (cal call q n1 n2 [.ref j, v1] (ls ++ st) hp) (fun h => run ro call r e ls st h 0 0) (fun v h => run ro call r e ls (.int v :: st) h 0 0) := by
  show (if 8 < st.length ∨ 0 < 0 ∨ 0 < 0 ∨ hasC cn hp j = false then none else gc (cal call q n1 n2 [.ref j, v1] (ls ++ st) hp) (fun h => run ro call r e ls st h 0 0) (fun v h => run ro call r e ls (.int v :: st) h 0 0)) = _
  simp only [Nat.lt_irrefl, false_or]
theorem rn_v2 (i q n1 n2 cn t : Nat) (v1 v2 : Value) : run ro call ((pc, .invokevirtual i, [q, 2, n1, n2, cn, 0, 0, 0, 0, t]) :: r) e ls (v2 :: v1 :: .ref j :: st) hp 0 0 = if 8 < st.length ∨ hasC cn hp j = false then none else gc (cal call q n1 n2 [.ref j, v1, v2] (ls ++ st) hp) (fun h => run ro call r e ls st h 0 0) (fun v h => run ro call r e ls (.int v :: st) h 0 0) := by
  show (if 8 < st.length ∨ 0 < 0 ∨ 0 < 0 ∨ hasC cn hp j = false then none else gc (cal call q n1 n2 [.ref j, v1, v2] (ls ++ st) hp) (fun h => run ro call r e ls st h 0 0) (fun v h => run ro call r e ls (.int v :: st) h 0 0)) = _
  simp only [Nat.lt_irrefl, false_or]
theorem rn_v3 (i q n1 n2 cn t : Nat) (v1 v2 v3 : Value) : run ro call ((pc, .invokevirtual i, [q, 3, n1, n2, cn, 0, 0, 0, 0, t]) :: r) e ls (v3 :: v2 :: v1 :: .ref j :: st) hp 0 0 = if 8 < st.length ∨ hasC cn hp j = false then none else gc (cal call q n1 n2 [.ref j, v1, v2, v3] (ls ++ st) hp) (fun h => run ro call r e ls st h 0 0) (fun v h => run ro call r e ls (.int v :: st) h 0 0) := by
  show (if 8 < st.length ∨ 0 < 0 ∨ 0 < 0 ∨ hasC cn hp j = false then none else gc (cal call q n1 n2 [.ref j, v1, v2, v3] (ls ++ st) hp) (fun h => run ro call r e ls st h 0 0) (fun v h => run ro call r e ls (.int v :: st) h 0 0)) = _
  simp only [Nat.lt_irrefl, false_or]
theorem rn_v4 (i q n1 n2 cn t : Nat) (v1 v2 v3 v4 : Value) : run ro call ((pc, .invokevirtual i, [q, 4, n1, n2, cn, 0, 0, 0, 0, t]) :: r) e ls (v4 :: v3 :: v2 :: v1 :: .ref j :: st) hp 0 0 = if 8 < st.length ∨ hasC cn hp j = false then none else gc (cal call q n1 n2 [.ref j, v1, v2, v3, v4] (ls ++ st) hp) (fun h => run ro call r e ls st h 0 0) (fun v h => run ro call r e ls (.int v :: st) h 0 0) := by
  show (if 8 < st.length ∨ 0 < 0 ∨ 0 < 0 ∨ hasC cn hp j = false then none else gc (cal call q n1 n2 [.ref j, v1, v2, v3, v4] (ls ++ st) hp) (fun h => run ro call r e ls st h 0 0) (fun v h => run ro call r e ls (.int v :: st) h 0 0)) = _
  simp only [Nat.lt_irrefl, false_or]
theorem rn_s1 (i q n1 n2 cn t : Nat) (v1 : Value) : run ro call ((pc, .invokestatic i, [q, 1, n1, n2, cn, 0, 0, 0, 0, t]) :: r) e ls (v1 :: st) hp 0 0 = if 8 < st.length then none else gc (cal call q n1 n2 [v1] (ls ++ st) hp) (fun h => run ro call r e ls st h 0 0) (fun v h => run ro call r e ls (.int v :: st) h 0 0) := by
  have hl : ¬ st.length + 1 < 1 := by omega
  show (if 8 < st.length ∨ 0 < 0 ∨ 0 < 0 then none else if st.length + 1 < 1 then none else gc (cal call q n1 n2 [v1] (ls ++ st) hp) (fun h => run ro call r e ls st h 0 0) (fun v h => run ro call r e ls (.int v :: st) h 0 0)) = _
  simp only [Nat.lt_irrefl, or_false, if_neg hl]
theorem rn_s2 (i q n1 n2 cn t : Nat) (v1 v2 : Value) : run ro call ((pc, .invokestatic i, [q, 2, n1, n2, cn, 0, 0, 0, 0, t]) :: r) e ls (v2 :: v1 :: st) hp 0 0 = if 8 < st.length then none else gc (cal call q n1 n2 [v1, v2] (ls ++ st) hp) (fun h => run ro call r e ls st h 0 0) (fun v h => run ro call r e ls (.int v :: st) h 0 0) := by
  have hl : ¬ st.length + 2 < 2 := by omega
  show (if 8 < st.length ∨ 0 < 0 ∨ 0 < 0 then none else if st.length + 2 < 2 then none else gc (cal call q n1 n2 [v1, v2] (ls ++ st) hp) (fun h => run ro call r e ls st h 0 0) (fun v h => run ro call r e ls (.int v :: st) h 0 0)) = _
  simp only [Nat.lt_irrefl, or_false, if_neg hl]
theorem rn_s3 (i q n1 n2 cn t : Nat) (v1 v2 v3 : Value) : run ro call ((pc, .invokestatic i, [q, 3, n1, n2, cn, 0, 0, 0, 0, t]) :: r) e ls (v3 :: v2 :: v1 :: st) hp 0 0 = if 8 < st.length then none else gc (cal call q n1 n2 [v1, v2, v3] (ls ++ st) hp) (fun h => run ro call r e ls st h 0 0) (fun v h => run ro call r e ls (.int v :: st) h 0 0) := by
  have hl : ¬ st.length + 3 < 3 := by omega
  show (if 8 < st.length ∨ 0 < 0 ∨ 0 < 0 then none else if st.length + 3 < 3 then none else gc (cal call q n1 n2 [v1, v2, v3] (ls ++ st) hp) (fun h => run ro call r e ls st h 0 0) (fun v h => run ro call r e ls (.int v :: st) h 0 0)) = _
  simp only [Nat.lt_irrefl, or_false, if_neg hl]
def gn (v : Option Rs) (f : List AE → Option (Cf ⊕ Rs)) : Option (Cf ⊕ Rs) := match v with
  | some (none, h) => f h
  | _ => none
theorem gn_n (h : List AE) (f : List AE → Option (Cf ⊕ Rs)) : gn (some (none, h)) f = f h := rfl
theorem rn_init (i q n1 n2 cn mc ms mcL msL t : Nat) : run ro call ((pc, .invokespecial i, [q, 0, n1, n2, cn, mc, ms, mcL, msL, t]) :: r) e ls (.ref j :: st) hp c s = if 8 < st.length ∨ mcL < c + mc ∨ msL < s + ms then none else gn (cal call q n1 n2 [.ref j] (ls ++ st) hp) (fun h => run ro call r e ls st h (c + mc) (s + ms)) := rfl
theorem rn_oinit (i : Nat) : run ro call ((pc, .invokespecial i, []) :: r) e ls (.ref j :: st) hp c s = if 8 < st.length then none else run ro call r e ls st hp c s := rfl
theorem rn_max (i : Nat) : run ro call ((pc, .invokestatic i, [0]) :: r) e ls (.int y :: .int x :: st) hp c s = if 8 < st.length then none else run ro call r e ls (.int (if x < y then y else x) :: st) hp c s := rfl
theorem rn_min (i : Nat) : run ro call ((pc, .invokestatic i, [1]) :: r) e ls (.int y :: .int x :: st) hp c s = if 8 < st.length then none else run ro call r e ls (.int (if y < x then y else x) :: st) hp c s := rfl
theorem rn_copy (i : Nat) (n dp sp : Int32) (a b : Nat) : run ro call ((pc, .invokestatic i, [2]) :: r) e ls (.int n :: .int dp :: .ref b :: .int sp :: .ref a :: st) hp c s = go_a hp[a]? (fun t n0 f => go_a hp[b]? (fun t' n1 g => if 8 < st.length ∨ sp < 0 ∨ dp < 0 ∨ n < 0 ∨ n0 < sp.toNatClampNeg + n.toNatClampNeg ∨ n1 < dp.toNatClampNeg + n.toNatClampNeg ∨ t ≠ 0 ∨ t' ≠ 0 then none else run ro call r e ls st (hp.set b (.inl (t', n1, va_cpy f g sp.toNatClampNeg dp.toNatClampNeg n.toNatClampNeg))) c s)) := by
  simp only [run]
  cases h : hp[a]? with
  | none => rfl
  | some x => cases x with
    | inr y => rfl
    | inl y => cases h2 : hp[b]? with
      | none => rfl
      | some z => cases z with
        | inr w => rfl
        | inl w => rfl
theorem rn_iret (t : Nat) : run ro call ((pc, .ireturn, [t]) :: r) e ls [.int x] hp c s = if t = 0 ∨ x = 0 ∨ x = 1 then some (.inr (some (.int x), hp)) else none := rfl
theorem rn_ret : run ro call ((pc, .return_, xs) :: r) e ls [] hp c s = some (.inr (none, hp)) := rfl
end ROWS
