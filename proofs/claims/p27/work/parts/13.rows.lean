
/-! THE MACHINE'S ROWS, one an instruction -/
def gi (v : Option Value) (f : Int32 → Option (Cf ⊕ Rs)) : Option (Cf ⊕ Rs) := match v with
  | some (.int x) => f x
  | _ => none
theorem gi_i (x : Int32) (f : Int32 → Option (Cf ⊕ Rs)) : gi (some (.int x)) f = f x := rfl
def ga (v : Option Value) (f : Value → Option (Cf ⊕ Rs)) : Option (Cf ⊕ Rs) := match v with
  | some (.ref x) => f (.ref x)
  | some (.long x) => f (.long x)
  | _ => none
theorem ga_r (x : Nat) (f : Value → Option (Cf ⊕ Rs)) : ga (some (.ref x)) f = f (.ref x) := rfl
theorem ga_l (x : Int64) (f : Value → Option (Cf ⊕ Rs)) : ga (some (.long x)) f = f (.long x) := rfl
def gr (v : Option Value) (f : Nat → Option (Cf ⊕ Rs)) : Option (Cf ⊕ Rs) := match v with
  | some (.ref x) => f x
  | _ => none
theorem gr_r (x : Nat) (f : Nat → Option (Cf ⊕ Rs)) : gr (some (.ref x)) f = f x := rfl
def gv (v : Option Value) (f : Value → Option (Cf ⊕ Rs)) : Option (Cf ⊕ Rs) := match v with
  | some x => f x
  | none => none
theorem gv_s (x : Value) (f : Value → Option (Cf ⊕ Rs)) : gv (some x) f = f x := rfl
def go_o (v : Option AE) (f : Nat → List Value → Option (Cf ⊕ Rs)) : Option (Cf ⊕ Rs) := match v with
  | some (.inr (c, vs)) => f c vs
  | _ => none
theorem go_oo (c : Nat) (vs : List Value) (f : Nat → List Value → Option (Cf ⊕ Rs)) : go_o (some (.inr (c, vs))) f = f c vs := rfl
def go_a (v : Option AE) (f : Nat → Nat → (Nat → Int32) → Option (Cf ⊕ Rs)) : Option (Cf ⊕ Rs) := match v with
  | some (.inl (t, n, g)) => f t n g
  | _ => none
theorem go_aa (t n : Nat) (g : Nat → Int32) (f : Nat → Nat → (Nat → Int32) → Option (Cf ⊕ Rs)) : go_a (some (.inl (t, n, g))) f = f t n g := rfl
def gc (v : Option Rs) (f : List AE → Option (Cf ⊕ Rs)) (g : Int32 → List AE → Option (Cf ⊕ Rs)) : Option (Cf ⊕ Rs) := match v with
  | some (none, h) => f h
  | some (some (.int v), h) => g v h
  | _ => none
theorem gc_n (h : List AE) (f : List AE → Option (Cf ⊕ Rs)) (g : Int32 → List AE → Option (Cf ⊕ Rs)) : gc (some (none, h)) f g = f h := rfl
theorem gc_i (x : Int32) (h : List AE) (f : List AE → Option (Cf ⊕ Rs)) (g : Int32 → List AE → Option (Cf ⊕ Rs)) : gc (some (some (.int x), h)) f g = g x h := rfl
theorem gc_ite (p : Prop) [q : Decidable p] (a b : Option Rs) (f : List AE → Option (Cf ⊕ Rs)) (g : Int32 → List AE → Option (Cf ⊕ Rs)) : gc (if p then a else b) f g = if p then gc a f g else gc b f g := by
  cases q <;> rfl
def gn (v : Option Rs) (f : List AE → Option (Cf ⊕ Rs)) : Option (Cf ⊕ Rs) := match v with
  | some (none, h) => f h
  | _ => none
theorem gn_n (h : List AE) (f : List AE → Option (Cf ⊕ Rs)) : gn (some (none, h)) f = f h := rfl
def hgv (v : Option Value) (ro : RO) (call : CL) (r : List Op) (e : Nat) (ls st : List Value) (hp : List AE) (c s : Nat) : Option (Cf ⊕ Rs) := gv v (fun v => run ro call r e ls (v :: st) hp c s)
def hgf (v : Option AE) (ci f : Nat) (ro : RO) (call : CL) (r : List Op) (e : Nat) (ls st : List Value) (hp : List AE) (c s : Nat) : Option (Cf ⊕ Rs) := go_o v (fun c' vs => if c' = ci ∧ c' < NCl then hgv vs[f]? ro call r e ls st hp c s else none)
def hpf (w : Option AE) (j ci f t : Nat) (v : Value) (ro : RO) (call : CL) (r : List Op) (e : Nat) (ls st : List Value) (hp : List AE) (c s : Nat) : Option (Cf ⊕ Rs) := go_o w (fun c' vs => if c' = ci ∧ c' < NCl ∧ f < vs.length ∧ pok t v = true then run ro call r e ls st (hp.set j (.inr (c', vs.set f v))) c s else none)
def hil (w : Option AE) (x : Int32) (z : Nat) (ro : RO) (call : CL) (r : List Op) (e : Nat) (ls st : List Value) (hp : List AE) (c s : Nat) : Option (Cf ⊕ Rs) := go_a w (fun t n f => if x < 0 ∨ n ≤ x.toNatClampNeg ∨ t ≠ z then none else run ro call r e ls (.int (f x.toNatClampNeg) :: st) hp c s)
def his (w : Option AE) (j : Nat) (x y : Int32) (z : Nat) (ro : RO) (call : CL) (r : List Op) (e : Nat) (ls st : List Value) (hp : List AE) (c s : Nat) : Option (Cf ⊕ Rs) := go_a w (fun t n f => if x < 0 ∨ n ≤ x.toNatClampNeg ∨ t ≠ z then none else run ro call r e ls st (hp.set j (.inl (t, n, upd f x.toNatClampNeg y))) c s)
def hal (w : Option AE) (x : Int32) (ro : RO) (call : CL) (r : List Op) (e : Nat) (ls st : List Value) (hp : List AE) (c s : Nat) : Option (Cf ⊕ Rs) := go_o w (fun t vs => if x < 0 ∨ vs.length ≤ x.toNatClampNeg ∨ t ≠ NCl then none else gr vs[x.toNatClampNeg]? (fun v => run ro call r e ls (.ref v :: st) hp c s))
def has (w : Option AE) (j : Nat) (x : Int32) (v : Nat) (ro : RO) (call : CL) (r : List Op) (e : Nat) (ls st : List Value) (hp : List AE) (c s : Nat) : Option (Cf ⊕ Rs) := go_o w (fun t vs => if x < 0 ∨ vs.length ≤ x.toNatClampNeg ∨ t ≠ NCl ∨ hasC 4 hp v = false then none else run ro call r e ls st (hp.set j (.inr (t, vs.set x.toNatClampNeg (.ref v)))) c s)
def hcl (v : Option Rs) (ro : RO) (call : CL) (r : List Op) (e : Nat) (ls st : List Value) : Option (Cf ⊕ Rs) := gc v (fun h => run ro call r e ls st h 0 0) (fun v h => run ro call r e ls (.int v :: st) h 0 0)
def hci (v : Option Rs) (ro : RO) (call : CL) (r : List Op) (e : Nat) (ls st : List Value) (c s : Nat) : Option (Cf ⊕ Rs) := gn v (fun h => run ro call r e ls st h c s)
def hcp (w1 w2 : Option AE) (b : Nat) (n dp sp : Int32) (ro : RO) (call : CL) (r : List Op) (e : Nat) (ls st : List Value) (hp : List AE) (c s : Nat) : Option (Cf ⊕ Rs) := go_a w1 (fun t n0 f => go_a w2 (fun t' n1 g => if 8 < sw st ∨ sp < 0 ∨ dp < 0 ∨ n < 0 ∨ n0 < sp.toNatClampNeg + n.toNatClampNeg ∨ n1 < dp.toNatClampNeg + n.toNatClampNeg ∨ t ≠ 0 ∨ t' ≠ 0 then none else run ro call r e ls st (hp.set b (.inl (t', n1, va_cpy f g sp.toNatClampNeg dp.toNatClampNeg n.toNatClampNeg))) c s))
section ROWS
variable (ro : RO) (call : CL) (pc : Nat) (xs : List Nat) (r : List Op) (e : Nat) (ls st : List Value) (hp : List AE) (c s : Nat) (x y : Int32) (j : Nat)
theorem rn_end : run ro call [] e ls st hp c s = some (.inl (e, ls, st, hp, c, s)) := rfl
theorem rn_iconst (n : Int) : run ro call ((pc, .iconst n, [j]) :: r) e ls st hp c s = run ro call r e ls (.int (nI j) :: st) hp c s := rfl
theorem rn_iconstN (n : Int) : run ro call ((pc, .iconst n, []) :: r) e ls st hp c s = run ro call r e ls (.int (Int32.ofInt n) :: st) hp c s := rfl
theorem rn_bipush (n : Int) : run ro call ((pc, .bipush n, [j]) :: r) e ls st hp c s = run ro call r e ls (.int (nI j) :: st) hp c s := rfl
theorem rn_bipushN (n : Int) : run ro call ((pc, .bipush n, []) :: r) e ls st hp c s = run ro call r e ls (.int (Int32.ofInt n) :: st) hp c s := rfl
theorem rn_sipush (n : Int) : run ro call ((pc, .sipush n, [j]) :: r) e ls st hp c s = run ro call r e ls (.int (nI j) :: st) hp c s := rfl
theorem rn_sipushN (n : Int) : run ro call ((pc, .sipush n, []) :: r) e ls st hp c s = run ro call r e ls (.int (Int32.ofInt n) :: st) hp c s := rfl
theorem rn_iload0 (n : Nat) : run ro call ((pc, .iload n, [0]) :: r) e (.int x :: ls) st hp c s = run ro call r e (.int x :: ls) (.int x :: st) hp c s := rfl
theorem rn_iload1 (n : Nat) (u0 : Value) : run ro call ((pc, .iload n, [1]) :: r) e (u0 :: .int x :: ls) st hp c s = run ro call r e (u0 :: .int x :: ls) (.int x :: st) hp c s := rfl
theorem rn_iload2 (n : Nat) (u0 u1 : Value) : run ro call ((pc, .iload n, [2]) :: r) e (u0 :: u1 :: .int x :: ls) st hp c s = run ro call r e (u0 :: u1 :: .int x :: ls) (.int x :: st) hp c s := rfl
theorem rn_iload3 (n : Nat) (u0 u1 u2 : Value) : run ro call ((pc, .iload n, [3]) :: r) e (u0 :: u1 :: u2 :: .int x :: ls) st hp c s = run ro call r e (u0 :: u1 :: u2 :: .int x :: ls) (.int x :: st) hp c s := rfl
theorem rn_iload4 (n : Nat) (u0 u1 u2 u3 : Value) : run ro call ((pc, .iload n, [4]) :: r) e (u0 :: u1 :: u2 :: u3 :: .int x :: ls) st hp c s = run ro call r e (u0 :: u1 :: u2 :: u3 :: .int x :: ls) (.int x :: st) hp c s := rfl
theorem rn_iload5 (n : Nat) (u0 u1 u2 u3 u4 : Value) : run ro call ((pc, .iload n, [5]) :: r) e (u0 :: u1 :: u2 :: u3 :: u4 :: .int x :: ls) st hp c s = run ro call r e (u0 :: u1 :: u2 :: u3 :: u4 :: .int x :: ls) (.int x :: st) hp c s := rfl
theorem rn_iload6 (n : Nat) (u0 u1 u2 u3 u4 u5 : Value) : run ro call ((pc, .iload n, [6]) :: r) e (u0 :: u1 :: u2 :: u3 :: u4 :: u5 :: .int x :: ls) st hp c s = run ro call r e (u0 :: u1 :: u2 :: u3 :: u4 :: u5 :: .int x :: ls) (.int x :: st) hp c s := rfl
theorem rn_iload7 (n : Nat) (u0 u1 u2 u3 u4 u5 u6 : Value) : run ro call ((pc, .iload n, [7]) :: r) e (u0 :: u1 :: u2 :: u3 :: u4 :: u5 :: u6 :: .int x :: ls) st hp c s = run ro call r e (u0 :: u1 :: u2 :: u3 :: u4 :: u5 :: u6 :: .int x :: ls) (.int x :: st) hp c s := rfl
theorem rn_iload_n0 (n : Fin 4) : run ro call ((pc, .iload_n n, [0]) :: r) e (.int x :: ls) st hp c s = run ro call r e (.int x :: ls) (.int x :: st) hp c s := rfl
theorem rn_iload_n1 (n : Fin 4) (u0 : Value) : run ro call ((pc, .iload_n n, [1]) :: r) e (u0 :: .int x :: ls) st hp c s = run ro call r e (u0 :: .int x :: ls) (.int x :: st) hp c s := rfl
theorem rn_iload_n2 (n : Fin 4) (u0 u1 : Value) : run ro call ((pc, .iload_n n, [2]) :: r) e (u0 :: u1 :: .int x :: ls) st hp c s = run ro call r e (u0 :: u1 :: .int x :: ls) (.int x :: st) hp c s := rfl
theorem rn_iload_n3 (n : Fin 4) (u0 u1 u2 : Value) : run ro call ((pc, .iload_n n, [3]) :: r) e (u0 :: u1 :: u2 :: .int x :: ls) st hp c s = run ro call r e (u0 :: u1 :: u2 :: .int x :: ls) (.int x :: st) hp c s := rfl
theorem rn_iload_n4 (n : Fin 4) (u0 u1 u2 u3 : Value) : run ro call ((pc, .iload_n n, [4]) :: r) e (u0 :: u1 :: u2 :: u3 :: .int x :: ls) st hp c s = run ro call r e (u0 :: u1 :: u2 :: u3 :: .int x :: ls) (.int x :: st) hp c s := rfl
theorem rn_iload_n5 (n : Fin 4) (u0 u1 u2 u3 u4 : Value) : run ro call ((pc, .iload_n n, [5]) :: r) e (u0 :: u1 :: u2 :: u3 :: u4 :: .int x :: ls) st hp c s = run ro call r e (u0 :: u1 :: u2 :: u3 :: u4 :: .int x :: ls) (.int x :: st) hp c s := rfl
theorem rn_iload_n6 (n : Fin 4) (u0 u1 u2 u3 u4 u5 : Value) : run ro call ((pc, .iload_n n, [6]) :: r) e (u0 :: u1 :: u2 :: u3 :: u4 :: u5 :: .int x :: ls) st hp c s = run ro call r e (u0 :: u1 :: u2 :: u3 :: u4 :: u5 :: .int x :: ls) (.int x :: st) hp c s := rfl
theorem rn_iload_n7 (n : Fin 4) (u0 u1 u2 u3 u4 u5 u6 : Value) : run ro call ((pc, .iload_n n, [7]) :: r) e (u0 :: u1 :: u2 :: u3 :: u4 :: u5 :: u6 :: .int x :: ls) st hp c s = run ro call r e (u0 :: u1 :: u2 :: u3 :: u4 :: u5 :: u6 :: .int x :: ls) (.int x :: st) hp c s := rfl
theorem rn_aload_n0 (n : Fin 4) : run ro call ((pc, .aload_n n, [0]) :: r) e (.ref j :: ls) st hp c s = run ro call r e (.ref j :: ls) (.ref j :: st) hp c s := rfl
theorem rn_aload_nL0 (n : Fin 4) (a : Int64) : run ro call ((pc, .aload_n n, [0]) :: r) e (.long a :: ls) st hp c s = run ro call r e (.long a :: ls) (.long a :: st) hp c s := rfl
theorem rn_aload_n1 (n : Fin 4) (u0 : Value) : run ro call ((pc, .aload_n n, [1]) :: r) e (u0 :: .ref j :: ls) st hp c s = run ro call r e (u0 :: .ref j :: ls) (.ref j :: st) hp c s := rfl
theorem rn_aload_nL1 (n : Fin 4) (a : Int64) (u0 : Value) : run ro call ((pc, .aload_n n, [1]) :: r) e (u0 :: .long a :: ls) st hp c s = run ro call r e (u0 :: .long a :: ls) (.long a :: st) hp c s := rfl
theorem rn_aload_n2 (n : Fin 4) (u0 u1 : Value) : run ro call ((pc, .aload_n n, [2]) :: r) e (u0 :: u1 :: .ref j :: ls) st hp c s = run ro call r e (u0 :: u1 :: .ref j :: ls) (.ref j :: st) hp c s := rfl
theorem rn_aload_nL2 (n : Fin 4) (a : Int64) (u0 u1 : Value) : run ro call ((pc, .aload_n n, [2]) :: r) e (u0 :: u1 :: .long a :: ls) st hp c s = run ro call r e (u0 :: u1 :: .long a :: ls) (.long a :: st) hp c s := rfl
theorem rn_aload_n3 (n : Fin 4) (u0 u1 u2 : Value) : run ro call ((pc, .aload_n n, [3]) :: r) e (u0 :: u1 :: u2 :: .ref j :: ls) st hp c s = run ro call r e (u0 :: u1 :: u2 :: .ref j :: ls) (.ref j :: st) hp c s := rfl
theorem rn_aload_nL3 (n : Fin 4) (a : Int64) (u0 u1 u2 : Value) : run ro call ((pc, .aload_n n, [3]) :: r) e (u0 :: u1 :: u2 :: .long a :: ls) st hp c s = run ro call r e (u0 :: u1 :: u2 :: .long a :: ls) (.long a :: st) hp c s := rfl
theorem rn_istore0 (n : Nat) (w : Value) : run ro call ((pc, .istore n, [0]) :: r) e (w :: ls) (.int x :: st) hp c s = run ro call r e (.int x :: ls) st hp c s := by
  show (if 0 < (w :: ls).length then run ro call r e (.int x :: ls) st hp c s else none) = _
  exact if_pos (by simp only [List.length_cons]; omega)
theorem rn_istore1 (n : Nat) (u0 : Value) (w : Value) : run ro call ((pc, .istore n, [1]) :: r) e (u0 :: w :: ls) (.int x :: st) hp c s = run ro call r e (u0 :: .int x :: ls) st hp c s := by
  show (if 1 < (u0 :: w :: ls).length then run ro call r e (u0 :: .int x :: ls) st hp c s else none) = _
  exact if_pos (by simp only [List.length_cons]; omega)
theorem rn_istore2 (n : Nat) (u0 u1 : Value) (w : Value) : run ro call ((pc, .istore n, [2]) :: r) e (u0 :: u1 :: w :: ls) (.int x :: st) hp c s = run ro call r e (u0 :: u1 :: .int x :: ls) st hp c s := by
  show (if 2 < (u0 :: u1 :: w :: ls).length then run ro call r e (u0 :: u1 :: .int x :: ls) st hp c s else none) = _
  exact if_pos (by simp only [List.length_cons]; omega)
theorem rn_istore3 (n : Nat) (u0 u1 u2 : Value) (w : Value) : run ro call ((pc, .istore n, [3]) :: r) e (u0 :: u1 :: u2 :: w :: ls) (.int x :: st) hp c s = run ro call r e (u0 :: u1 :: u2 :: .int x :: ls) st hp c s := by
  show (if 3 < (u0 :: u1 :: u2 :: w :: ls).length then run ro call r e (u0 :: u1 :: u2 :: .int x :: ls) st hp c s else none) = _
  exact if_pos (by simp only [List.length_cons]; omega)
theorem rn_istore4 (n : Nat) (u0 u1 u2 u3 : Value) (w : Value) : run ro call ((pc, .istore n, [4]) :: r) e (u0 :: u1 :: u2 :: u3 :: w :: ls) (.int x :: st) hp c s = run ro call r e (u0 :: u1 :: u2 :: u3 :: .int x :: ls) st hp c s := by
  show (if 4 < (u0 :: u1 :: u2 :: u3 :: w :: ls).length then run ro call r e (u0 :: u1 :: u2 :: u3 :: .int x :: ls) st hp c s else none) = _
  exact if_pos (by simp only [List.length_cons]; omega)
theorem rn_istore5 (n : Nat) (u0 u1 u2 u3 u4 : Value) (w : Value) : run ro call ((pc, .istore n, [5]) :: r) e (u0 :: u1 :: u2 :: u3 :: u4 :: w :: ls) (.int x :: st) hp c s = run ro call r e (u0 :: u1 :: u2 :: u3 :: u4 :: .int x :: ls) st hp c s := by
  show (if 5 < (u0 :: u1 :: u2 :: u3 :: u4 :: w :: ls).length then run ro call r e (u0 :: u1 :: u2 :: u3 :: u4 :: .int x :: ls) st hp c s else none) = _
  exact if_pos (by simp only [List.length_cons]; omega)
theorem rn_istore6 (n : Nat) (u0 u1 u2 u3 u4 u5 : Value) (w : Value) : run ro call ((pc, .istore n, [6]) :: r) e (u0 :: u1 :: u2 :: u3 :: u4 :: u5 :: w :: ls) (.int x :: st) hp c s = run ro call r e (u0 :: u1 :: u2 :: u3 :: u4 :: u5 :: .int x :: ls) st hp c s := by
  show (if 6 < (u0 :: u1 :: u2 :: u3 :: u4 :: u5 :: w :: ls).length then run ro call r e (u0 :: u1 :: u2 :: u3 :: u4 :: u5 :: .int x :: ls) st hp c s else none) = _
  exact if_pos (by simp only [List.length_cons]; omega)
theorem rn_istore7 (n : Nat) (u0 u1 u2 u3 u4 u5 u6 : Value) (w : Value) : run ro call ((pc, .istore n, [7]) :: r) e (u0 :: u1 :: u2 :: u3 :: u4 :: u5 :: u6 :: w :: ls) (.int x :: st) hp c s = run ro call r e (u0 :: u1 :: u2 :: u3 :: u4 :: u5 :: u6 :: .int x :: ls) st hp c s := by
  show (if 7 < (u0 :: u1 :: u2 :: u3 :: u4 :: u5 :: u6 :: w :: ls).length then run ro call r e (u0 :: u1 :: u2 :: u3 :: u4 :: u5 :: u6 :: .int x :: ls) st hp c s else none) = _
  exact if_pos (by simp only [List.length_cons]; omega)
theorem rn_istore_n0 (n : Fin 4) (w : Value) : run ro call ((pc, .istore_n n, [0]) :: r) e (w :: ls) (.int x :: st) hp c s = run ro call r e (.int x :: ls) st hp c s := by
  show (if 0 < (w :: ls).length then run ro call r e (.int x :: ls) st hp c s else none) = _
  exact if_pos (by simp only [List.length_cons]; omega)
theorem rn_istore_n1 (n : Fin 4) (u0 : Value) (w : Value) : run ro call ((pc, .istore_n n, [1]) :: r) e (u0 :: w :: ls) (.int x :: st) hp c s = run ro call r e (u0 :: .int x :: ls) st hp c s := by
  show (if 1 < (u0 :: w :: ls).length then run ro call r e (u0 :: .int x :: ls) st hp c s else none) = _
  exact if_pos (by simp only [List.length_cons]; omega)
theorem rn_istore_n2 (n : Fin 4) (u0 u1 : Value) (w : Value) : run ro call ((pc, .istore_n n, [2]) :: r) e (u0 :: u1 :: w :: ls) (.int x :: st) hp c s = run ro call r e (u0 :: u1 :: .int x :: ls) st hp c s := by
  show (if 2 < (u0 :: u1 :: w :: ls).length then run ro call r e (u0 :: u1 :: .int x :: ls) st hp c s else none) = _
  exact if_pos (by simp only [List.length_cons]; omega)
theorem rn_istore_n3 (n : Fin 4) (u0 u1 u2 : Value) (w : Value) : run ro call ((pc, .istore_n n, [3]) :: r) e (u0 :: u1 :: u2 :: w :: ls) (.int x :: st) hp c s = run ro call r e (u0 :: u1 :: u2 :: .int x :: ls) st hp c s := by
  show (if 3 < (u0 :: u1 :: u2 :: w :: ls).length then run ro call r e (u0 :: u1 :: u2 :: .int x :: ls) st hp c s else none) = _
  exact if_pos (by simp only [List.length_cons]; omega)
theorem rn_astore_n0 (n : Fin 4) (w : Value) : run ro call ((pc, .astore_n n, [0]) :: r) e (w :: ls) (.ref j :: st) hp c s = run ro call r e (.ref j :: ls) st hp c s := by
  show (if 0 < (w :: ls).length then run ro call r e (.ref j :: ls) st hp c s else none) = _
  exact if_pos (by simp only [List.length_cons]; omega)
theorem rn_astore_n1 (n : Fin 4) (u0 : Value) (w : Value) : run ro call ((pc, .astore_n n, [1]) :: r) e (u0 :: w :: ls) (.ref j :: st) hp c s = run ro call r e (u0 :: .ref j :: ls) st hp c s := by
  show (if 1 < (u0 :: w :: ls).length then run ro call r e (u0 :: .ref j :: ls) st hp c s else none) = _
  exact if_pos (by simp only [List.length_cons]; omega)
theorem rn_astore_n2 (n : Fin 4) (u0 u1 : Value) (w : Value) : run ro call ((pc, .astore_n n, [2]) :: r) e (u0 :: u1 :: w :: ls) (.ref j :: st) hp c s = run ro call r e (u0 :: u1 :: .ref j :: ls) st hp c s := by
  show (if 2 < (u0 :: u1 :: w :: ls).length then run ro call r e (u0 :: u1 :: .ref j :: ls) st hp c s else none) = _
  exact if_pos (by simp only [List.length_cons]; omega)
theorem rn_astore_n3 (n : Fin 4) (u0 u1 u2 : Value) (w : Value) : run ro call ((pc, .astore_n n, [3]) :: r) e (u0 :: u1 :: u2 :: w :: ls) (.ref j :: st) hp c s = run ro call r e (u0 :: u1 :: u2 :: .ref j :: ls) st hp c s := by
  show (if 3 < (u0 :: u1 :: u2 :: w :: ls).length then run ro call r e (u0 :: u1 :: u2 :: .ref j :: ls) st hp c s else none) = _
  exact if_pos (by simp only [List.length_cons]; omega)
theorem rn_iincK0 (i : Nat) (n : Int) (k : Nat) : run ro call ((pc, .iinc i n, [0, k]) :: r) e (.int x :: ls) st hp c s = run ro call r e (.int (x + nI k) :: ls) st hp c s := rfl
theorem rn_iincK1 (i : Nat) (n : Int) (k : Nat) (u0 : Value) : run ro call ((pc, .iinc i n, [1, k]) :: r) e (u0 :: .int x :: ls) st hp c s = run ro call r e (u0 :: .int (x + nI k) :: ls) st hp c s := rfl
theorem rn_iincK2 (i : Nat) (n : Int) (k : Nat) (u0 u1 : Value) : run ro call ((pc, .iinc i n, [2, k]) :: r) e (u0 :: u1 :: .int x :: ls) st hp c s = run ro call r e (u0 :: u1 :: .int (x + nI k) :: ls) st hp c s := rfl
theorem rn_iincK3 (i : Nat) (n : Int) (k : Nat) (u0 u1 u2 : Value) : run ro call ((pc, .iinc i n, [3, k]) :: r) e (u0 :: u1 :: u2 :: .int x :: ls) st hp c s = run ro call r e (u0 :: u1 :: u2 :: .int (x + nI k) :: ls) st hp c s := rfl
theorem rn_iincK4 (i : Nat) (n : Int) (k : Nat) (u0 u1 u2 u3 : Value) : run ro call ((pc, .iinc i n, [4, k]) :: r) e (u0 :: u1 :: u2 :: u3 :: .int x :: ls) st hp c s = run ro call r e (u0 :: u1 :: u2 :: u3 :: .int (x + nI k) :: ls) st hp c s := rfl
theorem rn_iincK5 (i : Nat) (n : Int) (k : Nat) (u0 u1 u2 u3 u4 : Value) : run ro call ((pc, .iinc i n, [5, k]) :: r) e (u0 :: u1 :: u2 :: u3 :: u4 :: .int x :: ls) st hp c s = run ro call r e (u0 :: u1 :: u2 :: u3 :: u4 :: .int (x + nI k) :: ls) st hp c s := rfl
theorem rn_iincK6 (i : Nat) (n : Int) (k : Nat) (u0 u1 u2 u3 u4 u5 : Value) : run ro call ((pc, .iinc i n, [6, k]) :: r) e (u0 :: u1 :: u2 :: u3 :: u4 :: u5 :: .int x :: ls) st hp c s = run ro call r e (u0 :: u1 :: u2 :: u3 :: u4 :: u5 :: .int (x + nI k) :: ls) st hp c s := rfl
theorem rn_iincK7 (i : Nat) (n : Int) (k : Nat) (u0 u1 u2 u3 u4 u5 u6 : Value) : run ro call ((pc, .iinc i n, [7, k]) :: r) e (u0 :: u1 :: u2 :: u3 :: u4 :: u5 :: u6 :: .int x :: ls) st hp c s = run ro call r e (u0 :: u1 :: u2 :: u3 :: u4 :: u5 :: u6 :: .int (x + nI k) :: ls) st hp c s := rfl
theorem rn_iinc0 (i : Nat) (n : Int) : run ro call ((pc, .iinc i n, [0]) :: r) e (.int x :: ls) st hp c s = run ro call r e (.int (x + Int32.ofInt n) :: ls) st hp c s := rfl
theorem rn_iinc1 (i : Nat) (n : Int) (u0 : Value) : run ro call ((pc, .iinc i n, [1]) :: r) e (u0 :: .int x :: ls) st hp c s = run ro call r e (u0 :: .int (x + Int32.ofInt n) :: ls) st hp c s := rfl
theorem rn_iinc2 (i : Nat) (n : Int) (u0 u1 : Value) : run ro call ((pc, .iinc i n, [2]) :: r) e (u0 :: u1 :: .int x :: ls) st hp c s = run ro call r e (u0 :: u1 :: .int (x + Int32.ofInt n) :: ls) st hp c s := rfl
theorem rn_iinc3 (i : Nat) (n : Int) (u0 u1 u2 : Value) : run ro call ((pc, .iinc i n, [3]) :: r) e (u0 :: u1 :: u2 :: .int x :: ls) st hp c s = run ro call r e (u0 :: u1 :: u2 :: .int (x + Int32.ofInt n) :: ls) st hp c s := rfl
theorem rn_iinc4 (i : Nat) (n : Int) (u0 u1 u2 u3 : Value) : run ro call ((pc, .iinc i n, [4]) :: r) e (u0 :: u1 :: u2 :: u3 :: .int x :: ls) st hp c s = run ro call r e (u0 :: u1 :: u2 :: u3 :: .int (x + Int32.ofInt n) :: ls) st hp c s := rfl
theorem rn_iinc5 (i : Nat) (n : Int) (u0 u1 u2 u3 u4 : Value) : run ro call ((pc, .iinc i n, [5]) :: r) e (u0 :: u1 :: u2 :: u3 :: u4 :: .int x :: ls) st hp c s = run ro call r e (u0 :: u1 :: u2 :: u3 :: u4 :: .int (x + Int32.ofInt n) :: ls) st hp c s := rfl
theorem rn_iinc6 (i : Nat) (n : Int) (u0 u1 u2 u3 u4 u5 : Value) : run ro call ((pc, .iinc i n, [6]) :: r) e (u0 :: u1 :: u2 :: u3 :: u4 :: u5 :: .int x :: ls) st hp c s = run ro call r e (u0 :: u1 :: u2 :: u3 :: u4 :: u5 :: .int (x + Int32.ofInt n) :: ls) st hp c s := rfl
theorem rn_iinc7 (i : Nat) (n : Int) (u0 u1 u2 u3 u4 u5 u6 : Value) : run ro call ((pc, .iinc i n, [7]) :: r) e (u0 :: u1 :: u2 :: u3 :: u4 :: u5 :: u6 :: .int x :: ls) st hp c s = run ro call r e (u0 :: u1 :: u2 :: u3 :: u4 :: u5 :: u6 :: .int (x + Int32.ofInt n) :: ls) st hp c s := rfl
theorem rn_iadd : run ro call ((pc, .iadd, xs) :: r) e ls (.int y :: .int x :: st) hp c s = run ro call r e ls (.int (x + y) :: st) hp c s := rfl
theorem rn_isub : run ro call ((pc, .isub, xs) :: r) e ls (.int y :: .int x :: st) hp c s = run ro call r e ls (.int (x - y) :: st) hp c s := rfl
theorem rn_imul : run ro call ((pc, .imul, xs) :: r) e ls (.int y :: .int x :: st) hp c s = run ro call r e ls (.int (x * y) :: st) hp c s := rfl
theorem rn_idiv : run ro call ((pc, .idiv, xs) :: r) e ls (.int y :: .int x :: st) hp c s = if y = 0 then none else run ro call r e ls (.int (x / y) :: st) hp c s := rfl
theorem rn_irem : run ro call ((pc, .irem, xs) :: r) e ls (.int y :: .int x :: st) hp c s = if y = 0 then none else run ro call r e ls (.int (x - x / y * y) :: st) hp c s := rfl
theorem rn_ineg : run ro call ((pc, .ineg, xs) :: r) e ls (.int x :: st) hp c s = run ro call r e ls (.int (-x) :: st) hp c s := rfl
theorem rn_ishl : run ro call ((pc, .ishl, xs) :: r) e ls (.int y :: .int x :: st) hp c s = run ro call r e ls (.int (x <<< (y &&& 31)) :: st) hp c s := rfl
theorem rn_ishr : run ro call ((pc, .ishr, xs) :: r) e ls (.int y :: .int x :: st) hp c s = run ro call r e ls (.int (x >>> (y &&& 31)) :: st) hp c s := rfl
theorem rn_iand : run ro call ((pc, .iand, xs) :: r) e ls (.int y :: .int x :: st) hp c s = run ro call r e ls (.int (x &&& y) :: st) hp c s := rfl
theorem rn_ior : run ro call ((pc, .ior, xs) :: r) e ls (.int y :: .int x :: st) hp c s = run ro call r e ls (.int (x ||| y) :: st) hp c s := rfl
theorem rn_ixor : run ro call ((pc, .ixor, xs) :: r) e ls (.int y :: .int x :: st) hp c s = run ro call r e ls (.int (x ^^^ y) :: st) hp c s := rfl
theorem rn_i2c : run ro call ((pc, .i2c, xs) :: r) e ls (.int x :: st) hp c s = run ro call r e ls (.int (x.toUInt32 % 65536).toInt32 :: st) hp c s := rfl
theorem rn_dup : run ro call ((pc, .dup, xs) :: r) e ls (.int x :: st) hp c s = run ro call r e ls (.int x :: .int x :: st) hp c s := rfl
theorem rn_dupr : run ro call ((pc, .dup, xs) :: r) e ls (.ref j :: st) hp c s = run ro call r e ls (.ref j :: .ref j :: st) hp c s := rfl
theorem rn_dup2 : run ro call ((pc, .dup2, xs) :: r) e ls (.int y :: .ref j :: st) hp c s = run ro call r e ls (.int y :: .ref j :: .int y :: .ref j :: st) hp c s := rfl
theorem rn_pop : run ro call ((pc, .pop, xs) :: r) e ls (.int x :: st) hp c s = run ro call r e ls st hp c s := rfl
theorem rn_ifeq (o : Int) : run ro call ((pc, .ifCond .eq o, [j]) :: r) e ls (.int x :: st) hp c s = if x = 0 then some (.inl (j, ls, st, hp, c, s)) else run ro call r e ls st hp c s := rfl
theorem rn_ifne (o : Int) : run ro call ((pc, .ifCond .ne o, [j]) :: r) e ls (.int x :: st) hp c s = if x = 0 then run ro call r e ls st hp c s else some (.inl (j, ls, st, hp, c, s)) := rfl
theorem rn_iflt (o : Int) : run ro call ((pc, .ifCond .lt o, [j]) :: r) e ls (.int x :: st) hp c s = if x < 0 then some (.inl (j, ls, st, hp, c, s)) else run ro call r e ls st hp c s := rfl
theorem rn_ifge (o : Int) : run ro call ((pc, .ifCond .ge o, [j]) :: r) e ls (.int x :: st) hp c s = if x < 0 then run ro call r e ls st hp c s else some (.inl (j, ls, st, hp, c, s)) := rfl
theorem rn_ifgt (o : Int) : run ro call ((pc, .ifCond .gt o, [j]) :: r) e ls (.int x :: st) hp c s = if 0 < x then some (.inl (j, ls, st, hp, c, s)) else run ro call r e ls st hp c s := rfl
theorem rn_ifle (o : Int) : run ro call ((pc, .ifCond .le o, [j]) :: r) e ls (.int x :: st) hp c s = if 0 < x then run ro call r e ls st hp c s else some (.inl (j, ls, st, hp, c, s)) := rfl
theorem rn_iceq (o : Int) : run ro call ((pc, .if_icmp .eq o, [j]) :: r) e ls (.int y :: .int x :: st) hp c s = if x = y then some (.inl (j, ls, st, hp, c, s)) else run ro call r e ls st hp c s := rfl
theorem rn_icne (o : Int) : run ro call ((pc, .if_icmp .ne o, [j]) :: r) e ls (.int y :: .int x :: st) hp c s = if x = y then run ro call r e ls st hp c s else some (.inl (j, ls, st, hp, c, s)) := rfl
theorem rn_iclt (o : Int) : run ro call ((pc, .if_icmp .lt o, [j]) :: r) e ls (.int y :: .int x :: st) hp c s = if x < y then some (.inl (j, ls, st, hp, c, s)) else run ro call r e ls st hp c s := rfl
theorem rn_icge (o : Int) : run ro call ((pc, .if_icmp .ge o, [j]) :: r) e ls (.int y :: .int x :: st) hp c s = if x < y then run ro call r e ls st hp c s else some (.inl (j, ls, st, hp, c, s)) := rfl
theorem rn_icgt (o : Int) : run ro call ((pc, .if_icmp .gt o, [j]) :: r) e ls (.int y :: .int x :: st) hp c s = if y < x then some (.inl (j, ls, st, hp, c, s)) else run ro call r e ls st hp c s := rfl
theorem rn_icle (o : Int) : run ro call ((pc, .if_icmp .le o, [j]) :: r) e ls (.int y :: .int x :: st) hp c s = if y < x then run ro call r e ls st hp c s else some (.inl (j, ls, st, hp, c, s)) := rfl
theorem rn_nonnull (o : Int) (a : Nat) : run ro call ((pc, .ifnonnull o, [j]) :: r) e ls (.ref a :: st) hp c s = some (.inl (j, ls, st, hp, c, s)) := rfl
theorem rn_goto (o : Int) : run ro call ((pc, .goto o, [j]) :: r) e ls st hp c s = some (.inl (j, ls, st, hp, c, s)) := rfl
theorem rn_table (a lo b : Int) (os : Array Int) (ts : List Nat) : run ro call ((pc, .tableswitch a lo b os, j :: ts) :: r) e ls (.int x :: st) hp c s = some (.inl (tks lo ts j x, ls, st, hp, c, s)) := rfl
theorem rn_lookup (a : Int) (ps : List (Int × Int)) (ts : List Nat) : run ro call ((pc, .lookupswitch a ⟨ps⟩, j :: ts) :: r) e ls (.int x :: st) hp c s = some (.inl (lks ps ts j x, ls, st, hp, c, s)) := rfl
theorem rn_getf (i ci f t : Nat) : run ro call ((pc, .getfield i, [ci, f, t]) :: r) e ls (.ref j :: st) hp c s = hgf hp[j]? ci f ro call r e ls st hp c s := rfl
theorem hgf_o (ci f c' : Nat) (vs : List Value) : hgf (some (.inr (c', vs))) ci f ro call r e ls st hp c s = if c' = ci ∧ c' < NCl then hgv vs[f]? ro call r e ls st hp c s else none := rfl
theorem hgv_s (v : Value) : hgv (some v) ro call r e ls st hp c s = run ro call r e ls (v :: st) hp c s := rfl
theorem rn_putf (i ci f t : Nat) (v : Value) : run ro call ((pc, .putfield i, [ci, f, t]) :: r) e ls (v :: .ref j :: st) hp c s = hpf hp[j]? j ci f t v ro call r e ls st hp c s := rfl
theorem hpf_o (ci f t c' : Nat) (v : Value) (vs : List Value) : hpf (some (.inr (c', vs))) j ci f t v ro call r e ls st hp c s = if c' = ci ∧ c' < NCl ∧ f < vs.length ∧ pok t v = true then run ro call r e ls st (hp.set j (.inr (c', vs.set f v))) c s else none := rfl
theorem rn_gets0 (i : Nat) : run ro call ((pc, .getstatic i, [0]) :: r) e ls st hp c s = run ro call r e ls (.long 0 :: st) hp c s := rfl
theorem rn_gets1 (i : Nat) : run ro call ((pc, .getstatic i, [1]) :: r) e ls st hp c s = run ro call r e ls (.long 1 :: st) hp c s := rfl
theorem rn_iald : run ro call ((pc, .iaload, xs) :: r) e ls (.int x :: .ref j :: st) hp c s = hil hp[j]? x 0 ro call r e ls st hp c s := rfl
theorem hil_a (z t n : Nat) (f : Nat → Int32) : hil (some (.inl (t, n, f))) x z ro call r e ls st hp c s = if x < 0 ∨ n ≤ x.toNatClampNeg ∨ t ≠ z then none else run ro call r e ls (.int (f x.toNatClampNeg) :: st) hp c s := rfl
theorem rn_ialr (a : Int64) : run ro call ((pc, .iaload, xs) :: r) e ls (.int x :: .long a :: st) hp c s = if x < 0 ∨ (ro a).1 ≤ x.toNatClampNeg then none else run ro call r e ls (.int ((ro a).2 x.toNatClampNeg) :: st) hp c s := rfl
theorem rn_iast : run ro call ((pc, .iastore, xs) :: r) e ls (.int y :: .int x :: .ref j :: st) hp c s = his hp[j]? j x y 0 ro call r e ls st hp c s := rfl
theorem his_a (z t n : Nat) (f : Nat → Int32) : his (some (.inl (t, n, f))) j x y z ro call r e ls st hp c s = if x < 0 ∨ n ≤ x.toNatClampNeg ∨ t ≠ z then none else run ro call r e ls st (hp.set j (.inl (t, n, upd f x.toNatClampNeg y))) c s := rfl
theorem rn_cald : run ro call ((pc, .caload, xs) :: r) e ls (.int x :: .ref j :: st) hp c s = hil hp[j]? x 1 ro call r e ls st hp c s := rfl
theorem rn_cast : run ro call ((pc, .castore, xs) :: r) e ls (.int y :: .int x :: .ref j :: st) hp c s = his hp[j]? j x (vp_nar .char y) 1 ro call r e ls st hp c s := rfl
theorem rn_aald : run ro call ((pc, .aaload, xs) :: r) e ls (.int x :: .ref j :: st) hp c s = hal hp[j]? x ro call r e ls st hp c s := rfl
theorem hal_o (t : Nat) (vs : List Value) : hal (some (.inr (t, vs))) x ro call r e ls st hp c s = if x < 0 ∨ vs.length ≤ x.toNatClampNeg ∨ t ≠ NCl then none else gr vs[x.toNatClampNeg]? (fun v => run ro call r e ls (.ref v :: st) hp c s) := rfl
theorem rn_aast (v : Nat) : run ro call ((pc, .aastore, xs) :: r) e ls (.ref v :: .int x :: .ref j :: st) hp c s = has hp[j]? j x v ro call r e ls st hp c s := rfl
theorem has_o (v t : Nat) (vs : List Value) : has (some (.inr (t, vs))) j x v ro call r e ls st hp c s = if x < 0 ∨ vs.length ≤ x.toNatClampNeg ∨ t ≠ NCl ∨ hasC 4 hp v = false then none else run ro call r e ls st (hp.set j (.inr (t, vs.set x.toNatClampNeg (.ref v)))) c s := rfl
theorem rn_alen (a : Int64) : run ro call ((pc, .arraylength, xs) :: r) e ls (.long a :: st) hp c s = if (ro a).1 = 0 ∧ (ro a).2 0 ≠ 7 then none else run ro call r e ls (.int (Int32.ofNat (ro a).1) :: st) hp c s := rfl
theorem rn_newa (ty : ArrayType) (t mcL msL : Nat) : run ro call ((pc, .newarray ty, [t, mcL, msL]) :: r) e ls (.int x :: st) hp c s = if x < 0 ∨ 100000 < x.toNatClampNeg ∨ mcL < c + 1 ∨ msL < s + x.toNatClampNeg ∨ clo hp.length (ls ++ st) hp = false then none else run ro call r e ls (.ref hp.length :: st) (hp ++ [.inl (t, x.toNatClampNeg, fun _ => 0)]) (c + 1) (s + x.toNatClampNeg) := rfl
theorem rn_anew (i mcL msL : Nat) : run ro call ((pc, .anewarray i, [mcL, msL]) :: r) e ls (.int x :: st) hp c s = if x < 0 ∨ 100000 < x.toNatClampNeg ∨ mcL < c + 1 ∨ msL < s + x.toNatClampNeg ∨ clo hp.length (ls ++ st) hp = false then none else run ro call r e ls (.ref hp.length :: st) (hp ++ [.inr (NCl, List.replicate x.toNatClampNeg .null)]) (c + 1) (s + x.toNatClampNeg) := rfl
theorem rn_new (i ci N mcL msL : Nat) : run ro call ((pc, .new i, [ci, N, mcL, msL]) :: r) e ls st hp c s = if mcL < c + 1 ∨ msL < s + N ∨ clo hp.length (ls ++ st) hp = false then none else run ro call r e ls (.ref hp.length :: st) (hp ++ [.inr (ci, dfl ci)]) (c + 1) (s + N) := rfl
theorem rn_v0 (i q n1 n2 cn t : Nat) : run ro call ((pc, .invokevirtual i, [q, 0, n1, n2, cn, 0, 0, 0, 0, t]) :: r) e ls (.ref j :: st) hp 0 0 = if 8 < sw st ∨ hasC cn hp j = false then none else hcl (cal call q n1 n2 [.ref j] (ls ++ st) hp) ro call r e ls st := by
  show (if 8 < sw st ∨ 0 < 0 ∨ 0 < 0 ∨ hasC cn hp j = false then none else hcl (cal call q n1 n2 [.ref j] (ls ++ st) hp) ro call r e ls st) = _
  simp only [Nat.lt_irrefl, false_or]
theorem rn_v1 (i q n1 n2 cn t : Nat) (v1 : Value) : run ro call ((pc, .invokevirtual i, [q, 1, n1, n2, cn, 0, 0, 0, 0, t]) :: r) e ls (v1 :: .ref j :: st) hp 0 0 = if 8 < sw st ∨ hasC cn hp j = false then none else hcl (cal call q n1 n2 [.ref j, v1] (ls ++ st) hp) ro call r e ls st := by
  show (if 8 < sw st ∨ 0 < 0 ∨ 0 < 0 ∨ hasC cn hp j = false then none else hcl (cal call q n1 n2 [.ref j, v1] (ls ++ st) hp) ro call r e ls st) = _
  simp only [Nat.lt_irrefl, false_or]
theorem rn_v2 (i q n1 n2 cn t : Nat) (v1 v2 : Value) : run ro call ((pc, .invokevirtual i, [q, 2, n1, n2, cn, 0, 0, 0, 0, t]) :: r) e ls (v2 :: v1 :: .ref j :: st) hp 0 0 = if 8 < sw st ∨ hasC cn hp j = false then none else hcl (cal call q n1 n2 [.ref j, v1, v2] (ls ++ st) hp) ro call r e ls st := by
  show (if 8 < sw st ∨ 0 < 0 ∨ 0 < 0 ∨ hasC cn hp j = false then none else hcl (cal call q n1 n2 [.ref j, v1, v2] (ls ++ st) hp) ro call r e ls st) = _
  simp only [Nat.lt_irrefl, false_or]
theorem rn_v3 (i q n1 n2 cn t : Nat) (v1 v2 v3 : Value) : run ro call ((pc, .invokevirtual i, [q, 3, n1, n2, cn, 0, 0, 0, 0, t]) :: r) e ls (v3 :: v2 :: v1 :: .ref j :: st) hp 0 0 = if 8 < sw st ∨ hasC cn hp j = false then none else hcl (cal call q n1 n2 [.ref j, v1, v2, v3] (ls ++ st) hp) ro call r e ls st := by
  show (if 8 < sw st ∨ 0 < 0 ∨ 0 < 0 ∨ hasC cn hp j = false then none else hcl (cal call q n1 n2 [.ref j, v1, v2, v3] (ls ++ st) hp) ro call r e ls st) = _
  simp only [Nat.lt_irrefl, false_or]
theorem rn_v4 (i q n1 n2 cn t : Nat) (v1 v2 v3 v4 : Value) : run ro call ((pc, .invokevirtual i, [q, 4, n1, n2, cn, 0, 0, 0, 0, t]) :: r) e ls (v4 :: v3 :: v2 :: v1 :: .ref j :: st) hp 0 0 = if 8 < sw st ∨ hasC cn hp j = false then none else hcl (cal call q n1 n2 [.ref j, v1, v2, v3, v4] (ls ++ st) hp) ro call r e ls st := by
  show (if 8 < sw st ∨ 0 < 0 ∨ 0 < 0 ∨ hasC cn hp j = false then none else hcl (cal call q n1 n2 [.ref j, v1, v2, v3, v4] (ls ++ st) hp) ro call r e ls st) = _
  simp only [Nat.lt_irrefl, false_or]
theorem rn_s1 (i q n1 n2 cn t : Nat) (v1 : Value) : run ro call ((pc, .invokestatic i, [q, 1, n1, n2, cn, 0, 0, 0, 0, t]) :: r) e ls (v1 :: st) hp 0 0 = if 8 < sw st then none else hcl (cal call q n1 n2 [v1] (ls ++ st) hp) ro call r e ls st := by
  have hl : ¬ st.length + 1 < 1 := by omega
  show (if 8 < sw st ∨ 0 < 0 ∨ 0 < 0 then none else if st.length + 1 < 1 then none else hcl (cal call q n1 n2 [v1] (ls ++ st) hp) ro call r e ls st) = _
  simp only [Nat.lt_irrefl, or_false, if_neg hl]
theorem rn_s2 (i q n1 n2 cn t : Nat) (v1 v2 : Value) : run ro call ((pc, .invokestatic i, [q, 2, n1, n2, cn, 0, 0, 0, 0, t]) :: r) e ls (v2 :: v1 :: st) hp 0 0 = if 8 < sw st then none else hcl (cal call q n1 n2 [v1, v2] (ls ++ st) hp) ro call r e ls st := by
  have hl : ¬ st.length + 2 < 2 := by omega
  show (if 8 < sw st ∨ 0 < 0 ∨ 0 < 0 then none else if st.length + 2 < 2 then none else hcl (cal call q n1 n2 [v1, v2] (ls ++ st) hp) ro call r e ls st) = _
  simp only [Nat.lt_irrefl, or_false, if_neg hl]
theorem rn_s3 (i q n1 n2 cn t : Nat) (v1 v2 v3 : Value) : run ro call ((pc, .invokestatic i, [q, 3, n1, n2, cn, 0, 0, 0, 0, t]) :: r) e ls (v3 :: v2 :: v1 :: st) hp 0 0 = if 8 < sw st then none else hcl (cal call q n1 n2 [v1, v2, v3] (ls ++ st) hp) ro call r e ls st := by
  have hl : ¬ st.length + 3 < 3 := by omega
  show (if 8 < sw st ∨ 0 < 0 ∨ 0 < 0 then none else if st.length + 3 < 3 then none else hcl (cal call q n1 n2 [v1, v2, v3] (ls ++ st) hp) ro call r e ls st) = _
  simp only [Nat.lt_irrefl, or_false, if_neg hl]
theorem rn_init (i q n1 n2 cn mc ms mcL msL t : Nat) : run ro call ((pc, .invokespecial i, [q, 0, n1, n2, cn, mc, ms, mcL, msL, t]) :: r) e ls (.ref j :: st) hp c s = if 8 < sw st ∨ mcL < c + mc ∨ msL < s + ms then none else hci (cal call q n1 n2 [.ref j] (ls ++ st) hp) ro call r e ls st (c + mc) (s + ms) := rfl
theorem rn_oinit (i : Nat) : run ro call ((pc, .invokespecial i, []) :: r) e ls (.ref j :: st) hp c s = if 8 < sw st then none else run ro call r e ls st hp c s := rfl
theorem rn_max (i : Nat) : run ro call ((pc, .invokestatic i, [0]) :: r) e ls (.int y :: .int x :: st) hp c s = if 8 < sw st then none else run ro call r e ls (.int (if x < y then y else x) :: st) hp c s := rfl
theorem rn_min (i : Nat) : run ro call ((pc, .invokestatic i, [1]) :: r) e ls (.int y :: .int x :: st) hp c s = if 8 < sw st then none else run ro call r e ls (.int (if y < x then y else x) :: st) hp c s := rfl
theorem rn_copy (i : Nat) (n dp sp : Int32) (a b : Nat) : run ro call ((pc, .invokestatic i, [2]) :: r) e ls (.int n :: .int dp :: .ref b :: .int sp :: .ref a :: st) hp c s = hcp hp[a]? hp[b]? b n dp sp ro call r e ls st hp c s := by
  simp only [run, hcp]
  cases h : hp[a]? with
  | none => rfl
  | some x => cases x with
    | inr y => rfl
    | inl y => cases h2 : hp[b]? with
      | none => rfl
      | some z => cases z with
        | inr w => rfl
        | inl w => rfl
theorem rn_iret (t : Nat) : run ro call ((pc, .ireturn, [t]) :: r) e ls [.int x] hp c s = if t = 0 ∨ x = 0 ∨ x = 1 then some (.inr (some (.int x), hp)) else none := rfl
theorem rn_ret : run ro call ((pc, .return_, xs) :: r) e ls [] hp c s = some (.inr (none, hp)) := rfl
theorem hcl_n (h : List AE) : hcl (some (none, h)) ro call r e ls st = run ro call r e ls st h 0 0 := rfl
theorem hcl_i (h : List AE) : hcl (some (some (.int x), h)) ro call r e ls st = run ro call r e ls (.int x :: st) h 0 0 := rfl
theorem hcl_ite (p : Prop) [q : Decidable p] (a b : Option Rs) : hcl (if p then a else b) ro call r e ls st = if p then hcl a ro call r e ls st else hcl b ro call r e ls st := by
  cases q <;> rfl
theorem hci_n (h : List AE) : hci (some (none, h)) ro call r e ls st c s = run ro call r e ls st h c s := rfl
theorem hcp_a (n dp sp : Int32) (b t n0 t' n1 : Nat) (f g : Nat → Int32) : hcp (some (.inl (t, n0, f))) (some (.inl (t', n1, g))) b n dp sp ro call r e ls st hp c s = if 8 < sw st ∨ sp < 0 ∨ dp < 0 ∨ n < 0 ∨ n0 < sp.toNatClampNeg + n.toNatClampNeg ∨ n1 < dp.toNatClampNeg + n.toNatClampNeg ∨ t ≠ 0 ∨ t' ≠ 0 then none else run ro call r e ls st (hp.set b (.inl (t', n1, va_cpy f g sp.toNatClampNeg dp.toNatClampNeg n.toNatClampNeg))) c s := rfl
end ROWS
def ndl (l : List Value) : Bool := l.all (fun v => !isD v)
def cll (n : Nat) (l : List Value) : Bool := l.all (clV n)
def hca (v : Option Rs) (n : Nat) (ro : RO) (call : CL) (r : List Op) (e : Nat) (ls st : List Value) (c s : Nat) : Option (Cf ⊕ Rs) := match v with
  | some (none, h) => if h.length < n then none else run ro call r e ls st h c s
  | some (some (.int v), h) => if h.length < n then none else run ro call r e ls (.int v :: st) h c s
  | some (some (.double v), h) => if h.length < n then none else run ro call r e ls (.double v :: st) h c s
  | _ => none
section ROWS2
variable (ro : RO) (call : CL) (pc : Nat) (xs : List Nat) (r : List Op) (e : Nat) (ls st : List Value) (hp : List AE) (c s : Nat) (x y : Int32) (j n : Nat) (a : Int64) (u v : UInt64)
theorem sw_0 : sw [] = 0 := rfl
theorem sw_i : sw (.int x :: st) = sw st + 1 := rfl
theorem sw_r : sw (.ref j :: st) = sw st + 1 := rfl
theorem sw_l : sw (.long a :: st) = sw st + 1 := rfl
theorem sw_n : sw (.null :: st) = sw st + 1 := rfl
theorem sw_d : sw (.double u :: st) = sw st + 2 := rfl
theorem ndl_0 : ndl [] = true := rfl
theorem ndl_i : ndl (.int x :: st) = ndl st := rfl
theorem ndl_r : ndl (.ref j :: st) = ndl st := rfl
theorem ndl_l : ndl (.long a :: st) = ndl st := rfl
theorem cll_0 : cll n [] = true := rfl
theorem cll_i : cll n (.int x :: st) = cll n st := rfl
theorem cll_n : cll n (.null :: st) = cll n st := rfl
theorem cll_l : cll n (.long a :: st) = cll n st := rfl
theorem cll_d : cll n (.double u :: st) = cll n st := rfl
theorem cll_r (h : j < n) : cll n (.ref j :: st) = cll n st := by
  show (decide (j < n) && cll n st) = _
  rw [decide_eq_true h, Bool.true_and]
theorem hca_n (h : List AE) : hca (some (none, h)) n ro call r e ls st c s = if h.length < n then none else run ro call r e ls st h c s := rfl
theorem hca_i (h : List AE) : hca (some (some (.int x), h)) n ro call r e ls st c s = if h.length < n then none else run ro call r e ls (.int x :: st) h c s := rfl
theorem hca_d (h : List AE) : hca (some (some (.double u), h)) n ro call r e ls st c s = if h.length < n then none else run ro call r e ls (.double u :: st) h c s := rfl
theorem hca_ite (p : Prop) [q : Decidable p] (a b : Option Rs) : hca (if p then a else b) n ro call r e ls st c s = if p then hca a n ro call r e ls st c s else hca b n ro call r e ls st c s := by
  cases q <;> rfl
theorem rn_i2l : run ro call ((pc, .i2l, xs) :: r) e ls (.int x :: st) hp c s = run ro call r e ls (.double x.toInt64.toUInt64 :: st) hp c s := rfl
theorem rn_ladd : run ro call ((pc, .ladd, xs) :: r) e ls (.double v :: .double u :: st) hp c s = run ro call r e ls (.double (u.toInt64 + v.toInt64).toUInt64 :: st) hp c s := rfl
theorem rn_lmul : run ro call ((pc, .lmul, xs) :: r) e ls (.double v :: .double u :: st) hp c s = run ro call r e ls (.double (u.toInt64 * v.toInt64).toUInt64 :: st) hp c s := rfl
theorem rn_lcmp : run ro call ((pc, .lcmp, xs) :: r) e ls (.double u :: .double u :: st) hp c s = run ro call r e ls (.int 0 :: st) hp c s := by
  show (if u = u then _ else none) = _
  exact if_pos rfl
theorem rn_ldc (i k : Nat) : run ro call ((pc, .ldc i, [k]) :: r) e ls st hp c s = run ro call r e ls (.int (nI k) :: st) hp c s := rfl
theorem rn_ldc2 (i k : Nat) : run ro call ((pc, .ldc2_w i, [k]) :: r) e ls st hp c s = run ro call r e ls (.double (Int64.ofNat k).toUInt64 :: st) hp c s := rfl
theorem rn_lret : run ro call ((pc, .lreturn, xs) :: r) e ls [.double u] hp c s = some (.inr (some (.double u), hp)) := rfl
theorem rn_iload8 (n : Nat) (u0 u1 u2 u3 u4 u5 u6 u7 : Value) : run ro call ((pc, .iload n, [8]) :: r) e (u0 :: u1 :: u2 :: u3 :: u4 :: u5 :: u6 :: u7 :: .int x :: ls) st hp c s = run ro call r e (u0 :: u1 :: u2 :: u3 :: u4 :: u5 :: u6 :: u7 :: .int x :: ls) (.int x :: st) hp c s := rfl
theorem rn_istore8 (n : Nat) (u0 u1 u2 u3 u4 u5 u6 u7 : Value) (w : Value) : run ro call ((pc, .istore n, [8]) :: r) e (u0 :: u1 :: u2 :: u3 :: u4 :: u5 :: u6 :: u7 :: w :: ls) (.int x :: st) hp c s = run ro call r e (u0 :: u1 :: u2 :: u3 :: u4 :: u5 :: u6 :: u7 :: .int x :: ls) st hp c s := by
  show (if 8 < (u0 :: u1 :: u2 :: u3 :: u4 :: u5 :: u6 :: u7 :: w :: ls).length then run ro call r e (u0 :: u1 :: u2 :: u3 :: u4 :: u5 :: u6 :: u7 :: .int x :: ls) st hp c s else none) = _
  exact if_pos (by simp only [List.length_cons]; omega)
theorem rn_iincK8 (i : Nat) (n : Int) (k : Nat) (u0 u1 u2 u3 u4 u5 u6 u7 : Value) : run ro call ((pc, .iinc i n, [8, k]) :: r) e (u0 :: u1 :: u2 :: u3 :: u4 :: u5 :: u6 :: u7 :: .int x :: ls) st hp c s = run ro call r e (u0 :: u1 :: u2 :: u3 :: u4 :: u5 :: u6 :: u7 :: .int (x + nI k) :: ls) st hp c s := rfl
theorem rn_iinc8 (i : Nat) (n : Int) (u0 u1 u2 u3 u4 u5 u6 u7 : Value) : run ro call ((pc, .iinc i n, [8]) :: r) e (u0 :: u1 :: u2 :: u3 :: u4 :: u5 :: u6 :: u7 :: .int x :: ls) st hp c s = run ro call r e (u0 :: u1 :: u2 :: u3 :: u4 :: u5 :: u6 :: u7 :: .int (x + Int32.ofInt n) :: ls) st hp c s := rfl
theorem rn_iload9 (n : Nat) (u0 u1 u2 u3 u4 u5 u6 u7 u8 : Value) : run ro call ((pc, .iload n, [9]) :: r) e (u0 :: u1 :: u2 :: u3 :: u4 :: u5 :: u6 :: u7 :: u8 :: .int x :: ls) st hp c s = run ro call r e (u0 :: u1 :: u2 :: u3 :: u4 :: u5 :: u6 :: u7 :: u8 :: .int x :: ls) (.int x :: st) hp c s := rfl
theorem rn_istore9 (n : Nat) (u0 u1 u2 u3 u4 u5 u6 u7 u8 : Value) (w : Value) : run ro call ((pc, .istore n, [9]) :: r) e (u0 :: u1 :: u2 :: u3 :: u4 :: u5 :: u6 :: u7 :: u8 :: w :: ls) (.int x :: st) hp c s = run ro call r e (u0 :: u1 :: u2 :: u3 :: u4 :: u5 :: u6 :: u7 :: u8 :: .int x :: ls) st hp c s := by
  show (if 9 < (u0 :: u1 :: u2 :: u3 :: u4 :: u5 :: u6 :: u7 :: u8 :: w :: ls).length then run ro call r e (u0 :: u1 :: u2 :: u3 :: u4 :: u5 :: u6 :: u7 :: u8 :: .int x :: ls) st hp c s else none) = _
  exact if_pos (by simp only [List.length_cons]; omega)
theorem rn_iincK9 (i : Nat) (n : Int) (k : Nat) (u0 u1 u2 u3 u4 u5 u6 u7 u8 : Value) : run ro call ((pc, .iinc i n, [9, k]) :: r) e (u0 :: u1 :: u2 :: u3 :: u4 :: u5 :: u6 :: u7 :: u8 :: .int x :: ls) st hp c s = run ro call r e (u0 :: u1 :: u2 :: u3 :: u4 :: u5 :: u6 :: u7 :: u8 :: .int (x + nI k) :: ls) st hp c s := rfl
theorem rn_iinc9 (i : Nat) (n : Int) (u0 u1 u2 u3 u4 u5 u6 u7 u8 : Value) : run ro call ((pc, .iinc i n, [9]) :: r) e (u0 :: u1 :: u2 :: u3 :: u4 :: u5 :: u6 :: u7 :: u8 :: .int x :: ls) st hp c s = run ro call r e (u0 :: u1 :: u2 :: u3 :: u4 :: u5 :: u6 :: u7 :: u8 :: .int (x + Int32.ofInt n) :: ls) st hp c s := rfl
theorem rn_iload10 (n : Nat) (u0 u1 u2 u3 u4 u5 u6 u7 u8 u9 : Value) : run ro call ((pc, .iload n, [10]) :: r) e (u0 :: u1 :: u2 :: u3 :: u4 :: u5 :: u6 :: u7 :: u8 :: u9 :: .int x :: ls) st hp c s = run ro call r e (u0 :: u1 :: u2 :: u3 :: u4 :: u5 :: u6 :: u7 :: u8 :: u9 :: .int x :: ls) (.int x :: st) hp c s := rfl
theorem rn_istore10 (n : Nat) (u0 u1 u2 u3 u4 u5 u6 u7 u8 u9 : Value) (w : Value) : run ro call ((pc, .istore n, [10]) :: r) e (u0 :: u1 :: u2 :: u3 :: u4 :: u5 :: u6 :: u7 :: u8 :: u9 :: w :: ls) (.int x :: st) hp c s = run ro call r e (u0 :: u1 :: u2 :: u3 :: u4 :: u5 :: u6 :: u7 :: u8 :: u9 :: .int x :: ls) st hp c s := by
  show (if 10 < (u0 :: u1 :: u2 :: u3 :: u4 :: u5 :: u6 :: u7 :: u8 :: u9 :: w :: ls).length then run ro call r e (u0 :: u1 :: u2 :: u3 :: u4 :: u5 :: u6 :: u7 :: u8 :: u9 :: .int x :: ls) st hp c s else none) = _
  exact if_pos (by simp only [List.length_cons]; omega)
theorem rn_iincK10 (i : Nat) (n : Int) (k : Nat) (u0 u1 u2 u3 u4 u5 u6 u7 u8 u9 : Value) : run ro call ((pc, .iinc i n, [10, k]) :: r) e (u0 :: u1 :: u2 :: u3 :: u4 :: u5 :: u6 :: u7 :: u8 :: u9 :: .int x :: ls) st hp c s = run ro call r e (u0 :: u1 :: u2 :: u3 :: u4 :: u5 :: u6 :: u7 :: u8 :: u9 :: .int (x + nI k) :: ls) st hp c s := rfl
theorem rn_iinc10 (i : Nat) (n : Int) (u0 u1 u2 u3 u4 u5 u6 u7 u8 u9 : Value) : run ro call ((pc, .iinc i n, [10]) :: r) e (u0 :: u1 :: u2 :: u3 :: u4 :: u5 :: u6 :: u7 :: u8 :: u9 :: .int x :: ls) st hp c s = run ro call r e (u0 :: u1 :: u2 :: u3 :: u4 :: u5 :: u6 :: u7 :: u8 :: u9 :: .int (x + Int32.ofInt n) :: ls) st hp c s := rfl
theorem rn_iload11 (n : Nat) (u0 u1 u2 u3 u4 u5 u6 u7 u8 u9 u10 : Value) : run ro call ((pc, .iload n, [11]) :: r) e (u0 :: u1 :: u2 :: u3 :: u4 :: u5 :: u6 :: u7 :: u8 :: u9 :: u10 :: .int x :: ls) st hp c s = run ro call r e (u0 :: u1 :: u2 :: u3 :: u4 :: u5 :: u6 :: u7 :: u8 :: u9 :: u10 :: .int x :: ls) (.int x :: st) hp c s := rfl
theorem rn_istore11 (n : Nat) (u0 u1 u2 u3 u4 u5 u6 u7 u8 u9 u10 : Value) (w : Value) : run ro call ((pc, .istore n, [11]) :: r) e (u0 :: u1 :: u2 :: u3 :: u4 :: u5 :: u6 :: u7 :: u8 :: u9 :: u10 :: w :: ls) (.int x :: st) hp c s = run ro call r e (u0 :: u1 :: u2 :: u3 :: u4 :: u5 :: u6 :: u7 :: u8 :: u9 :: u10 :: .int x :: ls) st hp c s := by
  show (if 11 < (u0 :: u1 :: u2 :: u3 :: u4 :: u5 :: u6 :: u7 :: u8 :: u9 :: u10 :: w :: ls).length then run ro call r e (u0 :: u1 :: u2 :: u3 :: u4 :: u5 :: u6 :: u7 :: u8 :: u9 :: u10 :: .int x :: ls) st hp c s else none) = _
  exact if_pos (by simp only [List.length_cons]; omega)
theorem rn_iincK11 (i : Nat) (n : Int) (k : Nat) (u0 u1 u2 u3 u4 u5 u6 u7 u8 u9 u10 : Value) : run ro call ((pc, .iinc i n, [11, k]) :: r) e (u0 :: u1 :: u2 :: u3 :: u4 :: u5 :: u6 :: u7 :: u8 :: u9 :: u10 :: .int x :: ls) st hp c s = run ro call r e (u0 :: u1 :: u2 :: u3 :: u4 :: u5 :: u6 :: u7 :: u8 :: u9 :: u10 :: .int (x + nI k) :: ls) st hp c s := rfl
theorem rn_iinc11 (i : Nat) (n : Int) (u0 u1 u2 u3 u4 u5 u6 u7 u8 u9 u10 : Value) : run ro call ((pc, .iinc i n, [11]) :: r) e (u0 :: u1 :: u2 :: u3 :: u4 :: u5 :: u6 :: u7 :: u8 :: u9 :: u10 :: .int x :: ls) st hp c s = run ro call r e (u0 :: u1 :: u2 :: u3 :: u4 :: u5 :: u6 :: u7 :: u8 :: u9 :: u10 :: .int (x + Int32.ofInt n) :: ls) st hp c s := rfl
theorem rn_iload12 (n : Nat) (u0 u1 u2 u3 u4 u5 u6 u7 u8 u9 u10 u11 : Value) : run ro call ((pc, .iload n, [12]) :: r) e (u0 :: u1 :: u2 :: u3 :: u4 :: u5 :: u6 :: u7 :: u8 :: u9 :: u10 :: u11 :: .int x :: ls) st hp c s = run ro call r e (u0 :: u1 :: u2 :: u3 :: u4 :: u5 :: u6 :: u7 :: u8 :: u9 :: u10 :: u11 :: .int x :: ls) (.int x :: st) hp c s := rfl
theorem rn_istore12 (n : Nat) (u0 u1 u2 u3 u4 u5 u6 u7 u8 u9 u10 u11 : Value) (w : Value) : run ro call ((pc, .istore n, [12]) :: r) e (u0 :: u1 :: u2 :: u3 :: u4 :: u5 :: u6 :: u7 :: u8 :: u9 :: u10 :: u11 :: w :: ls) (.int x :: st) hp c s = run ro call r e (u0 :: u1 :: u2 :: u3 :: u4 :: u5 :: u6 :: u7 :: u8 :: u9 :: u10 :: u11 :: .int x :: ls) st hp c s := by
  show (if 12 < (u0 :: u1 :: u2 :: u3 :: u4 :: u5 :: u6 :: u7 :: u8 :: u9 :: u10 :: u11 :: w :: ls).length then run ro call r e (u0 :: u1 :: u2 :: u3 :: u4 :: u5 :: u6 :: u7 :: u8 :: u9 :: u10 :: u11 :: .int x :: ls) st hp c s else none) = _
  exact if_pos (by simp only [List.length_cons]; omega)
theorem rn_iincK12 (i : Nat) (n : Int) (k : Nat) (u0 u1 u2 u3 u4 u5 u6 u7 u8 u9 u10 u11 : Value) : run ro call ((pc, .iinc i n, [12, k]) :: r) e (u0 :: u1 :: u2 :: u3 :: u4 :: u5 :: u6 :: u7 :: u8 :: u9 :: u10 :: u11 :: .int x :: ls) st hp c s = run ro call r e (u0 :: u1 :: u2 :: u3 :: u4 :: u5 :: u6 :: u7 :: u8 :: u9 :: u10 :: u11 :: .int (x + nI k) :: ls) st hp c s := rfl
theorem rn_iinc12 (i : Nat) (n : Int) (u0 u1 u2 u3 u4 u5 u6 u7 u8 u9 u10 u11 : Value) : run ro call ((pc, .iinc i n, [12]) :: r) e (u0 :: u1 :: u2 :: u3 :: u4 :: u5 :: u6 :: u7 :: u8 :: u9 :: u10 :: u11 :: .int x :: ls) st hp c s = run ro call r e (u0 :: u1 :: u2 :: u3 :: u4 :: u5 :: u6 :: u7 :: u8 :: u9 :: u10 :: u11 :: .int (x + Int32.ofInt n) :: ls) st hp c s := rfl
theorem rn_iload13 (n : Nat) (u0 u1 u2 u3 u4 u5 u6 u7 u8 u9 u10 u11 u12 : Value) : run ro call ((pc, .iload n, [13]) :: r) e (u0 :: u1 :: u2 :: u3 :: u4 :: u5 :: u6 :: u7 :: u8 :: u9 :: u10 :: u11 :: u12 :: .int x :: ls) st hp c s = run ro call r e (u0 :: u1 :: u2 :: u3 :: u4 :: u5 :: u6 :: u7 :: u8 :: u9 :: u10 :: u11 :: u12 :: .int x :: ls) (.int x :: st) hp c s := rfl
theorem rn_istore13 (n : Nat) (u0 u1 u2 u3 u4 u5 u6 u7 u8 u9 u10 u11 u12 : Value) (w : Value) : run ro call ((pc, .istore n, [13]) :: r) e (u0 :: u1 :: u2 :: u3 :: u4 :: u5 :: u6 :: u7 :: u8 :: u9 :: u10 :: u11 :: u12 :: w :: ls) (.int x :: st) hp c s = run ro call r e (u0 :: u1 :: u2 :: u3 :: u4 :: u5 :: u6 :: u7 :: u8 :: u9 :: u10 :: u11 :: u12 :: .int x :: ls) st hp c s := by
  show (if 13 < (u0 :: u1 :: u2 :: u3 :: u4 :: u5 :: u6 :: u7 :: u8 :: u9 :: u10 :: u11 :: u12 :: w :: ls).length then run ro call r e (u0 :: u1 :: u2 :: u3 :: u4 :: u5 :: u6 :: u7 :: u8 :: u9 :: u10 :: u11 :: u12 :: .int x :: ls) st hp c s else none) = _
  exact if_pos (by simp only [List.length_cons]; omega)
theorem rn_iincK13 (i : Nat) (n : Int) (k : Nat) (u0 u1 u2 u3 u4 u5 u6 u7 u8 u9 u10 u11 u12 : Value) : run ro call ((pc, .iinc i n, [13, k]) :: r) e (u0 :: u1 :: u2 :: u3 :: u4 :: u5 :: u6 :: u7 :: u8 :: u9 :: u10 :: u11 :: u12 :: .int x :: ls) st hp c s = run ro call r e (u0 :: u1 :: u2 :: u3 :: u4 :: u5 :: u6 :: u7 :: u8 :: u9 :: u10 :: u11 :: u12 :: .int (x + nI k) :: ls) st hp c s := rfl
theorem rn_iinc13 (i : Nat) (n : Int) (u0 u1 u2 u3 u4 u5 u6 u7 u8 u9 u10 u11 u12 : Value) : run ro call ((pc, .iinc i n, [13]) :: r) e (u0 :: u1 :: u2 :: u3 :: u4 :: u5 :: u6 :: u7 :: u8 :: u9 :: u10 :: u11 :: u12 :: .int x :: ls) st hp c s = run ro call r e (u0 :: u1 :: u2 :: u3 :: u4 :: u5 :: u6 :: u7 :: u8 :: u9 :: u10 :: u11 :: u12 :: .int (x + Int32.ofInt n) :: ls) st hp c s := rfl
theorem rn_iload14 (n : Nat) (u0 u1 u2 u3 u4 u5 u6 u7 u8 u9 u10 u11 u12 u13 : Value) : run ro call ((pc, .iload n, [14]) :: r) e (u0 :: u1 :: u2 :: u3 :: u4 :: u5 :: u6 :: u7 :: u8 :: u9 :: u10 :: u11 :: u12 :: u13 :: .int x :: ls) st hp c s = run ro call r e (u0 :: u1 :: u2 :: u3 :: u4 :: u5 :: u6 :: u7 :: u8 :: u9 :: u10 :: u11 :: u12 :: u13 :: .int x :: ls) (.int x :: st) hp c s := rfl
theorem rn_istore14 (n : Nat) (u0 u1 u2 u3 u4 u5 u6 u7 u8 u9 u10 u11 u12 u13 : Value) (w : Value) : run ro call ((pc, .istore n, [14]) :: r) e (u0 :: u1 :: u2 :: u3 :: u4 :: u5 :: u6 :: u7 :: u8 :: u9 :: u10 :: u11 :: u12 :: u13 :: w :: ls) (.int x :: st) hp c s = run ro call r e (u0 :: u1 :: u2 :: u3 :: u4 :: u5 :: u6 :: u7 :: u8 :: u9 :: u10 :: u11 :: u12 :: u13 :: .int x :: ls) st hp c s := by
  show (if 14 < (u0 :: u1 :: u2 :: u3 :: u4 :: u5 :: u6 :: u7 :: u8 :: u9 :: u10 :: u11 :: u12 :: u13 :: w :: ls).length then run ro call r e (u0 :: u1 :: u2 :: u3 :: u4 :: u5 :: u6 :: u7 :: u8 :: u9 :: u10 :: u11 :: u12 :: u13 :: .int x :: ls) st hp c s else none) = _
  exact if_pos (by simp only [List.length_cons]; omega)
theorem rn_iincK14 (i : Nat) (n : Int) (k : Nat) (u0 u1 u2 u3 u4 u5 u6 u7 u8 u9 u10 u11 u12 u13 : Value) : run ro call ((pc, .iinc i n, [14, k]) :: r) e (u0 :: u1 :: u2 :: u3 :: u4 :: u5 :: u6 :: u7 :: u8 :: u9 :: u10 :: u11 :: u12 :: u13 :: .int x :: ls) st hp c s = run ro call r e (u0 :: u1 :: u2 :: u3 :: u4 :: u5 :: u6 :: u7 :: u8 :: u9 :: u10 :: u11 :: u12 :: u13 :: .int (x + nI k) :: ls) st hp c s := rfl
theorem rn_iinc14 (i : Nat) (n : Int) (u0 u1 u2 u3 u4 u5 u6 u7 u8 u9 u10 u11 u12 u13 : Value) : run ro call ((pc, .iinc i n, [14]) :: r) e (u0 :: u1 :: u2 :: u3 :: u4 :: u5 :: u6 :: u7 :: u8 :: u9 :: u10 :: u11 :: u12 :: u13 :: .int x :: ls) st hp c s = run ro call r e (u0 :: u1 :: u2 :: u3 :: u4 :: u5 :: u6 :: u7 :: u8 :: u9 :: u10 :: u11 :: u12 :: u13 :: .int (x + Int32.ofInt n) :: ls) st hp c s := rfl
theorem rn_iload15 (n : Nat) (u0 u1 u2 u3 u4 u5 u6 u7 u8 u9 u10 u11 u12 u13 u14 : Value) : run ro call ((pc, .iload n, [15]) :: r) e (u0 :: u1 :: u2 :: u3 :: u4 :: u5 :: u6 :: u7 :: u8 :: u9 :: u10 :: u11 :: u12 :: u13 :: u14 :: .int x :: ls) st hp c s = run ro call r e (u0 :: u1 :: u2 :: u3 :: u4 :: u5 :: u6 :: u7 :: u8 :: u9 :: u10 :: u11 :: u12 :: u13 :: u14 :: .int x :: ls) (.int x :: st) hp c s := rfl
theorem rn_istore15 (n : Nat) (u0 u1 u2 u3 u4 u5 u6 u7 u8 u9 u10 u11 u12 u13 u14 : Value) (w : Value) : run ro call ((pc, .istore n, [15]) :: r) e (u0 :: u1 :: u2 :: u3 :: u4 :: u5 :: u6 :: u7 :: u8 :: u9 :: u10 :: u11 :: u12 :: u13 :: u14 :: w :: ls) (.int x :: st) hp c s = run ro call r e (u0 :: u1 :: u2 :: u3 :: u4 :: u5 :: u6 :: u7 :: u8 :: u9 :: u10 :: u11 :: u12 :: u13 :: u14 :: .int x :: ls) st hp c s := by
  show (if 15 < (u0 :: u1 :: u2 :: u3 :: u4 :: u5 :: u6 :: u7 :: u8 :: u9 :: u10 :: u11 :: u12 :: u13 :: u14 :: w :: ls).length then run ro call r e (u0 :: u1 :: u2 :: u3 :: u4 :: u5 :: u6 :: u7 :: u8 :: u9 :: u10 :: u11 :: u12 :: u13 :: u14 :: .int x :: ls) st hp c s else none) = _
  exact if_pos (by simp only [List.length_cons]; omega)
theorem rn_iincK15 (i : Nat) (n : Int) (k : Nat) (u0 u1 u2 u3 u4 u5 u6 u7 u8 u9 u10 u11 u12 u13 u14 : Value) : run ro call ((pc, .iinc i n, [15, k]) :: r) e (u0 :: u1 :: u2 :: u3 :: u4 :: u5 :: u6 :: u7 :: u8 :: u9 :: u10 :: u11 :: u12 :: u13 :: u14 :: .int x :: ls) st hp c s = run ro call r e (u0 :: u1 :: u2 :: u3 :: u4 :: u5 :: u6 :: u7 :: u8 :: u9 :: u10 :: u11 :: u12 :: u13 :: u14 :: .int (x + nI k) :: ls) st hp c s := rfl
theorem rn_iinc15 (i : Nat) (n : Int) (u0 u1 u2 u3 u4 u5 u6 u7 u8 u9 u10 u11 u12 u13 u14 : Value) : run ro call ((pc, .iinc i n, [15]) :: r) e (u0 :: u1 :: u2 :: u3 :: u4 :: u5 :: u6 :: u7 :: u8 :: u9 :: u10 :: u11 :: u12 :: u13 :: u14 :: .int x :: ls) st hp c s = run ro call r e (u0 :: u1 :: u2 :: u3 :: u4 :: u5 :: u6 :: u7 :: u8 :: u9 :: u10 :: u11 :: u12 :: u13 :: u14 :: .int (x + Int32.ofInt n) :: ls) st hp c s := rfl
theorem rn_iload16 (n : Nat) (u0 u1 u2 u3 u4 u5 u6 u7 u8 u9 u10 u11 u12 u13 u14 u15 : Value) : run ro call ((pc, .iload n, [16]) :: r) e (u0 :: u1 :: u2 :: u3 :: u4 :: u5 :: u6 :: u7 :: u8 :: u9 :: u10 :: u11 :: u12 :: u13 :: u14 :: u15 :: .int x :: ls) st hp c s = run ro call r e (u0 :: u1 :: u2 :: u3 :: u4 :: u5 :: u6 :: u7 :: u8 :: u9 :: u10 :: u11 :: u12 :: u13 :: u14 :: u15 :: .int x :: ls) (.int x :: st) hp c s := rfl
theorem rn_istore16 (n : Nat) (u0 u1 u2 u3 u4 u5 u6 u7 u8 u9 u10 u11 u12 u13 u14 u15 : Value) (w : Value) : run ro call ((pc, .istore n, [16]) :: r) e (u0 :: u1 :: u2 :: u3 :: u4 :: u5 :: u6 :: u7 :: u8 :: u9 :: u10 :: u11 :: u12 :: u13 :: u14 :: u15 :: w :: ls) (.int x :: st) hp c s = run ro call r e (u0 :: u1 :: u2 :: u3 :: u4 :: u5 :: u6 :: u7 :: u8 :: u9 :: u10 :: u11 :: u12 :: u13 :: u14 :: u15 :: .int x :: ls) st hp c s := by
  show (if 16 < (u0 :: u1 :: u2 :: u3 :: u4 :: u5 :: u6 :: u7 :: u8 :: u9 :: u10 :: u11 :: u12 :: u13 :: u14 :: u15 :: w :: ls).length then run ro call r e (u0 :: u1 :: u2 :: u3 :: u4 :: u5 :: u6 :: u7 :: u8 :: u9 :: u10 :: u11 :: u12 :: u13 :: u14 :: u15 :: .int x :: ls) st hp c s else none) = _
  exact if_pos (by simp only [List.length_cons]; omega)
theorem rn_iincK16 (i : Nat) (n : Int) (k : Nat) (u0 u1 u2 u3 u4 u5 u6 u7 u8 u9 u10 u11 u12 u13 u14 u15 : Value) : run ro call ((pc, .iinc i n, [16, k]) :: r) e (u0 :: u1 :: u2 :: u3 :: u4 :: u5 :: u6 :: u7 :: u8 :: u9 :: u10 :: u11 :: u12 :: u13 :: u14 :: u15 :: .int x :: ls) st hp c s = run ro call r e (u0 :: u1 :: u2 :: u3 :: u4 :: u5 :: u6 :: u7 :: u8 :: u9 :: u10 :: u11 :: u12 :: u13 :: u14 :: u15 :: .int (x + nI k) :: ls) st hp c s := rfl
theorem rn_iinc16 (i : Nat) (n : Int) (u0 u1 u2 u3 u4 u5 u6 u7 u8 u9 u10 u11 u12 u13 u14 u15 : Value) : run ro call ((pc, .iinc i n, [16]) :: r) e (u0 :: u1 :: u2 :: u3 :: u4 :: u5 :: u6 :: u7 :: u8 :: u9 :: u10 :: u11 :: u12 :: u13 :: u14 :: u15 :: .int x :: ls) st hp c s = run ro call r e (u0 :: u1 :: u2 :: u3 :: u4 :: u5 :: u6 :: u7 :: u8 :: u9 :: u10 :: u11 :: u12 :: u13 :: u14 :: u15 :: .int (x + Int32.ofInt n) :: ls) st hp c s := rfl
theorem rn_iload17 (n : Nat) (u0 u1 u2 u3 u4 u5 u6 u7 u8 u9 u10 u11 u12 u13 u14 u15 u16 : Value) : run ro call ((pc, .iload n, [17]) :: r) e (u0 :: u1 :: u2 :: u3 :: u4 :: u5 :: u6 :: u7 :: u8 :: u9 :: u10 :: u11 :: u12 :: u13 :: u14 :: u15 :: u16 :: .int x :: ls) st hp c s = run ro call r e (u0 :: u1 :: u2 :: u3 :: u4 :: u5 :: u6 :: u7 :: u8 :: u9 :: u10 :: u11 :: u12 :: u13 :: u14 :: u15 :: u16 :: .int x :: ls) (.int x :: st) hp c s := rfl
theorem rn_istore17 (n : Nat) (u0 u1 u2 u3 u4 u5 u6 u7 u8 u9 u10 u11 u12 u13 u14 u15 u16 : Value) (w : Value) : run ro call ((pc, .istore n, [17]) :: r) e (u0 :: u1 :: u2 :: u3 :: u4 :: u5 :: u6 :: u7 :: u8 :: u9 :: u10 :: u11 :: u12 :: u13 :: u14 :: u15 :: u16 :: w :: ls) (.int x :: st) hp c s = run ro call r e (u0 :: u1 :: u2 :: u3 :: u4 :: u5 :: u6 :: u7 :: u8 :: u9 :: u10 :: u11 :: u12 :: u13 :: u14 :: u15 :: u16 :: .int x :: ls) st hp c s := by
  show (if 17 < (u0 :: u1 :: u2 :: u3 :: u4 :: u5 :: u6 :: u7 :: u8 :: u9 :: u10 :: u11 :: u12 :: u13 :: u14 :: u15 :: u16 :: w :: ls).length then run ro call r e (u0 :: u1 :: u2 :: u3 :: u4 :: u5 :: u6 :: u7 :: u8 :: u9 :: u10 :: u11 :: u12 :: u13 :: u14 :: u15 :: u16 :: .int x :: ls) st hp c s else none) = _
  exact if_pos (by simp only [List.length_cons]; omega)
theorem rn_iincK17 (i : Nat) (n : Int) (k : Nat) (u0 u1 u2 u3 u4 u5 u6 u7 u8 u9 u10 u11 u12 u13 u14 u15 u16 : Value) : run ro call ((pc, .iinc i n, [17, k]) :: r) e (u0 :: u1 :: u2 :: u3 :: u4 :: u5 :: u6 :: u7 :: u8 :: u9 :: u10 :: u11 :: u12 :: u13 :: u14 :: u15 :: u16 :: .int x :: ls) st hp c s = run ro call r e (u0 :: u1 :: u2 :: u3 :: u4 :: u5 :: u6 :: u7 :: u8 :: u9 :: u10 :: u11 :: u12 :: u13 :: u14 :: u15 :: u16 :: .int (x + nI k) :: ls) st hp c s := rfl
theorem rn_iinc17 (i : Nat) (n : Int) (u0 u1 u2 u3 u4 u5 u6 u7 u8 u9 u10 u11 u12 u13 u14 u15 u16 : Value) : run ro call ((pc, .iinc i n, [17]) :: r) e (u0 :: u1 :: u2 :: u3 :: u4 :: u5 :: u6 :: u7 :: u8 :: u9 :: u10 :: u11 :: u12 :: u13 :: u14 :: u15 :: u16 :: .int x :: ls) st hp c s = run ro call r e (u0 :: u1 :: u2 :: u3 :: u4 :: u5 :: u6 :: u7 :: u8 :: u9 :: u10 :: u11 :: u12 :: u13 :: u14 :: u15 :: u16 :: .int (x + Int32.ofInt n) :: ls) st hp c s := rfl
theorem rn_iload18 (n : Nat) (u0 u1 u2 u3 u4 u5 u6 u7 u8 u9 u10 u11 u12 u13 u14 u15 u16 u17 : Value) : run ro call ((pc, .iload n, [18]) :: r) e (u0 :: u1 :: u2 :: u3 :: u4 :: u5 :: u6 :: u7 :: u8 :: u9 :: u10 :: u11 :: u12 :: u13 :: u14 :: u15 :: u16 :: u17 :: .int x :: ls) st hp c s = run ro call r e (u0 :: u1 :: u2 :: u3 :: u4 :: u5 :: u6 :: u7 :: u8 :: u9 :: u10 :: u11 :: u12 :: u13 :: u14 :: u15 :: u16 :: u17 :: .int x :: ls) (.int x :: st) hp c s := rfl
theorem rn_istore18 (n : Nat) (u0 u1 u2 u3 u4 u5 u6 u7 u8 u9 u10 u11 u12 u13 u14 u15 u16 u17 : Value) (w : Value) : run ro call ((pc, .istore n, [18]) :: r) e (u0 :: u1 :: u2 :: u3 :: u4 :: u5 :: u6 :: u7 :: u8 :: u9 :: u10 :: u11 :: u12 :: u13 :: u14 :: u15 :: u16 :: u17 :: w :: ls) (.int x :: st) hp c s = run ro call r e (u0 :: u1 :: u2 :: u3 :: u4 :: u5 :: u6 :: u7 :: u8 :: u9 :: u10 :: u11 :: u12 :: u13 :: u14 :: u15 :: u16 :: u17 :: .int x :: ls) st hp c s := by
  show (if 18 < (u0 :: u1 :: u2 :: u3 :: u4 :: u5 :: u6 :: u7 :: u8 :: u9 :: u10 :: u11 :: u12 :: u13 :: u14 :: u15 :: u16 :: u17 :: w :: ls).length then run ro call r e (u0 :: u1 :: u2 :: u3 :: u4 :: u5 :: u6 :: u7 :: u8 :: u9 :: u10 :: u11 :: u12 :: u13 :: u14 :: u15 :: u16 :: u17 :: .int x :: ls) st hp c s else none) = _
  exact if_pos (by simp only [List.length_cons]; omega)
theorem rn_iincK18 (i : Nat) (n : Int) (k : Nat) (u0 u1 u2 u3 u4 u5 u6 u7 u8 u9 u10 u11 u12 u13 u14 u15 u16 u17 : Value) : run ro call ((pc, .iinc i n, [18, k]) :: r) e (u0 :: u1 :: u2 :: u3 :: u4 :: u5 :: u6 :: u7 :: u8 :: u9 :: u10 :: u11 :: u12 :: u13 :: u14 :: u15 :: u16 :: u17 :: .int x :: ls) st hp c s = run ro call r e (u0 :: u1 :: u2 :: u3 :: u4 :: u5 :: u6 :: u7 :: u8 :: u9 :: u10 :: u11 :: u12 :: u13 :: u14 :: u15 :: u16 :: u17 :: .int (x + nI k) :: ls) st hp c s := rfl
theorem rn_iinc18 (i : Nat) (n : Int) (u0 u1 u2 u3 u4 u5 u6 u7 u8 u9 u10 u11 u12 u13 u14 u15 u16 u17 : Value) : run ro call ((pc, .iinc i n, [18]) :: r) e (u0 :: u1 :: u2 :: u3 :: u4 :: u5 :: u6 :: u7 :: u8 :: u9 :: u10 :: u11 :: u12 :: u13 :: u14 :: u15 :: u16 :: u17 :: .int x :: ls) st hp c s = run ro call r e (u0 :: u1 :: u2 :: u3 :: u4 :: u5 :: u6 :: u7 :: u8 :: u9 :: u10 :: u11 :: u12 :: u13 :: u14 :: u15 :: u16 :: u17 :: .int (x + Int32.ofInt n) :: ls) st hp c s := rfl
theorem rn_iload19 (n : Nat) (u0 u1 u2 u3 u4 u5 u6 u7 u8 u9 u10 u11 u12 u13 u14 u15 u16 u17 u18 : Value) : run ro call ((pc, .iload n, [19]) :: r) e (u0 :: u1 :: u2 :: u3 :: u4 :: u5 :: u6 :: u7 :: u8 :: u9 :: u10 :: u11 :: u12 :: u13 :: u14 :: u15 :: u16 :: u17 :: u18 :: .int x :: ls) st hp c s = run ro call r e (u0 :: u1 :: u2 :: u3 :: u4 :: u5 :: u6 :: u7 :: u8 :: u9 :: u10 :: u11 :: u12 :: u13 :: u14 :: u15 :: u16 :: u17 :: u18 :: .int x :: ls) (.int x :: st) hp c s := rfl
theorem rn_istore19 (n : Nat) (u0 u1 u2 u3 u4 u5 u6 u7 u8 u9 u10 u11 u12 u13 u14 u15 u16 u17 u18 : Value) (w : Value) : run ro call ((pc, .istore n, [19]) :: r) e (u0 :: u1 :: u2 :: u3 :: u4 :: u5 :: u6 :: u7 :: u8 :: u9 :: u10 :: u11 :: u12 :: u13 :: u14 :: u15 :: u16 :: u17 :: u18 :: w :: ls) (.int x :: st) hp c s = run ro call r e (u0 :: u1 :: u2 :: u3 :: u4 :: u5 :: u6 :: u7 :: u8 :: u9 :: u10 :: u11 :: u12 :: u13 :: u14 :: u15 :: u16 :: u17 :: u18 :: .int x :: ls) st hp c s := by
  show (if 19 < (u0 :: u1 :: u2 :: u3 :: u4 :: u5 :: u6 :: u7 :: u8 :: u9 :: u10 :: u11 :: u12 :: u13 :: u14 :: u15 :: u16 :: u17 :: u18 :: w :: ls).length then run ro call r e (u0 :: u1 :: u2 :: u3 :: u4 :: u5 :: u6 :: u7 :: u8 :: u9 :: u10 :: u11 :: u12 :: u13 :: u14 :: u15 :: u16 :: u17 :: u18 :: .int x :: ls) st hp c s else none) = _
  exact if_pos (by simp only [List.length_cons]; omega)
theorem rn_iincK19 (i : Nat) (n : Int) (k : Nat) (u0 u1 u2 u3 u4 u5 u6 u7 u8 u9 u10 u11 u12 u13 u14 u15 u16 u17 u18 : Value) : run ro call ((pc, .iinc i n, [19, k]) :: r) e (u0 :: u1 :: u2 :: u3 :: u4 :: u5 :: u6 :: u7 :: u8 :: u9 :: u10 :: u11 :: u12 :: u13 :: u14 :: u15 :: u16 :: u17 :: u18 :: .int x :: ls) st hp c s = run ro call r e (u0 :: u1 :: u2 :: u3 :: u4 :: u5 :: u6 :: u7 :: u8 :: u9 :: u10 :: u11 :: u12 :: u13 :: u14 :: u15 :: u16 :: u17 :: u18 :: .int (x + nI k) :: ls) st hp c s := rfl
theorem rn_iinc19 (i : Nat) (n : Int) (u0 u1 u2 u3 u4 u5 u6 u7 u8 u9 u10 u11 u12 u13 u14 u15 u16 u17 u18 : Value) : run ro call ((pc, .iinc i n, [19]) :: r) e (u0 :: u1 :: u2 :: u3 :: u4 :: u5 :: u6 :: u7 :: u8 :: u9 :: u10 :: u11 :: u12 :: u13 :: u14 :: u15 :: u16 :: u17 :: u18 :: .int x :: ls) st hp c s = run ro call r e (u0 :: u1 :: u2 :: u3 :: u4 :: u5 :: u6 :: u7 :: u8 :: u9 :: u10 :: u11 :: u12 :: u13 :: u14 :: u15 :: u16 :: u17 :: u18 :: .int (x + Int32.ofInt n) :: ls) st hp c s := rfl
theorem rn_iload20 (n : Nat) (u0 u1 u2 u3 u4 u5 u6 u7 u8 u9 u10 u11 u12 u13 u14 u15 u16 u17 u18 u19 : Value) : run ro call ((pc, .iload n, [20]) :: r) e (u0 :: u1 :: u2 :: u3 :: u4 :: u5 :: u6 :: u7 :: u8 :: u9 :: u10 :: u11 :: u12 :: u13 :: u14 :: u15 :: u16 :: u17 :: u18 :: u19 :: .int x :: ls) st hp c s = run ro call r e (u0 :: u1 :: u2 :: u3 :: u4 :: u5 :: u6 :: u7 :: u8 :: u9 :: u10 :: u11 :: u12 :: u13 :: u14 :: u15 :: u16 :: u17 :: u18 :: u19 :: .int x :: ls) (.int x :: st) hp c s := rfl
theorem rn_istore20 (n : Nat) (u0 u1 u2 u3 u4 u5 u6 u7 u8 u9 u10 u11 u12 u13 u14 u15 u16 u17 u18 u19 : Value) (w : Value) : run ro call ((pc, .istore n, [20]) :: r) e (u0 :: u1 :: u2 :: u3 :: u4 :: u5 :: u6 :: u7 :: u8 :: u9 :: u10 :: u11 :: u12 :: u13 :: u14 :: u15 :: u16 :: u17 :: u18 :: u19 :: w :: ls) (.int x :: st) hp c s = run ro call r e (u0 :: u1 :: u2 :: u3 :: u4 :: u5 :: u6 :: u7 :: u8 :: u9 :: u10 :: u11 :: u12 :: u13 :: u14 :: u15 :: u16 :: u17 :: u18 :: u19 :: .int x :: ls) st hp c s := by
  show (if 20 < (u0 :: u1 :: u2 :: u3 :: u4 :: u5 :: u6 :: u7 :: u8 :: u9 :: u10 :: u11 :: u12 :: u13 :: u14 :: u15 :: u16 :: u17 :: u18 :: u19 :: w :: ls).length then run ro call r e (u0 :: u1 :: u2 :: u3 :: u4 :: u5 :: u6 :: u7 :: u8 :: u9 :: u10 :: u11 :: u12 :: u13 :: u14 :: u15 :: u16 :: u17 :: u18 :: u19 :: .int x :: ls) st hp c s else none) = _
  exact if_pos (by simp only [List.length_cons]; omega)
theorem rn_iincK20 (i : Nat) (n : Int) (k : Nat) (u0 u1 u2 u3 u4 u5 u6 u7 u8 u9 u10 u11 u12 u13 u14 u15 u16 u17 u18 u19 : Value) : run ro call ((pc, .iinc i n, [20, k]) :: r) e (u0 :: u1 :: u2 :: u3 :: u4 :: u5 :: u6 :: u7 :: u8 :: u9 :: u10 :: u11 :: u12 :: u13 :: u14 :: u15 :: u16 :: u17 :: u18 :: u19 :: .int x :: ls) st hp c s = run ro call r e (u0 :: u1 :: u2 :: u3 :: u4 :: u5 :: u6 :: u7 :: u8 :: u9 :: u10 :: u11 :: u12 :: u13 :: u14 :: u15 :: u16 :: u17 :: u18 :: u19 :: .int (x + nI k) :: ls) st hp c s := rfl
theorem rn_iinc20 (i : Nat) (n : Int) (u0 u1 u2 u3 u4 u5 u6 u7 u8 u9 u10 u11 u12 u13 u14 u15 u16 u17 u18 u19 : Value) : run ro call ((pc, .iinc i n, [20]) :: r) e (u0 :: u1 :: u2 :: u3 :: u4 :: u5 :: u6 :: u7 :: u8 :: u9 :: u10 :: u11 :: u12 :: u13 :: u14 :: u15 :: u16 :: u17 :: u18 :: u19 :: .int x :: ls) st hp c s = run ro call r e (u0 :: u1 :: u2 :: u3 :: u4 :: u5 :: u6 :: u7 :: u8 :: u9 :: u10 :: u11 :: u12 :: u13 :: u14 :: u15 :: u16 :: u17 :: u18 :: u19 :: .int (x + Int32.ofInt n) :: ls) st hp c s := rfl
theorem rn_iload21 (n : Nat) (u0 u1 u2 u3 u4 u5 u6 u7 u8 u9 u10 u11 u12 u13 u14 u15 u16 u17 u18 u19 u20 : Value) : run ro call ((pc, .iload n, [21]) :: r) e (u0 :: u1 :: u2 :: u3 :: u4 :: u5 :: u6 :: u7 :: u8 :: u9 :: u10 :: u11 :: u12 :: u13 :: u14 :: u15 :: u16 :: u17 :: u18 :: u19 :: u20 :: .int x :: ls) st hp c s = run ro call r e (u0 :: u1 :: u2 :: u3 :: u4 :: u5 :: u6 :: u7 :: u8 :: u9 :: u10 :: u11 :: u12 :: u13 :: u14 :: u15 :: u16 :: u17 :: u18 :: u19 :: u20 :: .int x :: ls) (.int x :: st) hp c s := rfl
theorem rn_istore21 (n : Nat) (u0 u1 u2 u3 u4 u5 u6 u7 u8 u9 u10 u11 u12 u13 u14 u15 u16 u17 u18 u19 u20 : Value) (w : Value) : run ro call ((pc, .istore n, [21]) :: r) e (u0 :: u1 :: u2 :: u3 :: u4 :: u5 :: u6 :: u7 :: u8 :: u9 :: u10 :: u11 :: u12 :: u13 :: u14 :: u15 :: u16 :: u17 :: u18 :: u19 :: u20 :: w :: ls) (.int x :: st) hp c s = run ro call r e (u0 :: u1 :: u2 :: u3 :: u4 :: u5 :: u6 :: u7 :: u8 :: u9 :: u10 :: u11 :: u12 :: u13 :: u14 :: u15 :: u16 :: u17 :: u18 :: u19 :: u20 :: .int x :: ls) st hp c s := by
  show (if 21 < (u0 :: u1 :: u2 :: u3 :: u4 :: u5 :: u6 :: u7 :: u8 :: u9 :: u10 :: u11 :: u12 :: u13 :: u14 :: u15 :: u16 :: u17 :: u18 :: u19 :: u20 :: w :: ls).length then run ro call r e (u0 :: u1 :: u2 :: u3 :: u4 :: u5 :: u6 :: u7 :: u8 :: u9 :: u10 :: u11 :: u12 :: u13 :: u14 :: u15 :: u16 :: u17 :: u18 :: u19 :: u20 :: .int x :: ls) st hp c s else none) = _
  exact if_pos (by simp only [List.length_cons]; omega)
theorem rn_iincK21 (i : Nat) (n : Int) (k : Nat) (u0 u1 u2 u3 u4 u5 u6 u7 u8 u9 u10 u11 u12 u13 u14 u15 u16 u17 u18 u19 u20 : Value) : run ro call ((pc, .iinc i n, [21, k]) :: r) e (u0 :: u1 :: u2 :: u3 :: u4 :: u5 :: u6 :: u7 :: u8 :: u9 :: u10 :: u11 :: u12 :: u13 :: u14 :: u15 :: u16 :: u17 :: u18 :: u19 :: u20 :: .int x :: ls) st hp c s = run ro call r e (u0 :: u1 :: u2 :: u3 :: u4 :: u5 :: u6 :: u7 :: u8 :: u9 :: u10 :: u11 :: u12 :: u13 :: u14 :: u15 :: u16 :: u17 :: u18 :: u19 :: u20 :: .int (x + nI k) :: ls) st hp c s := rfl
theorem rn_iinc21 (i : Nat) (n : Int) (u0 u1 u2 u3 u4 u5 u6 u7 u8 u9 u10 u11 u12 u13 u14 u15 u16 u17 u18 u19 u20 : Value) : run ro call ((pc, .iinc i n, [21]) :: r) e (u0 :: u1 :: u2 :: u3 :: u4 :: u5 :: u6 :: u7 :: u8 :: u9 :: u10 :: u11 :: u12 :: u13 :: u14 :: u15 :: u16 :: u17 :: u18 :: u19 :: u20 :: .int x :: ls) st hp c s = run ro call r e (u0 :: u1 :: u2 :: u3 :: u4 :: u5 :: u6 :: u7 :: u8 :: u9 :: u10 :: u11 :: u12 :: u13 :: u14 :: u15 :: u16 :: u17 :: u18 :: u19 :: u20 :: .int (x + Int32.ofInt n) :: ls) st hp c s := rfl
theorem rn_iload22 (n : Nat) (u0 u1 u2 u3 u4 u5 u6 u7 u8 u9 u10 u11 u12 u13 u14 u15 u16 u17 u18 u19 u20 u21 : Value) : run ro call ((pc, .iload n, [22]) :: r) e (u0 :: u1 :: u2 :: u3 :: u4 :: u5 :: u6 :: u7 :: u8 :: u9 :: u10 :: u11 :: u12 :: u13 :: u14 :: u15 :: u16 :: u17 :: u18 :: u19 :: u20 :: u21 :: .int x :: ls) st hp c s = run ro call r e (u0 :: u1 :: u2 :: u3 :: u4 :: u5 :: u6 :: u7 :: u8 :: u9 :: u10 :: u11 :: u12 :: u13 :: u14 :: u15 :: u16 :: u17 :: u18 :: u19 :: u20 :: u21 :: .int x :: ls) (.int x :: st) hp c s := rfl
theorem rn_istore22 (n : Nat) (u0 u1 u2 u3 u4 u5 u6 u7 u8 u9 u10 u11 u12 u13 u14 u15 u16 u17 u18 u19 u20 u21 : Value) (w : Value) : run ro call ((pc, .istore n, [22]) :: r) e (u0 :: u1 :: u2 :: u3 :: u4 :: u5 :: u6 :: u7 :: u8 :: u9 :: u10 :: u11 :: u12 :: u13 :: u14 :: u15 :: u16 :: u17 :: u18 :: u19 :: u20 :: u21 :: w :: ls) (.int x :: st) hp c s = run ro call r e (u0 :: u1 :: u2 :: u3 :: u4 :: u5 :: u6 :: u7 :: u8 :: u9 :: u10 :: u11 :: u12 :: u13 :: u14 :: u15 :: u16 :: u17 :: u18 :: u19 :: u20 :: u21 :: .int x :: ls) st hp c s := by
  show (if 22 < (u0 :: u1 :: u2 :: u3 :: u4 :: u5 :: u6 :: u7 :: u8 :: u9 :: u10 :: u11 :: u12 :: u13 :: u14 :: u15 :: u16 :: u17 :: u18 :: u19 :: u20 :: u21 :: w :: ls).length then run ro call r e (u0 :: u1 :: u2 :: u3 :: u4 :: u5 :: u6 :: u7 :: u8 :: u9 :: u10 :: u11 :: u12 :: u13 :: u14 :: u15 :: u16 :: u17 :: u18 :: u19 :: u20 :: u21 :: .int x :: ls) st hp c s else none) = _
  exact if_pos (by simp only [List.length_cons]; omega)
theorem rn_iincK22 (i : Nat) (n : Int) (k : Nat) (u0 u1 u2 u3 u4 u5 u6 u7 u8 u9 u10 u11 u12 u13 u14 u15 u16 u17 u18 u19 u20 u21 : Value) : run ro call ((pc, .iinc i n, [22, k]) :: r) e (u0 :: u1 :: u2 :: u3 :: u4 :: u5 :: u6 :: u7 :: u8 :: u9 :: u10 :: u11 :: u12 :: u13 :: u14 :: u15 :: u16 :: u17 :: u18 :: u19 :: u20 :: u21 :: .int x :: ls) st hp c s = run ro call r e (u0 :: u1 :: u2 :: u3 :: u4 :: u5 :: u6 :: u7 :: u8 :: u9 :: u10 :: u11 :: u12 :: u13 :: u14 :: u15 :: u16 :: u17 :: u18 :: u19 :: u20 :: u21 :: .int (x + nI k) :: ls) st hp c s := rfl
theorem rn_iinc22 (i : Nat) (n : Int) (u0 u1 u2 u3 u4 u5 u6 u7 u8 u9 u10 u11 u12 u13 u14 u15 u16 u17 u18 u19 u20 u21 : Value) : run ro call ((pc, .iinc i n, [22]) :: r) e (u0 :: u1 :: u2 :: u3 :: u4 :: u5 :: u6 :: u7 :: u8 :: u9 :: u10 :: u11 :: u12 :: u13 :: u14 :: u15 :: u16 :: u17 :: u18 :: u19 :: u20 :: u21 :: .int x :: ls) st hp c s = run ro call r e (u0 :: u1 :: u2 :: u3 :: u4 :: u5 :: u6 :: u7 :: u8 :: u9 :: u10 :: u11 :: u12 :: u13 :: u14 :: u15 :: u16 :: u17 :: u18 :: u19 :: u20 :: u21 :: .int (x + Int32.ofInt n) :: ls) st hp c s := rfl
theorem rn_iload23 (n : Nat) (u0 u1 u2 u3 u4 u5 u6 u7 u8 u9 u10 u11 u12 u13 u14 u15 u16 u17 u18 u19 u20 u21 u22 : Value) : run ro call ((pc, .iload n, [23]) :: r) e (u0 :: u1 :: u2 :: u3 :: u4 :: u5 :: u6 :: u7 :: u8 :: u9 :: u10 :: u11 :: u12 :: u13 :: u14 :: u15 :: u16 :: u17 :: u18 :: u19 :: u20 :: u21 :: u22 :: .int x :: ls) st hp c s = run ro call r e (u0 :: u1 :: u2 :: u3 :: u4 :: u5 :: u6 :: u7 :: u8 :: u9 :: u10 :: u11 :: u12 :: u13 :: u14 :: u15 :: u16 :: u17 :: u18 :: u19 :: u20 :: u21 :: u22 :: .int x :: ls) (.int x :: st) hp c s := rfl
theorem rn_istore23 (n : Nat) (u0 u1 u2 u3 u4 u5 u6 u7 u8 u9 u10 u11 u12 u13 u14 u15 u16 u17 u18 u19 u20 u21 u22 : Value) (w : Value) : run ro call ((pc, .istore n, [23]) :: r) e (u0 :: u1 :: u2 :: u3 :: u4 :: u5 :: u6 :: u7 :: u8 :: u9 :: u10 :: u11 :: u12 :: u13 :: u14 :: u15 :: u16 :: u17 :: u18 :: u19 :: u20 :: u21 :: u22 :: w :: ls) (.int x :: st) hp c s = run ro call r e (u0 :: u1 :: u2 :: u3 :: u4 :: u5 :: u6 :: u7 :: u8 :: u9 :: u10 :: u11 :: u12 :: u13 :: u14 :: u15 :: u16 :: u17 :: u18 :: u19 :: u20 :: u21 :: u22 :: .int x :: ls) st hp c s := by
  show (if 23 < (u0 :: u1 :: u2 :: u3 :: u4 :: u5 :: u6 :: u7 :: u8 :: u9 :: u10 :: u11 :: u12 :: u13 :: u14 :: u15 :: u16 :: u17 :: u18 :: u19 :: u20 :: u21 :: u22 :: w :: ls).length then run ro call r e (u0 :: u1 :: u2 :: u3 :: u4 :: u5 :: u6 :: u7 :: u8 :: u9 :: u10 :: u11 :: u12 :: u13 :: u14 :: u15 :: u16 :: u17 :: u18 :: u19 :: u20 :: u21 :: u22 :: .int x :: ls) st hp c s else none) = _
  exact if_pos (by simp only [List.length_cons]; omega)
theorem rn_iincK23 (i : Nat) (n : Int) (k : Nat) (u0 u1 u2 u3 u4 u5 u6 u7 u8 u9 u10 u11 u12 u13 u14 u15 u16 u17 u18 u19 u20 u21 u22 : Value) : run ro call ((pc, .iinc i n, [23, k]) :: r) e (u0 :: u1 :: u2 :: u3 :: u4 :: u5 :: u6 :: u7 :: u8 :: u9 :: u10 :: u11 :: u12 :: u13 :: u14 :: u15 :: u16 :: u17 :: u18 :: u19 :: u20 :: u21 :: u22 :: .int x :: ls) st hp c s = run ro call r e (u0 :: u1 :: u2 :: u3 :: u4 :: u5 :: u6 :: u7 :: u8 :: u9 :: u10 :: u11 :: u12 :: u13 :: u14 :: u15 :: u16 :: u17 :: u18 :: u19 :: u20 :: u21 :: u22 :: .int (x + nI k) :: ls) st hp c s := rfl
theorem rn_iinc23 (i : Nat) (n : Int) (u0 u1 u2 u3 u4 u5 u6 u7 u8 u9 u10 u11 u12 u13 u14 u15 u16 u17 u18 u19 u20 u21 u22 : Value) : run ro call ((pc, .iinc i n, [23]) :: r) e (u0 :: u1 :: u2 :: u3 :: u4 :: u5 :: u6 :: u7 :: u8 :: u9 :: u10 :: u11 :: u12 :: u13 :: u14 :: u15 :: u16 :: u17 :: u18 :: u19 :: u20 :: u21 :: u22 :: .int x :: ls) st hp c s = run ro call r e (u0 :: u1 :: u2 :: u3 :: u4 :: u5 :: u6 :: u7 :: u8 :: u9 :: u10 :: u11 :: u12 :: u13 :: u14 :: u15 :: u16 :: u17 :: u18 :: u19 :: u20 :: u21 :: u22 :: .int (x + Int32.ofInt n) :: ls) st hp c s := rfl
theorem rn_iload24 (n : Nat) (u0 u1 u2 u3 u4 u5 u6 u7 u8 u9 u10 u11 u12 u13 u14 u15 u16 u17 u18 u19 u20 u21 u22 u23 : Value) : run ro call ((pc, .iload n, [24]) :: r) e (u0 :: u1 :: u2 :: u3 :: u4 :: u5 :: u6 :: u7 :: u8 :: u9 :: u10 :: u11 :: u12 :: u13 :: u14 :: u15 :: u16 :: u17 :: u18 :: u19 :: u20 :: u21 :: u22 :: u23 :: .int x :: ls) st hp c s = run ro call r e (u0 :: u1 :: u2 :: u3 :: u4 :: u5 :: u6 :: u7 :: u8 :: u9 :: u10 :: u11 :: u12 :: u13 :: u14 :: u15 :: u16 :: u17 :: u18 :: u19 :: u20 :: u21 :: u22 :: u23 :: .int x :: ls) (.int x :: st) hp c s := rfl
theorem rn_istore24 (n : Nat) (u0 u1 u2 u3 u4 u5 u6 u7 u8 u9 u10 u11 u12 u13 u14 u15 u16 u17 u18 u19 u20 u21 u22 u23 : Value) (w : Value) : run ro call ((pc, .istore n, [24]) :: r) e (u0 :: u1 :: u2 :: u3 :: u4 :: u5 :: u6 :: u7 :: u8 :: u9 :: u10 :: u11 :: u12 :: u13 :: u14 :: u15 :: u16 :: u17 :: u18 :: u19 :: u20 :: u21 :: u22 :: u23 :: w :: ls) (.int x :: st) hp c s = run ro call r e (u0 :: u1 :: u2 :: u3 :: u4 :: u5 :: u6 :: u7 :: u8 :: u9 :: u10 :: u11 :: u12 :: u13 :: u14 :: u15 :: u16 :: u17 :: u18 :: u19 :: u20 :: u21 :: u22 :: u23 :: .int x :: ls) st hp c s := by
  show (if 24 < (u0 :: u1 :: u2 :: u3 :: u4 :: u5 :: u6 :: u7 :: u8 :: u9 :: u10 :: u11 :: u12 :: u13 :: u14 :: u15 :: u16 :: u17 :: u18 :: u19 :: u20 :: u21 :: u22 :: u23 :: w :: ls).length then run ro call r e (u0 :: u1 :: u2 :: u3 :: u4 :: u5 :: u6 :: u7 :: u8 :: u9 :: u10 :: u11 :: u12 :: u13 :: u14 :: u15 :: u16 :: u17 :: u18 :: u19 :: u20 :: u21 :: u22 :: u23 :: .int x :: ls) st hp c s else none) = _
  exact if_pos (by simp only [List.length_cons]; omega)
theorem rn_iincK24 (i : Nat) (n : Int) (k : Nat) (u0 u1 u2 u3 u4 u5 u6 u7 u8 u9 u10 u11 u12 u13 u14 u15 u16 u17 u18 u19 u20 u21 u22 u23 : Value) : run ro call ((pc, .iinc i n, [24, k]) :: r) e (u0 :: u1 :: u2 :: u3 :: u4 :: u5 :: u6 :: u7 :: u8 :: u9 :: u10 :: u11 :: u12 :: u13 :: u14 :: u15 :: u16 :: u17 :: u18 :: u19 :: u20 :: u21 :: u22 :: u23 :: .int x :: ls) st hp c s = run ro call r e (u0 :: u1 :: u2 :: u3 :: u4 :: u5 :: u6 :: u7 :: u8 :: u9 :: u10 :: u11 :: u12 :: u13 :: u14 :: u15 :: u16 :: u17 :: u18 :: u19 :: u20 :: u21 :: u22 :: u23 :: .int (x + nI k) :: ls) st hp c s := rfl
theorem rn_iinc24 (i : Nat) (n : Int) (u0 u1 u2 u3 u4 u5 u6 u7 u8 u9 u10 u11 u12 u13 u14 u15 u16 u17 u18 u19 u20 u21 u22 u23 : Value) : run ro call ((pc, .iinc i n, [24]) :: r) e (u0 :: u1 :: u2 :: u3 :: u4 :: u5 :: u6 :: u7 :: u8 :: u9 :: u10 :: u11 :: u12 :: u13 :: u14 :: u15 :: u16 :: u17 :: u18 :: u19 :: u20 :: u21 :: u22 :: u23 :: .int x :: ls) st hp c s = run ro call r e (u0 :: u1 :: u2 :: u3 :: u4 :: u5 :: u6 :: u7 :: u8 :: u9 :: u10 :: u11 :: u12 :: u13 :: u14 :: u15 :: u16 :: u17 :: u18 :: u19 :: u20 :: u21 :: u22 :: u23 :: .int (x + Int32.ofInt n) :: ls) st hp c s := rfl
theorem rn_aload4 (n : Nat) (u0 u1 u2 u3 : Value) : run ro call ((pc, .aload n, [4]) :: r) e (u0 :: u1 :: u2 :: u3 :: .ref j :: ls) st hp c s = run ro call r e (u0 :: u1 :: u2 :: u3 :: .ref j :: ls) (.ref j :: st) hp c s := rfl
theorem rn_astore4 (n : Nat) (u0 u1 u2 u3 : Value) (w : Value) : run ro call ((pc, .astore n, [4]) :: r) e (u0 :: u1 :: u2 :: u3 :: w :: ls) (.ref j :: st) hp c s = run ro call r e (u0 :: u1 :: u2 :: u3 :: .ref j :: ls) st hp c s := by
  show (if 4 < (u0 :: u1 :: u2 :: u3 :: w :: ls).length then run ro call r e (u0 :: u1 :: u2 :: u3 :: .ref j :: ls) st hp c s else none) = _
  exact if_pos (by simp only [List.length_cons]; omega)
theorem rn_aload5 (n : Nat) (u0 u1 u2 u3 u4 : Value) : run ro call ((pc, .aload n, [5]) :: r) e (u0 :: u1 :: u2 :: u3 :: u4 :: .ref j :: ls) st hp c s = run ro call r e (u0 :: u1 :: u2 :: u3 :: u4 :: .ref j :: ls) (.ref j :: st) hp c s := rfl
theorem rn_astore5 (n : Nat) (u0 u1 u2 u3 u4 : Value) (w : Value) : run ro call ((pc, .astore n, [5]) :: r) e (u0 :: u1 :: u2 :: u3 :: u4 :: w :: ls) (.ref j :: st) hp c s = run ro call r e (u0 :: u1 :: u2 :: u3 :: u4 :: .ref j :: ls) st hp c s := by
  show (if 5 < (u0 :: u1 :: u2 :: u3 :: u4 :: w :: ls).length then run ro call r e (u0 :: u1 :: u2 :: u3 :: u4 :: .ref j :: ls) st hp c s else none) = _
  exact if_pos (by simp only [List.length_cons]; omega)
theorem rn_aload6 (n : Nat) (u0 u1 u2 u3 u4 u5 : Value) : run ro call ((pc, .aload n, [6]) :: r) e (u0 :: u1 :: u2 :: u3 :: u4 :: u5 :: .ref j :: ls) st hp c s = run ro call r e (u0 :: u1 :: u2 :: u3 :: u4 :: u5 :: .ref j :: ls) (.ref j :: st) hp c s := rfl
theorem rn_astore6 (n : Nat) (u0 u1 u2 u3 u4 u5 : Value) (w : Value) : run ro call ((pc, .astore n, [6]) :: r) e (u0 :: u1 :: u2 :: u3 :: u4 :: u5 :: w :: ls) (.ref j :: st) hp c s = run ro call r e (u0 :: u1 :: u2 :: u3 :: u4 :: u5 :: .ref j :: ls) st hp c s := by
  show (if 6 < (u0 :: u1 :: u2 :: u3 :: u4 :: u5 :: w :: ls).length then run ro call r e (u0 :: u1 :: u2 :: u3 :: u4 :: u5 :: .ref j :: ls) st hp c s else none) = _
  exact if_pos (by simp only [List.length_cons]; omega)
theorem rn_aload7 (n : Nat) (u0 u1 u2 u3 u4 u5 u6 : Value) : run ro call ((pc, .aload n, [7]) :: r) e (u0 :: u1 :: u2 :: u3 :: u4 :: u5 :: u6 :: .ref j :: ls) st hp c s = run ro call r e (u0 :: u1 :: u2 :: u3 :: u4 :: u5 :: u6 :: .ref j :: ls) (.ref j :: st) hp c s := rfl
theorem rn_astore7 (n : Nat) (u0 u1 u2 u3 u4 u5 u6 : Value) (w : Value) : run ro call ((pc, .astore n, [7]) :: r) e (u0 :: u1 :: u2 :: u3 :: u4 :: u5 :: u6 :: w :: ls) (.ref j :: st) hp c s = run ro call r e (u0 :: u1 :: u2 :: u3 :: u4 :: u5 :: u6 :: .ref j :: ls) st hp c s := by
  show (if 7 < (u0 :: u1 :: u2 :: u3 :: u4 :: u5 :: u6 :: w :: ls).length then run ro call r e (u0 :: u1 :: u2 :: u3 :: u4 :: u5 :: u6 :: .ref j :: ls) st hp c s else none) = _
  exact if_pos (by simp only [List.length_cons]; omega)
theorem rn_aload8 (n : Nat) (u0 u1 u2 u3 u4 u5 u6 u7 : Value) : run ro call ((pc, .aload n, [8]) :: r) e (u0 :: u1 :: u2 :: u3 :: u4 :: u5 :: u6 :: u7 :: .ref j :: ls) st hp c s = run ro call r e (u0 :: u1 :: u2 :: u3 :: u4 :: u5 :: u6 :: u7 :: .ref j :: ls) (.ref j :: st) hp c s := rfl
theorem rn_astore8 (n : Nat) (u0 u1 u2 u3 u4 u5 u6 u7 : Value) (w : Value) : run ro call ((pc, .astore n, [8]) :: r) e (u0 :: u1 :: u2 :: u3 :: u4 :: u5 :: u6 :: u7 :: w :: ls) (.ref j :: st) hp c s = run ro call r e (u0 :: u1 :: u2 :: u3 :: u4 :: u5 :: u6 :: u7 :: .ref j :: ls) st hp c s := by
  show (if 8 < (u0 :: u1 :: u2 :: u3 :: u4 :: u5 :: u6 :: u7 :: w :: ls).length then run ro call r e (u0 :: u1 :: u2 :: u3 :: u4 :: u5 :: u6 :: u7 :: .ref j :: ls) st hp c s else none) = _
  exact if_pos (by simp only [List.length_cons]; omega)
theorem rn_aload9 (n : Nat) (u0 u1 u2 u3 u4 u5 u6 u7 u8 : Value) : run ro call ((pc, .aload n, [9]) :: r) e (u0 :: u1 :: u2 :: u3 :: u4 :: u5 :: u6 :: u7 :: u8 :: .ref j :: ls) st hp c s = run ro call r e (u0 :: u1 :: u2 :: u3 :: u4 :: u5 :: u6 :: u7 :: u8 :: .ref j :: ls) (.ref j :: st) hp c s := rfl
theorem rn_astore9 (n : Nat) (u0 u1 u2 u3 u4 u5 u6 u7 u8 : Value) (w : Value) : run ro call ((pc, .astore n, [9]) :: r) e (u0 :: u1 :: u2 :: u3 :: u4 :: u5 :: u6 :: u7 :: u8 :: w :: ls) (.ref j :: st) hp c s = run ro call r e (u0 :: u1 :: u2 :: u3 :: u4 :: u5 :: u6 :: u7 :: u8 :: .ref j :: ls) st hp c s := by
  show (if 9 < (u0 :: u1 :: u2 :: u3 :: u4 :: u5 :: u6 :: u7 :: u8 :: w :: ls).length then run ro call r e (u0 :: u1 :: u2 :: u3 :: u4 :: u5 :: u6 :: u7 :: u8 :: .ref j :: ls) st hp c s else none) = _
  exact if_pos (by simp only [List.length_cons]; omega)
theorem rn_aload10 (n : Nat) (u0 u1 u2 u3 u4 u5 u6 u7 u8 u9 : Value) : run ro call ((pc, .aload n, [10]) :: r) e (u0 :: u1 :: u2 :: u3 :: u4 :: u5 :: u6 :: u7 :: u8 :: u9 :: .ref j :: ls) st hp c s = run ro call r e (u0 :: u1 :: u2 :: u3 :: u4 :: u5 :: u6 :: u7 :: u8 :: u9 :: .ref j :: ls) (.ref j :: st) hp c s := rfl
theorem rn_astore10 (n : Nat) (u0 u1 u2 u3 u4 u5 u6 u7 u8 u9 : Value) (w : Value) : run ro call ((pc, .astore n, [10]) :: r) e (u0 :: u1 :: u2 :: u3 :: u4 :: u5 :: u6 :: u7 :: u8 :: u9 :: w :: ls) (.ref j :: st) hp c s = run ro call r e (u0 :: u1 :: u2 :: u3 :: u4 :: u5 :: u6 :: u7 :: u8 :: u9 :: .ref j :: ls) st hp c s := by
  show (if 10 < (u0 :: u1 :: u2 :: u3 :: u4 :: u5 :: u6 :: u7 :: u8 :: u9 :: w :: ls).length then run ro call r e (u0 :: u1 :: u2 :: u3 :: u4 :: u5 :: u6 :: u7 :: u8 :: u9 :: .ref j :: ls) st hp c s else none) = _
  exact if_pos (by simp only [List.length_cons]; omega)
theorem rn_aload11 (n : Nat) (u0 u1 u2 u3 u4 u5 u6 u7 u8 u9 u10 : Value) : run ro call ((pc, .aload n, [11]) :: r) e (u0 :: u1 :: u2 :: u3 :: u4 :: u5 :: u6 :: u7 :: u8 :: u9 :: u10 :: .ref j :: ls) st hp c s = run ro call r e (u0 :: u1 :: u2 :: u3 :: u4 :: u5 :: u6 :: u7 :: u8 :: u9 :: u10 :: .ref j :: ls) (.ref j :: st) hp c s := rfl
theorem rn_astore11 (n : Nat) (u0 u1 u2 u3 u4 u5 u6 u7 u8 u9 u10 : Value) (w : Value) : run ro call ((pc, .astore n, [11]) :: r) e (u0 :: u1 :: u2 :: u3 :: u4 :: u5 :: u6 :: u7 :: u8 :: u9 :: u10 :: w :: ls) (.ref j :: st) hp c s = run ro call r e (u0 :: u1 :: u2 :: u3 :: u4 :: u5 :: u6 :: u7 :: u8 :: u9 :: u10 :: .ref j :: ls) st hp c s := by
  show (if 11 < (u0 :: u1 :: u2 :: u3 :: u4 :: u5 :: u6 :: u7 :: u8 :: u9 :: u10 :: w :: ls).length then run ro call r e (u0 :: u1 :: u2 :: u3 :: u4 :: u5 :: u6 :: u7 :: u8 :: u9 :: u10 :: .ref j :: ls) st hp c s else none) = _
  exact if_pos (by simp only [List.length_cons]; omega)
theorem rn_aload12 (n : Nat) (u0 u1 u2 u3 u4 u5 u6 u7 u8 u9 u10 u11 : Value) : run ro call ((pc, .aload n, [12]) :: r) e (u0 :: u1 :: u2 :: u3 :: u4 :: u5 :: u6 :: u7 :: u8 :: u9 :: u10 :: u11 :: .ref j :: ls) st hp c s = run ro call r e (u0 :: u1 :: u2 :: u3 :: u4 :: u5 :: u6 :: u7 :: u8 :: u9 :: u10 :: u11 :: .ref j :: ls) (.ref j :: st) hp c s := rfl
theorem rn_astore12 (n : Nat) (u0 u1 u2 u3 u4 u5 u6 u7 u8 u9 u10 u11 : Value) (w : Value) : run ro call ((pc, .astore n, [12]) :: r) e (u0 :: u1 :: u2 :: u3 :: u4 :: u5 :: u6 :: u7 :: u8 :: u9 :: u10 :: u11 :: w :: ls) (.ref j :: st) hp c s = run ro call r e (u0 :: u1 :: u2 :: u3 :: u4 :: u5 :: u6 :: u7 :: u8 :: u9 :: u10 :: u11 :: .ref j :: ls) st hp c s := by
  show (if 12 < (u0 :: u1 :: u2 :: u3 :: u4 :: u5 :: u6 :: u7 :: u8 :: u9 :: u10 :: u11 :: w :: ls).length then run ro call r e (u0 :: u1 :: u2 :: u3 :: u4 :: u5 :: u6 :: u7 :: u8 :: u9 :: u10 :: u11 :: .ref j :: ls) st hp c s else none) = _
  exact if_pos (by simp only [List.length_cons]; omega)
theorem rn_lload_n1 (n : Fin 4) (u0 : Value) : run ro call ((pc, .lload_n n, [1]) :: r) e (u0 :: .double u :: .null :: ls) st hp c s = run ro call r e (u0 :: .double u :: .null :: ls) (.double u :: st) hp c s := rfl
theorem rn_lload19 (n : Nat) (u0 u1 u2 u3 u4 u5 u6 u7 u8 u9 u10 u11 u12 u13 u14 u15 u16 u17 u18 : Value) : run ro call ((pc, .lload n, [19]) :: r) e (u0 :: u1 :: u2 :: u3 :: u4 :: u5 :: u6 :: u7 :: u8 :: u9 :: u10 :: u11 :: u12 :: u13 :: u14 :: u15 :: u16 :: u17 :: u18 :: .double u :: .null :: ls) st hp c s = run ro call r e (u0 :: u1 :: u2 :: u3 :: u4 :: u5 :: u6 :: u7 :: u8 :: u9 :: u10 :: u11 :: u12 :: u13 :: u14 :: u15 :: u16 :: u17 :: u18 :: .double u :: .null :: ls) (.double u :: st) hp c s := rfl
theorem rn_lstore_n1 (n : Fin 4) (u0 : Value) (w z : Value) : run ro call ((pc, .lstore_n n, [1]) :: r) e (u0 :: w :: z :: ls) (.double u :: st) hp c s = run ro call r e (u0 :: .double u :: .null :: ls) st hp c s := by
  show (if 1 + 1 < (u0 :: w :: z :: ls).length then run ro call r e (u0 :: .double u :: .null :: ls) st hp c s else none) = _
  exact if_pos (by simp only [List.length_cons]; omega)
theorem rn_lstore19 (n : Nat) (u0 u1 u2 u3 u4 u5 u6 u7 u8 u9 u10 u11 u12 u13 u14 u15 u16 u17 u18 : Value) (w z : Value) : run ro call ((pc, .lstore n, [19]) :: r) e (u0 :: u1 :: u2 :: u3 :: u4 :: u5 :: u6 :: u7 :: u8 :: u9 :: u10 :: u11 :: u12 :: u13 :: u14 :: u15 :: u16 :: u17 :: u18 :: w :: z :: ls) (.double u :: st) hp c s = run ro call r e (u0 :: u1 :: u2 :: u3 :: u4 :: u5 :: u6 :: u7 :: u8 :: u9 :: u10 :: u11 :: u12 :: u13 :: u14 :: u15 :: u16 :: u17 :: u18 :: .double u :: .null :: ls) st hp c s := by
  show (if 19 + 1 < (u0 :: u1 :: u2 :: u3 :: u4 :: u5 :: u6 :: u7 :: u8 :: u9 :: u10 :: u11 :: u12 :: u13 :: u14 :: u15 :: u16 :: u17 :: u18 :: w :: z :: ls).length then run ro call r e (u0 :: u1 :: u2 :: u3 :: u4 :: u5 :: u6 :: u7 :: u8 :: u9 :: u10 :: u11 :: u12 :: u13 :: u14 :: u15 :: u16 :: u17 :: u18 :: .double u :: .null :: ls) st hp c s else none) = _
  exact if_pos (by simp only [List.length_cons]; omega)
theorem rn_a1 (i q mcL msL t : Nat) (v1 : Value) : run ro call ((pc, .invokestatic i, [q, 1, 0, 0, mcL, msL, t]) :: r) e ls (v1 :: st) hp c s = if 8 < sw st ∨ mcL < c + 0 ∨ msL < s + 0 ∨ ndl [v1] = false ∨ cll hp.length (ls ++ st) = false then none else hca (call q [v1] hp) hp.length ro call r e ls st (c + 0) (s + 0) := by
  have hl : ¬ st.length + 1 < 1 := by omega
  show (if 8 < sw st ∨ mcL < c + 0 ∨ msL < s + 0 ∨ st.length + 1 < 1 ∨ ndl [v1] = false ∨ cll hp.length (ls ++ st) = false then none else hca (call q [v1] hp) hp.length ro call r e ls st (c + 0) (s + 0)) = _
  simp only [hl, false_or]
theorem rn_a2 (i q mcL msL t : Nat) (v1 v2 : Value) : run ro call ((pc, .invokestatic i, [q, 2, 0, 0, mcL, msL, t]) :: r) e ls (v2 :: v1 :: st) hp c s = if 8 < sw st ∨ mcL < c + 0 ∨ msL < s + 0 ∨ ndl [v2, v1] = false ∨ cll hp.length (ls ++ st) = false then none else hca (call q [v1, v2] hp) hp.length ro call r e ls st (c + 0) (s + 0) := by
  have hl : ¬ st.length + 2 < 2 := by omega
  show (if 8 < sw st ∨ mcL < c + 0 ∨ msL < s + 0 ∨ st.length + 2 < 2 ∨ ndl [v2, v1] = false ∨ cll hp.length (ls ++ st) = false then none else hca (call q [v1, v2] hp) hp.length ro call r e ls st (c + 0) (s + 0)) = _
  simp only [hl, false_or]
theorem rn_a3 (i q mcL msL t : Nat) (v1 v2 v3 : Value) : run ro call ((pc, .invokestatic i, [q, 3, 0, 0, mcL, msL, t]) :: r) e ls (v3 :: v2 :: v1 :: st) hp c s = if 8 < sw st ∨ mcL < c + 0 ∨ msL < s + 0 ∨ ndl [v3, v2, v1] = false ∨ cll hp.length (ls ++ st) = false then none else hca (call q [v1, v2, v3] hp) hp.length ro call r e ls st (c + 0) (s + 0) := by
  have hl : ¬ st.length + 3 < 3 := by omega
  show (if 8 < sw st ∨ mcL < c + 0 ∨ msL < s + 0 ∨ st.length + 3 < 3 ∨ ndl [v3, v2, v1] = false ∨ cll hp.length (ls ++ st) = false then none else hca (call q [v1, v2, v3] hp) hp.length ro call r e ls st (c + 0) (s + 0)) = _
  simp only [hl, false_or]
theorem rn_a4 (i q mcL msL t : Nat) (v1 v2 v3 v4 : Value) : run ro call ((pc, .invokestatic i, [q, 4, 0, 0, mcL, msL, t]) :: r) e ls (v4 :: v3 :: v2 :: v1 :: st) hp c s = if 8 < sw st ∨ mcL < c + 0 ∨ msL < s + 0 ∨ ndl [v4, v3, v2, v1] = false ∨ cll hp.length (ls ++ st) = false then none else hca (call q [v1, v2, v3, v4] hp) hp.length ro call r e ls st (c + 0) (s + 0) := by
  have hl : ¬ st.length + 4 < 4 := by omega
  show (if 8 < sw st ∨ mcL < c + 0 ∨ msL < s + 0 ∨ st.length + 4 < 4 ∨ ndl [v4, v3, v2, v1] = false ∨ cll hp.length (ls ++ st) = false then none else hca (call q [v1, v2, v3, v4] hp) hp.length ro call r e ls st (c + 0) (s + 0)) = _
  simp only [hl, false_or]
theorem rn_a5 (i q mcL msL t : Nat) (v1 v2 v3 v4 v5 : Value) : run ro call ((pc, .invokestatic i, [q, 5, 0, 0, mcL, msL, t]) :: r) e ls (v5 :: v4 :: v3 :: v2 :: v1 :: st) hp c s = if 8 < sw st ∨ mcL < c + 0 ∨ msL < s + 0 ∨ ndl [v5, v4, v3, v2, v1] = false ∨ cll hp.length (ls ++ st) = false then none else hca (call q [v1, v2, v3, v4, v5] hp) hp.length ro call r e ls st (c + 0) (s + 0) := by
  have hl : ¬ st.length + 5 < 5 := by omega
  show (if 8 < sw st ∨ mcL < c + 0 ∨ msL < s + 0 ∨ st.length + 5 < 5 ∨ ndl [v5, v4, v3, v2, v1] = false ∨ cll hp.length (ls ++ st) = false then none else hca (call q [v1, v2, v3, v4, v5] hp) hp.length ro call r e ls st (c + 0) (s + 0)) = _
  simp only [hl, false_or]
theorem rn_a6 (i q mcL msL t : Nat) (v1 v2 v3 v4 v5 v6 : Value) : run ro call ((pc, .invokestatic i, [q, 6, 0, 0, mcL, msL, t]) :: r) e ls (v6 :: v5 :: v4 :: v3 :: v2 :: v1 :: st) hp c s = if 8 < sw st ∨ mcL < c + 0 ∨ msL < s + 0 ∨ ndl [v6, v5, v4, v3, v2, v1] = false ∨ cll hp.length (ls ++ st) = false then none else hca (call q [v1, v2, v3, v4, v5, v6] hp) hp.length ro call r e ls st (c + 0) (s + 0) := by
  have hl : ¬ st.length + 6 < 6 := by omega
  show (if 8 < sw st ∨ mcL < c + 0 ∨ msL < s + 0 ∨ st.length + 6 < 6 ∨ ndl [v6, v5, v4, v3, v2, v1] = false ∨ cll hp.length (ls ++ st) = false then none else hca (call q [v1, v2, v3, v4, v5, v6] hp) hp.length ro call r e ls st (c + 0) (s + 0)) = _
  simp only [hl, false_or]
theorem rn_a7 (i q mcL msL t : Nat) (v1 v2 v3 v4 v5 v6 v7 : Value) : run ro call ((pc, .invokestatic i, [q, 7, 0, 0, mcL, msL, t]) :: r) e ls (v7 :: v6 :: v5 :: v4 :: v3 :: v2 :: v1 :: st) hp c s = if 8 < sw st ∨ mcL < c + 0 ∨ msL < s + 0 ∨ ndl [v7, v6, v5, v4, v3, v2, v1] = false ∨ cll hp.length (ls ++ st) = false then none else hca (call q [v1, v2, v3, v4, v5, v6, v7] hp) hp.length ro call r e ls st (c + 0) (s + 0) := by
  have hl : ¬ st.length + 7 < 7 := by omega
  show (if 8 < sw st ∨ mcL < c + 0 ∨ msL < s + 0 ∨ st.length + 7 < 7 ∨ ndl [v7, v6, v5, v4, v3, v2, v1] = false ∨ cll hp.length (ls ++ st) = false then none else hca (call q [v1, v2, v3, v4, v5, v6, v7] hp) hp.length ro call r e ls st (c + 0) (s + 0)) = _
  simp only [hl, false_or]
theorem rn_a8 (i q mcL msL t : Nat) (v1 v2 v3 v4 v5 v6 v7 v8 : Value) : run ro call ((pc, .invokestatic i, [q, 8, 0, 0, mcL, msL, t]) :: r) e ls (v8 :: v7 :: v6 :: v5 :: v4 :: v3 :: v2 :: v1 :: st) hp c s = if 8 < sw st ∨ mcL < c + 0 ∨ msL < s + 0 ∨ ndl [v8, v7, v6, v5, v4, v3, v2, v1] = false ∨ cll hp.length (ls ++ st) = false then none else hca (call q [v1, v2, v3, v4, v5, v6, v7, v8] hp) hp.length ro call r e ls st (c + 0) (s + 0) := by
  have hl : ¬ st.length + 8 < 8 := by omega
  show (if 8 < sw st ∨ mcL < c + 0 ∨ msL < s + 0 ∨ st.length + 8 < 8 ∨ ndl [v8, v7, v6, v5, v4, v3, v2, v1] = false ∨ cll hp.length (ls ++ st) = false then none else hca (call q [v1, v2, v3, v4, v5, v6, v7, v8] hp) hp.length ro call r e ls st (c + 0) (s + 0)) = _
  simp only [hl, false_or]
theorem rn_a9 (i q mcL msL t : Nat) (v1 v2 v3 v4 v5 v6 v7 v8 v9 : Value) : run ro call ((pc, .invokestatic i, [q, 9, 0, 0, mcL, msL, t]) :: r) e ls (v9 :: v8 :: v7 :: v6 :: v5 :: v4 :: v3 :: v2 :: v1 :: st) hp c s = if 8 < sw st ∨ mcL < c + 0 ∨ msL < s + 0 ∨ ndl [v9, v8, v7, v6, v5, v4, v3, v2, v1] = false ∨ cll hp.length (ls ++ st) = false then none else hca (call q [v1, v2, v3, v4, v5, v6, v7, v8, v9] hp) hp.length ro call r e ls st (c + 0) (s + 0) := by
  have hl : ¬ st.length + 9 < 9 := by omega
  show (if 8 < sw st ∨ mcL < c + 0 ∨ msL < s + 0 ∨ st.length + 9 < 9 ∨ ndl [v9, v8, v7, v6, v5, v4, v3, v2, v1] = false ∨ cll hp.length (ls ++ st) = false then none else hca (call q [v1, v2, v3, v4, v5, v6, v7, v8, v9] hp) hp.length ro call r e ls st (c + 0) (s + 0)) = _
  simp only [hl, false_or]
theorem rn_a10 (i q mcL msL t : Nat) (v1 v2 v3 v4 v5 v6 v7 v8 v9 v10 : Value) : run ro call ((pc, .invokestatic i, [q, 10, 0, 0, mcL, msL, t]) :: r) e ls (v10 :: v9 :: v8 :: v7 :: v6 :: v5 :: v4 :: v3 :: v2 :: v1 :: st) hp c s = if 8 < sw st ∨ mcL < c + 0 ∨ msL < s + 0 ∨ ndl [v10, v9, v8, v7, v6, v5, v4, v3, v2, v1] = false ∨ cll hp.length (ls ++ st) = false then none else hca (call q [v1, v2, v3, v4, v5, v6, v7, v8, v9, v10] hp) hp.length ro call r e ls st (c + 0) (s + 0) := by
  have hl : ¬ st.length + 10 < 10 := by omega
  show (if 8 < sw st ∨ mcL < c + 0 ∨ msL < s + 0 ∨ st.length + 10 < 10 ∨ ndl [v10, v9, v8, v7, v6, v5, v4, v3, v2, v1] = false ∨ cll hp.length (ls ++ st) = false then none else hca (call q [v1, v2, v3, v4, v5, v6, v7, v8, v9, v10] hp) hp.length ro call r e ls st (c + 0) (s + 0)) = _
  simp only [hl, false_or]
theorem rn_a11 (i q mcL msL t : Nat) (v1 v2 v3 v4 v5 v6 v7 v8 v9 v10 v11 : Value) : run ro call ((pc, .invokestatic i, [q, 11, 0, 0, mcL, msL, t]) :: r) e ls (v11 :: v10 :: v9 :: v8 :: v7 :: v6 :: v5 :: v4 :: v3 :: v2 :: v1 :: st) hp c s = if 8 < sw st ∨ mcL < c + 0 ∨ msL < s + 0 ∨ ndl [v11, v10, v9, v8, v7, v6, v5, v4, v3, v2, v1] = false ∨ cll hp.length (ls ++ st) = false then none else hca (call q [v1, v2, v3, v4, v5, v6, v7, v8, v9, v10, v11] hp) hp.length ro call r e ls st (c + 0) (s + 0) := by
  have hl : ¬ st.length + 11 < 11 := by omega
  show (if 8 < sw st ∨ mcL < c + 0 ∨ msL < s + 0 ∨ st.length + 11 < 11 ∨ ndl [v11, v10, v9, v8, v7, v6, v5, v4, v3, v2, v1] = false ∨ cll hp.length (ls ++ st) = false then none else hca (call q [v1, v2, v3, v4, v5, v6, v7, v8, v9, v10, v11] hp) hp.length ro call r e ls st (c + 0) (s + 0)) = _
  simp only [hl, false_or]
theorem rn_a12 (i q mcL msL t : Nat) (v1 v2 v3 v4 v5 v6 v7 v8 v9 v10 v11 v12 : Value) : run ro call ((pc, .invokestatic i, [q, 12, 0, 0, mcL, msL, t]) :: r) e ls (v12 :: v11 :: v10 :: v9 :: v8 :: v7 :: v6 :: v5 :: v4 :: v3 :: v2 :: v1 :: st) hp c s = if 8 < sw st ∨ mcL < c + 0 ∨ msL < s + 0 ∨ ndl [v12, v11, v10, v9, v8, v7, v6, v5, v4, v3, v2, v1] = false ∨ cll hp.length (ls ++ st) = false then none else hca (call q [v1, v2, v3, v4, v5, v6, v7, v8, v9, v10, v11, v12] hp) hp.length ro call r e ls st (c + 0) (s + 0) := by
  have hl : ¬ st.length + 12 < 12 := by omega
  show (if 8 < sw st ∨ mcL < c + 0 ∨ msL < s + 0 ∨ st.length + 12 < 12 ∨ ndl [v12, v11, v10, v9, v8, v7, v6, v5, v4, v3, v2, v1] = false ∨ cll hp.length (ls ++ st) = false then none else hca (call q [v1, v2, v3, v4, v5, v6, v7, v8, v9, v10, v11, v12] hp) hp.length ro call r e ls st (c + 0) (s + 0)) = _
  simp only [hl, false_or]
end ROWS2
