/-! THE MACHINE'S ROWS, one an instruction -/
def gi (v : Option Value) (f : Int32 → Option (Cf ⊕ Rs)) : Option (Cf ⊕ Rs) := match v with
  | some (.int x) => f x
  | _ => none
theorem gi_i (x : Int32) (f : Int32 → Option (Cf ⊕ Rs)) : gi (some (.int x)) f = f x := rfl
def ga (v : Option Value) (f : Value → Option (Cf ⊕ Rs)) : Option (Cf ⊕ Rs) := match v with
  | some (.ref x) => f (.ref x)
  | some (.long x) => f (.long x)
  | _ => none
theorem ga_r (x : Nat) (f : Value → Option (Cf ⊕ Rs)) : ga (some (.ref x)) f = f (.ref x) := rfl
theorem ga_l (x : Int64) (f : Value → Option (Cf ⊕ Rs)) : ga (some (.long x)) f = f (.long x) := rfl
def gr (v : Option Value) (f : Nat → Option (Cf ⊕ Rs)) : Option (Cf ⊕ Rs) := match v with
  | some (.ref x) => f x
  | _ => none
theorem gr_r (x : Nat) (f : Nat → Option (Cf ⊕ Rs)) : gr (some (.ref x)) f = f x := rfl
def gv (v : Option Value) (f : Value → Option (Cf ⊕ Rs)) : Option (Cf ⊕ Rs) := match v with
  | some x => f x
  | none => none
theorem gv_s (x : Value) (f : Value → Option (Cf ⊕ Rs)) : gv (some x) f = f x := rfl
def go_o (v : Option AE) (f : Nat → List Value → Option (Cf ⊕ Rs)) : Option (Cf ⊕ Rs) := match v with
  | some (.inr (c, vs)) => f c vs
  | _ => none
theorem go_oo (c : Nat) (vs : List Value) (f : Nat → List Value → Option (Cf ⊕ Rs)) : go_o (some (.inr (c, vs))) f = f c vs := rfl
def go_a (v : Option AE) (f : Nat → Nat → (Nat → Int32) → Option (Cf ⊕ Rs)) : Option (Cf ⊕ Rs) := match v with
  | some (.inl (t, n, g)) => f t n g
  | _ => none
theorem go_aa (t n : Nat) (g : Nat → Int32) (f : Nat → Nat → (Nat → Int32) → Option (Cf ⊕ Rs)) : go_a (some (.inl (t, n, g))) f = f t n g := rfl
def gc (v : Option Rs) (f : List AE → Option (Cf ⊕ Rs)) (g : Int32 → List AE → Option (Cf ⊕ Rs)) : Option (Cf ⊕ Rs) := match v with
  | some (none, h) => f h
  | some (some (.int v), h) => g v h
  | _ => none
theorem gc_n (h : List AE) (f : List AE → Option (Cf ⊕ Rs)) (g : Int32 → List AE → Option (Cf ⊕ Rs)) : gc (some (none, h)) f g = f h := rfl
theorem gc_i (x : Int32) (h : List AE) (f : List AE → Option (Cf ⊕ Rs)) (g : Int32 → List AE → Option (Cf ⊕ Rs)) : gc (some (some (.int x), h)) f g = g x h := rfl
theorem gc_ite (p : Prop) [q : Decidable p] (a b : Option Rs) (f : List AE → Option (Cf ⊕ Rs)) (g : Int32 → List AE → Option (Cf ⊕ Rs)) : gc (if p then a else b) f g = if p then gc a f g else gc b f g := by
  cases q <;> rfl
def gn (v : Option Rs) (f : List AE → Option (Cf ⊕ Rs)) : Option (Cf ⊕ Rs) := match v with
  | some (none, h) => f h
  | _ => none
theorem gn_n (h : List AE) (f : List AE → Option (Cf ⊕ Rs)) : gn (some (none, h)) f = f h := rfl
def hgv (v : Option Value) (ro : RO) (call : CL) (r : List Op) (e : Nat) (ls st : List Value) (hp : List AE) (c s : Nat) : Option (Cf ⊕ Rs) := gv v (fun v => run ro call r e ls (v :: st) hp c s)
def hgf (v : Option AE) (ci f : Nat) (ro : RO) (call : CL) (r : List Op) (e : Nat) (ls st : List Value) (hp : List AE) (c s : Nat) : Option (Cf ⊕ Rs) := go_o v (fun c' vs => if c' = ci ∧ c' < NCl then hgv vs[f]? ro call r e ls st hp c s else none)
def hpf (w : Option AE) (j ci f t : Nat) (v : Value) (ro : RO) (call : CL) (r : List Op) (e : Nat) (ls st : List Value) (hp : List AE) (c s : Nat) : Option (Cf ⊕ Rs) := go_o w (fun c' vs => if c' = ci ∧ c' < NCl ∧ f < vs.length ∧ pok t v = true then run ro call r e ls st (hp.set j (.inr (c', vs.set f v))) c s else none)
def hil (w : Option AE) (x : Int32) (z : Nat) (ro : RO) (call : CL) (r : List Op) (e : Nat) (ls st : List Value) (hp : List AE) (c s : Nat) : Option (Cf ⊕ Rs) := go_a w (fun t n f => if x < 0 ∨ n ≤ x.toNatClampNeg ∨ t ≠ z then none else run ro call r e ls (.int (f x.toNatClampNeg) :: st) hp c s)
def his (w : Option AE) (j : Nat) (x y : Int32) (z : Nat) (ro : RO) (call : CL) (r : List Op) (e : Nat) (ls st : List Value) (hp : List AE) (c s : Nat) : Option (Cf ⊕ Rs) := go_a w (fun t n f => if x < 0 ∨ n ≤ x.toNatClampNeg ∨ t ≠ z then none else run ro call r e ls st (hp.set j (.inl (t, n, upd f x.toNatClampNeg y))) c s)
def hal (w : Option AE) (x : Int32) (ro : RO) (call : CL) (r : List Op) (e : Nat) (ls st : List Value) (hp : List AE) (c s : Nat) : Option (Cf ⊕ Rs) := go_o w (fun t vs => if x < 0 ∨ vs.length ≤ x.toNatClampNeg ∨ t ≠ NCl then none else gr vs[x.toNatClampNeg]? (fun v => run ro call r e ls (.ref v :: st) hp c s))
def has (w : Option AE) (j : Nat) (x : Int32) (v : Nat) (ro : RO) (call : CL) (r : List Op) (e : Nat) (ls st : List Value) (hp : List AE) (c s : Nat) : Option (Cf ⊕ Rs) := go_o w (fun t vs => if x < 0 ∨ vs.length ≤ x.toNatClampNeg ∨ t ≠ NCl ∨ hasC 4 hp v = false then none else run ro call r e ls st (hp.set j (.inr (t, vs.set x.toNatClampNeg (.ref v)))) c s)
def hcl (v : Option Rs) (ro : RO) (call : CL) (r : List Op) (e : Nat) (ls st : List Value) : Option (Cf ⊕ Rs) := gc v (fun h => run ro call r e ls st h 0 0) (fun v h => run ro call r e ls (.int v :: st) h 0 0)
def hci (v : Option Rs) (ro : RO) (call : CL) (r : List Op) (e : Nat) (ls st : List Value) (c s : Nat) : Option (Cf ⊕ Rs) := gn v (fun h => run ro call r e ls st h c s)
def hcp (w1 w2 : Option AE) (b : Nat) (n dp sp : Int32) (ro : RO) (call : CL) (r : List Op) (e : Nat) (ls st : List Value) (hp : List AE) (c s : Nat) : Option (Cf ⊕ Rs) := go_a w1 (fun t n0 f => go_a w2 (fun t' n1 g => if 8 < st.length ∨ sp < 0 ∨ dp < 0 ∨ n < 0 ∨ n0 < sp.toNatClampNeg + n.toNatClampNeg ∨ n1 < dp.toNatClampNeg + n.toNatClampNeg ∨ t ≠ 0 ∨ t' ≠ 0 then none else run ro call r e ls st (hp.set b (.inl (t', n1, va_cpy f g sp.toNatClampNeg dp.toNatClampNeg n.toNatClampNeg))) c s))
section ROWS
variable (ro : RO) (call : CL) (pc : Nat) (xs : List Nat) (r : List Op) (e : Nat) (ls st : List Value) (hp : List AE) (c s : Nat) (x y : Int32) (j : Nat)
theorem rn_end : run ro call [] e ls st hp c s = some (.inl (e, ls, st, hp, c, s)) := rfl
theorem rn_iconst (n : Int) : run ro call ((pc, .iconst n, [j]) :: r) e ls st hp c s = run ro call r e ls (.int (nI j) :: st) hp c s := rfl
theorem rn_iconstN (n : Int) : run ro call ((pc, .iconst n, []) :: r) e ls st hp c s = run ro call r e ls (.int (Int32.ofInt n) :: st) hp c s := rfl
theorem rn_bipush (n : Int) : run ro call ((pc, .bipush n, [j]) :: r) e ls st hp c s = run ro call r e ls (.int (nI j) :: st) hp c s := rfl
theorem rn_bipushN (n : Int) : run ro call ((pc, .bipush n, []) :: r) e ls st hp c s = run ro call r e ls (.int (Int32.ofInt n) :: st) hp c s := rfl
theorem rn_sipush (n : Int) : run ro call ((pc, .sipush n, [j]) :: r) e ls st hp c s = run ro call r e ls (.int (nI j) :: st) hp c s := rfl
theorem rn_sipushN (n : Int) : run ro call ((pc, .sipush n, []) :: r) e ls st hp c s = run ro call r e ls (.int (Int32.ofInt n) :: st) hp c s := rfl
theorem rn_iload0 (n : Nat) : run ro call ((pc, .iload n, [0]) :: r) e (.int x :: ls) st hp c s = run ro call r e (.int x :: ls) (.int x :: st) hp c s := rfl
theorem rn_iload1 (n : Nat) (u0 : Value) : run ro call ((pc, .iload n, [1]) :: r) e (u0 :: .int x :: ls) st hp c s = run ro call r e (u0 :: .int x :: ls) (.int x :: st) hp c s := rfl
theorem rn_iload2 (n : Nat) (u0 u1 : Value) : run ro call ((pc, .iload n, [2]) :: r) e (u0 :: u1 :: .int x :: ls) st hp c s = run ro call r e (u0 :: u1 :: .int x :: ls) (.int x :: st) hp c s := rfl
theorem rn_iload3 (n : Nat) (u0 u1 u2 : Value) : run ro call ((pc, .iload n, [3]) :: r) e (u0 :: u1 :: u2 :: .int x :: ls) st hp c s = run ro call r e (u0 :: u1 :: u2 :: .int x :: ls) (.int x :: st) hp c s := rfl
theorem rn_iload4 (n : Nat) (u0 u1 u2 u3 : Value) : run ro call ((pc, .iload n, [4]) :: r) e (u0 :: u1 :: u2 :: u3 :: .int x :: ls) st hp c s = run ro call r e (u0 :: u1 :: u2 :: u3 :: .int x :: ls) (.int x :: st) hp c s := rfl
theorem rn_iload5 (n : Nat) (u0 u1 u2 u3 u4 : Value) : run ro call ((pc, .iload n, [5]) :: r) e (u0 :: u1 :: u2 :: u3 :: u4 :: .int x :: ls) st hp c s = run ro call r e (u0 :: u1 :: u2 :: u3 :: u4 :: .int x :: ls) (.int x :: st) hp c s := rfl
theorem rn_iload6 (n : Nat) (u0 u1 u2 u3 u4 u5 : Value) : run ro call ((pc, .iload n, [6]) :: r) e (u0 :: u1 :: u2 :: u3 :: u4 :: u5 :: .int x :: ls) st hp c s = run ro call r e (u0 :: u1 :: u2 :: u3 :: u4 :: u5 :: .int x :: ls) (.int x :: st) hp c s := rfl
theorem rn_iload7 (n : Nat) (u0 u1 u2 u3 u4 u5 u6 : Value) : run ro call ((pc, .iload n, [7]) :: r) e (u0 :: u1 :: u2 :: u3 :: u4 :: u5 :: u6 :: .int x :: ls) st hp c s = run ro call r e (u0 :: u1 :: u2 :: u3 :: u4 :: u5 :: u6 :: .int x :: ls) (.int x :: st) hp c s := rfl
theorem rn_iload_n0 (n : Fin 4) : run ro call ((pc, .iload_n n, [0]) :: r) e (.int x :: ls) st hp c s = run ro call r e (.int x :: ls) (.int x :: st) hp c s := rfl
theorem rn_iload_n1 (n : Fin 4) (u0 : Value) : run ro call ((pc, .iload_n n, [1]) :: r) e (u0 :: .int x :: ls) st hp c s = run ro call r e (u0 :: .int x :: ls) (.int x :: st) hp c s := rfl
theorem rn_iload_n2 (n : Fin 4) (u0 u1 : Value) : run ro call ((pc, .iload_n n, [2]) :: r) e (u0 :: u1 :: .int x :: ls) st hp c s = run ro call r e (u0 :: u1 :: .int x :: ls) (.int x :: st) hp c s := rfl
theorem rn_iload_n3 (n : Fin 4) (u0 u1 u2 : Value) : run ro call ((pc, .iload_n n, [3]) :: r) e (u0 :: u1 :: u2 :: .int x :: ls) st hp c s = run ro call r e (u0 :: u1 :: u2 :: .int x :: ls) (.int x :: st) hp c s := rfl
theorem rn_iload_n4 (n : Fin 4) (u0 u1 u2 u3 : Value) : run ro call ((pc, .iload_n n, [4]) :: r) e (u0 :: u1 :: u2 :: u3 :: .int x :: ls) st hp c s = run ro call r e (u0 :: u1 :: u2 :: u3 :: .int x :: ls) (.int x :: st) hp c s := rfl
theorem rn_iload_n5 (n : Fin 4) (u0 u1 u2 u3 u4 : Value) : run ro call ((pc, .iload_n n, [5]) :: r) e (u0 :: u1 :: u2 :: u3 :: u4 :: .int x :: ls) st hp c s = run ro call r e (u0 :: u1 :: u2 :: u3 :: u4 :: .int x :: ls) (.int x :: st) hp c s := rfl
theorem rn_iload_n6 (n : Fin 4) (u0 u1 u2 u3 u4 u5 : Value) : run ro call ((pc, .iload_n n, [6]) :: r) e (u0 :: u1 :: u2 :: u3 :: u4 :: u5 :: .int x :: ls) st hp c s = run ro call r e (u0 :: u1 :: u2 :: u3 :: u4 :: u5 :: .int x :: ls) (.int x :: st) hp c s := rfl
theorem rn_iload_n7 (n : Fin 4) (u0 u1 u2 u3 u4 u5 u6 : Value) : run ro call ((pc, .iload_n n, [7]) :: r) e (u0 :: u1 :: u2 :: u3 :: u4 :: u5 :: u6 :: .int x :: ls) st hp c s = run ro call r e (u0 :: u1 :: u2 :: u3 :: u4 :: u5 :: u6 :: .int x :: ls) (.int x :: st) hp c s := rfl
theorem rn_aload_n0 (n : Fin 4) : run ro call ((pc, .aload_n n, [0]) :: r) e (.ref j :: ls) st hp c s = run ro call r e (.ref j :: ls) (.ref j :: st) hp c s := rfl
theorem rn_aload_nL0 (n : Fin 4) (a : Int64) : run ro call ((pc, .aload_n n, [0]) :: r) e (.long a :: ls) st hp c s = run ro call r e (.long a :: ls) (.long a :: st) hp c s := rfl
theorem rn_aload_n1 (n : Fin 4) (u0 : Value) : run ro call ((pc, .aload_n n, [1]) :: r) e (u0 :: .ref j :: ls) st hp c s = run ro call r e (u0 :: .ref j :: ls) (.ref j :: st) hp c s := rfl
theorem rn_aload_nL1 (n : Fin 4) (a : Int64) (u0 : Value) : run ro call ((pc, .aload_n n, [1]) :: r) e (u0 :: .long a :: ls) st hp c s = run ro call r e (u0 :: .long a :: ls) (.long a :: st) hp c s := rfl
theorem rn_aload_n2 (n : Fin 4) (u0 u1 : Value) : run ro call ((pc, .aload_n n, [2]) :: r) e (u0 :: u1 :: .ref j :: ls) st hp c s = run ro call r e (u0 :: u1 :: .ref j :: ls) (.ref j :: st) hp c s := rfl
theorem rn_aload_nL2 (n : Fin 4) (a : Int64) (u0 u1 : Value) : run ro call ((pc, .aload_n n, [2]) :: r) e (u0 :: u1 :: .long a :: ls) st hp c s = run ro call r e (u0 :: u1 :: .long a :: ls) (.long a :: st) hp c s := rfl
theorem rn_aload_n3 (n : Fin 4) (u0 u1 u2 : Value) : run ro call ((pc, .aload_n n, [3]) :: r) e (u0 :: u1 :: u2 :: .ref j :: ls) st hp c s = run ro call r e (u0 :: u1 :: u2 :: .ref j :: ls) (.ref j :: st) hp c s := rfl
theorem rn_aload_nL3 (n : Fin 4) (a : Int64) (u0 u1 u2 : Value) : run ro call ((pc, .aload_n n, [3]) :: r) e (u0 :: u1 :: u2 :: .long a :: ls) st hp c s = run ro call r e (u0 :: u1 :: u2 :: .long a :: ls) (.long a :: st) hp c s := rfl
theorem rn_istore0 (n : Nat) (w : Value) : run ro call ((pc, .istore n, [0]) :: r) e (w :: ls) (.int x :: st) hp c s = run ro call r e (.int x :: ls) st hp c s := by
  show (if 0 < (w :: ls).length then run ro call r e (.int x :: ls) st hp c s else none) = _
  exact if_pos (by simp only [List.length_cons]; omega)
theorem rn_istore1 (n : Nat) (u0 : Value) (w : Value) : run ro call ((pc, .istore n, [1]) :: r) e (u0 :: w :: ls) (.int x :: st) hp c s = run ro call r e (u0 :: .int x :: ls) st hp c s := by
  show (if 1 < (u0 :: w :: ls).length then run ro call r e (u0 :: .int x :: ls) st hp c s else none) = _
  exact if_pos (by simp only [List.length_cons]; omega)
theorem rn_istore2 (n : Nat) (u0 u1 : Value) (w : Value) : run ro call ((pc, .istore n, [2]) :: r) e (u0 :: u1 :: w :: ls) (.int x :: st) hp c s = run ro call r e (u0 :: u1 :: .int x :: ls) st hp c s := by
  show (if 2 < (u0 :: u1 :: w :: ls).length then run ro call r e (u0 :: u1 :: .int x :: ls) st hp c s else none) = _
  exact if_pos (by simp only [List.length_cons]; omega)
theorem rn_istore3 (n : Nat) (u0 u1 u2 : Value) (w : Value) : run ro call ((pc, .istore n, [3]) :: r) e (u0 :: u1 :: u2 :: w :: ls) (.int x :: st) hp c s = run ro call r e (u0 :: u1 :: u2 :: .int x :: ls) st hp c s := by
  show (if 3 < (u0 :: u1 :: u2 :: w :: ls).length then run ro call r e (u0 :: u1 :: u2 :: .int x :: ls) st hp c s else none) = _
  exact if_pos (by simp only [List.length_cons]; omega)
theorem rn_istore4 (n : Nat) (u0 u1 u2 u3 : Value) (w : Value) : run ro call ((pc, .istore n, [4]) :: r) e (u0 :: u1 :: u2 :: u3 :: w :: ls) (.int x :: st) hp c s = run ro call r e (u0 :: u1 :: u2 :: u3 :: .int x :: ls) st hp c s := by
  show (if 4 < (u0 :: u1 :: u2 :: u3 :: w :: ls).length then run ro call r e (u0 :: u1 :: u2 :: u3 :: .int x :: ls) st hp c s else none) = _
  exact if_pos (by simp only [List.length_cons]; omega)
theorem rn_istore5 (n : Nat) (u0 u1 u2 u3 u4 : Value) (w : Value) : run ro call ((pc, .istore n, [5]) :: r) e (u0 :: u1 :: u2 :: u3 :: u4 :: w :: ls) (.int x :: st) hp c s = run ro call r e (u0 :: u1 :: u2 :: u3 :: u4 :: .int x :: ls) st hp c s := by
  show (if 5 < (u0 :: u1 :: u2 :: u3 :: u4 :: w :: ls).length then run ro call r e (u0 :: u1 :: u2 :: u3 :: u4 :: .int x :: ls) st hp c s else none) = _
  exact if_pos (by simp only [List.length_cons]; omega)
theorem rn_istore6 (n : Nat) (u0 u1 u2 u3 u4 u5 : Value) (w : Value) : run ro call ((pc, .istore n, [6]) :: r) e (u0 :: u1 :: u2 :: u3 :: u4 :: u5 :: w :: ls) (.int x :: st) hp c s = run ro call r e (u0 :: u1 :: u2 :: u3 :: u4 :: u5 :: .int x :: ls) st hp c s := by
  show (if 6 < (u0 :: u1 :: u2 :: u3 :: u4 :: u5 :: w :: ls).length then run ro call r e (u0 :: u1 :: u2 :: u3 :: u4 :: u5 :: .int x :: ls) st hp c s else none) = _
  exact if_pos (by simp only [List.length_cons]; omega)
theorem rn_istore7 (n : Nat) (u0 u1 u2 u3 u4 u5 u6 : Value) (w : Value) : run ro call ((pc, .istore n, [7]) :: r) e (u0 :: u1 :: u2 :: u3 :: u4 :: u5 :: u6 :: w :: ls) (.int x :: st) hp c s = run ro call r e (u0 :: u1 :: u2 :: u3 :: u4 :: u5 :: u6 :: .int x :: ls) st hp c s := by
  show (if 7 < (u0 :: u1 :: u2 :: u3 :: u4 :: u5 :: u6 :: w :: ls).length then run ro call r e (u0 :: u1 :: u2 :: u3 :: u4 :: u5 :: u6 :: .int x :: ls) st hp c s else none) = _
  exact if_pos (by simp only [List.length_cons]; omega)
theorem rn_istore_n0 (n : Fin 4) (w : Value) : run ro call ((pc, .istore_n n, [0]) :: r) e (w :: ls) (.int x :: st) hp c s = run ro call r e (.int x :: ls) st hp c s := by
  show (if 0 < (w :: ls).length then run ro call r e (.int x :: ls) st hp c s else none) = _
  exact if_pos (by simp only [List.length_cons]; omega)
theorem rn_istore_n1 (n : Fin 4) (u0 : Value) (w : Value) : run ro call ((pc, .istore_n n, [1]) :: r) e (u0 :: w :: ls) (.int x :: st) hp c s = run ro call r e (u0 :: .int x :: ls) st hp c s := by
  show (if 1 < (u0 :: w :: ls).length then run ro call r e (u0 :: .int x :: ls) st hp c s else none) = _
  exact if_pos (by simp only [List.length_cons]; omega)
theorem rn_istore_n2 (n : Fin 4) (u0 u1 : Value) (w : Value) : run ro call ((pc, .istore_n n, [2]) :: r) e (u0 :: u1 :: w :: ls) (.int x :: st) hp c s = run ro call r e (u0 :: u1 :: .int x :: ls) st hp c s := by
  show (if 2 < (u0 :: u1 :: w :: ls).length then run ro call r e (u0 :: u1 :: .int x :: ls) st hp c s else none) = _
  exact if_pos (by simp only [List.length_cons]; omega)
theorem rn_istore_n3 (n : Fin 4) (u0 u1 u2 : Value) (w : Value) : run ro call ((pc, .istore_n n, [3]) :: r) e (u0 :: u1 :: u2 :: w :: ls) (.int x :: st) hp c s = run ro call r e (u0 :: u1 :: u2 :: .int x :: ls) st hp c s := by
  show (if 3 < (u0 :: u1 :: u2 :: w :: ls).length then run ro call r e (u0 :: u1 :: u2 :: .int x :: ls) st hp c s else none) = _
  exact if_pos (by simp only [List.length_cons]; omega)
theorem rn_astore_n0 (n : Fin 4) (w : Value) : run ro call ((pc, .astore_n n, [0]) :: r) e (w :: ls) (.ref j :: st) hp c s = run ro call r e (.ref j :: ls) st hp c s := by
  show (if 0 < (w :: ls).length then run ro call r e (.ref j :: ls) st hp c s else none) = _
  exact if_pos (by simp only [List.length_cons]; omega)
theorem rn_astore_n1 (n : Fin 4) (u0 : Value) (w : Value) : run ro call ((pc, .astore_n n, [1]) :: r) e (u0 :: w :: ls) (.ref j :: st) hp c s = run ro call r e (u0 :: .ref j :: ls) st hp c s := by
  show (if 1 < (u0 :: w :: ls).length then run ro call r e (u0 :: .ref j :: ls) st hp c s else none) = _
  exact if_pos (by simp only [List.length_cons]; omega)
theorem rn_astore_n2 (n : Fin 4) (u0 u1 : Value) (w : Value) : run ro call ((pc, .astore_n n, [2]) :: r) e (u0 :: u1 :: w :: ls) (.ref j :: st) hp c s = run ro call r e (u0 :: u1 :: .ref j :: ls) st hp c s := by
  show (if 2 < (u0 :: u1 :: w :: ls).length then run ro call r e (u0 :: u1 :: .ref j :: ls) st hp c s else none) = _
  exact if_pos (by simp only [List.length_cons]; omega)
theorem rn_astore_n3 (n : Fin 4) (u0 u1 u2 : Value) (w : Value) : run ro call ((pc, .astore_n n, [3]) :: r) e (u0 :: u1 :: u2 :: w :: ls) (.ref j :: st) hp c s = run ro call r e (u0 :: u1 :: u2 :: .ref j :: ls) st hp c s := by
  show (if 3 < (u0 :: u1 :: u2 :: w :: ls).length then run ro call r e (u0 :: u1 :: u2 :: .ref j :: ls) st hp c s else none) = _
  exact if_pos (by simp only [List.length_cons]; omega)
theorem rn_iincK0 (i : Nat) (n : Int) (k : Nat) : run ro call ((pc, .iinc i n, [0, k]) :: r) e (.int x :: ls) st hp c s = run ro call r e (.int (x + nI k) :: ls) st hp c s := rfl
theorem rn_iincK1 (i : Nat) (n : Int) (k : Nat) (u0 : Value) : run ro call ((pc, .iinc i n, [1, k]) :: r) e (u0 :: .int x :: ls) st hp c s = run ro call r e (u0 :: .int (x + nI k) :: ls) st hp c s := rfl
theorem rn_iincK2 (i : Nat) (n : Int) (k : Nat) (u0 u1 : Value) : run ro call ((pc, .iinc i n, [2, k]) :: r) e (u0 :: u1 :: .int x :: ls) st hp c s = run ro call r e (u0 :: u1 :: .int (x + nI k) :: ls) st hp c s := rfl
theorem rn_iincK3 (i : Nat) (n : Int) (k : Nat) (u0 u1 u2 : Value) : run ro call ((pc, .iinc i n, [3, k]) :: r) e (u0 :: u1 :: u2 :: .int x :: ls) st hp c s = run ro call r e (u0 :: u1 :: u2 :: .int (x + nI k) :: ls) st hp c s := rfl
theorem rn_iincK4 (i : Nat) (n : Int) (k : Nat) (u0 u1 u2 u3 : Value) : run ro call ((pc, .iinc i n, [4, k]) :: r) e (u0 :: u1 :: u2 :: u3 :: .int x :: ls) st hp c s = run ro call r e (u0 :: u1 :: u2 :: u3 :: .int (x + nI k) :: ls) st hp c s := rfl
theorem rn_iincK5 (i : Nat) (n : Int) (k : Nat) (u0 u1 u2 u3 u4 : Value) : run ro call ((pc, .iinc i n, [5, k]) :: r) e (u0 :: u1 :: u2 :: u3 :: u4 :: .int x :: ls) st hp c s = run ro call r e (u0 :: u1 :: u2 :: u3 :: u4 :: .int (x + nI k) :: ls) st hp c s := rfl
theorem rn_iincK6 (i : Nat) (n : Int) (k : Nat) (u0 u1 u2 u3 u4 u5 : Value) : run ro call ((pc, .iinc i n, [6, k]) :: r) e (u0 :: u1 :: u2 :: u3 :: u4 :: u5 :: .int x :: ls) st hp c s = run ro call r e (u0 :: u1 :: u2 :: u3 :: u4 :: u5 :: .int (x + nI k) :: ls) st hp c s := rfl
theorem rn_iincK7 (i : Nat) (n : Int) (k : Nat) (u0 u1 u2 u3 u4 u5 u6 : Value) : run ro call ((pc, .iinc i n, [7, k]) :: r) e (u0 :: u1 :: u2 :: u3 :: u4 :: u5 :: u6 :: .int x :: ls) st hp c s = run ro call r e (u0 :: u1 :: u2 :: u3 :: u4 :: u5 :: u6 :: .int (x + nI k) :: ls) st hp c s := rfl
theorem rn_iinc0 (i : Nat) (n : Int) : run ro call ((pc, .iinc i n, [0]) :: r) e (.int x :: ls) st hp c s = run ro call r e (.int (x + Int32.ofInt n) :: ls) st hp c s := rfl
theorem rn_iinc1 (i : Nat) (n : Int) (u0 : Value) : run ro call ((pc, .iinc i n, [1]) :: r) e (u0 :: .int x :: ls) st hp c s = run ro call r e (u0 :: .int (x + Int32.ofInt n) :: ls) st hp c s := rfl
theorem rn_iinc2 (i : Nat) (n : Int) (u0 u1 : Value) : run ro call ((pc, .iinc i n, [2]) :: r) e (u0 :: u1 :: .int x :: ls) st hp c s = run ro call r e (u0 :: u1 :: .int (x + Int32.ofInt n) :: ls) st hp c s := rfl
theorem rn_iinc3 (i : Nat) (n : Int) (u0 u1 u2 : Value) : run ro call ((pc, .iinc i n, [3]) :: r) e (u0 :: u1 :: u2 :: .int x :: ls) st hp c s = run ro call r e (u0 :: u1 :: u2 :: .int (x + Int32.ofInt n) :: ls) st hp c s := rfl
theorem rn_iinc4 (i : Nat) (n : Int) (u0 u1 u2 u3 : Value) : run ro call ((pc, .iinc i n, [4]) :: r) e (u0 :: u1 :: u2 :: u3 :: .int x :: ls) st hp c s = run ro call r e (u0 :: u1 :: u2 :: u3 :: .int (x + Int32.ofInt n) :: ls) st hp c s := rfl
theorem rn_iinc5 (i : Nat) (n : Int) (u0 u1 u2 u3 u4 : Value) : run ro call ((pc, .iinc i n, [5]) :: r) e (u0 :: u1 :: u2 :: u3 :: u4 :: .int x :: ls) st hp c s = run ro call r e (u0 :: u1 :: u2 :: u3 :: u4 :: .int (x + Int32.ofInt n) :: ls) st hp c s := rfl
theorem rn_iinc6 (i : Nat) (n : Int) (u0 u1 u2 u3 u4 u5 : Value) : run ro call ((pc, .iinc i n, [6]) :: r) e (u0 :: u1 :: u2 :: u3 :: u4 :: u5 :: .int x :: ls) st hp c s = run ro call r e (u0 :: u1 :: u2 :: u3 :: u4 :: u5 :: .int (x + Int32.ofInt n) :: ls) st hp c s := rfl
theorem rn_iinc7 (i : Nat) (n : Int) (u0 u1 u2 u3 u4 u5 u6 : Value) : run ro call ((pc, .iinc i n, [7]) :: r) e (u0 :: u1 :: u2 :: u3 :: u4 :: u5 :: u6 :: .int x :: ls) st hp c s = run ro call r e (u0 :: u1 :: u2 :: u3 :: u4 :: u5 :: u6 :: .int (x + Int32.ofInt n) :: ls) st hp c s := rfl
theorem rn_iadd : run ro call ((pc, .iadd, xs) :: r) e ls (.int y :: .int x :: st) hp c s = run ro call r e ls (.int (x + y) :: st) hp c s := rfl
theorem rn_isub : run ro call ((pc, .isub, xs) :: r) e ls (.int y :: .int x :: st) hp c s = run ro call r e ls (.int (x - y) :: st) hp c s := rfl
theorem rn_imul : run ro call ((pc, .imul, xs) :: r) e ls (.int y :: .int x :: st) hp c s = run ro call r e ls (.int (x * y) :: st) hp c s := rfl
theorem rn_idiv : run ro call ((pc, .idiv, xs) :: r) e ls (.int y :: .int x :: st) hp c s = if y = 0 then none else run ro call r e ls (.int (x / y) :: st) hp c s := rfl
theorem rn_irem : run ro call ((pc, .irem, xs) :: r) e ls (.int y :: .int x :: st) hp c s = if y = 0 then none else run ro call r e ls (.int (x - x / y * y) :: st) hp c s := rfl
theorem rn_ineg : run ro call ((pc, .ineg, xs) :: r) e ls (.int x :: st) hp c s = run ro call r e ls (.int (-x) :: st) hp c s := rfl
theorem rn_ishl : run ro call ((pc, .ishl, xs) :: r) e ls (.int y :: .int x :: st) hp c s = run ro call r e ls (.int (x <<< (y &&& 31)) :: st) hp c s := rfl
theorem rn_ishr : run ro call ((pc, .ishr, xs) :: r) e ls (.int y :: .int x :: st) hp c s = run ro call r e ls (.int (x >>> (y &&& 31)) :: st) hp c s := rfl
theorem rn_iand : run ro call ((pc, .iand, xs) :: r) e ls (.int y :: .int x :: st) hp c s = run ro call r e ls (.int (x &&& y) :: st) hp c s := rfl
theorem rn_ior : run ro call ((pc, .ior, xs) :: r) e ls (.int y :: .int x :: st) hp c s = run ro call r e ls (.int (x ||| y) :: st) hp c s := rfl
theorem rn_ixor : run ro call ((pc, .ixor, xs) :: r) e ls (.int y :: .int x :: st) hp c s = run ro call r e ls (.int (x ^^^ y) :: st) hp c s := rfl
theorem rn_i2c : run ro call ((pc, .i2c, xs) :: r) e ls (.int x :: st) hp c s = run ro call r e ls (.int (x.toUInt32 % 65536).toInt32 :: st) hp c s := rfl
theorem rn_dup : run ro call ((pc, .dup, xs) :: r) e ls (.int x :: st) hp c s = run ro call r e ls (.int x :: .int x :: st) hp c s := rfl
theorem rn_dupr : run ro call ((pc, .dup, xs) :: r) e ls (.ref j :: st) hp c s = run ro call r e ls (.ref j :: .ref j :: st) hp c s := rfl
theorem rn_dup2 : run ro call ((pc, .dup2, xs) :: r) e ls (.int y :: .ref j :: st) hp c s = run ro call r e ls (.int y :: .ref j :: .int y :: .ref j :: st) hp c s := rfl
theorem rn_pop : run ro call ((pc, .pop, xs) :: r) e ls (.int x :: st) hp c s = run ro call r e ls st hp c s := rfl
theorem rn_ifeq (o : Int) : run ro call ((pc, .ifCond .eq o, [j]) :: r) e ls (.int x :: st) hp c s = if x = 0 then some (.inl (j, ls, st, hp, c, s)) else run ro call r e ls st hp c s := rfl
theorem rn_ifne (o : Int) : run ro call ((pc, .ifCond .ne o, [j]) :: r) e ls (.int x :: st) hp c s = if x = 0 then run ro call r e ls st hp c s else some (.inl (j, ls, st, hp, c, s)) := rfl
theorem rn_iflt (o : Int) : run ro call ((pc, .ifCond .lt o, [j]) :: r) e ls (.int x :: st) hp c s = if x < 0 then some (.inl (j, ls, st, hp, c, s)) else run ro call r e ls st hp c s := rfl
theorem rn_ifge (o : Int) : run ro call ((pc, .ifCond .ge o, [j]) :: r) e ls (.int x :: st) hp c s = if x < 0 then run ro call r e ls st hp c s else some (.inl (j, ls, st, hp, c, s)) := rfl
theorem rn_ifgt (o : Int) : run ro call ((pc, .ifCond .gt o, [j]) :: r) e ls (.int x :: st) hp c s = if 0 < x then some (.inl (j, ls, st, hp, c, s)) else run ro call r e ls st hp c s := rfl
theorem rn_ifle (o : Int) : run ro call ((pc, .ifCond .le o, [j]) :: r) e ls (.int x :: st) hp c s = if 0 < x then run ro call r e ls st hp c s else some (.inl (j, ls, st, hp, c, s)) := rfl
theorem rn_iceq (o : Int) : run ro call ((pc, .if_icmp .eq o, [j]) :: r) e ls (.int y :: .int x :: st) hp c s = if x = y then some (.inl (j, ls, st, hp, c, s)) else run ro call r e ls st hp c s := rfl
theorem rn_icne (o : Int) : run ro call ((pc, .if_icmp .ne o, [j]) :: r) e ls (.int y :: .int x :: st) hp c s = if x = y then run ro call r e ls st hp c s else some (.inl (j, ls, st, hp, c, s)) := rfl
theorem rn_iclt (o : Int) : run ro call ((pc, .if_icmp .lt o, [j]) :: r) e ls (.int y :: .int x :: st) hp c s = if x < y then some (.inl (j, ls, st, hp, c, s)) else run ro call r e ls st hp c s := rfl
theorem rn_icge (o : Int) : run ro call ((pc, .if_icmp .ge o, [j]) :: r) e ls (.int y :: .int x :: st) hp c s = if x < y then run ro call r e ls st hp c s else some (.inl (j, ls, st, hp, c, s)) := rfl
theorem rn_icgt (o : Int) : run ro call ((pc, .if_icmp .gt o, [j]) :: r) e ls (.int y :: .int x :: st) hp c s = if y < x then some (.inl (j, ls, st, hp, c, s)) else run ro call r e ls st hp c s := rfl
theorem rn_icle (o : Int) : run ro call ((pc, .if_icmp .le o, [j]) :: r) e ls (.int y :: .int x :: st) hp c s = if y < x then run ro call r e ls st hp c s else some (.inl (j, ls, st, hp, c, s)) := rfl
theorem rn_nonnull (o : Int) (a : Nat) : run ro call ((pc, .ifnonnull o, [j]) :: r) e ls (.ref a :: st) hp c s = some (.inl (j, ls, st, hp, c, s)) := rfl
theorem rn_goto (o : Int) : run ro call ((pc, .goto o, [j]) :: r) e ls st hp c s = some (.inl (j, ls, st, hp, c, s)) := rfl
theorem rn_table (a lo b : Int) (os : Array Int) (ts : List Nat) : run ro call ((pc, .tableswitch a lo b os, j :: ts) :: r) e ls (.int x :: st) hp c s = some (.inl (tks lo ts j x, ls, st, hp, c, s)) := rfl
theorem rn_lookup (a : Int) (ps : List (Int × Int)) (ts : List Nat) : run ro call ((pc, .lookupswitch a ⟨ps⟩, j :: ts) :: r) e ls (.int x :: st) hp c s = some (.inl (lks ps ts j x, ls, st, hp, c, s)) := rfl
theorem rn_getf (i ci f t : Nat) : run ro call ((pc, .getfield i, [ci, f, t]) :: r) e ls (.ref j :: st) hp c s = hgf hp[j]? ci f ro call r e ls st hp c s := rfl
theorem hgf_o (ci f c' : Nat) (vs : List Value) : hgf (some (.inr (c', vs))) ci f ro call r e ls st hp c s = if c' = ci ∧ c' < NCl then hgv vs[f]? ro call r e ls st hp c s else none := rfl
theorem hgv_s (v : Value) : hgv (some v) ro call r e ls st hp c s = run ro call r e ls (v :: st) hp c s := rfl
theorem rn_putf (i ci f t : Nat) (v : Value) : run ro call ((pc, .putfield i, [ci, f, t]) :: r) e ls (v :: .ref j :: st) hp c s = hpf hp[j]? j ci f t v ro call r e ls st hp c s := rfl
theorem hpf_o (ci f t c' : Nat) (v : Value) (vs : List Value) : hpf (some (.inr (c', vs))) j ci f t v ro call r e ls st hp c s = if c' = ci ∧ c' < NCl ∧ f < vs.length ∧ pok t v = true then run ro call r e ls st (hp.set j (.inr (c', vs.set f v))) c s else none := rfl
theorem rn_gets0 (i : Nat) : run ro call ((pc, .getstatic i, [0]) :: r) e ls st hp c s = run ro call r e ls (.long 0 :: st) hp c s := rfl
theorem rn_gets1 (i : Nat) : run ro call ((pc, .getstatic i, [1]) :: r) e ls st hp c s = run ro call r e ls (.long 1 :: st) hp c s := rfl
theorem rn_iald : run ro call ((pc, .iaload, xs) :: r) e ls (.int x :: .ref j :: st) hp c s = hil hp[j]? x 0 ro call r e ls st hp c s := rfl
theorem hil_a (z t n : Nat) (f : Nat → Int32) : hil (some (.inl (t, n, f))) x z ro call r e ls st hp c s = if x < 0 ∨ n ≤ x.toNatClampNeg ∨ t ≠ z then none else run ro call r e ls (.int (f x.toNatClampNeg) :: st) hp c s := rfl
theorem rn_ialr (a : Int64) : run ro call ((pc, .iaload, xs) :: r) e ls (.int x :: .long a :: st) hp c s = if x < 0 ∨ (ro a).1 ≤ x.toNatClampNeg then none else run ro call r e ls (.int ((ro a).2 x.toNatClampNeg) :: st) hp c s := rfl
theorem rn_iast : run ro call ((pc, .iastore, xs) :: r) e ls (.int y :: .int x :: .ref j :: st) hp c s = his hp[j]? j x y 0 ro call r e ls st hp c s := rfl
theorem his_a (z t n : Nat) (f : Nat → Int32) : his (some (.inl (t, n, f))) j x y z ro call r e ls st hp c s = if x < 0 ∨ n ≤ x.toNatClampNeg ∨ t ≠ z then none else run ro call r e ls st (hp.set j (.inl (t, n, upd f x.toNatClampNeg y))) c s := rfl
theorem rn_cald : run ro call ((pc, .caload, xs) :: r) e ls (.int x :: .ref j :: st) hp c s = hil hp[j]? x 1 ro call r e ls st hp c s := rfl
theorem rn_cast : run ro call ((pc, .castore, xs) :: r) e ls (.int y :: .int x :: .ref j :: st) hp c s = his hp[j]? j x (vp_nar .char y) 1 ro call r e ls st hp c s := rfl
theorem rn_aald : run ro call ((pc, .aaload, xs) :: r) e ls (.int x :: .ref j :: st) hp c s = hal hp[j]? x ro call r e ls st hp c s := rfl
theorem hal_o (t : Nat) (vs : List Value) : hal (some (.inr (t, vs))) x ro call r e ls st hp c s = if x < 0 ∨ vs.length ≤ x.toNatClampNeg ∨ t ≠ NCl then none else gr vs[x.toNatClampNeg]? (fun v => run ro call r e ls (.ref v :: st) hp c s) := rfl
theorem rn_aast (v : Nat) : run ro call ((pc, .aastore, xs) :: r) e ls (.ref v :: .int x :: .ref j :: st) hp c s = has hp[j]? j x v ro call r e ls st hp c s := rfl
theorem has_o (v t : Nat) (vs : List Value) : has (some (.inr (t, vs))) j x v ro call r e ls st hp c s = if x < 0 ∨ vs.length ≤ x.toNatClampNeg ∨ t ≠ NCl ∨ hasC 4 hp v = false then none else run ro call r e ls st (hp.set j (.inr (t, vs.set x.toNatClampNeg (.ref v)))) c s := rfl
theorem rn_alen (a : Int64) : run ro call ((pc, .arraylength, xs) :: r) e ls (.long a :: st) hp c s = if (ro a).1 = 0 ∧ (ro a).2 0 ≠ 7 then none else run ro call r e ls (.int (Int32.ofNat (ro a).1) :: st) hp c s := rfl
theorem rn_newa (ty : ArrayType) (t mcL msL : Nat) : run ro call ((pc, .newarray ty, [t, mcL, msL]) :: r) e ls (.int x :: st) hp c s = if x < 0 ∨ 100000 < x.toNatClampNeg ∨ mcL < c + 1 ∨ msL < s + x.toNatClampNeg ∨ clo hp.length (ls ++ st) hp = false then none else run ro call r e ls (.ref hp.length :: st) (hp ++ [.inl (t, x.toNatClampNeg, fun _ => 0)]) (c + 1) (s + x.toNatClampNeg) := rfl
theorem rn_anew (i mcL msL : Nat) : run ro call ((pc, .anewarray i, [mcL, msL]) :: r) e ls (.int x :: st) hp c s = if x < 0 ∨ 100000 < x.toNatClampNeg ∨ mcL < c + 1 ∨ msL < s + x.toNatClampNeg ∨ clo hp.length (ls ++ st) hp = false then none else run ro call r e ls (.ref hp.length :: st) (hp ++ [.inr (NCl, List.replicate x.toNatClampNeg .null)]) (c + 1) (s + x.toNatClampNeg) := rfl
theorem rn_new (i ci N mcL msL : Nat) : run ro call ((pc, .new i, [ci, N, mcL, msL]) :: r) e ls st hp c s = if mcL < c + 1 ∨ msL < s + N ∨ clo hp.length (ls ++ st) hp = false then none else run ro call r e ls (.ref hp.length :: st) (hp ++ [.inr (ci, dfl ci)]) (c + 1) (s + N) := rfl
theorem rn_v0 (i q n1 n2 cn t : Nat) : run ro call ((pc, .invokevirtual i, [q, 0, n1, n2, cn, 0, 0, 0, 0, t]) :: r) e ls (.ref j :: st) hp 0 0 = if 8 < st.length ∨ hasC cn hp j = false then none else hcl (cal call q n1 n2 [.ref j] (ls ++ st) hp) ro call r e ls st := by
  show (if 8 < st.length ∨ 0 < 0 ∨ 0 < 0 ∨ hasC cn hp j = false then none else hcl (cal call q n1 n2 [.ref j] (ls ++ st) hp) ro call r e ls st) = _
  simp only [Nat.lt_irrefl, false_or]
theorem rn_v1 (i q n1 n2 cn t : Nat) (v1 : Value) : run ro call ((pc, .invokevirtual i, [q, 1, n1, n2, cn, 0, 0, 0, 0, t]) :: r) e ls (v1 :: .ref j :: st) hp 0 0 = if 8 < st.length ∨ hasC cn hp j = false then none else hcl (cal call q n1 n2 [.ref j, v1] (ls ++ st) hp) ro call r e ls st := by
  show (if 8 < st.length ∨ 0 < 0 ∨ 0 < 0 ∨ hasC cn hp j = false then none else hcl (cal call q n1 n2 [.ref j, v1] (ls ++ st) hp) ro call r e ls st) = _
  simp only [Nat.lt_irrefl, false_or]
theorem rn_v2 (i q n1 n2 cn t : Nat) (v1 v2 : Value) : run ro call ((pc, .invokevirtual i, [q, 2, n1, n2, cn, 0, 0, 0, 0, t]) :: r) e ls (v2 :: v1 :: .ref j :: st) hp 0 0 = if 8 < st.length ∨ hasC cn hp j = false then none else hcl (cal call q n1 n2 [.ref j, v1, v2] (ls ++ st) hp) ro call r e ls st := by
  show (if 8 < st.length ∨ 0 < 0 ∨ 0 < 0 ∨ hasC cn hp j = false then none else hcl (cal call q n1 n2 [.ref j, v1, v2] (ls ++ st) hp) ro call r e ls st) = _
  simp only [Nat.lt_irrefl, false_or]
theorem rn_v3 (i q n1 n2 cn t : Nat) (v1 v2 v3 : Value) : run ro call ((pc, .invokevirtual i, [q, 3, n1, n2, cn, 0, 0, 0, 0, t]) :: r) e ls (v3 :: v2 :: v1 :: .ref j :: st) hp 0 0 = if 8 < st.length ∨ hasC cn hp j = false then none else hcl (cal call q n1 n2 [.ref j, v1, v2, v3] (ls ++ st) hp) ro call r e ls st := by
  show (if 8 < st.length ∨ 0 < 0 ∨ 0 < 0 ∨ hasC cn hp j = false then none else hcl (cal call q n1 n2 [.ref j, v1, v2, v3] (ls ++ st) hp) ro call r e ls st) = _
  simp only [Nat.lt_irrefl, false_or]
theorem rn_v4 (i q n1 n2 cn t : Nat) (v1 v2 v3 v4 : Value) : run ro call ((pc, .invokevirtual i, [q, 4, n1, n2, cn, 0, 0, 0, 0, t]) :: r) e ls (v4 :: v3 :: v2 :: v1 :: .ref j :: st) hp 0 0 = if 8 < st.length ∨ hasC cn hp j = false then none else hcl (cal call q n1 n2 [.ref j, v1, v2, v3, v4] (ls ++ st) hp) ro call r e ls st := by
  show (if 8 < st.length ∨ 0 < 0 ∨ 0 < 0 ∨ hasC cn hp j = false then none else hcl (cal call q n1 n2 [.ref j, v1, v2, v3, v4] (ls ++ st) hp) ro call r e ls st) = _
  simp only [Nat.lt_irrefl, false_or]
theorem rn_s1 (i q n1 n2 cn t : Nat) (v1 : Value) : run ro call ((pc, .invokestatic i, [q, 1, n1, n2, cn, 0, 0, 0, 0, t]) :: r) e ls (v1 :: st) hp 0 0 = if 8 < st.length then none else hcl (cal call q n1 n2 [v1] (ls ++ st) hp) ro call r e ls st := by
  have hl : ¬ st.length + 1 < 1 := by omega
  show (if 8 < st.length ∨ 0 < 0 ∨ 0 < 0 then none else if st.length + 1 < 1 then none else hcl (cal call q n1 n2 [v1] (ls ++ st) hp) ro call r e ls st) = _
  simp only [Nat.lt_irrefl, or_false, if_neg hl]
theorem rn_s2 (i q n1 n2 cn t : Nat) (v1 v2 : Value) : run ro call ((pc, .invokestatic i, [q, 2, n1, n2, cn, 0, 0, 0, 0, t]) :: r) e ls (v2 :: v1 :: st) hp 0 0 = if 8 < st.length then none else hcl (cal call q n1 n2 [v1, v2] (ls ++ st) hp) ro call r e ls st := by
  have hl : ¬ st.length + 2 < 2 := by omega
  show (if 8 < st.length ∨ 0 < 0 ∨ 0 < 0 then none else if st.length + 2 < 2 then none else hcl (cal call q n1 n2 [v1, v2] (ls ++ st) hp) ro call r e ls st) = _
  simp only [Nat.lt_irrefl, or_false, if_neg hl]
theorem rn_s3 (i q n1 n2 cn t : Nat) (v1 v2 v3 : Value) : run ro call ((pc, .invokestatic i, [q, 3, n1, n2, cn, 0, 0, 0, 0, t]) :: r) e ls (v3 :: v2 :: v1 :: st) hp 0 0 = if 8 < st.length then none else hcl (cal call q n1 n2 [v1, v2, v3] (ls ++ st) hp) ro call r e ls st := by
  have hl : ¬ st.length + 3 < 3 := by omega
  show (if 8 < st.length ∨ 0 < 0 ∨ 0 < 0 then none else if st.length + 3 < 3 then none else hcl (cal call q n1 n2 [v1, v2, v3] (ls ++ st) hp) ro call r e ls st) = _
  simp only [Nat.lt_irrefl, or_false, if_neg hl]
theorem rn_init (i q n1 n2 cn mc ms mcL msL t : Nat) : run ro call ((pc, .invokespecial i, [q, 0, n1, n2, cn, mc, ms, mcL, msL, t]) :: r) e ls (.ref j :: st) hp c s = if 8 < st.length ∨ mcL < c + mc ∨ msL < s + ms then none else hci (cal call q n1 n2 [.ref j] (ls ++ st) hp) ro call r e ls st (c + mc) (s + ms) := rfl
theorem rn_oinit (i : Nat) : run ro call ((pc, .invokespecial i, []) :: r) e ls (.ref j :: st) hp c s = if 8 < st.length then none else run ro call r e ls st hp c s := rfl
theorem rn_max (i : Nat) : run ro call ((pc, .invokestatic i, [0]) :: r) e ls (.int y :: .int x :: st) hp c s = if 8 < st.length then none else run ro call r e ls (.int (if x < y then y else x) :: st) hp c s := rfl
theorem rn_min (i : Nat) : run ro call ((pc, .invokestatic i, [1]) :: r) e ls (.int y :: .int x :: st) hp c s = if 8 < st.length then none else run ro call r e ls (.int (if y < x then y else x) :: st) hp c s := rfl
theorem rn_copy (i : Nat) (n dp sp : Int32) (a b : Nat) : run ro call ((pc, .invokestatic i, [2]) :: r) e ls (.int n :: .int dp :: .ref b :: .int sp :: .ref a :: st) hp c s = hcp hp[a]? hp[b]? b n dp sp ro call r e ls st hp c s := by
  simp only [run, hcp]
  cases h : hp[a]? with
  | none => rfl
  | some x => cases x with
    | inr y => rfl
    | inl y => cases h2 : hp[b]? with
      | none => rfl
      | some z => cases z with
        | inr w => rfl
        | inl w => rfl
theorem rn_iret (t : Nat) : run ro call ((pc, .ireturn, [t]) :: r) e ls [.int x] hp c s = if t = 0 ∨ x = 0 ∨ x = 1 then some (.inr (some (.int x), hp)) else none := rfl
theorem rn_ret : run ro call ((pc, .return_, xs) :: r) e ls [] hp c s = some (.inr (none, hp)) := rfl
theorem hcl_n (h : List AE) : hcl (some (none, h)) ro call r e ls st = run ro call r e ls st h 0 0 := rfl
theorem hcl_i (h : List AE) : hcl (some (some (.int x), h)) ro call r e ls st = run ro call r e ls (.int x :: st) h 0 0 := rfl
theorem hcl_ite (p : Prop) [q : Decidable p] (a b : Option Rs) : hcl (if p then a else b) ro call r e ls st = if p then hcl a ro call r e ls st else hcl b ro call r e ls st := by
  cases q <;> rfl
theorem hci_n (h : List AE) : hci (some (none, h)) ro call r e ls st c s = run ro call r e ls st h c s := rfl
theorem hcp_a (n dp sp : Int32) (b t n0 t' n1 : Nat) (f g : Nat → Int32) : hcp (some (.inl (t, n0, f))) (some (.inl (t', n1, g))) b n dp sp ro call r e ls st hp c s = if 8 < st.length ∨ sp < 0 ∨ dp < 0 ∨ n < 0 ∨ n0 < sp.toNatClampNeg + n.toNatClampNeg ∨ n1 < dp.toNatClampNeg + n.toNatClampNeg ∨ t ≠ 0 ∨ t' ≠ 0 then none else run ro call r e ls st (hp.set b (.inl (t', n1, va_cpy f g sp.toNatClampNeg dp.toNatClampNeg n.toNatClampNeg))) c s := rfl
end ROWS
