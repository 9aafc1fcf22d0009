
/-! THE SMALL MACHINE: the bytecode of the claim's methods over a list of cells; a call sees the cells of its receiver and of its one reference alone -/
abbrev Rs : Type := Option Value × List AE
abbrev KK : Type := Nat → List Value → List Value → List AE → Nat → Nat → Option Rs
abbrev CL : Type := Nat → List Value → List AE → Option Rs
abbrev Cf : Type := Nat × List Value × List Value × List AE × Nat × Nat
abbrev RO : Type := Int64 → Nat × (Nat → Int32)
def eY (e : Ent) : MethodName := e.1
def eB (e : Ent) : ByteArray := e.2.1
def eL (e : Ent) : Nat := e.2.2.1
def eR (e : Ent) : Option FieldType := e.2.2.2.1
def eC (e : Ent) : Nat := e.2.2.2.2.1.1
def eS (e : Ent) : Bool := e.2.2.2.2.1.2.1
def eN (e : Ent) : Nat := e.2.2.2.2.1.2.2.1
def eN1 (e : Ent) : Nat := e.2.2.2.2.1.2.2.2.1
def eN2 (e : Ent) : Nat := e.2.2.2.2.1.2.2.2.2
def eMc (e : Ent) : Nat := e.2.2.2.2.2.1.1
def eMs (e : Ent) : Nat := e.2.2.2.2.2.1.2.1
def eF (e : Ent) : Nat := e.2.2.2.2.2.1.2.2.1
def eLo (e : Ent) : Nat := e.2.2.2.2.2.1.2.2.2
def eBl (e : Ent) : List Blk := e.2.2.2.2.2.2
-- a caller's cells, seen by a callee: s1 .. s1+n1, then s2 .. s2+n2
def lc (s1 n1 s2 n2 j : Nat) : Option Nat := if s1 ≤ j ∧ j < s1 + n1 then some (j - s1) else if s2 ≤ j ∧ j < s2 + n2 then some (n1 + (j - s2)) else none
def gl (s1 n1 s2 n2 h k : Nat) : Nat := if k < n1 then s1 + k else if k < n1 + n2 then s2 + (k - n1) else h + (k - (n1 + n2))
def unV (s1 n1 s2 n2 : Nat) : Value → Option Value
  | .int x => some (.int x)
  | .null => some .null
  | .ref j => match lc s1 n1 s2 n2 j with
    | some k => some (.ref k)
    | none => none
  | _ => none
def unL (s1 n1 s2 n2 : Nat) : List Value → Option (List Value)
  | [] => some []
  | v :: r => match unV s1 n1 s2 n2 v, unL s1 n1 s2 n2 r with
    | some a, some b => some (a :: b)
    | _, _ => none
def unE (s1 n1 s2 n2 : Nat) : AE → Option AE
  | .inl x => some (.inl x)
  | .inr (c, vs) => match unL s1 n1 s2 n2 vs with
    | some ws => some (.inr (c, ws))
    | none => none
def unH (s1 n1 s2 n2 : Nat) : List AE → Option (List AE)
  | [] => some []
  | v :: r => match unE s1 n1 s2 n2 v, unH s1 n1 s2 n2 r with
    | some a, some b => some (a :: b)
    | _, _ => none
def glV (s1 n1 s2 n2 h : Nat) : Value → Value
  | .ref k => .ref (gl s1 n1 s2 n2 h k)
  | v => v
def glE (s1 n1 s2 n2 h : Nat) : AE → AE
  | .inl x => .inl x
  | .inr (c, vs) => .inr (c, vs.map (glV s1 n1 s2 n2 h))
def rf0 : List Value → Nat
  | .ref j :: _ => j
  | _ => 0
def rf1 : List Value → Nat
  | _ :: r => rf0 r
  | _ => 0
def clV (n : Nat) : Value → Bool
  | .ref j => decide (j < n)
  | _ => true
def clE (n : Nat) : AE → Bool
  | .inl _ => true
  | .inr (_, vs) => vs.all (clV n)
def clo (n : Nat) (vs : List Value) (hp : List AE) : Bool := vs.all (clV n) && hp.all (clE n)
-- a real long x is told as .double; .long stands for a cell that is read only
def dl (x : Int64) : Value := .double x.toUInt64
def isD : Value → Bool
  | .double _ => true
  | _ => false
def sw : List Value → Nat
  | [] => 0
  | .double _ :: r => sw r + 2
  | _ :: r => sw r + 1
def spl (s n : Nat) (q h : List AE) : List AE := h.take s ++ (q ++ h.drop (s + n))
/-- a call: the callee's cells out of the caller's, the callee, its cells back into the caller's -/
def cal (call : CL) (mid n1 n2 : Nat) (av : List Value) (oth : List Value) (hp : List AE) : Option Rs :=
  if rf0 av + n1 ≤ hp.length ∧ rf1 av + n2 ≤ hp.length ∧ (rf0 av + n1 ≤ rf1 av ∨ rf1 av + n2 ≤ rf0 av ∨ n2 = 0) then
    match unL (rf0 av) n1 (rf1 av) n2 av, unH (rf0 av) n1 (rf1 av) n2 ((hp.drop (rf0 av)).take n1 ++ (hp.drop (rf1 av)).take n2) with
    | some a, some h => match call mid a h with
      | some (v, q) => if n1 + n2 ≤ q.length ∧ q.all (clE q.length) = true ∧ (q.length = n1 + n2 ∨ clo hp.length oth hp = true) then
          some (v, spl (rf1 av) n2 (((q.map (glE (rf0 av) n1 (rf1 av) n2 hp.length)).drop n1).take n2) (spl (rf0 av) n1 ((q.map (glE (rf0 av) n1 (rf1 av) n2 hp.length)).take n1) hp) ++ (q.map (glE (rf0 av) n1 (rf1 av) n2 hp.length)).drop (n1 + n2)) else none
      | none => none
    | _, _ => none
  else none
def hasC (cn : Nat) (hp : List AE) (j : Nat) : Bool := match hp[j]? with
  | some (.inr (c, _)) => c == cn
  | _ => false
def dfl (c : Nat) : List Value := (List.range (NX c)).map (fun k => defaultValue (tX c k))
def lks : List (Int × Int) → List Nat → Nat → Int32 → Nat
  | (a, _) :: r, t :: ts, d, x => if x = Int32.ofInt a then t else lks r ts d x
  | _, _, d, _ => d
def tks : Int → List Nat → Nat → Int32 → Nat
  | lo, t :: ts, d, x => if x = Int32.ofInt lo then t else tks (lo + 1) ts d x
  | _, [], d, _ => d
def pok (t : Nat) : Value → Bool
  | .int x => decide (t = 0) || (decide (t = 1) && (decide (x = 0) || decide (x = 1)))
  | .ref _ => decide (t = 2)
  | _ => false
section MACH
variable (ro : RO) (call : CL)
def run : List Op → Nat → List Value → List Value → List AE → Nat → Nat → Option (Cf ⊕ Rs)
  | [], e, ls, st, hp, c, s => some (.inl (e, ls, st, hp, c, s))
  | (_, i, xs) :: r, e, ls, st, hp, c, s =>
    match i with
    | .iconst n => match xs with
      | [j] => run r e ls (.int (nI j) :: st) hp c s
      | _ => run r e ls (.int (Int32.ofInt n) :: st) hp c s
    | .bipush n => match xs with
      | [j] => run r e ls (.int (nI j) :: st) hp c s
      | _ => run r e ls (.int (Int32.ofInt n) :: st) hp c s
    | .sipush n => match xs with
      | [j] => run r e ls (.int (nI j) :: st) hp c s
      | _ => run r e ls (.int (Int32.ofInt n) :: st) hp c s
    | .iload _ => match xs with
      | [j] => match ls[j]? with
        | some (.int x) => run r e ls (.int x :: st) hp c s
        | _ => none
      | _ => none
    | .iload_n _ => match xs with
      | [j] => match ls[j]? with
        | some (.int x) => run r e ls (.int x :: st) hp c s
        | _ => none
      | _ => none
    | .aload_n _ => match xs with
      | [j] => match ls[j]? with
        | some (.ref x) => run r e ls (.ref x :: st) hp c s
        | some (.long x) => run r e ls (.long x :: st) hp c s
        | _ => none
      | _ => none
    | .istore _ => match xs, st with
      | [j], .int x :: st => if j < ls.length then run r e (ls.set j (.int x)) st hp c s else none
      | _, _ => none
    | .istore_n _ => match xs, st with
      | [j], .int x :: st => if j < ls.length then run r e (ls.set j (.int x)) st hp c s else none
      | _, _ => none
    | .astore_n _ => match xs, st with
      | [j], .ref x :: st => if j < ls.length then run r e (ls.set j (.ref x)) st hp c s else none
      | _, _ => none
    | .iinc _ n => match xs with
      | [j] => match ls[j]? with
        | some (.int x) => run r e (ls.set j (.int (x + Int32.ofInt n))) st hp c s
        | _ => none
      | [j, k] => match ls[j]? with
        | some (.int x) => run r e (ls.set j (.int (x + nI k))) st hp c s
        | _ => none
      | _ => none
    | .iadd => match st with
      | .int y :: .int x :: st => run r e ls (.int (x + y) :: st) hp c s
      | _ => none
    | .isub => match st with
      | .int y :: .int x :: st => run r e ls (.int (x - y) :: st) hp c s
      | _ => none
    | .imul => match st with
      | .int y :: .int x :: st => run r e ls (.int (x * y) :: st) hp c s
      | _ => none
    | .idiv => match st with
      | .int y :: .int x :: st => if y = 0 then none else run r e ls (.int (x / y) :: st) hp c s
      | _ => none
    | .irem => match st with
      | .int y :: .int x :: st => if y = 0 then none else run r e ls (.int (x - x / y * y) :: st) hp c s
      | _ => none
    | .ineg => match st with
      | .int x :: st => run r e ls (.int (-x) :: st) hp c s
      | _ => none
    | .ishl => match st with
      | .int y :: .int x :: st => run r e ls (.int (x <<< (y &&& 31)) :: st) hp c s
      | _ => none
    | .ishr => match st with
      | .int y :: .int x :: st => run r e ls (.int (x >>> (y &&& 31)) :: st) hp c s
      | _ => none
    | .iand => match st with
      | .int y :: .int x :: st => run r e ls (.int (x &&& y) :: st) hp c s
      | _ => none
    | .ior => match st with
      | .int y :: .int x :: st => run r e ls (.int (x ||| y) :: st) hp c s
      | _ => none
    | .ixor => match st with
      | .int y :: .int x :: st => run r e ls (.int (x ^^^ y) :: st) hp c s
      | _ => none
    | .i2c => match st with
      | .int x :: st => run r e ls (.int (x.toUInt32 % 65536).toInt32 :: st) hp c s
      | _ => none
    | .i2l => match st with
      | .int x :: st => run r e ls (dl x.toInt64 :: st) hp c s
      | _ => none
    | .ladd => match st with
      | .double y :: .double x :: st => run r e ls (dl (x.toInt64 + y.toInt64) :: st) hp c s
      | _ => none
    | .lmul => match st with
      | .double y :: .double x :: st => run r e ls (dl (x.toInt64 * y.toInt64) :: st) hp c s
      | _ => none
    | .lcmp => match st with
      | .double y :: .double x :: st => if x = y then run r e ls (.int 0 :: st) hp c s else none
      | _ => none
    | .ldc _ => match xs with
      | [k] => run r e ls (.int (nI k) :: st) hp c s
      | _ => none
    | .ldc2_w _ => match xs with
      | [k] => run r e ls (dl (Int64.ofNat k) :: st) hp c s
      | _ => none
    | .lload _ => match xs with
      | [j] => match ls[j]?, ls[j + 1]? with
        | some (.double x), some .null => run r e ls (.double x :: st) hp c s
        | _, _ => none
      | _ => none
    | .lload_n _ => match xs with
      | [j] => match ls[j]?, ls[j + 1]? with
        | some (.double x), some .null => run r e ls (.double x :: st) hp c s
        | _, _ => none
      | _ => none
    | .lstore _ => match xs, st with
      | [j], .double x :: st => if j + 1 < ls.length then run r e ((ls.set j (.double x)).set (j + 1) .null) st hp c s else none
      | _, _ => none
    | .lstore_n _ => match xs, st with
      | [j], .double x :: st => if j + 1 < ls.length then run r e ((ls.set j (.double x)).set (j + 1) .null) st hp c s else none
      | _, _ => none
    | .aload _ => match xs with
      | [j] => match ls[j]? with
        | some (.ref x) => run r e ls (.ref x :: st) hp c s
        | some (.long x) => run r e ls (.long x :: st) hp c s
        | _ => none
      | _ => none
    | .astore _ => match xs, st with
      | [j], .ref x :: st => if j < ls.length then run r e (ls.set j (.ref x)) st hp c s else none
      | _, _ => none
    | .lreturn => match st with
      | [.double v] => some (.inr (some (.double v), hp))
      | _ => none
    | .dup => match st with
      | .int x :: st => run r e ls (.int x :: .int x :: st) hp c s
      | .ref x :: st => run r e ls (.ref x :: .ref x :: st) hp c s
      | _ => none
    | .dup2 => match st with
      | .int y :: .ref x :: st => run r e ls (.int y :: .ref x :: .int y :: .ref x :: st) hp c s
      | _ => none
    | .pop => match st with
      | .int _ :: st => run r e ls st hp c s
      | _ => none
    | .ifCond cd _ => match xs, st with
      | [t], .int x :: st => match cd with
        | .eq => if x = 0 then some (.inl (t, ls, st, hp, c, s)) else run r e ls st hp c s
        | .ne => if x = 0 then run r e ls st hp c s else some (.inl (t, ls, st, hp, c, s))
        | .lt => if x < 0 then some (.inl (t, ls, st, hp, c, s)) else run r e ls st hp c s
        | .ge => if x < 0 then run r e ls st hp c s else some (.inl (t, ls, st, hp, c, s))
        | .gt => if 0 < x then some (.inl (t, ls, st, hp, c, s)) else run r e ls st hp c s
        | .le => if 0 < x then run r e ls st hp c s else some (.inl (t, ls, st, hp, c, s))
      | _, _ => none
    | .if_icmp cd _ => match xs, st with
      | [t], .int y :: .int x :: st => match cd with
        | .eq => if x = y then some (.inl (t, ls, st, hp, c, s)) else run r e ls st hp c s
        | .ne => if x = y then run r e ls st hp c s else some (.inl (t, ls, st, hp, c, s))
        | .lt => if x < y then some (.inl (t, ls, st, hp, c, s)) else run r e ls st hp c s
        | .ge => if x < y then run r e ls st hp c s else some (.inl (t, ls, st, hp, c, s))
        | .gt => if y < x then some (.inl (t, ls, st, hp, c, s)) else run r e ls st hp c s
        | .le => if y < x then run r e ls st hp c s else some (.inl (t, ls, st, hp, c, s))
      | _, _ => none
    | .ifnonnull _ => match xs, st with
      | [t], .ref _ :: st => some (.inl (t, ls, st, hp, c, s))
      | _, _ => none
    | .goto _ => match xs with
      | [t] => some (.inl (t, ls, st, hp, c, s))
      | _ => none
    | .tableswitch _ lo _ _ => match xs, st with
      | d :: ts, .int x :: st => some (.inl (tks lo ts d x, ls, st, hp, c, s))
      | _, _ => none
    | .lookupswitch _ ps => match xs, st with
      | d :: ts, .int x :: st => some (.inl (lks ps.toList ts d x, ls, st, hp, c, s))
      | _, _ => none
    | .getfield _ => match xs, st with
      | [ci, f, _], .ref j :: st => match hp[j]? with
        | some (.inr (ci', vs)) => if ci' = ci ∧ ci' < NCl then match vs[f]? with
          | some v => run r e ls (v :: st) hp c s
          | none => none else none
        | _ => none
      | _, _ => none
    | .putfield _ => match xs, st with
      | [ci, f, t], v :: .ref j :: st => match hp[j]? with
        | some (.inr (ci', vs)) => if ci' = ci ∧ ci' < NCl ∧ f < vs.length ∧ pok t v = true then run r e ls st (hp.set j (.inr (ci', vs.set f v))) c s else none
        | _ => none
      | _, _ => none
    | .getstatic _ => match xs with
      | [0] => run r e ls (.long 0 :: st) hp c s
      | [1] => run r e ls (.long 1 :: st) hp c s
      | _ => none
    | .iaload => match st with
      | .int x :: .ref j :: st => match hp[j]? with
        | some (.inl (t, n, f)) => if x < 0 ∨ n ≤ x.toNatClampNeg ∨ t ≠ 0 then none else run r e ls (.int (f x.toNatClampNeg) :: st) hp c s
        | _ => none
      | .int x :: .long j :: st => if x < 0 ∨ (ro j).1 ≤ x.toNatClampNeg then none else run r e ls (.int ((ro j).2 x.toNatClampNeg) :: st) hp c s
      | _ => none
    | .iastore => match st with
      | .int v :: .int x :: .ref j :: st => match hp[j]? with
        | some (.inl (t, n, f)) => if x < 0 ∨ n ≤ x.toNatClampNeg ∨ t ≠ 0 then none else run r e ls st (hp.set j (.inl (t, n, upd f x.toNatClampNeg v))) c s
        | _ => none
      | _ => none
    | .caload => match st with
      | .int x :: .ref j :: st => match hp[j]? with
        | some (.inl (t, n, f)) => if x < 0 ∨ n ≤ x.toNatClampNeg ∨ t ≠ 1 then none else run r e ls (.int (f x.toNatClampNeg) :: st) hp c s
        | _ => none
      | _ => none
    | .castore => match st with
      | .int v :: .int x :: .ref j :: st => match hp[j]? with
        | some (.inl (t, n, f)) => if x < 0 ∨ n ≤ x.toNatClampNeg ∨ t ≠ 1 then none else run r e ls st (hp.set j (.inl (t, n, upd f x.toNatClampNeg (vp_nar .char v)))) c s
        | _ => none
      | _ => none
    | .aaload => match st with
      | .int x :: .ref j :: st => match hp[j]? with
        | some (.inr (t, vs)) => if x < 0 ∨ vs.length ≤ x.toNatClampNeg ∨ t ≠ NCl then none else match vs[x.toNatClampNeg]? with
          | some (.ref v) => run r e ls (.ref v :: st) hp c s
          | _ => none
        | _ => none
      | _ => none
    | .aastore => match st with
      | .ref v :: .int x :: .ref j :: st => match hp[j]? with
        | some (.inr (t, vs)) => if x < 0 ∨ vs.length ≤ x.toNatClampNeg ∨ t ≠ NCl ∨ hasC 4 hp v = false then none else run r e ls st (hp.set j (.inr (t, vs.set x.toNatClampNeg (.ref v)))) c s
        | _ => none
      | _ => none
    | .arraylength => match st with
      | .long j :: st => if (ro j).1 = 0 ∧ (ro j).2 0 ≠ 7 then none else run r e ls (.int (Int32.ofNat (ro j).1) :: st) hp c s
      | _ => none
    | .newarray _ => match xs, st with
      | [t, mcL, msL], .int n :: st => if n < 0 ∨ 100000 < n.toNatClampNeg ∨ mcL < c + 1 ∨ msL < s + n.toNatClampNeg ∨ clo hp.length (ls ++ st) hp = false then none else
          run r e ls (.ref hp.length :: st) (hp ++ [.inl (t, n.toNatClampNeg, fun _ => 0)]) (c + 1) (s + n.toNatClampNeg)
      | _, _ => none
    | .anewarray _ => match xs, st with
      | [mcL, msL], .int n :: st => if n < 0 ∨ 100000 < n.toNatClampNeg ∨ mcL < c + 1 ∨ msL < s + n.toNatClampNeg ∨ clo hp.length (ls ++ st) hp = false then none else
          run r e ls (.ref hp.length :: st) (hp ++ [.inr (NCl, List.replicate n.toNatClampNeg .null)]) (c + 1) (s + n.toNatClampNeg)
      | _, _ => none
    | .new _ => match xs with
      | [ci, N, mcL, msL] => if mcL < c + 1 ∨ msL < s + N ∨ clo hp.length (ls ++ st) hp = false then none else
          run r e ls (.ref hp.length :: st) (hp ++ [.inr (ci, dfl ci)]) (c + 1) (s + N)
      | _ => none
    | .invokevirtual _ => match xs with
      | [q, na, n1, n2, cn, mc, ms, mcL, msL, _] => match st.drop na with
        | .ref j :: st' => if 8 < sw st' ∨ mcL < c + mc ∨ msL < s + ms ∨ hasC cn hp j = false then none else
          match cal call q n1 n2 (.ref j :: (st.take na).reverse) (ls ++ st') hp with
          | some (none, h) => run r e ls st' h (c + mc) (s + ms)
          | some (some (.int v), h) => run r e ls (.int v :: st') h (c + mc) (s + ms)
          | _ => none
        | _ => none
      | _ => none
    | .invokespecial _ => match xs with
      | [q, na, n1, n2, _, mc, ms, mcL, msL, _] => match st.drop na with
        | .ref j :: st' => if 8 < sw st' ∨ mcL < c + mc ∨ msL < s + ms then none else
          match cal call q n1 n2 (.ref j :: (st.take na).reverse) (ls ++ st') hp with
          | some (none, h) => run r e ls st' h (c + mc) (s + ms)
          | _ => none
        | _ => none
      | [] => match st with
        | .ref _ :: st' => if 8 < sw st' then none else run r e ls st' hp c s
        | _ => none
      | _ => none
    | .invokestatic _ => match xs with
      | [q, na, n1, n2, _, mc, ms, mcL, msL, _] => if 8 < sw (st.drop na) ∨ mcL < c + mc ∨ msL < s + ms then none else if st.length < na then none else
          match cal call q n1 n2 (st.take na).reverse (ls ++ st.drop na) hp with
          | some (none, h) => run r e ls (st.drop na) h (c + mc) (s + ms)
          | some (some (.int v), h) => run r e ls (.int v :: st.drop na) h (c + mc) (s + ms)
          | _ => none
      | [q, na, mc, ms, mcL, msL, _] => if 8 < sw (st.drop na) ∨ mcL < c + mc ∨ msL < s + ms ∨ st.length < na ∨ (st.take na).all (fun v => !isD v) = false ∨ (ls ++ st.drop na).all (clV hp.length) = false then none else
          match call q (st.take na).reverse hp with
          | some (none, h) => if h.length < hp.length then none else run r e ls (st.drop na) h (c + mc) (s + ms)
          | some (some (.int v), h) => if h.length < hp.length then none else run r e ls (.int v :: st.drop na) h (c + mc) (s + ms)
          | some (some (.double v), h) => if h.length < hp.length then none else run r e ls (.double v :: st.drop na) h (c + mc) (s + ms)
          | _ => none
      | [0] => match st with
        | .int y :: .int x :: st => if 8 < sw st then none else run r e ls (.int (if x < y then y else x) :: st) hp c s
        | _ => none
      | [1] => match st with
        | .int y :: .int x :: st => if 8 < sw st then none else run r e ls (.int (if y < x then y else x) :: st) hp c s
        | _ => none
      | [2] => match st with
        | .int n :: .int dp :: .ref b :: .int sp :: .ref a :: st => match hp[a]?, hp[b]? with
          | some (.inl (t, n0, f)), some (.inl (t', n1, g)) => if 8 < sw st ∨ sp < 0 ∨ dp < 0 ∨ n < 0 ∨ n0 < sp.toNatClampNeg + n.toNatClampNeg ∨ n1 < dp.toNatClampNeg + n.toNatClampNeg ∨ t ≠ 0 ∨ t' ≠ 0 then none else
              run r e ls st (hp.set b (.inl (t', n1, va_cpy f g sp.toNatClampNeg dp.toNatClampNeg n.toNatClampNeg))) c s
          | _, _ => none
        | _ => none
      | _ => none
    | .ireturn => match xs, st with
      | [t], [.int v] => if t = 0 ∨ v = 0 ∨ v = 1 then some (.inr (some (.int v), hp)) else none
      | _, _ => none
    | .return_ => match st with
      | [] => some (.inr (none, hp))
      | _ => none
    | _ => none
end MACH
def cod (mid pc : Nat) : Option (List Op × Nat) := match tM[mid]? with
  | some e => (eBl e).lookup pc
  | none => none
def fin (k : KK) : Option (Cf ⊕ Rs) → Option Rs
  | some (.inl (pc, ls, st, hp, c, s)) => k pc ls st hp c s
  | some (.inr r) => some r
  | none => none
theorem fin_jump (k : KK) (pc : Nat) (ls st : List Value) (hp : List AE) (c s : Nat) : fin k (some (.inl (pc, ls, st, hp, c, s))) = k pc ls st hp c s := rfl
theorem fin_ret (k : KK) (r : Rs) : fin k (some (.inr r)) = some r := rfl
theorem fin_none (k : KK) : fin k none = none := rfl
theorem fin_ite (k : KK) (p : Prop) [h : Decidable p] (a b : Option (Cf ⊕ Rs)) : fin k (if p then a else b) = if p then fin k a else fin k b := by
  cases h <;> rfl
def stp (ro : RO) (call : CL) (mid pc : Nat) (ls st : List Value) (hp : List AE) (c s : Nat) : Option (Cf ⊕ Rs) := match cod mid pc with
  | some (ops, e) => run ro call ops e ls st hp c s
  | none => none
def go (ro : RO) (call : CL) (mid : Nat) : Nat → KK
  | 0 => fun _ _ _ _ _ _ => none
  | f + 1 => fun pc ls st hp c s => fin (go ro call mid f) (stp ro call mid pc ls st hp c s)
noncomputable def ev (ro : RO) (call : CL) (mid : Nat) : KK := fun pc ls st hp c s =>
  @dite _ (∃ (r : Rs) (f : Nat), go ro call mid f pc ls st hp c s = some r) (Classical.propDecidable _) (fun h => some (Classical.choose h)) (fun _ => none)
noncomputable def exec (ro : RO) : Nat → CL
  | 0 => fun _ _ _ => none
  | d + 1 => fun mid av hp => match tM[mid]? with
    | some e => if av.length ≤ eL e then ev ro (exec ro d) mid 0 (av ++ List.replicate (eL e - av.length) .null) [] hp 0 0 else none
    | none => none
theorem go_more {ro : RO} {call : CL} {mid : Nat} {r : Rs} : ∀ (f g : Nat) (pc : Nat) (ls st : List Value) (hp : List AE) (c s : Nat), go ro call mid f pc ls st hp c s = some r → go ro call mid (f + g) pc ls st hp c s = some r
  | 0, _, _, _, _, _, _, _, h => by cases h
  | f + 1, g, pc, ls, st, hp, c, s, h => by
    rw [Nat.add_right_comm]
    simp only [go] at h ⊢
    cases hs : stp ro call mid pc ls st hp c s with
    | none => rw [hs] at h; cases h
    | some x =>
      rw [hs] at h
      match x, h with
      | .inl (pc', ls', st', hp', c', s'), h => exact go_more f g _ _ _ _ _ _ h
      | .inr r', h => exact h
theorem ev_of {ro : RO} {call : CL} {mid : Nat} {r : Rs} {f pc : Nat} {ls st : List Value} {hp : List AE} {c s : Nat} (h : go ro call mid f pc ls st hp c s = some r) : ev ro call mid pc ls st hp c s = some r := by
  have hx : ∃ (r : Rs) (f : Nat), go ro call mid f pc ls st hp c s = some r := ⟨r, f, h⟩
  have e : ev ro call mid pc ls st hp c s = some (Classical.choose hx) := by
    unfold ev
    exact dif_pos hx
  obtain ⟨g, hg⟩ := Classical.choose_spec hx
  rw [e, ← hg]
  have h1 := go_more f g pc ls st hp c s h
  have h2 := go_more g f pc ls st hp c s hg
  rw [Nat.add_comm g f, h1] at h2
  rw [hg]
  exact h2.symm
theorem ev_go {ro : RO} {call : CL} {mid : Nat} {r : Rs} {pc : Nat} {ls st : List Value} {hp : List AE} {c s : Nat} (h : ev ro call mid pc ls st hp c s = some r) : ∃ f, go ro call mid f pc ls st hp c s = some r := by
  by_cases hx : ∃ (r : Rs) (f : Nat), go ro call mid f pc ls st hp c s = some r
  · obtain ⟨r', f, hf⟩ := hx
    have := ev_of hf
    rw [this] at h
    cases h
    exact ⟨f, hf⟩
  · have e : ev ro call mid pc ls st hp c s = none := by
      unfold ev
      exact dif_neg hx
    rw [e] at h
    cases h
theorem ev_eq (ro : RO) (call : CL) (mid pc : Nat) (ls st : List Value) (hp : List AE) (c s : Nat) : ev ro call mid pc ls st hp c s = fin (ev ro call mid) (stp ro call mid pc ls st hp c s) := by
  cases hs : stp ro call mid pc ls st hp c s with
  | none =>
    cases he : ev ro call mid pc ls st hp c s with
    | none => rfl
    | some r =>
      obtain ⟨f, hf⟩ := ev_go he
      cases f with
      | zero => cases hf
      | succ f => simp only [go, hs] at hf; cases hf
  | some x =>
    match x, hs with
    | .inl (pc', ls', st', hp', c', s'), hs =>
      show _ = ev ro call mid pc' ls' st' hp' c' s'
      cases he : ev ro call mid pc' ls' st' hp' c' s' with
      | some r =>
        obtain ⟨f, hf⟩ := ev_go he
        exact ev_of (f := f + 1) (by simp only [go, hs]; exact hf)
      | none =>
        cases h2 : ev ro call mid pc ls st hp c s with
        | none => rfl
        | some r =>
          obtain ⟨f, hf⟩ := ev_go h2
          cases f with
          | zero => cases hf
          | succ f =>
            simp only [go, hs] at hf
            have := ev_of (f := f) hf
            rw [this] at he
            cases he
    | .inr r', hs =>
      exact ev_of (f := 1) (by simp only [go, hs]; rfl)
