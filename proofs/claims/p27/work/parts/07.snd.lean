
def nestW (s : State) : Prop := ∀ e ∈ nstT, va_Nw (nstW e) s
def Sta (rd : Int64 → Nat) (ro : RO) (A : Nat → Prop) (U : State) (H : Heap) : Prop :=
  (va_Z (stC 0).1 (stC 0).2 "[I" (.ref (rd 0)) A U H ∧ va_Z (stC 1).1 (stC 1).2 "[I" (.ref (rd 1)) A U H) ∧ ∀ a, ((ro a).1 ≠ 0 ∨ (ro a).2 0 = 7) → va_T .int (rd a) (ro a).1 (fun j => .int ((ro a).2 j)) A U H
def PreB (D : va_G) (cA : Nat → ClassId) (rd : Int64 → Nat) (ro : RO) (ad : Nat → Nat) (hp : List AE) (sz : Nat) (U : State) : Prop :=
  U.heap.size = sz ∧ va_P D classes (ww cA ad rd hp) U.heap ∧ va_K D classes (tys3 cA) U ∧ va_D (fun _ => True) (ww cA ad rd hp) ∧ nestW U ∧ va_AO (RN ARC) U ∧ Sta rd ro (va_A (ww cA ad rd hp) sz) U U.heap
def PostB (D : va_G) (cA : Nat → ClassId) (rd : Int64 → Nat) (A : Nat → Prop) (ad : Nat → Nat) (n0 : Nat) (v : Option Value) (hp : List AE) : Array Value → State → Outcome → State → Prop := fun _ st oc t =>
  (oc = .returned v ∧ ∃ ad' : Nat → Nat, (∀ j, j < n0 → ad' j = ad j) ∧ va_P D classes (ww cA ad' rd hp) t.heap ∧ va_D A (ww cA ad' rd hp)) ∧ va_F A st t
def wsm (e : Ent) : List Jvm.Cond := .code (eY e) (eB e) (eL e) (eR e) :: TBL
def rmm (e : Ent) : Room := { frames := eF e, cells := eMc e, slots := eMs e, locals := eLo e }
def MetOf (l : Launch) (ro0 : RO) (q : Nat) (av : List Value) (hp : List AE) (r : Rs) : Prop := q ≠ lawId → (∀ v ∈ av, isD v = false) → ∀ (e : Ent), tM[q]? = some e → ∀ (D : va_G) (cA : Nat → ClassId) (rd : Int64 → Nat) (ad : Nat → Nat) (sz : Nat),
  Met l (eY e) (wsm e) (rmm e) (va_Pc (av.map (wv ad rd)) (PreB D cA rd ro0 ad hp sz)) (PostB D cA rd (va_A (ww cA ad rd hp) sz) ad hp.length (r.1.map rvV) r.2) (eMc e) (eMs e) (va_A (ww cA ad rd hp) sz)
/-- what stands fast through a body -/
def CX (p : Program) (R : Room) (s : State) (m : MethodId) (args : Array Value) (meth : Method) (c : Code) (ent : Ent) (D : va_G) (cA : Nat → ClassId) (rd : Int64 → Nat) (ro ro0 : RO) (A : Nat → Prop) : Prop :=
  (p.tables.exec = Jvm.exec ∧ c.code = eB ent ∧ c.maxLocals = eL ent ∧ s.vm.findClass (RN (eC ent)) = some m.cls ∧ (∀ w ∈ TBL, w.before args s = true)) ∧
  (((eY ent).name = "<init>" → meth.name = "<init>") ∧ va_K D classes (tys3 cA) s ∧ nestW s ∧ va_AO (RN ARC) s ∧ Sta rd ro A s s.heap) ∧
  ((∀ a, ((ro0 a).1 ≠ 0 ∨ (ro0 a).2 0 = 7) → ro a = ro0 a) ∧ (∀ q, s.heap.size ≤ q → A q)) ∧ eF ent ≤ R.frames ∧ eMc ent ≤ R.cells ∧ eMs ent ≤ R.slots ∧ eLo ent ≤ R.locals
section SND
variable {p : Program} {l : Launch} {e : Env} {R : Room} {s : State} {m : MethodId} {args : Array Value} {below : List Frame} {meth : Method} {c : Code} {Q : State → Prop}
variable {ent : Ent} {D : va_G} {cA : Nat → ClassId} {rd : Int64 → Nat} {ro ro0 : RO} {A : Nat → Prop} {ad0 : Nat → Nat} {n0 : Nat}
def GG (p : Program) (l : Launch) (e : Env) (R : Room) (s : State) (m : MethodId) (args : Array Value) (below : List Frame) (meth : Method) (c : Code) (Q : State → Prop) (ent : Ent) (D : va_G) (cA : Nat → ClassId) (rd : Int64 → Nat) (A : Nat → Prop) (ad0 : Nat → Nat) (n0 : Nat)
    (pc : Nat) (L st : List Value) (hp : List AE) (cs ss : Nat) : Prop :=
  ∀ (ad : Nat → Nat) (H : Heap) (locs : List Loc) (ls : Array Slot), (∀ j, j < n0 → ad j = ad0 j) → n0 ≤ hp.length → va_P D classes (ww cA ad rd hp) H → va_D A (ww cA ad rd hp) → va_S A s.heap H locs → LH ad rd ls L → L.length = eL ent → cs ≤ eMc ent → ss ≤ eMs ent →
    W p l e R s m args below meth c H locs cs ss Q (F0 m pc ls (st.map (wv ad rd)))
theorem wwr (p : Program) {H : Heap} {locs : List Loc} {cs ss : Nat} {pc pc' : Nat} {ls : Array Slot} {st st' : List Value} (h1 : pc = pc') (h2 : st = st') (h : W p l e R s m args below meth c H locs cs ss Q (F0 m pc' ls st')) : W p l e R s m args below meth c H locs cs ss Q (F0 m pc ls st) := by
  subst h1; subst h2; exact h
theorem va_callg {H : Heap} {locs : List Loc} {cs ss mc ms : Nat} {pc : Nat} {ls : Array Slot} {rest st0 : List Value} {a : Array Value} {A0 A1 : Nat → Prop} {H0 : Heap} {free : Addr → Prop} {ad : Nat → Nat} {v : Option Value} {hp : List AE}
    (hr : va_Run p l e R s m args below meth c H locs cs ss mc ms (F0 m pc ls st0) rest (PostB D cA rd A1 ad n0 v hp a) free) (hS : va_S A0 H0 H locs) (hA : ∀ q, q < H.size → A1 q → A0 q) (hf : ∀ q, free q → A0 q)
    (kk : ∀ (ad' : Nat → Nat) (H1 : Heap) (locs1 : List Loc), (∀ j, j < n0 → ad' j = ad j) → va_P D classes (ww cA ad' rd hp) H1 → va_D A1 (ww cA ad' rd hp) → H.size ≤ H1.size → (∀ q : Nat, q < H.size → ¬ A1 q → H1[q]? = H[q]?) → va_S A0 H0 H1 locs1 → W p l e R s m args below meth c H1 locs1 (cs + mc) (ss + ms) Q (F0 m (pc + 3) ls (v.toList ++ rest))) : W p l e R s m args below meth c H locs cs ss Q (F0 m pc ls st0) := by
  intro T hT X
  obtain ⟨v', st₀, t, T', L, h0, X', hL, e1, e2, ⟨⟨hv, ad', hag, hP, hD⟩, hz, hk⟩, st⟩ := hr T hT X
  cases hv
  rw [h0] at hz hk
  obtain ⟨t2, a1, b1⟩ := kk ad' T'.heap (locs ++ L) hag (by rw [e1]; exact hP) hD (by rw [e1]; exact hz) (fun q h1 h2 => by rw [e1]; exact hk q h1 h2)
    ⟨Nat.le_trans hS.1 (by rw [e1]; exact hz), fun q h1 h2 => by rw [e1, hk q (Nat.lt_of_lt_of_le h1 hS.1) (fun z => h2 (hA q (Nat.lt_of_lt_of_le h1 hS.1) z))]; exact hS.2.1 q h1 h2, fun q hq => by
      rcases List.mem_append.mp hq with h | h
      · exact hS.2.2 q h
      · exact hf _ (hL q h)⟩ T' rfl X'
  exact ⟨t2, st t2 a1, b1⟩
end SND
