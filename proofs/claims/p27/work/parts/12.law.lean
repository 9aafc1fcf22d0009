
-- ===== end of PART A; then your names; then what follows =====
/-! THE CLAIM OUT OF ONE WALK OF THE LAW'S BODY. Your part is whole_start (and what it stands on); all else here is the same for every law, but numbers. -/
def R_law : String := "TwinSuitesLaw"
def lw_P (b : Addr) (xs : List Int32) (args : Array Value) (s : State) : Prop := args = #[.ref b] ∧ s.IntsAt b xs ∧ xs.length ≤ 260 ∧ (Jvm.Cond.and given_1 narrow_1).before args s = true
def lw_Q (_ : Array Value) (s : State) (o : Outcome) (t : State) : Prop := o = .returned (some (.int 1)) ∧ Framed s o t [] 600000 7302250
def lw_Z (below : List Frame) (a : Array Value) (s : State) : State → Prop := fun t => ∃ o, t.status = .running ∧ Ended t below o ∧ lw_Q a s o t
/-- the law's own end, with 1 on the stack, nothing written that was there before, its room as the claim has it -/
theorem lw_ret {p : Program} {l : Launch} {e : Env} {s : State} {m : MethodId} {below : List Frame} {meth : Method} {c : Code} {b : Nat} (hx : p.tables.exec = Jvm.exec) (hb : c.code = code) (hr : meth.sig.returnType = ret) (hlocks : meth.locks = false) {pc : Nat} {H : Heap} {ls : Array Slot} (hdg : decode code pc = .ok (.ireturn, 1)) : W p l e room_1 s m #[Value.ref b] below meth c H [] 600000 7302250 (lw_Z below #[Value.ref b] s) (F0 m pc ls [.int 1]) := by
  intro T hT X
  obtain ⟨fs, hret, hrun, hended, hW, hframe⟩ := X.leave (v := some (.int 1)) (hlocks := hlocks) (fun h => by rw [hr] at h; cases h)
  have hmeth' : T.vm.method? m = some meth := X.method'
  refine ⟨T.setFrames fs, ?_, .returned (some (.int 1)), hrun, hended, rfl, ⟨_, rfl⟩, hW, hframe⟩
  jvm_step X.here [X.here.top, hx, hb, hdg, hmeth', hr, ret, narrow_b1]
  (try refine ⟨rfl, ?_⟩); (try refine ⟨rfl, ?_⟩)
  first | (intro acts; rw [hret _ acts rfl rfl rfl]) | rw [hret _ _ rfl rfl rfl]
  exact Steps.refl _
/-- what holds at the law's entry: the machine, the code, the tables' words (any of lw_tbl by 'hts w (by decide +kernel)'), the script of L ints xs at the cell b, what the Statement gives of the start (any of its parts by flat_of_before) -/
def lw_At (p : Program) (s : State) (m : MethodId) (meth : Method) (c : Code) (b L : Nat) (xs : Nat → Int32) : Prop :=
  p.tables.exec = Jvm.exec ∧ c.code = code ∧ meth.sig.returnType = ret ∧ c.maxLocals = 22 ∧ s.vm.findClass R_law = some m.cls ∧ (∀ w ∈ lw_tbl, w.before #[Value.ref b] s = true) ∧ va_X b L xs s s.heap ∧ b < s.heap.size ∧ meth.locks = false ∧ (Jvm.Cond.and given_1 narrow_1).before #[Value.ref b] s = true
/-! THE LAW, out of a run of the small machine -/
def roS : RO := fun a => if a = 0 then (3, fun j => if j = 1 then 1 else 0) else if a = 1 then (3, fun j => if j = 0 then 1 else if j = 1 then 64 else 9) else (0, fun _ => 0)
def roX (L : Nat) (xs : Nat → Int32) : RO := fun a => if a = 2 then (L, xs) else roS a
theorem st_eval {args : Array Value} {s : State} {a b : Term} {x : Int32} (h : (Jvm.Cond.eq a b).before args s = true) (hb : b.eval args s none [] s = some (.int x)) : a.eval args s none [] s = some (.int x) := by
  obtain ⟨y, h1, h2⟩ := Cond.eq_one h
  rw [hb] at h2
  cases h2
  exact h1
theorem law_snd {p : Program} {e : Env} {s : State} {m : MethodId} {below : List Frame} {meth : Method} {c : Code} (l : Launch) {b L : Nat} {xs : Nat → Int32} (C0 : lw_At p s m meth c b L xs) {d : Nat} {hpf : List AE}
    (hrun : ev (roX L xs) (exec (roX L xs) d) lawId 0 ([.long 2, .null, .null, .null, .null, .null, .null, .null, .null, .null, .null, .null, .null, .null, .null, .null, .null, .null, .null, .null, .null, .null] : List Value) [] [] 0 0 = some (some (.int 1), hpf)) : W p l e room_1 s m #[Value.ref b] below meth c s.heap [] 0 0 (lw_Z below #[Value.ref b] s) (entryFrame m ([Value.ref b] : List Value).toArray 22) := by
  obtain ⟨hx, hb, hr, hml, hown, hts, hX, hbl, hlocks, hgv⟩ := C0
  have hA : ∀ q : Nat, s.heap.size ≤ q → (fun q : Nat => s.heap.size ≤ q) q := fun _ h => h
  have hA' : ∀ a : Nat, a < s.heap.size → ¬ (fun q : Nat => s.heap.size ≤ q) a := fun a h1 h2 => Nat.not_le.mpr h1 h2
  have hT : ∀ w ∈ TBL, w.before #[Value.ref b] s = true := fun w hw => hts w (List.mem_filter.mp hw).1
  have hkn : ∀ k, ∃ (cC : ClassId) (iS : Nat → Nat), k < NCl → u_Kn s (RN k) (TX k) (NX k) cC iS := by
    intro k
    by_cases hk : k < NCl
    · obtain ⟨cC, iS, h⟩ := u_known (C := RN k) (T := TX k) (N := NX k) (n := NX k) hT (lay_w hk) (hT _ (ins_w hk).1)
      exact ⟨cC, iS, fun _ => h⟩
    · exact ⟨0, fun _ => 0, fun h => absurd h hk⟩
  have hcl : ∀ (k : Nat) (q : vw_C), classes[k]? = some q → u_Kn s q.1 q.2.1 q.2.2 (Classical.choose (hkn k)) (Classical.choose (Classical.choose_spec (hkn k))) := by
    intro k q hq
    have hk : k < NCl := by
      have := (List.getElem?_eq_some_iff.mp hq).1
      simp only [classes, List.length_map, List.length_range] at this
      exact this
    rw [cl_at hk] at hq
    cases hq
    exact Classical.choose_spec (Classical.choose_spec (hkn k)) hk
  have hS : va_S (fun q : Nat => s.heap.size ≤ q) s.heap s.heap [] := va_S.rf
  have hflat := flat_of_before _ hgv
  have hnar := fun w hw => hflat w hw
  have hsta : ∀ (k : Nat) (C n : String) (f : Nat → Int32), (Jvm.Cond.laysStatic C n "[I").before #[Value.ref b] s = true → (Jvm.Cond.initialized C).before #[Value.ref b] s = true → (Jvm.Cond.arrayOf (.static C n "[I") .int).before #[Value.ref b] s = true → (Jvm.Cond.eq (.length (.static C n "[I")) (.int 3)).before #[Value.ref b] s = true → (∀ j, j < 3 → (Jvm.Cond.eq (.elem (.static C n "[I") (.int (Int32.ofNat j))) (.int (f j))).before #[Value.ref b] s = true) →
      ∃ t : Nat, va_Z C n "[I" (.ref t) (fun q : Nat => s.heap.size ≤ q) s s.heap ∧ va_T .int t 3 (fun j => .int (f j)) (fun q : Nat => s.heap.size ≤ q) s s.heap := by
    intro k C n f h1 h2 h3 h4 h5
    obtain ⟨t, e1, e2⟩ := va_Tof (args := #[Value.ref b]) (s := s) (tm := .static C n "[I") (ty := .int) (N := 3) (f := fun j => .int (f j)) (A := fun q : Nat => s.heap.size ≤ q) (by decide) h3 (st_eval h4 rfl) (fun j hj => st_eval (h5 j hj) rfl) hA'
    exact ⟨t, va_Zref h1 h2 e1 hA', e2⟩
  obtain ⟨t0, z0, y0⟩ := hsta 0 (stC 0).1 (stC 0).2 (roS 0).2 (hts _ (List.mem_of_getElem? (i := (lsyT[0]?).getD 0) (by decide +kernel))) (hts _ (List.mem_of_getElem? (i := (iniT[4]?).getD 0) (by decide +kernel))) (hnar _ (by decide +kernel)) (hnar _ (by decide +kernel)) (fun j hj => by
    rcases (show j = 0 ∨ j = 1 ∨ j = 2 by omega) with rfl | rfl | rfl
    · exact hnar _ (by decide +kernel)
    · exact hnar _ (by decide +kernel)
    · exact hnar _ (by decide +kernel))
  obtain ⟨t1, z1, y1⟩ := hsta 1 (stC 1).1 (stC 1).2 (roS 1).2 (hts _ (List.mem_of_getElem? (i := (lsyT[1]?).getD 0) (by decide +kernel))) (hts _ (List.mem_of_getElem? (i := (iniT[4]?).getD 0) (by decide +kernel))) (hnar _ (by decide +kernel)) (hnar _ (by decide +kernel)) (fun j hj => by
    rcases (show j = 0 ∨ j = 1 ∨ j = 2 by omega) with rfl | rfl | rfl
    · exact hnar _ (by decide +kernel)
    · exact hnar _ (by decide +kernel)
    · exact hnar _ (by decide +kernel))
  obtain ⟨cI, kI, pI, fI1, fI2, fI3⟩ := Cond.arrayClass_spec (hts (.arrayClass .int) (List.mem_of_getElem? sysP_ok.2.2.2.1))
  obtain ⟨cC, kC, pC, fC1, fC2, fC3⟩ := Cond.arrayClass_spec (hts (.arrayClass .char) (List.mem_of_getElem? sysP_ok.2.2.2.2.1))
  have hov := hts (.arrayOver (.object (RN ARC))) (List.mem_of_getElem? sysP_ok.2.2.2.2.2)
  obtain ⟨pR, cR, kR, fR0, -, fR2, fR3, fR1⟩ := Cond.arrayOver_spec hov
  obtain ⟨cA, hcA⟩ : ∃ cA : Nat → ClassId, cA = fun t => if t = 0 then cI else if t = 1 then cC else cR := ⟨_, rfl⟩
  have a0 : cA 0 = cI := by rw [hcA]; rfl
  have a1 : cA 1 = cC := by rw [hcA]; rfl
  have a2 : cA 2 = cR := by rw [hcA]; rfl
  obtain ⟨rd, hrd⟩ : ∃ rd : Int64 → Nat, rd = fun a => if a = 0 then t0 else if a = 1 then t1 else b := ⟨_, rfl⟩
  have r0 : rd 0 = t0 := by rw [hrd]; rfl
  have r1 : rd 1 = t1 := by rw [hrd]; rfl
  have r2 : rd 2 = b := by rw [hrd]; rfl
  have hK : va_K (fun k => Classical.choose (hkn k), fun k => Classical.choose (Classical.choose_spec (hkn k))) classes (tys3 cA) s := by
    refine ⟨hcl, fun k q hq => ?_⟩
    match k, hq with
    | 0, hq => cases hq; rw [a0]; exact ⟨fun n z => ⟨(fun k h => by cases h), kI, fI2, pI, fI3⟩, fI1⟩
    | 1, hq => cases hq; rw [a1]; exact ⟨fun n z => ⟨(fun k h => by cases h), kC, fC2, pC, fC3⟩, fC1⟩
    | 2, hq => cases hq; rw [a2]; exact ⟨fun n z => ⟨(fun k h => by cases h), kR, fR2, pR, fR3⟩, kR, pR, fR2, fR3, fR0, fR1⟩
    | k + 3, hq => simp [tys3] at hq
  have hP : va_P (fun k => Classical.choose (hkn k), fun k => Classical.choose (Classical.choose_spec (hkn k))) classes (ww cA (fun i => i) rd []) s.heap := fun k q h => by simp [ww] at h
  have hD : va_D (fun q : Nat => s.heap.size ≤ q) (ww cA (fun i => i) rd []) := ⟨fun i j p q h => by simp [ww] at h, fun k q h => by simp [ww] at h⟩
  have hN : nestW s := fun x hx => by
    have h0 := List.all_eq_true.mp nst_ok x hx
    simp only [decide_eq_true_eq] at h0
    exact va_Nw.of rfl (hts _ (List.mem_of_getElem? h0))
  have hSt : Sta rd (roX L xs) (fun q : Nat => s.heap.size ≤ q) s s.heap := by
    refine ⟨⟨by rw [r0]; exact z0, by rw [r1]; exact z1⟩, fun a ha => ?_⟩
    by_cases h2 : a = 2
    · subst h2
      obtain ⟨scr, x1, x2, x3, x4, x5⟩ := hX
      rw [r2]
      exact ⟨scr, x1, x2, x3, by show L ≤ _; omega, by rw [x4]; rfl, x5, hA' b hbl⟩
    · have e : roX L xs a = roS a := if_neg h2
      rw [e] at ha ⊢
      by_cases h0 : a = 0
      · subst h0
        rw [r0]
        exact y0
      · by_cases h1 : a = 1
        · subst h1
          rw [r1]
          exact y1
        · have e2 : roS a = (0, fun _ => 0) := by simp only [roS, if_neg h0, if_neg h1]
          rw [e2] at ha
          rcases ha with ha | ha
          · exact absurd rfl ha
          · exact absurd (show (0 : Int32) = 7 from ha) (by decide)
  have hq : tM[lawId]? = some e135 := rfl
  have C : CX p room_1 s m #[Value.ref b] meth c e135 (fun k => Classical.choose (hkn k), fun k => Classical.choose (Classical.choose_spec (hkn k))) cA rd (roX L xs) (roX L xs) (fun q : Nat => s.heap.size ≤ q) :=
    ⟨⟨hx, hb, hml, hown, hT⟩, ⟨fun h => absurd h (by decide +kernel), hK, hN, va_AO.of hov, hSt⟩, ⟨fun _ _ => rfl, hA⟩, by decide +kernel, by decide +kernel, by decide +kernel, by decide +kernel⟩
  have hret : RET p l e room_1 s m #[Value.ref b] below meth c (lw_Z below #[Value.ref b] s) e135 (fun k => Classical.choose (hkn k), fun k => Classical.choose (Classical.choose_spec (hkn k))) cA rd (fun q : Nat => s.heap.size ≤ q) (fun i => i) 0 (some (.int 1), hpf) := by
    intro ad1 H locs ls hp cs ss pc hag hn hP1 hD1 hS1 hcs hss
    refine ⟨fun v hdg hty hr0 => ?_, fun hdg hty hr0 => (by cases hr0), fun v hdg hty hr0 => (by cases hr0)⟩
    cases hr0
    refine va_forget (fun q hq => hS1.2.2 q hq) ?_
    refine W.widen hcs hss ?_
    exact lw_ret hx hb hr hlocks hdg
  obtain ⟨f, hf⟩ := ev_go hrun
  have G := go_snd hq C (exec_snd l (roX L xs) d) hret f 0 _ _ _ _ _ hf
  rw [lg_entry_eq]
  have hlh : LH (fun i => i) rd ((lg_sl [Value.ref b] ++ List.replicate (22 - (lg_sl [Value.ref b]).length) Slot.unset).toArray) ([.long 2, .null, .null, .null, .null, .null, .null, .null, .null, .null, .null, .null, .null, .null, .null, .null, .null, .null, .null, .null, .null, .null] : List Value) := by
    have := LH_entry (rd := rd) (ad := fun i => i) (vs := [.long 2]) (n := 22) (by decide) (fun v hv => by rcases List.mem_singleton.mp hv with rfl; rfl)
    simp only [List.map_cons, List.map_nil, wv, r2] at this
    exact this
  exact G (fun i => i) s.heap [] _ (fun _ _ => rfl) (Nat.le_refl _) hP hD hS hlh rfl (Nat.zero_le _) (Nat.zero_le _)
