
/-! A BLOCK IS SOUND, an instruction a case -/
theorem dn {i : Instr} {a b : Prop} [Decidable a] [Decidable b] (h : (isSw i || (decide a && decide b)) = true) (hi : isSw i = false) : a ∧ b := by
  rw [hi] at h
  simpa using h
theorem we_obj {cA : Nat → ClassId} {ad : Nat → Nat} {rd : Int64 → Nat} {c : Nat} {vs : List Value} (hc : c < NCl) : we cA ad rd (.inr (c, vs)) = .inr (c, vs.map (wv ad rd)) := by
  simp only [we]
  rw [if_neg (by omega)]
theorem we_arr {cA : Nat → ClassId} {ad : Nat → Nat} {rd : Int64 → Nat} {vs : List Value} : we cA ad rd (.inr (NCl, vs)) = .inl (cA 2, vs.length, .inr (.inr (.inr (.inr (fun k => (vs[k]?).bind (wq ad)))))) := by
  simp only [we, if_true]
theorem fit_w {ad : Nat → Nat} {rd : Int64 → Nat} {t : Nat} {ty : FieldType} {v : Value} (h : tyk t ty = true) (hv : pok t v = true) : narrow ty (wv ad rd v) = wv ad rd v ∧ fits ty (wv ad rd v) = true := by
  cases v with
  | int x =>
    simp only [pok, Bool.or_eq_true, Bool.and_eq_true, decide_eq_true_eq] at hv
    cases ty <;> simp only [tyk, decide_eq_true_eq, Bool.false_eq_true] at h
    case int => exact ⟨rfl, rfl⟩
    case boolean =>
      rcases hv with hv | ⟨-, hv | hv⟩
      · omega
      · subst hv; exact ⟨rfl, rfl⟩
      · subst hv; exact ⟨rfl, rfl⟩
    all_goals (rcases hv with hv | ⟨hv, -⟩ <;> omega)
  | ref j =>
    simp only [pok, decide_eq_true_eq] at hv
    cases ty <;> simp only [tyk, decide_eq_true_eq, Bool.false_eq_true] at h
    case object => exact ⟨rfl, rfl⟩
    case array => exact ⟨rfl, rfl⟩
    all_goals omega
  | _ => cases hv
theorem hasC_w {cn j : Nat} {hp : List AE} (h : hasC cn hp j = true) : ∃ vs, hp[j]? = some (.inr (cn, vs)) := by
  unfold hasC at h
  split at h
  · rename_i c vs hj
    have : c = cn := by simpa using h
    subst this
    exact ⟨vs, hj⟩
  · cases h
theorem arrset9 {ad : Nat → Nat} {vs : List Value} {i v : Nat} (h : ¬ vs.length ≤ i) : (fun k => ((vs.set i (.ref v))[k]?).bind (wq ad)) = va_up (fun k => (vs[k]?).bind (wq ad)) i (some (ad v)) := by
  funext k
  simp only [va_up, List.getElem?_set]
  by_cases hk : i = k
  · subst hk
    rw [if_pos rfl, if_pos (by omega), if_pos rfl]
    rfl
  · rw [if_neg hk, if_neg (fun z => hk z.symm)]
theorem o32 {n : Int} (h1 : -1000 ≤ n) (h2 : n ≤ 1001) : (Int32.ofInt n).toInt = n := Int32.toInt_ofInt_of_le (by omega) (by omega)
theorem tks_spec {d : Nat} {x : Int32} : ∀ (ts : List Nat) (lo : Int), -1000 ≤ lo → lo + ts.length ≤ 1001 → ((x.toInt < lo ∨ lo + ts.length ≤ x.toInt) → tks lo ts d x = d) ∧ (lo ≤ x.toInt ∧ x.toInt < lo + ts.length → ∃ t, ts[(x.toInt - lo).toNat]? = some t ∧ tks lo ts d x = t)
  | [], lo, h1, h2 => ⟨fun _ => rfl, fun h => by simp only [List.length_nil] at h; omega⟩
  | t :: ts, lo, h1, h2 => by
    simp only [List.length_cons] at h2 ⊢
    obtain ⟨i1, i2⟩ := tks_spec (d := d) (x := x) ts (lo + 1) (by omega) (by omega)
    have he : x = Int32.ofInt lo ↔ x.toInt = lo := ⟨fun h => by rw [h]; exact o32 (by omega) (by omega), fun h => Int32.toInt_inj.mp (by rw [h, o32 (by omega) (by omega)])⟩
    refine ⟨fun h => ?_, fun h => ?_⟩
    · have hne : ¬ x = Int32.ofInt lo := fun z => by have := he.mp z; omega
      simp only [tks, if_neg hne]
      exact i1 (by omega)
    · by_cases hx : x = Int32.ofInt lo
      · have := he.mp hx
        refine ⟨t, ?_, by simp only [tks, if_pos hx]⟩
        rw [show (x.toInt - lo).toNat = 0 by omega]
        rfl
      · have hne : x.toInt ≠ lo := fun z => hx (he.mpr z)
        obtain ⟨t', e1, e2⟩ := i2 (by omega)
        refine ⟨t', ?_, by simp only [tks, if_neg hx]; exact e2⟩
        rw [show (x.toInt - lo).toNat = (x.toInt - (lo + 1)).toNat + 1 by omega]
        exact e1
theorem lks_spec {pc t : Nat} {d : Int} {x : Int32} (hd : (pc : Int) + d = (t : Int)) : ∀ (ps : List (Int × Int)) (ts : List Nat), ps.map (fun q : Int × Int => (pc : Int) + q.2) = ts.map (fun t : Nat => Int.ofNat t) → ps.all (fun q => decide ((Int32.ofInt q.1).toInt = q.1)) = true → (pc : Int) + Op.lookupswitch.offset ps d x.toInt = (lks ps ts t x : Int)
  | [], ts, _, _ => by
    simp only [Op.lookupswitch.offset_nil, lks]
    exact hd
  | (a, o) :: r, [], h, _ => by simp at h
  | (a, o) :: r, t' :: ts, h, hk => by
    simp only [List.map_cons, List.cons.injEq] at h
    simp only [List.all_cons, Bool.and_eq_true, decide_eq_true_eq] at hk
    have he : a = x.toInt ↔ x = Int32.ofInt a := ⟨fun h => Int32.toInt_inj.mp (by rw [← h, hk.1]), fun h => by rw [h, hk.1]⟩
    rw [Op.lookupswitch.offset_cons]
    by_cases hx : x = Int32.ofInt a
    · rw [if_pos (he.mpr hx)]
      simp only [lks, if_pos hx]
      exact h.1
    · rw [if_neg (fun z => hx (he.mp z))]
      simp only [lks, if_neg hx]
      exact lks_spec hd r ts h.2 hk.2
section BLK1
variable {p : Program} {l : Launch} {e : Env} {R : Room} {s : State} {m : MethodId} {args : Array Value} {below : List Frame} {meth : Method} {c : Code} {Q : State → Prop}
variable {ent : Ent} {D : va_G} {cA : Nat → ClassId} {rd : Int64 → Nat} {ro ro0 : RO} {A : Nat → Prop} {ad0 : Nat → Nat} {n0 : Nat}
theorem gx {pc pc' : Nat} {L st : List Value} {hp : List AE} {cs ss : Nat} (h : pc = pc') (g : GG p l e R s m args below meth c Q ent D cA rd A ad0 n0 pc L st hp cs ss) : GG p l e R s m args below meth c Q ent D cA rd A ad0 n0 pc' L st hp cs ss := h ▸ g
def RES (p : Program) (l : Launch) (e : Env) (R : Room) (s : State) (m : MethodId) (args : Array Value) (below : List Frame) (meth : Method) (c : Code) (Q : State → Prop) (ent : Ent) (D : va_G) (cA : Nat → ClassId) (rd : Int64 → Nat) (A : Nat → Prop) (ad0 : Nat → Nat) (n0 : Nat) (r0 : Rs) : Cf ⊕ Rs → Prop
  | .inl (pc, L, st, hp, cs, ss) => GG p l e R s m args below meth c Q ent D cA rd A ad0 n0 pc L st hp cs ss
  | .inr r => r = r0
/-- a return, at a method's own end -/
def RET (p : Program) (l : Launch) (e : Env) (R : Room) (s : State) (m : MethodId) (args : Array Value) (below : List Frame) (meth : Method) (c : Code) (Q : State → Prop) (ent : Ent) (D : va_G) (cA : Nat → ClassId) (rd : Int64 → Nat) (A : Nat → Prop) (ad0 : Nat → Nat) (n0 : Nat) (r0 : Rs) : Prop :=
  ∀ (ad : Nat → Nat) (H : Heap) (locs : List Loc) (ls : Array Slot) (hp : List AE) (cs ss pc : Nat), (∀ j, j < n0 → ad j = ad0 j) → n0 ≤ hp.length → va_P D classes (ww cA ad rd hp) H → va_D A (ww cA ad rd hp) → va_S A s.heap H locs → cs ≤ eMc ent → ss ≤ eMs ent →
    (∀ v : Int32, decode (eB ent) pc = .ok (.ireturn, 1) → (eR ent = some .int ∨ (eR ent = some .boolean ∧ (v = 0 ∨ v = 1))) → r0 = (some (.int v), hp) → W p l e R s m args below meth c H locs cs ss Q (F0 m pc ls [.int v])) ∧
    (decode (eB ent) pc = .ok (.return_, 1) → eR ent = none → r0 = (none, hp) → W p l e R s m args below meth c H locs cs ss Q (F0 m pc ls [])) ∧
    (∀ v : UInt64, decode (eB ent) pc = .ok (.lreturn, 1) → eR ent = some .long → r0 = (some (.double v), hp) → W p l e R s m args below meth c H locs cs ss Q (F0 m pc ls [.long v.toInt64]))
theorem Sta.mv {U U' : State} {ro' : RO} {A' : Nat → Prop} {H : Heap} (hvm : U.vm.Alike U'.vm) (h : Sta rd ro' A' U H) : Sta rd ro' A' U' H := ⟨⟨va_Z.moved hvm h.1.1, va_Z.moved hvm h.1.2⟩, fun a ha => va_T.moved hvm (h.2 a ha)⟩
theorem blindB {av : List Value} {ad : Nat → Nat} {hp : List AE} {sz : Nat} : FrameBlind (va_Pc av (PreB D cA rd ro0 ad hp sz)) := by
  intro a U g mk h
  obtain ⟨h0, h1, h2, h3, h4, h5, h6, h7⟩ := h
  exact ⟨h0, h1, h2, va_K.moved (u := U) (U := U.calling g mk a) (Vm.Alike.refl U.vm) h3, h4, fun x hx => va_Nw.same rfl (u := U) (U := U.calling g mk a) rfl (h5 x hx), va_AO.moved (u := U) (U := U.calling g mk a) (Vm.Alike.refl U.vm) h6, Sta.mv (U := U) (U' := U.calling g mk a) (Vm.Alike.refl U.vm) h7⟩
theorem wsm_in {e' : Ent} (hts : ∀ w ∈ TBL, w.before args s = true) (hc : Jvm.Cond.code (eY e') (eB e') (eL e') (eR e') ∈ TBL) : ∀ w ∈ wsm e', ∀ (a' : Array Value) (U : State), s.WarmedH U.vm → w.before a' U = true := by
  intro w hw a' U hW
  have h : w ∈ TBL := by
    rcases List.mem_cons.mp hw with rfl | h
    · exact hc
    · exact h
  exact word_at hW (tbl_good h) (hts w h)
/-- the walk goes on behind a call -/
theorem call_core (C : CX p R s m args meth c ent D cA rd ro ro0 A) {ad : Nat → Nat} {hp g qh : List AE} {H : Heap} {locs : List Loc} {s1 n1 s2 n2 : Nat} {oth rest st0 : List Value} {v : Option Value} {cs ss mc ms pc : Nat} {lsA : Array Slot} {aa : Array Value}
    (h1 : s1 + n1 ≤ hp.length) (h2 : s2 + n2 ≤ hp.length) (hd : s1 + n1 ≤ s2 ∨ s2 + n2 ≤ s1 ∨ n2 = 0) (hu : unH s1 n1 s2 n2 ((hp.drop s1).take n1 ++ (hp.drop s2).take n2) = some g)
    (hP : va_P D classes (ww cA ad rd hp) H) (hD : va_D A (ww cA ad rd hp)) (hS : va_S A s.heap H locs) (hq : n1 + n2 ≤ qh.length ∧ qh.all (clE qh.length) = true ∧ (qh.length = n1 + n2 ∨ clo hp.length oth hp = true))
    (hrun : va_Run p l e R s m args below meth c H locs cs ss mc ms (F0 m pc lsA st0) rest (PostB D cA rd (va_A (ww cA (fun k => ad (gk s1 n1 s2 k)) rd g) H.size) (fun k => ad (gk s1 n1 s2 k)) g.length v qh aa) (va_A (ww cA (fun k => ad (gk s1 n1 s2 k)) rd g) H.size))
    (kk : ∀ (adN : Nat → Nat) (H1 : Heap) (locs1 : List Loc), (∀ j, j < hp.length → adN j = ad j) → (∀ w ∈ oth, wv adN rd w = wv ad rd w) → va_P D classes (ww cA adN rd (spl s2 n2 (((qh.map (glE s1 n1 s2 n2 hp.length)).drop n1).take n2) (spl s1 n1 ((qh.map (glE s1 n1 s2 n2 hp.length)).take n1) hp) ++ (qh.map (glE s1 n1 s2 n2 hp.length)).drop (n1 + n2))) H1 → va_D A (ww cA adN rd (spl s2 n2 (((qh.map (glE s1 n1 s2 n2 hp.length)).drop n1).take n2) (spl s1 n1 ((qh.map (glE s1 n1 s2 n2 hp.length)).take n1) hp) ++ (qh.map (glE s1 n1 s2 n2 hp.length)).drop (n1 + n2))) → va_S A s.heap H1 locs1 →
      W p l e R s m args below meth c H1 locs1 (cs + mc) (ss + ms) Q (F0 m (pc + 3) lsA (v.toList ++ rest))) : W p l e R s m args below meth c H locs cs ss Q (F0 m pc lsA st0) := by
  obtain ⟨hin, -⟩ := pre_call C h1 h2 hd hu hP hD hS
  refine va_callg hrun hS (fun q _ hq' => hin q hq') hin (fun ad1 H1 locs1 hag hP1 hD1 hz hk hS1 => ?_)
  have lg : g.length = n1 + n2 := (sub_ww (cA := cA) (ad := ad) (rd := rd) h1 h2 hu).1
  obtain ⟨adN, a1, a2, a3, a4⟩ := post_call h1 h2 hd hu hP hD hin hq (fun j hj => hag j (by rw [lg]; exact hj)) hP1 hD1 hk
  exact kk adN H1 locs1 a1 a2 a3 a4 hS1
theorem okC_w {ix q na mc ms mcL msL t : Nat} {e' : Ent} (h : okC ent ix q na mc ms mcL msL t e' = true) : (na = eN e' ∧ mc = eMc e' ∧ ms = eMs e' ∧ mcL = eMc ent ∧ msL = eMs ent) ∧ (eF e' + 1 ≤ eF ent ∧ 8 + (eL e' + 11) + eLo e' ≤ eLo ent) ∧ (t = 0 → Jvm.Cond.methodLink (RN (eC ent)) ix (yn q) ∈ TBL) ∧ (t ≠ 0 → ∃ x ∈ nstT, nstW x = Jvm.Cond.methodLinkNest (RN (eC ent)) ix (yn q) hostOf) ∧ q ≠ lawId := by
  simp only [okC, Bool.and_eq_true, decide_eq_true_eq] at h
  obtain ⟨⟨⟨⟨⟨⟨⟨⟨a1, a2⟩, a3⟩, a4⟩, a5⟩, a6⟩, a7⟩, a8⟩, a9⟩ := h
  refine ⟨⟨a1, a2, a3, a4, a5⟩, ⟨a6, a7⟩, fun ht => ?_, fun ht => ?_, a9⟩
  · rw [if_pos ht] at a8
    exact mth_w a8
  · rw [if_neg ht] at a8
    exact nst_w a8
theorem stk_sum {ad : Nat → Nat} {st : List Value} (h : ¬ 8 < sw st) {pc : Nat} {ls : Array Slot} {g0 : List Value} : 2 * (F0 m pc ls g0).monitorRoom + ((st.map (wv ad rd)).map fun v => v.category).sum ≤ 8 := by
  rw [wv_sum]
  show 2 * 0 + _ ≤ 8
  omega
theorem drop_stk {ad : Nat → Nat} {st st' : List Value} {v : Value} {na : Nat} (h : st.drop na = v :: st') : st.map (wv ad rd) = ((st.take na).reverse.map (wv ad rd)).reverse ++ wv ad rd v :: st'.map (wv ad rd) := by
  have e : st = st.take na ++ v :: st' := by rw [← h, List.take_append_drop]
  conv => lhs; rw [e]
  rw [List.map_append, List.map_cons, List.map_reverse, List.reverse_reverse]
theorem take_len {st st' : List Value} {v : Value} {na : Nat} (h : st.drop na = v :: st') : (st.take na).reverse.length = na := by
  have := congrArg List.length h
  rw [List.length_drop, List.length_cons] at this
  rw [List.length_reverse, List.length_take]
  omega
set_option maxHeartbeats 2000000 in
theorem inv_virt {call : CL} (C : CX p R s m args meth c ent D cA rd ro ro0 A) (hcall : ∀ q a h r, call q a h = some r → MetOf l ro0 q a h r) {ix q na n1 n2 mc ms mcL msL j pc cs ss : Nat} {e' : Ent} {st st' oth : List Value} {hp h' : List AE} {v : Option Value} {ad : Nat → Nat} {H : Heap} {locs : List Loc} {lsA : Array Slot}
    (hdg : decode (eB ent) pc = .ok (.invokevirtual ix, 3)) (hq : tM[q]? = some e') (hok : okC ent ix q na mc ms mcL msL 0 e' = true) (hs : eS e' = false) (hi : (eY e').name ≠ "<init>") (hcn : eC e' < NCl) (hst : st.drop na = .ref j :: st') (h8 : ¬ 8 < sw st') (hcc : ¬ mcL < cs + mc) (hsc : ¬ msL < ss + ms) (hrec : hasC (eC e') hp j = true)
    (hcal : cal call q n1 n2 (.ref j :: (st.take na).reverse) oth hp = some (v, h')) (hP : va_P D classes (ww cA ad rd hp) H) (hD : va_D A (ww cA ad rd hp)) (hS : va_S A s.heap H locs) (hsz : lsA.size = eL ent)
    (kk : ∀ (adN : Nat → Nat) (H1 : Heap) (locs1 : List Loc), (∀ j, j < hp.length → adN j = ad j) → (∀ w ∈ oth, wv adN rd w = wv ad rd w) → va_P D classes (ww cA adN rd h') H1 → va_D A (ww cA adN rd h') → va_S A s.heap H1 locs1 → W p l e R s m args below meth c H1 locs1 (cs + mc) (ss + ms) Q (F0 m (pc + 3) lsA ((v.map rvV).toList ++ st'.map (wv ad rd)))) :
    W p l e R s m args below meth c H locs cs ss Q (F0 m pc lsA (st.map (wv ad rd))) := by
  obtain ⟨⟨hx, hb, hml, hown, hts⟩, ⟨hnm, hK, hN, hO, hSt⟩, ⟨hro, hA⟩, hRf, hRc, hRs, hRl⟩ := id C
  obtain ⟨⟨d1, d2, d3⟩, a, g, qh, ha, hg, hqh, hlen, rfl⟩ := cal_inv hcal
  obtain ⟨⟨o1, o2, o3, o4, o5⟩, ⟨o6, o7⟩, o8, o9, o10⟩ := okC_w hok
  obtain ⟨m1, m2, m3, m4⟩ := met_w hq o10
  obtain ⟨m5, m6⟩ := m4 hs
  have m6 := m6 hi
  obtain ⟨w1, w2, w3, w4⟩ := ent_w hq
  obtain ⟨vs, hvs⟩ := hasC_w hrec
  have M := hcall q a g (v, qh) hqh o10 (unL_nd ha) e' hq D cA rd (fun k => ad (gk (rf0 (.ref j :: (st.take na).reverse)) n1 (rf1 (.ref j :: (st.take na).reverse)) k)) H.size
  rw [(unL_w (ad := ad) (rd := rd) ha).1] at M
  obtain ⟨hin, hpre⟩ := pre_call C d1 d2 d3 hg hP hD hS
  refine call_core (aa := (Value.ref (ad j) :: (st.take na).reverse.map (wv ad rd)).toArray) C d1 d2 d3 hg hP hD hS hlen ?_ kk
  rw [drop_stk hst]
  rw [o2, o3]
  refine va_runV (C := (eY e').cls) (y := eY e') (bytes := eB e') (maxL := eL e') (ret := eR e') (n := eN e') (As := (st.take na).reverse.map (wv ad rd)) ⟨hx, hb, hml, hown, hts⟩ M ⟨⟨rfl, rfl, Nat.le_trans o6 hRf, Nat.le_trans o7 hRl, wsm_in hts m1, List.mem_cons_self, hts _ m1, hts _ m2, w2, w3, by rw [← yn_of hq]; exact hts _ (o8 rfl)⟩, hts _ m5, hts _ m6⟩
    ⟨blindB, ?_, fun U hU hW => ⟨rfl, hpre U hU hW⟩⟩ rfl (by rw [List.length_map, take_len hst, o1]) hsz rfl (stk_sum h8) hdg ⟨by rw [← o2]; omega, by rw [← o3]; omega⟩
  rw [w4]
  exact va_recv hK hP (cl_at hcn) (by rw [ww_at hvs, we_obj hcn])
set_option maxHeartbeats 2000000 in
theorem inv_spec {call : CL} (C : CX p R s m args meth c ent D cA rd ro ro0 A) (hcall : ∀ q a h r, call q a h = some r → MetOf l ro0 q a h r) {ix q na n1 n2 mc ms mcL msL j pc cs ss t : Nat} {e' : Ent} {st st' oth : List Value} {hp h' : List AE} {v : Option Value} {ad : Nat → Nat} {H : Heap} {locs : List Loc} {lsA : Array Slot}
    (hdg : decode (eB ent) pc = .ok (.invokespecial ix, 3)) (hq : tM[q]? = some e') (hok : okC ent ix q na mc ms mcL msL t e' = true) (hs : eS e' = false) (hi : (eY e').name = "<init>") (hrt : eR e' = none) (hst : st.drop na = .ref j :: st') (h8 : ¬ 8 < sw st') (hcc : ¬ mcL < cs + mc) (hsc : ¬ msL < ss + ms)
    (hcal : cal call q n1 n2 (.ref j :: (st.take na).reverse) oth hp = some (v, h')) (hP : va_P D classes (ww cA ad rd hp) H) (hD : va_D A (ww cA ad rd hp)) (hS : va_S A s.heap H locs) (hsz : lsA.size = eL ent)
    (kk : ∀ (adN : Nat → Nat) (H1 : Heap) (locs1 : List Loc), (∀ j, j < hp.length → adN j = ad j) → (∀ w ∈ oth, wv adN rd w = wv ad rd w) → va_P D classes (ww cA adN rd h') H1 → va_D A (ww cA adN rd h') → va_S A s.heap H1 locs1 → W p l e R s m args below meth c H1 locs1 (cs + mc) (ss + ms) Q (F0 m (pc + 3) lsA ((v.map rvV).toList ++ st'.map (wv ad rd)))) :
    W p l e R s m args below meth c H locs cs ss Q (F0 m pc lsA (st.map (wv ad rd))) := by
  obtain ⟨⟨hx, hb, hml, hown, hts⟩, ⟨hnm, hK, hN, hO, hSt⟩, ⟨hro, hA⟩, hRf, hRc, hRs, hRl⟩ := id C
  obtain ⟨⟨d1, d2, d3⟩, a, g, qh, ha, hg, hqh, hlen, rfl⟩ := cal_inv hcal
  obtain ⟨⟨o1, o2, o3, o4, o5⟩, ⟨o6, o7⟩, o8, o9, o10⟩ := okC_w hok
  obtain ⟨m1, m2, m3, m4⟩ := met_w hq o10
  obtain ⟨m5, -⟩ := m4 hs
  obtain ⟨w1, w2, w3, w4⟩ := ent_w hq
  have M := hcall q a g (v, qh) hqh o10 (unL_nd ha) e' hq D cA rd (fun k => ad (gk (rf0 (.ref j :: (st.take na).reverse)) n1 (rf1 (.ref j :: (st.take na).reverse)) k)) H.size
  rw [(unL_w (ad := ad) (rd := rd) ha).1] at M
  obtain ⟨hin, hpre⟩ := pre_call C d1 d2 d3 hg hP hD hS
  refine call_core (aa := (Value.ref (ad j) :: (st.take na).reverse.map (wv ad rd)).toArray) C d1 d2 d3 hg hP hD hS hlen ?_ kk
  rw [drop_stk hst]
  rw [o2, o3]
  by_cases ht : t = 0
  · refine va_runI (y := eY e') (bytes := eB e') (maxL := eL e') (n := eN e') (b := ad j) (As := (st.take na).reverse.map (wv ad rd)) ⟨hx, hb, hml, hown, hts⟩ M ⟨⟨rfl, rfl, Nat.le_trans o6 hRf, Nat.le_trans o7 hRl, wsm_in hts m1, by rw [← hrt]; exact List.mem_cons_self, by rw [← hrt]; exact hts _ m1, hts _ m2, w2, w3, by rw [← yn_of hq]; exact hts _ (o8 ht)⟩, hi, hts _ m5⟩
      ⟨blindB, fun U hU hW => ⟨rfl, hpre U hU hW⟩⟩ rfl (by rw [List.length_map, take_len hst, o1]) hsz rfl (stk_sum h8) hdg ⟨by rw [← o2]; omega, by rw [← o3]; omega⟩
  · obtain ⟨x, hx1, hx2⟩ := o9 ht
    have hnl : va_Nw (.methodLinkNest (RN (eC ent)) ix (eY e') hostOf) s := by rw [← yn_of hq, ← hx2]; exact hN x hx1
    refine va_runIN (y := eY e') (host := hostOf) (bytes := eB e') (maxL := eL e') (n := eN e') (b := ad j) (As := (st.take na).reverse.map (wv ad rd)) ⟨hx, hb, hml, hown, hts⟩ M ⟨⟨⟨rfl, rfl, Nat.le_trans o6 hRf, Nat.le_trans o7 hRl, wsm_in hts m1, by rw [← hrt]; exact List.mem_cons_self⟩, by rw [← hrt]; exact hts _ m1, hts _ m2, w2, w3, va_Nw.use rfl hnl⟩, hi, hts _ m5⟩
      ⟨blindB, fun U hU hW => ⟨rfl, hpre U hU hW⟩⟩ rfl (by rw [List.length_map, take_len hst, o1]) hsz rfl (stk_sum h8) hdg ⟨by rw [← o2]; omega, by rw [← o3]; omega⟩
theorem drop_stkS {ad : Nat → Nat} {st : List Value} {na : Nat} : st.map (wv ad rd) = ((st.take na).reverse.map (wv ad rd)).reverse ++ (st.drop na).map (wv ad rd) := by
  conv => lhs; rw [← List.take_append_drop na st]
  rw [List.map_append, List.map_reverse, List.reverse_reverse]
set_option maxHeartbeats 2000000 in
theorem inv_stat {call : CL} (C : CX p R s m args meth c ent D cA rd ro ro0 A) (hcall : ∀ q a h r, call q a h = some r → MetOf l ro0 q a h r) {ix q na n1 n2 mc ms mcL msL pc cs ss t : Nat} {e' : Ent} {st oth : List Value} {hp h' : List AE} {v : Option Value} {ad : Nat → Nat} {H : Heap} {locs : List Loc} {lsA : Array Slot}
    (hdg : decode (eB ent) pc = .ok (.invokestatic ix, 3)) (hq : tM[q]? = some e') (hok : okC ent ix q na mc ms mcL msL t e' = true) (hs : eS e' = true) (hna : na ≤ st.length) (h8 : ¬ 8 < sw (st.drop na)) (hcc : ¬ mcL < cs + mc) (hsc : ¬ msL < ss + ms)
    (hcal : cal call q n1 n2 (st.take na).reverse oth hp = some (v, h')) (hP : va_P D classes (ww cA ad rd hp) H) (hD : va_D A (ww cA ad rd hp)) (hS : va_S A s.heap H locs) (hsz : lsA.size = eL ent)
    (kk : ∀ (adN : Nat → Nat) (H1 : Heap) (locs1 : List Loc), (∀ j, j < hp.length → adN j = ad j) → (∀ w ∈ oth, wv adN rd w = wv ad rd w) → va_P D classes (ww cA adN rd h') H1 → va_D A (ww cA adN rd h') → va_S A s.heap H1 locs1 → W p l e R s m args below meth c H1 locs1 (cs + mc) (ss + ms) Q (F0 m (pc + 3) lsA ((v.map rvV).toList ++ (st.drop na).map (wv ad rd)))) :
    W p l e R s m args below meth c H locs cs ss Q (F0 m pc lsA (st.map (wv ad rd))) := by
  obtain ⟨⟨hx, hb, hml, hown, hts⟩, ⟨hnm, hK, hN, hO, hSt⟩, ⟨hro, hA⟩, hRf, hRc, hRs, hRl⟩ := id C
  obtain ⟨⟨d1, d2, d3⟩, a, g, qh, ha, hg, hqh, hlen, rfl⟩ := cal_inv hcal
  obtain ⟨⟨o1, o2, o3, o4, o5⟩, ⟨o6, o7⟩, o8, o9, o10⟩ := okC_w hok
  obtain ⟨m1, m2, m3, -⟩ := met_w hq o10
  have m5 := m3 hs
  obtain ⟨w1, w2, w3, w4⟩ := ent_w hq
  have M := hcall q a g (v, qh) hqh o10 (unL_nd ha) e' hq D cA rd (fun k => ad (gk (rf0 (st.take na).reverse) n1 (rf1 (st.take na).reverse) k)) H.size
  rw [(unL_w (ad := ad) (rd := rd) ha).1] at M
  obtain ⟨hin, hpre⟩ := pre_call C d1 d2 d3 hg hP hD hS
  refine call_core (aa := ((st.take na).reverse.map (wv ad rd)).toArray) C d1 d2 d3 hg hP hD hS hlen ?_ kk
  have hln : ((st.take na).reverse.map (wv ad rd)).length = eN e' := by rw [List.length_map, List.length_reverse, List.length_take]; omega
  rw [drop_stkS (ad := ad) (rd := rd) (st := st) (na := na)]
  rw [o2, o3]
  by_cases ht : t = 0
  · refine va_runS (y := eY e') (bytes := eB e') (maxL := eL e') (ret := eR e') (n := eN e') (As := (st.take na).reverse.map (wv ad rd)) ⟨hx, hb, hml, hown, hts⟩ M ⟨⟨rfl, rfl, Nat.le_trans o6 hRf, Nat.le_trans o7 hRl, wsm_in hts m1, List.mem_cons_self, hts _ m1, hts _ m2, w2, w3, by rw [← yn_of hq]; exact hts _ (o8 ht)⟩, hts _ m5⟩
      ⟨blindB, fun U hU hW => ⟨rfl, hpre U hU hW⟩⟩ rfl hln hsz rfl (stk_sum h8) hdg ⟨by rw [← o2]; omega, by rw [← o3]; omega⟩
  · obtain ⟨x, hx1, hx2⟩ := o9 ht
    have hnl : va_Nw (.methodLinkNest (RN (eC ent)) ix (eY e') hostOf) s := by rw [← yn_of hq, ← hx2]; exact hN x hx1
    refine va_runSN (y := eY e') (host := hostOf) (bytes := eB e') (maxL := eL e') (ret := eR e') (n := eN e') (As := (st.take na).reverse.map (wv ad rd)) ⟨hx, hb, hml, hown, hts⟩ M ⟨⟨⟨rfl, rfl, Nat.le_trans o6 hRf, Nat.le_trans o7 hRl, wsm_in hts m1, List.mem_cons_self⟩, hts _ m1, hts _ m2, w2, w3, va_Nw.use rfl hnl⟩, hts _ m5, trivial⟩
      ⟨blindB, fun U hU hW => ⟨rfl, hpre U hU hW⟩⟩ rfl hln hsz rfl (stk_sum h8) hdg ⟨by rw [← o2]; omega, by rw [← o3]; omega⟩
set_option maxHeartbeats 2000000 in
/-- a call that sees all of the caller's cells -/
theorem inv_statA {call : CL} (C : CX p R s m args meth c ent D cA rd ro ro0 A) (hcall : ∀ q a h r, call q a h = some r → MetOf l ro0 q a h r) {ix q na mc ms mcL msL pc cs ss t : Nat} {e' : Ent} {st : List Value} {hp h' : List AE} {v : Option Value} {ad : Nat → Nat} {H : Heap} {locs : List Loc} {lsA : Array Slot}
    (hdg : decode (eB ent) pc = .ok (.invokestatic ix, 3)) (hq : tM[q]? = some e') (hok : okC ent ix q na mc ms mcL msL t e' = true) (hs : eS e' = true) (hna : na ≤ st.length) (h8 : ¬ 8 < sw (st.drop na)) (hcc : ¬ mcL < cs + mc) (hsc : ¬ msL < ss + ms) (hnd : (st.take na).all (fun v => !isD v) = true)
    (hcal : call q (st.take na).reverse hp = some (v, h')) (hP : va_P D classes (ww cA ad rd hp) H) (hD : va_D A (ww cA ad rd hp)) (hS : va_S A s.heap H locs) (hsz : lsA.size = eL ent)
    (kk : ∀ (adN : Nat → Nat) (H1 : Heap) (locs1 : List Loc), (∀ j, j < hp.length → adN j = ad j) → va_P D classes (ww cA adN rd h') H1 → va_D A (ww cA adN rd h') → va_S A s.heap H1 locs1 → W p l e R s m args below meth c H1 locs1 (cs + mc) (ss + ms) Q (F0 m (pc + 3) lsA ((v.map rvV).toList ++ (st.drop na).map (wv ad rd)))) :
    W p l e R s m args below meth c H locs cs ss Q (F0 m pc lsA (st.map (wv ad rd))) := by
  obtain ⟨⟨hx, hb, hml, hown, hts⟩, ⟨hnm, hK, hN, hO, hSt⟩, ⟨hro, hA⟩, hRf, hRc, hRs, hRl⟩ := id C
  obtain ⟨⟨o1, o2, o3, o4, o5⟩, ⟨o6, o7⟩, o8, o9, o10⟩ := okC_w hok
  obtain ⟨m1, m2, m3, -⟩ := met_w hq o10
  have m5 := m3 hs
  obtain ⟨w1, w2, w3, w4⟩ := ent_w hq
  have hnd' : ∀ w ∈ (st.take na).reverse, isD w = false := fun w hw => by
    have := List.all_eq_true.mp hnd w (List.mem_reverse.mp hw)
    simpa using this
  have M := hcall q (st.take na).reverse hp (v, h') hcal o10 hnd' e' hq D cA rd ad H.size
  have hin : ∀ x, va_A (ww cA ad rd hp) H.size x → A x := by
    intro x hx
    rcases hx with ⟨k, y, hk⟩ | hx
    · exact hD.2 _ _ hk
    · exact hA x (Nat.le_trans hS.1 hx)
  have hpre : ∀ U : State, U.heap = H → s.WarmedH U.vm → PreB D cA rd ro0 ad hp H.size U := by
    intro U hU hW
    subst hU
    exact ⟨rfl, hP, va_K.moved hW.alike hK, ⟨hD.1, fun _ _ _ => trivial⟩, hN.moved hW, va_AO.moved hW.alike hO, hSt.sub hro hW.alike hS.2.1 hin⟩
  have hln : ((st.take na).reverse.map (wv ad rd)).length = eN e' := by rw [List.length_map, List.length_reverse, List.length_take]; omega
  have hrun : va_Run p l e R s m args below meth c H locs cs ss mc ms (F0 m pc lsA (st.map (wv ad rd))) ((st.drop na).map (wv ad rd)) (PostB D cA rd (va_A (ww cA ad rd hp) H.size) ad hp.length (v.map rvV) h' ((st.take na).reverse.map (wv ad rd)).toArray) (va_A (ww cA ad rd hp) H.size) := by
    rw [drop_stkS (ad := ad) (rd := rd) (st := st) (na := na)]
    rw [o2, o3]
    by_cases ht : t = 0
    · refine va_runS (y := eY e') (bytes := eB e') (maxL := eL e') (ret := eR e') (n := eN e') (As := (st.take na).reverse.map (wv ad rd)) ⟨hx, hb, hml, hown, hts⟩ M ⟨⟨rfl, rfl, Nat.le_trans o6 hRf, Nat.le_trans o7 hRl, wsm_in hts m1, List.mem_cons_self, hts _ m1, hts _ m2, w2, w3, by rw [← yn_of hq]; exact hts _ (o8 ht)⟩, hts _ m5⟩
        ⟨blindB, fun U hU hW => ⟨rfl, hpre U hU hW⟩⟩ rfl hln hsz rfl (stk_sum h8) hdg ⟨by rw [← o2]; omega, by rw [← o3]; omega⟩
    · obtain ⟨x, hx1, hx2⟩ := o9 ht
      have hnl : va_Nw (.methodLinkNest (RN (eC ent)) ix (eY e') hostOf) s := by rw [← yn_of hq, ← hx2]; exact hN x hx1
      refine va_runSN (y := eY e') (host := hostOf) (bytes := eB e') (maxL := eL e') (ret := eR e') (n := eN e') (As := (st.take na).reverse.map (wv ad rd)) ⟨hx, hb, hml, hown, hts⟩ M ⟨⟨⟨rfl, rfl, Nat.le_trans o6 hRf, Nat.le_trans o7 hRl, wsm_in hts m1, List.mem_cons_self⟩, hts _ m1, hts _ m2, w2, w3, va_Nw.use rfl hnl⟩, hts _ m5, trivial⟩
        ⟨blindB, fun U hU hW => ⟨rfl, hpre U hU hW⟩⟩ rfl hln hsz rfl (stk_sum h8) hdg ⟨by rw [← o2]; omega, by rw [← o3]; omega⟩
  exact va_callg hrun hS (fun x _ hx' => hin x hx') hin (fun ad1 H1 locs1 hag hP1 hD1 hz hk hS1 => kk ad1 H1 locs1 hag hP1 ⟨hD1.1, fun k x hx' => hin _ (hD1.2 k x hx')⟩ hS1)
theorem ww_push {ad : Nat → Nat} {hp : List AE} {q : Nat} {x : AE} (h : ∀ y ∈ hp, clE hp.length y = true) : ww cA (fun i => if i = hp.length then q else ad i) rd (hp ++ [x]) = ww cA ad rd hp ++ [(q, we cA (fun i => if i = hp.length then q else ad i) rd x)] := by
  have e1 : ww cA (fun i => if i = hp.length then q else ad i) rd hp = ww cA ad rd hp := ww_in (fun j hj => if_neg (by omega)) h
  rw [← e1]
  simp only [ww, List.mapIdx_concat, if_true]
theorem LH.inn {ad ad' : Nat → Nat} {n : Nat} {ls : Array Slot} {L : List Value} (hL : LH ad rd ls L) (h : ∀ j, j < n → ad' j = ad j) (hc : ∀ v ∈ L, clV n v = true) : LH ad' rd ls L := by
  refine ⟨hL.1, hL.2.1, fun q hq => hL.2.2 q ?_⟩
  obtain ⟨v, h1, h2, h4, h3⟩ := mem_lvl.mp hq
  exact mem_lvl.mpr ⟨v, h1, h2, h4, by rw [h3]; exact wv_in h (hc v (List.mem_of_getElem? h1))⟩
theorem LH.oth {ad ad' : Nat → Nat} {ls : Array Slot} {L : List Value} (hL : LH ad rd ls L) (h : ∀ v ∈ L, wv ad' rd v = wv ad rd v) : LH ad' rd ls L := by
  refine ⟨hL.1, hL.2.1, fun q hq => hL.2.2 q ?_⟩
  obtain ⟨v, h1, h2, h4, h3⟩ := mem_lvl.mp hq
  exact mem_lvl.mpr ⟨v, h1, h2, h4, by rw [h3]; exact h v (List.mem_of_getElem? h1)⟩
theorem clo_w {n : Nat} {vs : List Value} {hp : List AE} (h : ¬ clo n vs hp = false) : (∀ v ∈ vs, clV n v = true) ∧ ∀ x ∈ hp, clE n x = true := by
  have h : clo n vs hp = true := by
    cases hq : clo n vs hp with
    | true => rfl
    | false => exact absurd hq h
  simp only [clo, Bool.and_eq_true, List.all_eq_true] at h
  exact h
theorem dfl_ok : (List.range NCl).all (fun c => (List.range (NX c)).all (fun k => decide (defaultValue (tX c k) = .int 0) || decide (defaultValue (tX c k) = .null))) = true := by decide +kernel
theorem dfl_w {ad : Nat → Nat} {ci : Nat} (hc : ci < NCl) : (dfl ci).map (wv ad rd) = dfl ci ∧ ∀ j, j < NX ci → defaultValue (tX ci j) = vp_V (dfl ci) j := by
  have h0 := List.all_eq_true.mp dfl_ok ci (List.mem_range.mpr hc)
  refine ⟨?_, fun j hj => ?_⟩
  · conv => rhs; rw [← List.map_id (dfl ci)]
    refine List.map_congr_left fun v hv => ?_
    obtain ⟨k, hk, rfl⟩ := List.mem_map.mp hv
    have h1 := List.all_eq_true.mp h0 k hk
    simp only [Bool.or_eq_true, decide_eq_true_eq] at h1
    rcases h1 with h1 | h1 <;> rw [h1] <;> rfl
  · simp only [vp_V, dfl, List.getD_eq_getElem?_getD, List.getElem?_map, List.getElem?_range hj, Option.map_some, Option.getD_some]
theorem map_v {ad ad2 : Nat → Nat} {x : Int32} {st : List Value} (h : st.map (wv ad2 rd) = st.map (wv ad rd)) : (Value.int x :: st).map (wv ad2 rd) = [Value.int x] ++ st.map (wv ad rd) := by
  rw [List.map_cons, h]
  rfl
theorem map_vD {ad ad2 : Nat → Nat} {x : UInt64} {st : List Value} (h : st.map (wv ad2 rd) = st.map (wv ad rd)) : (Value.double x :: st).map (wv ad2 rd) = [Value.long x.toInt64] ++ st.map (wv ad rd) := by
  rw [List.map_cons, h]
  rfl
theorem cal_len {call : CL} {q n1 n2 : Nat} {av oth : List Value} {hp : List AE} {v : Option Value} {h' : List AE} (h : cal call q n1 n2 av oth hp = some (v, h')) : hp.length ≤ h'.length := by
  obtain ⟨⟨d1, d2, d3⟩, a, g, qh, ha, hg, hqh, ⟨l1, l2, l3⟩, rfl⟩ := cal_inv h
  have := (back_at (q := qh.map (glE (rf0 av) n1 (rf1 av) n2 hp.length)) d1 d2 d3 (by rw [List.length_map]; exact l1)).1
  omega
set_option maxHeartbeats 4000000 in
theorem run_snd {r0 : Rs} {call : CL} (C : CX p R s m args meth c ent D cA rd ro ro0 A) (hcall : ∀ q a h r, call q a h = some r → MetOf l ro0 q a h r) (hret : RET p l e R s m args below meth c Q ent D cA rd A ad0 n0 r0) :
    ∀ (ops : List Op) (en : Nat), chkL ent ops en = true → ∀ (ls st : List Value) (hp : List AE) (cs ss : Nat) (res : Cf ⊕ Rs), run ro call ops en ls st hp cs ss = some res → RES p l e R s m args below meth c Q ent D cA rd A ad0 n0 r0 res → GG p l e R s m args below meth c Q ent D cA rd A ad0 n0 (hd ops en) ls st hp cs ss := by
  obtain ⟨⟨hx, hb, hml, hown, hts⟩, ⟨hnm, hK, hN, hO, hSt⟩, ⟨hro, hA⟩, hRf, hRc, hRs, hRl⟩ := id C
  intro ops
  induction ops with
  | nil =>
    intro en hchk ls st hp cs ss res hr hres
    cases hr
    exact hres
  | cons op r ih =>
  obtain ⟨pc, i, xs⟩ := op
  intro en hchk ls st hp cs ss res hr hres
  simp only [chkL, chk1, Bool.and_eq_true] at hchk
  obtain ⟨⟨h0, h1⟩, h2⟩ := hchk
  have ih' := ih en h2
  show GG p l e R s m args below meth c Q ent D cA rd A ad0 n0 pc ls st hp cs ss
  cases i
  case iconst n =>
    replace hr : (match (generalizing := false) xs with
        | [j] => run ro call r en ls (.int (nI j) :: st) hp cs ss
        | _ => run ro call r en ls (.int (Int32.ofInt n) :: st) hp cs ss) = some res := hr
    obtain ⟨hdg, hnx⟩ := dn h0 rfl
    split at hr
    · replace h1 : nI _ = Int32.ofInt n := of_decide_eq_true h1
      intro ad H locs lsA hag hn0 hP hD hS hL hlen hcs hss
      exact lv_iconst hx hb hdg h1.symm ((gx hnx (ih' _ _ _ _ _ _ hr hres)) ad H locs lsA hag hn0 hP hD hS hL hlen hcs hss)
    · intro ad H locs lsA hag hn0 hP hD hS hL hlen hcs hss
      exact lv_iconst hx hb hdg rfl ((gx hnx (ih' _ _ _ _ _ _ hr hres)) ad H locs lsA hag hn0 hP hD hS hL hlen hcs hss)
  case bipush n =>
    replace hr : (match (generalizing := false) xs with
        | [j] => run ro call r en ls (.int (nI j) :: st) hp cs ss
        | _ => run ro call r en ls (.int (Int32.ofInt n) :: st) hp cs ss) = some res := hr
    obtain ⟨hdg, hnx⟩ := dn h0 rfl
    split at hr
    · replace h1 : (Int8.ofInt n).toInt32 = nI _ := of_decide_eq_true h1
      intro ad H locs lsA hag hn0 hP hD hS hL hlen hcs hss
      exact lv_bipush hx hb hdg h1 ((gx hnx (ih' _ _ _ _ _ _ hr hres)) ad H locs lsA hag hn0 hP hD hS hL hlen hcs hss)
    · rename_i hxs
      have h1 : (Int8.ofInt n).toInt32 = Int32.ofInt n := by
        match xs, h1, hxs with
        | [], h1, _ => exact of_decide_eq_true h1
        | [a], h1, hxs => exact absurd rfl (hxs a)
        | a :: b :: c, h1, _ => exact of_decide_eq_true h1
      intro ad H locs lsA hag hn0 hP hD hS hL hlen hcs hss
      exact lv_bipush hx hb hdg h1 ((gx hnx (ih' _ _ _ _ _ _ hr hres)) ad H locs lsA hag hn0 hP hD hS hL hlen hcs hss)
  case sipush n =>
    replace hr : (match (generalizing := false) xs with
        | [j] => run ro call r en ls (.int (nI j) :: st) hp cs ss
        | _ => run ro call r en ls (.int (Int32.ofInt n) :: st) hp cs ss) = some res := hr
    obtain ⟨hdg, hnx⟩ := dn h0 rfl
    split at hr
    · replace h1 : (Int16.ofInt n).toInt32 = nI _ := of_decide_eq_true h1
      intro ad H locs lsA hag hn0 hP hD hS hL hlen hcs hss
      exact lv_sipush hx hb hdg h1 ((gx hnx (ih' _ _ _ _ _ _ hr hres)) ad H locs lsA hag hn0 hP hD hS hL hlen hcs hss)
    · rename_i hxs
      have h1 : (Int16.ofInt n).toInt32 = Int32.ofInt n := by
        match xs, h1, hxs with
        | [], h1, _ => exact of_decide_eq_true h1
        | [a], h1, hxs => exact absurd rfl (hxs a)
        | a :: b :: c, h1, _ => exact of_decide_eq_true h1
      intro ad H locs lsA hag hn0 hP hD hS hL hlen hcs hss
      exact lv_sipush hx hb hdg h1 ((gx hnx (ih' _ _ _ _ _ _ hr hres)) ad H locs lsA hag hn0 hP hD hS hL hlen hcs hss)
  case iload j =>
    replace hr : (match (generalizing := false) xs with
        | [j] => match (generalizing := false) ls[j]? with
          | some (.int x) => run ro call r en ls (.int x :: st) hp cs ss
          | _ => none
        | _ => none) = some res := hr
    obtain ⟨hdg, hnx⟩ := dn h0 rfl
    have hxs : xs = [j] := of_decide_eq_true h1
    subst hxs
    dsimp only at hr
    split at hr
    · rename_i x hj
      intro ad H locs lsA hag hn0 hP hD hS hL hlen hcs hss
      exact lv_iload hx hb hdg (hL.get hj (by intro z; cases z) rfl) ((gx hnx (ih' _ _ _ _ _ _ hr hres)) ad H locs lsA hag hn0 hP hD hS hL hlen hcs hss)
    · cases hr
  case iload_n j =>
    replace hr : (match (generalizing := false) xs with
        | [j] => match (generalizing := false) ls[j]? with
          | some (.int x) => run ro call r en ls (.int x :: st) hp cs ss
          | _ => none
        | _ => none) = some res := hr
    obtain ⟨hdg, hnx⟩ := dn h0 rfl
    have hxs : xs = [j.val] := of_decide_eq_true h1
    subst hxs
    dsimp only at hr
    split at hr
    · rename_i x hj
      intro ad H locs lsA hag hn0 hP hD hS hL hlen hcs hss
      exact lv_iload_n hx hb hdg rfl (hL.get hj (by intro z; cases z) rfl) ((gx hnx (ih' _ _ _ _ _ _ hr hres)) ad H locs lsA hag hn0 hP hD hS hL hlen hcs hss)
    · cases hr
  case aload j =>
    replace hr : (match (generalizing := false) xs with
        | [j] => match (generalizing := false) ls[j]? with
          | some (.ref x) => run ro call r en ls (.ref x :: st) hp cs ss
          | some (.long x) => run ro call r en ls (.long x :: st) hp cs ss
          | _ => none
        | _ => none) = some res := hr
    obtain ⟨hdg, hnx⟩ := dn h0 rfl
    have hxs : xs = [j] := of_decide_eq_true h1
    subst hxs
    dsimp only at hr
    split at hr
    · rename_i x hj
      intro ad H locs lsA hag hn0 hP hD hS hL hlen hcs hss
      exact lv_aload hx hb hdg (hL.get hj (by intro z; cases z) rfl) ((gx hnx (ih' _ _ _ _ _ _ hr hres)) ad H locs lsA hag hn0 hP hD hS hL hlen hcs hss)
    · rename_i x hj
      intro ad H locs lsA hag hn0 hP hD hS hL hlen hcs hss
      exact lv_aload hx hb hdg (hL.get hj (by intro z; cases z) rfl) ((gx hnx (ih' _ _ _ _ _ _ hr hres)) ad H locs lsA hag hn0 hP hD hS hL hlen hcs hss)
    · cases hr
  case aload_n j =>
    replace hr : (match (generalizing := false) xs with
        | [j] => match (generalizing := false) ls[j]? with
          | some (.ref x) => run ro call r en ls (.ref x :: st) hp cs ss
          | some (.long x) => run ro call r en ls (.long x :: st) hp cs ss
          | _ => none
        | _ => none) = some res := hr
    obtain ⟨hdg, hnx⟩ := dn h0 rfl
    have hxs : xs = [j.val] := of_decide_eq_true h1
    subst hxs
    dsimp only at hr
    split at hr
    · rename_i x hj
      intro ad H locs lsA hag hn0 hP hD hS hL hlen hcs hss
      exact lv_aload_n hx hb hdg rfl (hL.get hj (by intro z; cases z) rfl) ((gx hnx (ih' _ _ _ _ _ _ hr hres)) ad H locs lsA hag hn0 hP hD hS hL hlen hcs hss)
    · rename_i x hj
      intro ad H locs lsA hag hn0 hP hD hS hL hlen hcs hss
      exact lv_aload_n hx hb hdg rfl (hL.get hj (by intro z; cases z) rfl) ((gx hnx (ih' _ _ _ _ _ _ hr hres)) ad H locs lsA hag hn0 hP hD hS hL hlen hcs hss)
    · cases hr
  case lload j =>
    replace hr : (match (generalizing := false) xs with
        | [j] => match (generalizing := false) ls[j]?, ls[j + 1]? with
          | some (.double x), some .null => run ro call r en ls (.double x :: st) hp cs ss
          | _, _ => none
        | _ => none) = some res := hr
    obtain ⟨hdg, hnx⟩ := dn h0 rfl
    have hxs : xs = [j] := of_decide_eq_true h1
    subst hxs
    dsimp only at hr
    split at hr
    · rename_i x hj hj2
      intro ad H locs lsA hag hn0 hP hD hS hL hlen hcs hss
      exact lv_lload hx hb hdg (hL.getd hj hj2) ((gx hnx (ih' _ _ _ _ _ _ hr hres)) ad H locs lsA hag hn0 hP hD hS hL hlen hcs hss)
    · cases hr
  case lload_n j =>
    replace hr : (match (generalizing := false) xs with
        | [j] => match (generalizing := false) ls[j]?, ls[j + 1]? with
          | some (.double x), some .null => run ro call r en ls (.double x :: st) hp cs ss
          | _, _ => none
        | _ => none) = some res := hr
    obtain ⟨hdg, hnx⟩ := dn h0 rfl
    have hxs : xs = [j.val] := of_decide_eq_true h1
    subst hxs
    dsimp only at hr
    split at hr
    · rename_i x hj hj2
      intro ad H locs lsA hag hn0 hP hD hS hL hlen hcs hss
      exact lv_lload_n hx hb hdg rfl (hL.getd hj hj2) ((gx hnx (ih' _ _ _ _ _ _ hr hres)) ad H locs lsA hag hn0 hP hD hS hL hlen hcs hss)
    · cases hr
  case lstore j =>
    replace hr : (match (generalizing := false) xs, st with
        | [j], .double x :: st => if j + 1 < ls.length then run ro call r en ((ls.set j (.double x)).set (j + 1) .null) st hp cs ss else none
        | _, _ => none) = some res := hr
    obtain ⟨hdg, hnx⟩ := dn h0 rfl
    have hxs : xs = [j] := of_decide_eq_true h1
    clear h1 h0
    split at hr
    · rename_i j2 x st2
      cases hxs
      split at hr
      · rename_i hlt
        intro ad H locs lsA hag hn0 hP hD hS hL hlen hcs hss
        exact lv_lstore (lv := lvl ad rd ls) hx hb hdg hL hlt rfl (fun lsB hLB => (gx hnx (ih' _ _ _ _ _ _ hr hres)) ad H locs lsB hag hn0 hP hD hS (LH.setd hlt rfl hLB) (by rw [List.length_set, List.length_set]; exact hlen) hcs hss)
      · cases hr
    · cases hr
  case lstore_n j =>
    replace hr : (match (generalizing := false) xs, st with
        | [j], .double x :: st => if j + 1 < ls.length then run ro call r en ((ls.set j (.double x)).set (j + 1) .null) st hp cs ss else none
        | _, _ => none) = some res := hr
    obtain ⟨hdg, hnx⟩ := dn h0 rfl
    have hxs : xs = [j.val] := of_decide_eq_true h1
    clear h1 h0
    split at hr
    · rename_i j2 x st2
      cases hxs
      split at hr
      · rename_i hlt
        intro ad H locs lsA hag hn0 hP hD hS hL hlen hcs hss
        exact lv_lstore_n (lv := lvl ad rd ls) hx hb hdg rfl hL hlt rfl (fun lsB hLB => (gx hnx (ih' _ _ _ _ _ _ hr hres)) ad H locs lsB hag hn0 hP hD hS (LH.setd hlt rfl hLB) (by rw [List.length_set, List.length_set]; exact hlen) hcs hss)
      · cases hr
    · cases hr
  case istore j =>
    replace hr : (match (generalizing := false) xs, st with
        | [j], .int x :: st => if j < ls.length then run ro call r en (ls.set j (.int x)) st hp cs ss else none
        | _, _ => none) = some res := hr
    obtain ⟨hdg, hnx⟩ := dn h0 rfl
    have hxs : xs = [j] := of_decide_eq_true h1
    clear h1 h0
    split at hr
    · rename_i j2 x st2
      cases hxs
      split at hr
      · rename_i hlt
        intro ad H locs lsA hag hn0 hP hD hS hL hlen hcs hss
        exact lv_istore (lv := lvl ad rd ls) hx hb hdg hL hlt rfl (fun lsB hLB => (gx hnx (ih' _ _ _ _ _ _ hr hres)) ad H locs lsB hag hn0 hP hD hS (LH.set hlt (by intro z; cases z) rfl hLB) (by rw [List.length_set]; exact hlen) hcs hss)
      · cases hr
    · cases hr
  case istore_n j =>
    replace hr : (match (generalizing := false) xs, st with
        | [j], .int x :: st => if j < ls.length then run ro call r en (ls.set j (.int x)) st hp cs ss else none
        | _, _ => none) = some res := hr
    obtain ⟨hdg, hnx⟩ := dn h0 rfl
    have hxs : xs = [j.val] := of_decide_eq_true h1
    clear h1 h0
    split at hr
    · rename_i j2 x st2
      cases hxs
      split at hr
      · rename_i hlt
        intro ad H locs lsA hag hn0 hP hD hS hL hlen hcs hss
        exact lv_istore_n (lv := lvl ad rd ls) hx hb hdg rfl hL hlt rfl (fun lsB hLB => (gx hnx (ih' _ _ _ _ _ _ hr hres)) ad H locs lsB hag hn0 hP hD hS (LH.set hlt (by intro z; cases z) rfl hLB) (by rw [List.length_set]; exact hlen) hcs hss)
      · cases hr
    · cases hr
  case astore j =>
    replace hr : (match (generalizing := false) xs, st with
        | [j], .ref x :: st => if j < ls.length then run ro call r en (ls.set j (.ref x)) st hp cs ss else none
        | _, _ => none) = some res := hr
    obtain ⟨hdg, hnx⟩ := dn h0 rfl
    have hxs : xs = [j] := of_decide_eq_true h1
    clear h1 h0
    split at hr
    · rename_i j2 x st2
      cases hxs
      split at hr
      · rename_i hlt
        intro ad H locs lsA hag hn0 hP hD hS hL hlen hcs hss
        exact lv_astore (lv := lvl ad rd ls) hx hb hdg hL hlt rfl (fun lsB hLB => (gx hnx (ih' _ _ _ _ _ _ hr hres)) ad H locs lsB hag hn0 hP hD hS (LH.set hlt (by intro z; cases z) rfl hLB) (by rw [List.length_set]; exact hlen) hcs hss)
      · cases hr
    · cases hr
  case astore_n j =>
    replace hr : (match (generalizing := false) xs, st with
        | [j], .ref x :: st => if j < ls.length then run ro call r en (ls.set j (.ref x)) st hp cs ss else none
        | _, _ => none) = some res := hr
    obtain ⟨hdg, hnx⟩ := dn h0 rfl
    have hxs : xs = [j.val] := of_decide_eq_true h1
    clear h1 h0
    split at hr
    · rename_i j2 x st2
      cases hxs
      split at hr
      · rename_i hlt
        intro ad H locs lsA hag hn0 hP hD hS hL hlen hcs hss
        exact lv_astore_n (lv := lvl ad rd ls) hx hb hdg rfl hL hlt rfl (fun lsB hLB => (gx hnx (ih' _ _ _ _ _ _ hr hres)) ad H locs lsB hag hn0 hP hD hS (LH.set hlt (by intro z; cases z) rfl hLB) (by rw [List.length_set]; exact hlen) hcs hss)
      · cases hr
    · cases hr
  case iinc j n =>
    replace hr : (match (generalizing := false) xs with
        | [j] => match (generalizing := false) ls[j]? with
          | some (.int x) => run ro call r en (ls.set j (.int (x + Int32.ofInt n))) st hp cs ss
          | _ => none
        | [j, k] => match (generalizing := false) ls[j]? with
          | some (.int x) => run ro call r en (ls.set j (.int (x + nI k))) st hp cs ss
          | _ => none
        | _ => none) = some res := hr
    obtain ⟨hdg, hnx⟩ := dn h0 rfl
    split at hr
    · rename_i j2
      have hxs : j2 = j := of_decide_eq_true h1
      subst hxs
      split at hr
      · rename_i x hj
        have hlt : j2 < ls.length := (List.getElem?_eq_some_iff.mp hj).1
        intro ad H locs lsA hag hn0 hP hD hS hL hlen hcs hss
        obtain ⟨k, hk⟩ := List.getElem?_of_mem (mem_lvl (ad := ad) (rd := rd) (q := (j2, .int x)) |>.mpr ⟨_, hj, (by intro z; cases z), (fun z => by cases z), rfl⟩)
        exact lv_iinc (lv := lvl ad rd ls) hx hb hdg hL hk rfl hlt rfl (fun lsB hLB => (gx hnx (ih' _ _ _ _ _ _ hr hres)) ad H locs lsB hag hn0 hP hD hS (LH.set hlt (by intro z; cases z) rfl hLB) (by rw [List.length_set]; exact hlen) hcs hss)
      · cases hr
    · rename_i j2 k2
      replace h1 : (decide (j2 = j) && decide (nI k2 = Int32.ofInt n)) = true := h1
      simp only [Bool.and_eq_true, decide_eq_true_eq] at h1
      obtain ⟨hxs, hkn⟩ := h1
      subst hxs
      split at hr
      · rename_i x hj
        have hlt : j2 < ls.length := (List.getElem?_eq_some_iff.mp hj).1
        intro ad H locs lsA hag hn0 hP hD hS hL hlen hcs hss
        obtain ⟨k, hk⟩ := List.getElem?_of_mem (mem_lvl (ad := ad) (rd := rd) (q := (j2, .int x)) |>.mpr ⟨_, hj, (by intro z; cases z), (fun z => by cases z), rfl⟩)
        exact lv_iinc (lv := lvl ad rd ls) hx hb hdg hL hk (by rw [← hkn]) hlt rfl (fun lsB hLB => (gx hnx (ih' _ _ _ _ _ _ hr hres)) ad H locs lsB hag hn0 hP hD hS (LH.set hlt (by intro z; cases z) rfl hLB) (by rw [List.length_set]; exact hlen) hcs hss)
      · cases hr
    · cases hr
  case iadd  =>
    replace hr : (match (generalizing := false) st with
        | .int y :: .int x :: st => run ro call r en ls (.int (x + y) :: st) hp cs ss
        | _ => none) = some res := hr
    obtain ⟨hdg, hnx⟩ := dn h0 rfl
    split at hr
    · intro ad H locs lsA hag hn0 hP hD hS hL hlen hcs hss
      exact lv_iadd hx hb hdg ((gx hnx (ih' _ _ _ _ _ _ hr hres)) ad H locs lsA hag hn0 hP hD hS hL hlen hcs hss)
    · cases hr
  case isub  =>
    replace hr : (match (generalizing := false) st with
        | .int y :: .int x :: st => run ro call r en ls (.int (x - y) :: st) hp cs ss
        | _ => none) = some res := hr
    obtain ⟨hdg, hnx⟩ := dn h0 rfl
    split at hr
    · intro ad H locs lsA hag hn0 hP hD hS hL hlen hcs hss
      exact lv_isub hx hb hdg ((gx hnx (ih' _ _ _ _ _ _ hr hres)) ad H locs lsA hag hn0 hP hD hS hL hlen hcs hss)
    · cases hr
  case imul  =>
    replace hr : (match (generalizing := false) st with
        | .int y :: .int x :: st => run ro call r en ls (.int (x * y) :: st) hp cs ss
        | _ => none) = some res := hr
    obtain ⟨hdg, hnx⟩ := dn h0 rfl
    split at hr
    · intro ad H locs lsA hag hn0 hP hD hS hL hlen hcs hss
      exact lv_imul hx hb hdg ((gx hnx (ih' _ _ _ _ _ _ hr hres)) ad H locs lsA hag hn0 hP hD hS hL hlen hcs hss)
    · cases hr
  case ishl  =>
    replace hr : (match (generalizing := false) st with
        | .int y :: .int x :: st => run ro call r en ls (.int (x <<< (y &&& 31)) :: st) hp cs ss
        | _ => none) = some res := hr
    obtain ⟨hdg, hnx⟩ := dn h0 rfl
    split at hr
    · intro ad H locs lsA hag hn0 hP hD hS hL hlen hcs hss
      exact lv_ishl hx hb hdg ((gx hnx (ih' _ _ _ _ _ _ hr hres)) ad H locs lsA hag hn0 hP hD hS hL hlen hcs hss)
    · cases hr
  case ishr  =>
    replace hr : (match (generalizing := false) st with
        | .int y :: .int x :: st => run ro call r en ls (.int (x >>> (y &&& 31)) :: st) hp cs ss
        | _ => none) = some res := hr
    obtain ⟨hdg, hnx⟩ := dn h0 rfl
    split at hr
    · intro ad H locs lsA hag hn0 hP hD hS hL hlen hcs hss
      exact lv_ishr hx hb hdg ((gx hnx (ih' _ _ _ _ _ _ hr hres)) ad H locs lsA hag hn0 hP hD hS hL hlen hcs hss)
    · cases hr
  case iand  =>
    replace hr : (match (generalizing := false) st with
        | .int y :: .int x :: st => run ro call r en ls (.int (x &&& y) :: st) hp cs ss
        | _ => none) = some res := hr
    obtain ⟨hdg, hnx⟩ := dn h0 rfl
    split at hr
    · intro ad H locs lsA hag hn0 hP hD hS hL hlen hcs hss
      exact lv_iand hx hb hdg ((gx hnx (ih' _ _ _ _ _ _ hr hres)) ad H locs lsA hag hn0 hP hD hS hL hlen hcs hss)
    · cases hr
  case ior  =>
    replace hr : (match (generalizing := false) st with
        | .int y :: .int x :: st => run ro call r en ls (.int (x ||| y) :: st) hp cs ss
        | _ => none) = some res := hr
    obtain ⟨hdg, hnx⟩ := dn h0 rfl
    split at hr
    · intro ad H locs lsA hag hn0 hP hD hS hL hlen hcs hss
      exact lv_ior hx hb hdg ((gx hnx (ih' _ _ _ _ _ _ hr hres)) ad H locs lsA hag hn0 hP hD hS hL hlen hcs hss)
    · cases hr
  case ixor  =>
    replace hr : (match (generalizing := false) st with
        | .int y :: .int x :: st => run ro call r en ls (.int (x ^^^ y) :: st) hp cs ss
        | _ => none) = some res := hr
    obtain ⟨hdg, hnx⟩ := dn h0 rfl
    split at hr
    · intro ad H locs lsA hag hn0 hP hD hS hL hlen hcs hss
      exact lv_ixor hx hb hdg ((gx hnx (ih' _ _ _ _ _ _ hr hres)) ad H locs lsA hag hn0 hP hD hS hL hlen hcs hss)
    · cases hr
  case idiv  =>
    replace hr : (match (generalizing := false) st with
        | .int y :: .int x :: st => if y = 0 then none else run ro call r en ls (.int (x / y) :: st) hp cs ss
        | _ => none) = some res := hr
    obtain ⟨hdg, hnx⟩ := dn h0 rfl
    split at hr
    · split at hr
      · cases hr
      · rename_i hne
        intro ad H locs lsA hag hn0 hP hD hS hL hlen hcs hss
        exact lv_idiv hx hb hdg hne ((gx hnx (ih' _ _ _ _ _ _ hr hres)) ad H locs lsA hag hn0 hP hD hS hL hlen hcs hss)
    · cases hr
  case irem  =>
    replace hr : (match (generalizing := false) st with
        | .int y :: .int x :: st => if y = 0 then none else run ro call r en ls (.int (x - x / y * y) :: st) hp cs ss
        | _ => none) = some res := hr
    obtain ⟨hdg, hnx⟩ := dn h0 rfl
    split at hr
    · split at hr
      · cases hr
      · rename_i hne
        intro ad H locs lsA hag hn0 hP hD hS hL hlen hcs hss
        exact lv_irem hx hb hdg hne ((gx hnx (ih' _ _ _ _ _ _ hr hres)) ad H locs lsA hag hn0 hP hD hS hL hlen hcs hss)
    · cases hr
  case i2l  =>
    replace hr : (match (generalizing := false) st with
        | .int x :: st => run ro call r en ls (dl x.toInt64 :: st) hp cs ss
        | _ => none) = some res := hr
    obtain ⟨hdg, hnx⟩ := dn h0 rfl
    split at hr
    · intro ad H locs lsA hag hn0 hP hD hS hL hlen hcs hss
      exact lv_i2l hx hb hdg rfl ((gx hnx (ih' _ _ _ _ _ _ hr hres)) ad H locs lsA hag hn0 hP hD hS hL hlen hcs hss)
    · cases hr
  case ladd  =>
    replace hr : (match (generalizing := false) st with
        | .double y :: .double x :: st => run ro call r en ls (dl (x.toInt64 + y.toInt64) :: st) hp cs ss
        | _ => none) = some res := hr
    obtain ⟨hdg, hnx⟩ := dn h0 rfl
    split at hr
    · intro ad H locs lsA hag hn0 hP hD hS hL hlen hcs hss
      exact lv_ladd hx hb hdg ((gx hnx (ih' _ _ _ _ _ _ hr hres)) ad H locs lsA hag hn0 hP hD hS hL hlen hcs hss)
    · cases hr
  case lmul  =>
    replace hr : (match (generalizing := false) st with
        | .double y :: .double x :: st => run ro call r en ls (dl (x.toInt64 * y.toInt64) :: st) hp cs ss
        | _ => none) = some res := hr
    obtain ⟨hdg, hnx⟩ := dn h0 rfl
    split at hr
    · intro ad H locs lsA hag hn0 hP hD hS hL hlen hcs hss
      exact lv_lmul hx hb hdg ((gx hnx (ih' _ _ _ _ _ _ hr hres)) ad H locs lsA hag hn0 hP hD hS hL hlen hcs hss)
    · cases hr
  case lcmp  =>
    replace hr : (match (generalizing := false) st with
        | .double y :: .double x :: st => if x = y then run ro call r en ls (.int 0 :: st) hp cs ss else none
        | _ => none) = some res := hr
    obtain ⟨hdg, hnx⟩ := dn h0 rfl
    split at hr
    · rename_i y x st2
      split at hr
      · rename_i hxy
        subst hxy
        intro ad H locs lsA hag hn0 hP hD hS hL hlen hcs hss
        refine W.lcmp hx hb hdg ?_
        rw [show lg_cmp x.toInt64 x.toInt64 = 0 from by simp [lg_cmp]]
        exact ((gx hnx (ih' _ _ _ _ _ _ hr hres)) ad H locs lsA hag hn0 hP hD hS hL hlen hcs hss)
      · cases hr
    · cases hr
  case ldc ix =>
    replace hr : (match (generalizing := false) xs with
        | [k] => run ro call r en ls (.int (nI k) :: st) hp cs ss
        | _ => none) = some res := hr
    obtain ⟨hdg, hnx⟩ := dn h0 rfl
    split at hr
    · rename_i k
      have w1 := con_w (own := eC ent) (ix := ix) (k := k) h1
      intro ad H locs lsA hag hn0 hP hD hS hL hlen hcs hss
      exact lv_ldc hx hb hown (hts _ w1) hdg ((gx hnx (ih' _ _ _ _ _ _ hr hres)) ad H locs lsA hag hn0 hP hD hS hL hlen hcs hss)
    · cases hr
  case ldc2_w ix =>
    replace hr : (match (generalizing := false) xs with
        | [k] => run ro call r en ls (dl (Int64.ofNat k) :: st) hp cs ss
        | _ => none) = some res := hr
    obtain ⟨hdg, hnx⟩ := dn h0 rfl
    split at hr
    · rename_i k
      have w1 := col_w (own := eC ent) (ix := ix) (k := k) h1
      intro ad H locs lsA hag hn0 hP hD hS hL hlen hcs hss
      exact lv_ldc2 hx hb hown (hts _ w1) hdg ((gx hnx (ih' _ _ _ _ _ _ hr hres)) ad H locs lsA hag hn0 hP hD hS hL hlen hcs hss)
    · cases hr
  case lreturn  =>
    replace hr : (match (generalizing := false) st with
        | [.double v] => some (.inr (some (.double v), hp))
        | _ => none) = some res := hr
    obtain ⟨hdg, hnx⟩ := dn h0 rfl
    split at hr
    · cases hr
      intro ad H locs lsA hag hn0 hP hD hS hL hlen hcs hss
      exact (hret ad H locs lsA hp cs ss pc hag hn0 hP hD hS hcs hss).2.2 _ hdg (of_decide_eq_true h1) hres.symm
    · cases hr
  case ineg  =>
    replace hr : (match (generalizing := false) st with
        | .int x :: st => run ro call r en ls (.int (-x) :: st) hp cs ss
        | _ => none) = some res := hr
    obtain ⟨hdg, hnx⟩ := dn h0 rfl
    split at hr
    · intro ad H locs lsA hag hn0 hP hD hS hL hlen hcs hss
      exact lv_ineg hx hb hdg ((gx hnx (ih' _ _ _ _ _ _ hr hres)) ad H locs lsA hag hn0 hP hD hS hL hlen hcs hss)
    · cases hr
  case i2c  =>
    replace hr : (match (generalizing := false) st with
        | .int x :: st => run ro call r en ls (.int (x.toUInt32 % 65536).toInt32 :: st) hp cs ss
        | _ => none) = some res := hr
    obtain ⟨hdg, hnx⟩ := dn h0 rfl
    split at hr
    · intro ad H locs lsA hag hn0 hP hD hS hL hlen hcs hss
      exact lv_i2c hx hb hdg rfl ((gx hnx (ih' _ _ _ _ _ _ hr hres)) ad H locs lsA hag hn0 hP hD hS hL hlen hcs hss)
    · cases hr
  case dup  =>
    replace hr : (match (generalizing := false) st with
        | .int x :: st => run ro call r en ls (.int x :: .int x :: st) hp cs ss
        | .ref x :: st => run ro call r en ls (.ref x :: .ref x :: st) hp cs ss
        | _ => none) = some res := hr
    obtain ⟨hdg, hnx⟩ := dn h0 rfl
    split at hr
    · intro ad H locs lsA hag hn0 hP hD hS hL hlen hcs hss
      exact lv_dup hx hb hdg rfl ((gx hnx (ih' _ _ _ _ _ _ hr hres)) ad H locs lsA hag hn0 hP hD hS hL hlen hcs hss)
    · intro ad H locs lsA hag hn0 hP hD hS hL hlen hcs hss
      exact lv_dup hx hb hdg rfl ((gx hnx (ih' _ _ _ _ _ _ hr hres)) ad H locs lsA hag hn0 hP hD hS hL hlen hcs hss)
    · cases hr
  case dup2  =>
    replace hr : (match (generalizing := false) st with
        | .int y :: .ref x :: st => run ro call r en ls (.int y :: .ref x :: .int y :: .ref x :: st) hp cs ss
        | _ => none) = some res := hr
    obtain ⟨hdg, hnx⟩ := dn h0 rfl
    split at hr
    · intro ad H locs lsA hag hn0 hP hD hS hL hlen hcs hss
      exact lv_dup2_11 hx hb hdg rfl rfl ((gx hnx (ih' _ _ _ _ _ _ hr hres)) ad H locs lsA hag hn0 hP hD hS hL hlen hcs hss)
    · cases hr
  case pop  =>
    replace hr : (match (generalizing := false) st with
        | .int _ :: st => run ro call r en ls st hp cs ss
        | _ => none) = some res := hr
    obtain ⟨hdg, hnx⟩ := dn h0 rfl
    split at hr
    · intro ad H locs lsA hag hn0 hP hD hS hL hlen hcs hss
      exact lv_pop hx hb hdg rfl ((gx hnx (ih' _ _ _ _ _ _ hr hres)) ad H locs lsA hag hn0 hP hD hS hL hlen hcs hss)
    · cases hr
  case ifCond cd o =>
    replace hr : (match (generalizing := false) xs, st with
        | [t], .int x :: st => match (generalizing := false) cd with
          | .eq => if x = 0 then some (.inl (t, ls, st, hp, cs, ss)) else run ro call r en ls st hp cs ss
          | .ne => if x = 0 then run ro call r en ls st hp cs ss else some (.inl (t, ls, st, hp, cs, ss))
          | .lt => if x < 0 then some (.inl (t, ls, st, hp, cs, ss)) else run ro call r en ls st hp cs ss
          | .ge => if x < 0 then run ro call r en ls st hp cs ss else some (.inl (t, ls, st, hp, cs, ss))
          | .gt => if 0 < x then some (.inl (t, ls, st, hp, cs, ss)) else run ro call r en ls st hp cs ss
          | .le => if 0 < x then run ro call r en ls st hp cs ss else some (.inl (t, ls, st, hp, cs, ss))
        | _, _ => none) = some res := hr
    obtain ⟨hdg, hnx⟩ := dn h0 rfl
    split at hr
    · rename_i t x st2
      have ht : (pc : Int) + o = (t : Int) := of_decide_eq_true h1
      cases cd
      case eq =>
        dsimp only at hr
        intro ad H locs lsA hag hn0 hP hD hS hL hlen hcs hss
        by_cases hc : x = 0
        · rw [if_pos hc] at hr
          exact lv_if_eq hx hb hdg ht (fun _ => (by cases hr; exact hres ad H locs lsA hag hn0 hP hD hS hL hlen hcs hss)) (fun q => absurd hc q)
        · rw [if_neg hc] at hr
          exact lv_if_eq hx hb hdg ht (fun q => absurd q hc) (fun _ => ((gx hnx (ih' _ _ _ _ _ _ hr hres)) ad H locs lsA hag hn0 hP hD hS hL hlen hcs hss))
      case ne =>
        dsimp only at hr
        intro ad H locs lsA hag hn0 hP hD hS hL hlen hcs hss
        by_cases hc : x = 0
        · rw [if_pos hc] at hr
          exact lv_if_ne hx hb hdg ht (fun q => absurd hc q) (fun _ => ((gx hnx (ih' _ _ _ _ _ _ hr hres)) ad H locs lsA hag hn0 hP hD hS hL hlen hcs hss))
        · rw [if_neg hc] at hr
          exact lv_if_ne hx hb hdg ht (fun _ => (by cases hr; exact hres ad H locs lsA hag hn0 hP hD hS hL hlen hcs hss)) (fun q => absurd q hc)
      case lt =>
        dsimp only at hr
        intro ad H locs lsA hag hn0 hP hD hS hL hlen hcs hss
        by_cases hc : x < 0
        · rw [if_pos hc] at hr
          exact lv_if_lt hx hb hdg ht (fun _ => (by cases hr; exact hres ad H locs lsA hag hn0 hP hD hS hL hlen hcs hss)) (fun q => absurd hc q)
        · rw [if_neg hc] at hr
          exact lv_if_lt hx hb hdg ht (fun q => absurd q hc) (fun _ => ((gx hnx (ih' _ _ _ _ _ _ hr hres)) ad H locs lsA hag hn0 hP hD hS hL hlen hcs hss))
      case ge =>
        dsimp only at hr
        intro ad H locs lsA hag hn0 hP hD hS hL hlen hcs hss
        by_cases hc : x < 0
        · rw [if_pos hc] at hr
          exact lv_if_ge hx hb hdg ht (fun q => absurd hc (Int32.not_lt.mpr q)) (fun _ => ((gx hnx (ih' _ _ _ _ _ _ hr hres)) ad H locs lsA hag hn0 hP hD hS hL hlen hcs hss))
        · rw [if_neg hc] at hr
          exact lv_if_ge hx hb hdg ht (fun _ => (by cases hr; exact hres ad H locs lsA hag hn0 hP hD hS hL hlen hcs hss)) (fun q => absurd (Int32.not_lt.mp hc) q)
      case gt =>
        dsimp only at hr
        intro ad H locs lsA hag hn0 hP hD hS hL hlen hcs hss
        by_cases hc : 0 < x
        · rw [if_pos hc] at hr
          exact lv_if_gt hx hb hdg ht (fun _ => (by cases hr; exact hres ad H locs lsA hag hn0 hP hD hS hL hlen hcs hss)) (fun q => absurd hc q)
        · rw [if_neg hc] at hr
          exact lv_if_gt hx hb hdg ht (fun q => absurd q hc) (fun _ => ((gx hnx (ih' _ _ _ _ _ _ hr hres)) ad H locs lsA hag hn0 hP hD hS hL hlen hcs hss))
      case le =>
        dsimp only at hr
        intro ad H locs lsA hag hn0 hP hD hS hL hlen hcs hss
        by_cases hc : 0 < x
        · rw [if_pos hc] at hr
          exact lv_if_le hx hb hdg ht (fun q => absurd hc (Int32.not_lt.mpr q)) (fun _ => ((gx hnx (ih' _ _ _ _ _ _ hr hres)) ad H locs lsA hag hn0 hP hD hS hL hlen hcs hss))
        · rw [if_neg hc] at hr
          exact lv_if_le hx hb hdg ht (fun _ => (by cases hr; exact hres ad H locs lsA hag hn0 hP hD hS hL hlen hcs hss)) (fun q => absurd (Int32.not_lt.mp hc) q)
    · cases hr
  case if_icmp cd o =>
    replace hr : (match (generalizing := false) xs, st with
        | [t], .int y :: .int x :: st => match (generalizing := false) cd with
          | .eq => if x = y then some (.inl (t, ls, st, hp, cs, ss)) else run ro call r en ls st hp cs ss
          | .ne => if x = y then run ro call r en ls st hp cs ss else some (.inl (t, ls, st, hp, cs, ss))
          | .lt => if x < y then some (.inl (t, ls, st, hp, cs, ss)) else run ro call r en ls st hp cs ss
          | .ge => if x < y then run ro call r en ls st hp cs ss else some (.inl (t, ls, st, hp, cs, ss))
          | .gt => if y < x then some (.inl (t, ls, st, hp, cs, ss)) else run ro call r en ls st hp cs ss
          | .le => if y < x then run ro call r en ls st hp cs ss else some (.inl (t, ls, st, hp, cs, ss))
        | _, _ => none) = some res := hr
    obtain ⟨hdg, hnx⟩ := dn h0 rfl
    split at hr
    · rename_i t y x st2
      have ht : (pc : Int) + o = (t : Int) := of_decide_eq_true h1
      cases cd
      case eq =>
        dsimp only at hr
        intro ad H locs lsA hag hn0 hP hD hS hL hlen hcs hss
        by_cases hc : x = y
        · rw [if_pos hc] at hr
          exact lv_icmp_eq hx hb hdg ht (fun _ => (by cases hr; exact hres ad H locs lsA hag hn0 hP hD hS hL hlen hcs hss)) (fun q => absurd hc q)
        · rw [if_neg hc] at hr
          exact lv_icmp_eq hx hb hdg ht (fun q => absurd q hc) (fun _ => ((gx hnx (ih' _ _ _ _ _ _ hr hres)) ad H locs lsA hag hn0 hP hD hS hL hlen hcs hss))
      case ne =>
        dsimp only at hr
        intro ad H locs lsA hag hn0 hP hD hS hL hlen hcs hss
        by_cases hc : x = y
        · rw [if_pos hc] at hr
          exact lv_icmp_ne hx hb hdg ht (fun q => absurd hc q) (fun _ => ((gx hnx (ih' _ _ _ _ _ _ hr hres)) ad H locs lsA hag hn0 hP hD hS hL hlen hcs hss))
        · rw [if_neg hc] at hr
          exact lv_icmp_ne hx hb hdg ht (fun _ => (by cases hr; exact hres ad H locs lsA hag hn0 hP hD hS hL hlen hcs hss)) (fun q => absurd q hc)
      case lt =>
        dsimp only at hr
        intro ad H locs lsA hag hn0 hP hD hS hL hlen hcs hss
        by_cases hc : x < y
        · rw [if_pos hc] at hr
          exact lv_icmp_lt hx hb hdg ht (fun _ => (by cases hr; exact hres ad H locs lsA hag hn0 hP hD hS hL hlen hcs hss)) (fun q => absurd hc q)
        · rw [if_neg hc] at hr
          exact lv_icmp_lt hx hb hdg ht (fun q => absurd q hc) (fun _ => ((gx hnx (ih' _ _ _ _ _ _ hr hres)) ad H locs lsA hag hn0 hP hD hS hL hlen hcs hss))
      case ge =>
        dsimp only at hr
        intro ad H locs lsA hag hn0 hP hD hS hL hlen hcs hss
        by_cases hc : x < y
        · rw [if_pos hc] at hr
          exact lv_icmp_ge hx hb hdg ht (fun q => absurd hc (Int32.not_lt.mpr q)) (fun _ => ((gx hnx (ih' _ _ _ _ _ _ hr hres)) ad H locs lsA hag hn0 hP hD hS hL hlen hcs hss))
        · rw [if_neg hc] at hr
          exact lv_icmp_ge hx hb hdg ht (fun _ => (by cases hr; exact hres ad H locs lsA hag hn0 hP hD hS hL hlen hcs hss)) (fun q => absurd (Int32.not_lt.mp hc) q)
      case gt =>
        dsimp only at hr
        intro ad H locs lsA hag hn0 hP hD hS hL hlen hcs hss
        by_cases hc : y < x
        · rw [if_pos hc] at hr
          exact lv_icmp_gt hx hb hdg ht (fun _ => (by cases hr; exact hres ad H locs lsA hag hn0 hP hD hS hL hlen hcs hss)) (fun q => absurd hc q)
        · rw [if_neg hc] at hr
          exact lv_icmp_gt hx hb hdg ht (fun q => absurd q hc) (fun _ => ((gx hnx (ih' _ _ _ _ _ _ hr hres)) ad H locs lsA hag hn0 hP hD hS hL hlen hcs hss))
      case le =>
        dsimp only at hr
        intro ad H locs lsA hag hn0 hP hD hS hL hlen hcs hss
        by_cases hc : y < x
        · rw [if_pos hc] at hr
          exact lv_icmp_le hx hb hdg ht (fun q => absurd hc (Int32.not_lt.mpr q)) (fun _ => ((gx hnx (ih' _ _ _ _ _ _ hr hres)) ad H locs lsA hag hn0 hP hD hS hL hlen hcs hss))
        · rw [if_neg hc] at hr
          exact lv_icmp_le hx hb hdg ht (fun _ => (by cases hr; exact hres ad H locs lsA hag hn0 hP hD hS hL hlen hcs hss)) (fun q => absurd (Int32.not_lt.mp hc) q)
    · cases hr
  case ifnonnull o =>
    replace hr : (match (generalizing := false) xs, st with
        | [t], .ref _ :: st => some (.inl (t, ls, st, hp, cs, ss))
        | _, _ => none) = some res := hr
    obtain ⟨hdg, hnx⟩ := dn h0 rfl
    split at hr
    · rename_i t x st2
      have ht : (pc : Int) + o = (t : Int) := of_decide_eq_true h1
      intro ad H locs lsA hag hn0 hP hD hS hL hlen hcs hss
      exact lv_ifnonnull hx hb hdg ht (by cases hr; exact hres ad H locs lsA hag hn0 hP hD hS hL hlen hcs hss)
    · cases hr
  case goto o =>
    replace hr : (match (generalizing := false) xs with
        | [t] => some (.inl (t, ls, st, hp, cs, ss))
        | _ => none) = some res := hr
    obtain ⟨hdg, hnx⟩ := dn h0 rfl
    split at hr
    · rename_i t
      have ht : (pc : Int) + o = (t : Int) := of_decide_eq_true h1
      intro ad H locs lsA hag hn0 hP hD hS hL hlen hcs hss
      exact lv_goto hx hb hdg ht (by cases hr; exact hres ad H locs lsA hag hn0 hP hD hS hL hlen hcs hss)
    · cases hr
  case tableswitch d lo hi os =>
    replace hr : (match (generalizing := false) xs, st with
        | d :: ts, .int x :: st => some (.inl (tks lo ts d x, ls, st, hp, cs, ss))
        | _, _ => none) = some res := hr
    split at hr
    · rename_i t ts x st2
      have h1 : (decide (decode (eB ent) pc = .ok (.tableswitch d lo hi os, hd r en - pc)) && decide ((pc : Int) + d = (t : Int)) && decide (os.toList.map (fun o : Int => (pc : Int) + o) = ts.map (fun t : Nat => Int.ofNat t)) && decide (hi = lo + ts.length - 1) && decide (-1000 ≤ lo) && decide (hi ≤ 1000)) = true := h1
      simp only [Bool.and_eq_true, decide_eq_true_eq] at h1
      obtain ⟨⟨⟨⟨⟨hdg, hd0⟩, hos⟩, hhi⟩, hlo⟩, hh2⟩ := h1
      intro ad H locs lsA hag hn0 hP hD hS hL hlen hcs hss
      obtain ⟨k1, k2⟩ := tks_spec (d := t) (x := x) ts lo hlo (by omega)
      cases hr
      by_cases hc : x.toInt < lo ∨ hi < x.toInt
      · have ee := k1 (by omega)
        have hres : GG p l e R s m args below meth c Q ent D cA rd A ad0 n0 t ls st2 hp cs ss := by rw [← ee]; exact hres
        exact lv_tableOut hx hb hdg hc hd0 (hres ad H locs lsA hag hn0 hP hD hS hL hlen hcs hss)
      · obtain ⟨t', e1, e2⟩ := k2 (by omega)
        have hres : GG p l e R s m args below meth c Q ent D cA rd A ad0 n0 t' ls st2 hp cs ss := by rw [← e2]; exact hres
        have e3 := congrArg (fun z => z[(x.toInt - lo).toNat]?) hos
        simp only [List.getElem?_map, e1, Option.map_some] at e3
        cases e4 : os.toList[(x.toInt - lo).toNat]? with
        | none => rw [e4] at e3; cases e3
        | some o =>
          rw [e4] at e3
          refine lv_tableIn hx hb hdg (by omega) (by omega) (off := o) (by rw [← Array.getElem?_toList]; exact e4) (Option.some.inj e3) (hres ad H locs lsA hag hn0 hP hD hS hL hlen hcs hss)
    · cases hr
  case lookupswitch d ps =>
    replace hr : (match (generalizing := false) xs, st with
        | d :: ts, .int x :: st => some (.inl (lks ps.toList ts d x, ls, st, hp, cs, ss))
        | _, _ => none) = some res := hr
    split at hr
    · rename_i t ts x st2
      have h1 : (decide (decode (eB ent) pc = .ok (.lookupswitch d ps, hd r en - pc)) && decide ((pc : Int) + d = (t : Int)) && decide (ps.toList.map (fun q : Int × Int => (pc : Int) + q.2) = ts.map (fun t : Nat => Int.ofNat t)) && ps.toList.all (fun q => decide ((Int32.ofInt q.1).toInt = q.1)) && (ps.toList.zip (ps.toList.drop 1)).all (fun (a, next) => a.1 < next.1)) = true := h1
      simp only [Bool.and_eq_true, decide_eq_true_eq] at h1
      obtain ⟨⟨⟨⟨hdg, hd0⟩, hos⟩, hk⟩, hsort⟩ := h1
      intro ad H locs lsA hag hn0 hP hD hS hL hlen hcs hss
      cases hr
      exact lv_lookup hx hb hdg hsort rfl (lks_spec hd0 ps.toList ts hos hk) (hres ad H locs lsA hag hn0 hP hD hS hL hlen hcs hss)
    · cases hr
  case getfield ix =>
    replace hr : (match (generalizing := false) xs, st with
        | [ci, f, _], .ref j :: st => match (generalizing := false) hp[j]? with
          | some (.inr (ci', vs)) => if ci' = ci ∧ ci' < NCl then match (generalizing := false) vs[f]? with
            | some v => run ro call r en ls (v :: st) hp cs ss
            | none => none else none
          | _ => none
        | _, _ => none) = some res := hr
    obtain ⟨hdg, hnx⟩ := dn h0 rfl
    split at hr
    · rename_i ci f t j st2
      split at hr
      · rename_i ci' vs hj
        split at hr
        · rename_i hci
          obtain ⟨rfl, hci⟩ := hci
          split at hr
          · rename_i v hv
            obtain ⟨w1, w2, w3⟩ := fld_w (own := eC ent) (ix := ix) (ci := ci') (f := f) h1
            intro ad H locs lsA hag hn0 hP hD hS hL hlen hcs hss
            refine va_get (D := D) (C := RN ci') (T := TX ci') (N := NX ci') (ci := ci') hx hb hts (lay_w hci) hown hK hP j (by rw [ww_at hj, we_obj hci]) (cl_at hci) f w3 (hts _ w1) (fun _ h => h) (v := wv ad rd v) (by rw [List.getElem?_map, hv]; rfl) hdg ((gx hnx (ih' _ _ _ _ _ _ hr hres)) ad H locs lsA hag hn0 hP hD hS hL hlen hcs hss)
          · cases hr
        · cases hr
      · cases hr
    · cases hr
  case putfield ix =>
    replace hr : (match (generalizing := false) xs, st with
        | [ci, f, t], v :: .ref j :: st => match (generalizing := false) hp[j]? with
          | some (.inr (ci', vs)) => if ci' = ci ∧ ci' < NCl ∧ f < vs.length ∧ pok t v = true then run ro call r en ls st (hp.set j (.inr (ci', vs.set f v))) cs ss else none
          | _ => none
        | _, _ => none) = some res := hr
    obtain ⟨hdg, hnx⟩ := dn h0 rfl
    split at hr
    · rename_i ci f t v j st2
      split at hr
      · rename_i ci' vs hj
        split at hr
        · rename_i hci
          obtain ⟨rfl, hci, hfl, hpk⟩ := hci
          have h1 : (fldT.any (fun e => e.1 == eC ent && e.2.1 == ix && e.2.2.1 == ci' && e.2.2.2.1 == f) && tyk t (tX ci' f) && (!(TX ci' f).2.2.2 || (decide ((eY ent).name = "<init>") && decide ((TX ci' f).1 = RN (eC ent))))) = true := h1
          simp only [Bool.and_eq_true, Bool.or_eq_true, decide_eq_true_eq, Bool.not_eq_true'] at h1
          obtain ⟨⟨h1, htk⟩, hfin⟩ := h1
          obtain ⟨w1, w2, w3⟩ := fld_w (own := eC ent) (ix := ix) (ci := ci') (f := f) h1
          obtain ⟨t1, t2⟩ := typ_w hci
          intro ad H locs lsA hag hn0 hP hD hS hL hlen hcs hss
          obtain ⟨f1, f2⟩ := fit_w (ad := ad) (rd := rd) htk hpk
          have kk : ∀ (H1 : Heap) (locs1 : List Loc), va_P D classes ((ww cA ad rd hp).set j (ad j, .inr (ci', (vs.map (wv ad rd)).set f (wv ad rd v)))) H1 → va_D A ((ww cA ad rd hp).set j (ad j, .inr (ci', (vs.map (wv ad rd)).set f (wv ad rd v)))) → va_S A s.heap H1 locs1 → W p l e R s m args below meth c H1 locs1 cs ss Q (F0 m (pc + 3) lsA (st2.map (wv ad rd))) := by
            intro H1 locs1 hP1 hD1 hS1
            have e1 : (ww cA ad rd hp).set j (ad j, .inr (ci', (vs.map (wv ad rd)).set f (wv ad rd v))) = ww cA ad rd (hp.set j (.inr (ci', vs.set f v))) := by
              rw [ww_set, we_obj hci, List.map_set]
            rw [e1] at hP1 hD1
            exact (gx hnx (ih' _ _ _ _ _ _ hr hres)) ad H1 locs1 lsA hag (by rw [List.length_set]; exact hn0) hP1 hD1 hS1 hL hlen hcs hss
          cases hff : (TX ci' f).2.2.2 with
          | false => exact va_put (D := D) (C := RN ci') (T := TX ci') (N := NX ci') (ci := ci') hx hb hts (lay_w hci) (tX ci') t1 t2 hown hK hP hD hS j (by rw [ww_at hj, we_obj hci]) (cl_at hci) f w3 (hts _ w1) (fun _ h => h) hff (t1 f w3) f1 f2 (by rw [List.length_map]; exact hfl) hdg kk
          | true =>
            rw [hff] at hfin
            obtain ⟨g1, g2⟩ := hfin.resolve_left (by intro z; cases z)
            exact va_putF (D := D) (C := RN ci') (T := TX ci') (N := NX ci') (ci := ci') hx hb hts (lay_w hci) (tX ci') t1 t2 hown hK hP hD hS j (by rw [ww_at hj, we_obj hci]) (cl_at hci) f w3 (hts _ w1) (fun _ h => h) hff (hnm g1) g2 (t1 f w3) f1 f2 (by rw [List.length_map]; exact hfl) hdg kk
        · cases hr
      · cases hr
    · cases hr
  case getstatic ix =>
    replace hr : (match (generalizing := false) xs with
        | [0] => run ro call r en ls (.long 0 :: st) hp cs ss
        | [1] => run ro call r en ls (.long 1 :: st) hp cs ss
        | _ => none) = some res := hr
    obtain ⟨hdg, hnx⟩ := dn h0 rfl
    split at hr
    · have w1 := sta_w (own := eC ent) (ix := ix) (q := 0) h1
      intro ad H locs lsA hag hn0 hP hD hS hL hlen hcs hss
      exact va_gets hx hb hSt.1.1 hS hown (hts _ w1) (fun _ h => h) hdg ((gx hnx (ih' _ _ _ _ _ _ hr hres)) ad H locs lsA hag hn0 hP hD hS hL hlen hcs hss)
    · have w1 := sta_w (own := eC ent) (ix := ix) (q := 1) h1
      intro ad H locs lsA hag hn0 hP hD hS hL hlen hcs hss
      exact va_gets hx hb hSt.1.2 hS hown (hts _ w1) (fun _ h => h) hdg ((gx hnx (ih' _ _ _ _ _ _ hr hres)) ad H locs lsA hag hn0 hP hD hS hL hlen hcs hss)
    · cases hr
  case iaload  =>
    replace hr : (match (generalizing := false) st with
        | .int x :: .ref j :: st => match (generalizing := false) hp[j]? with
          | some (.inl (t, n, f)) => if x < 0 ∨ n ≤ x.toNatClampNeg ∨ t ≠ 0 then none else run ro call r en ls (.int (f x.toNatClampNeg) :: st) hp cs ss
          | _ => none
        | .int x :: .long j :: st => if x < 0 ∨ (ro j).1 ≤ x.toNatClampNeg then none else run ro call r en ls (.int ((ro j).2 x.toNatClampNeg) :: st) hp cs ss
        | _ => none) = some res := hr
    obtain ⟨hdg, hnx⟩ := dn h0 rfl
    split at hr
    · rename_i x j st2
      split at hr
      · rename_i t n f hj
        split at hr
        · cases hr
        · rename_i hc
          have ht : t = 0 := Classical.not_not.mp (fun z => hc (Or.inr (Or.inr z)))
          subst ht
          have hin : vp_in x n := fun z => hc (z.elim Or.inl (fun z => Or.inr (Or.inl z)))
          intro ad H locs lsA hag hn0 hP hD hS hL hlen hcs hss
          exact va_iald hx hb hK hP j 0 (ww_at hj) rfl hin hdg ((gx hnx (ih' _ _ _ _ _ _ hr hres)) ad H locs lsA hag hn0 hP hD hS hL hlen hcs hss)
      · cases hr
    · rename_i x j st2
      split at hr
      · cases hr
      · rename_i hc
        have hin : vp_in x (ro j).1 := hc
        have hne : (ro j).1 ≠ 0 := fun z => hc (Or.inr (by omega))
        intro ad H locs lsA hag hn0 hP hD hS hL hlen hcs hss
        exact va_ti hx hb (hSt.2 j (Or.inl hne)) hS hin rfl hdg ((gx hnx (ih' _ _ _ _ _ _ hr hres)) ad H locs lsA hag hn0 hP hD hS hL hlen hcs hss)
    · cases hr
  case caload  =>
    replace hr : (match (generalizing := false) st with
        | .int x :: .ref j :: st => match (generalizing := false) hp[j]? with
          | some (.inl (t, n, f)) => if x < 0 ∨ n ≤ x.toNatClampNeg ∨ t ≠ 1 then none else run ro call r en ls (.int (f x.toNatClampNeg) :: st) hp cs ss
          | _ => none
        | _ => none) = some res := hr
    obtain ⟨hdg, hnx⟩ := dn h0 rfl
    split at hr
    · rename_i x j st2
      split at hr
      · rename_i t n f hj
        split at hr
        · cases hr
        · rename_i hc
          have ht : t = 1 := Classical.not_not.mp (fun z => hc (Or.inr (Or.inr z)))
          subst ht
          have hin : vp_in x n := fun z => hc (z.elim Or.inl (fun z => Or.inr (Or.inl z)))
          intro ad H locs lsA hag hn0 hP hD hS hL hlen hcs hss
          exact va_cald hx hb hK hP j 1 (ww_at hj) rfl hin hdg ((gx hnx (ih' _ _ _ _ _ _ hr hres)) ad H locs lsA hag hn0 hP hD hS hL hlen hcs hss)
      · cases hr
    · cases hr
  case iastore  =>
    replace hr : (match (generalizing := false) st with
        | .int v :: .int x :: .ref j :: st => match (generalizing := false) hp[j]? with
          | some (.inl (t, n, f)) => if x < 0 ∨ n ≤ x.toNatClampNeg ∨ t ≠ 0 then none else run ro call r en ls st (hp.set j (.inl (t, n, upd f x.toNatClampNeg v))) cs ss
          | _ => none
        | _ => none) = some res := hr
    obtain ⟨hdg, hnx⟩ := dn h0 rfl
    split at hr
    · rename_i v x j st2
      split at hr
      · rename_i t n f hj
        split at hr
        · cases hr
        · rename_i hc
          have ht : t = 0 := Classical.not_not.mp (fun z => hc (Or.inr (Or.inr z)))
          subst ht
          have hin : vp_in x n := fun z => hc (z.elim Or.inl (fun z => Or.inr (Or.inl z)))
          intro ad H locs lsA hag hn0 hP hD hS hL hlen hcs hss
          refine va_iast hx hb hK hP hD hS j 0 (ww_at hj) rfl hin hdg (fun H1 locs1 hP1 hD1 hS1 => ?_)
          have e1 : (ww cA ad rd hp).set j (ad j, .inl (cA 0, n, .inl (upd f x.toNatClampNeg v))) = ww cA ad rd (hp.set j (.inl (0, n, upd f x.toNatClampNeg v))) := by rw [ww_set]; rfl
          rw [e1] at hP1 hD1
          exact (gx hnx (ih' _ _ _ _ _ _ hr hres)) ad H1 locs1 lsA hag (by rw [List.length_set]; exact hn0) hP1 hD1 hS1 hL hlen hcs hss
      · cases hr
    · cases hr
  case castore  =>
    replace hr : (match (generalizing := false) st with
        | .int v :: .int x :: .ref j :: st => match (generalizing := false) hp[j]? with
          | some (.inl (t, n, f)) => if x < 0 ∨ n ≤ x.toNatClampNeg ∨ t ≠ 1 then none else run ro call r en ls st (hp.set j (.inl (t, n, upd f x.toNatClampNeg (vp_nar .char v)))) cs ss
          | _ => none
        | _ => none) = some res := hr
    obtain ⟨hdg, hnx⟩ := dn h0 rfl
    split at hr
    · rename_i v x j st2
      split at hr
      · rename_i t n f hj
        split at hr
        · cases hr
        · rename_i hc
          have ht : t = 1 := Classical.not_not.mp (fun z => hc (Or.inr (Or.inr z)))
          subst ht
          have hin : vp_in x n := fun z => hc (z.elim Or.inl (fun z => Or.inr (Or.inl z)))
          intro ad H locs lsA hag hn0 hP hD hS hL hlen hcs hss
          refine va_cast hx hb hK hP hD hS j 1 (ww_at hj) rfl hin hdg (fun H1 locs1 hP1 hD1 hS1 => ?_)
          have e1 : (ww cA ad rd hp).set j (ad j, .inl (cA 1, n, .inl (upd f x.toNatClampNeg (vp_nar .char v)))) = ww cA ad rd (hp.set j (.inl (1, n, upd f x.toNatClampNeg (vp_nar .char v)))) := by rw [ww_set]; rfl
          rw [e1] at hP1 hD1
          exact (gx hnx (ih' _ _ _ _ _ _ hr hres)) ad H1 locs1 lsA hag (by rw [List.length_set]; exact hn0) hP1 hD1 hS1 hL hlen hcs hss
      · cases hr
    · cases hr
  case aaload  =>
    replace hr : (match (generalizing := false) st with
        | .int x :: .ref j :: st => match (generalizing := false) hp[j]? with
          | some (.inr (t, vs)) => if x < 0 ∨ vs.length ≤ x.toNatClampNeg ∨ t ≠ NCl then none else match (generalizing := false) vs[x.toNatClampNeg]? with
            | some (.ref v) => run ro call r en ls (.ref v :: st) hp cs ss
            | _ => none
          | _ => none
        | _ => none) = some res := hr
    obtain ⟨hdg, hnx⟩ := dn h0 rfl
    split at hr
    · rename_i x j st2
      split at hr
      · rename_i t vs hj
        split at hr
        · cases hr
        · rename_i hc
          have ht : t = NCl := Classical.not_not.mp (fun z => hc (Or.inr (Or.inr z)))
          subst ht
          have hin : vp_in x vs.length := fun z => hc (z.elim Or.inl (fun z => Or.inr (Or.inl z)))
          split at hr
          · rename_i v hv
            intro ad H locs lsA hag hn0 hP hD hS hL hlen hcs hss
            refine va_aldq hx hb hK hP j 2 (by rw [ww_at hj, we_arr]) rfl hin hdg ?_
            have e1 : va_rf ((vs[x.toNatClampNeg]?).bind (wq ad)) = .ref (ad v) := by rw [hv]; rfl
            rw [e1]
            exact ((gx hnx (ih' _ _ _ _ _ _ hr hres)) ad H locs lsA hag hn0 hP hD hS hL hlen hcs hss)
          · cases hr
      · cases hr
    · cases hr
  case aastore  =>
    replace hr : (match (generalizing := false) st with
        | .ref v :: .int x :: .ref j :: st => match (generalizing := false) hp[j]? with
          | some (.inr (t, vs)) => if x < 0 ∨ vs.length ≤ x.toNatClampNeg ∨ t ≠ NCl ∨ hasC 4 hp v = false then none else run ro call r en ls st (hp.set j (.inr (t, vs.set x.toNatClampNeg (.ref v)))) cs ss
          | _ => none
        | _ => none) = some res := hr
    obtain ⟨hdg, hnx⟩ := dn h0 rfl
    split at hr
    · rename_i v x j st2
      split at hr
      · rename_i t vs hj
        split at hr
        · cases hr
        · rename_i hc
          have ht : t = NCl := Classical.not_not.mp (fun z => hc (Or.inr (Or.inr (Or.inl z))))
          subst ht
          have hin : vp_in x vs.length := fun z => hc (z.elim Or.inl (fun z => Or.inr (Or.inl z)))
          have hh : hasC 4 hp v = true := by
            cases hq : hasC 4 hp v with
            | true => rfl
            | false => exact absurd (Or.inr (Or.inr (Or.inr hq))) hc
          obtain ⟨ws, hws⟩ := hasC_w hh
          intro ad H locs lsA hag hn0 hP hD hS hL hlen hcs hss
          refine va_astq hx hb hK hP hD hS j 2 v 4 (r := (RN 4, TX 4, NX 4)) (by rw [ww_at hj, we_arr]) rfl (by rw [ww_at hws, we_obj (by decide)]) (cl_at (by decide)) hin hdg (fun H1 locs1 hP1 hD1 hS1 => ?_)
          have e1 : (ww cA ad rd hp).set j (ad j, .inl (cA 2, vs.length, .inr (.inr (.inr (.inr (va_up (fun k => (vs[k]?).bind (wq ad)) x.toNatClampNeg (some (ad v)))))))) = ww cA ad rd (hp.set j (.inr (NCl, vs.set x.toNatClampNeg (.ref v)))) := by
            rw [ww_set, we_arr, List.length_set, arrset9 (fun z => hin (Or.inr z))]
          rw [e1] at hP1 hD1
          exact (gx hnx (ih' _ _ _ _ _ _ hr hres)) ad H1 locs1 lsA hag (by rw [List.length_set]; exact hn0) hP1 hD1 hS1 hL hlen hcs hss
      · cases hr
    · cases hr
  case arraylength  =>
    replace hr : (match (generalizing := false) st with
        | .long j :: st => if (ro j).1 = 0 ∧ (ro j).2 0 ≠ 7 then none else run ro call r en ls (.int (Int32.ofNat (ro j).1) :: st) hp cs ss
        | _ => none) = some res := hr
    obtain ⟨hdg, hnx⟩ := dn h0 rfl
    split at hr
    · rename_i j st2
      split at hr
      · cases hr
      · rename_i hne
        intro ad H locs lsA hag hn0 hP hD hS hL hlen hcs hss
        exact va_tlen hx hb (hSt.2 j (by
          rcases Classical.em ((ro j).1 = 0) with z | z
          · exact Or.inr (Classical.not_not.mp (fun y => hne ⟨z, y⟩))
          · exact Or.inl z)) hS rfl hdg ((gx hnx (ih' _ _ _ _ _ _ hr hres)) ad H locs lsA hag hn0 hP hD hS hL hlen hcs hss)
    · cases hr
  case newarray ty =>
    replace hr : (match (generalizing := false) xs, st with
        | [t, mcL, msL], .int n :: st => if n < 0 ∨ 100000 < n.toNatClampNeg ∨ mcL < cs + 1 ∨ msL < ss + n.toNatClampNeg ∨ clo hp.length (ls ++ st) hp = false then none else
            run ro call r en ls (.ref hp.length :: st) (hp ++ [.inl (t, n.toNatClampNeg, fun _ => 0)]) (cs + 1) (ss + n.toNatClampNeg)
        | _, _ => none) = some res := hr
    obtain ⟨hdg, hnx⟩ := dn h0 rfl
    split at hr
    · rename_i t mcL msL n st2
      replace h1 : (decide (mcL = eMc ent) && decide (msL = eMs ent) && ((decide (t = 0) && decide (ty = .int)) || (decide (t = 1) && decide (ty = .char)))) = true := h1
      simp only [Bool.and_eq_true, Bool.or_eq_true, decide_eq_true_eq] at h1
      obtain ⟨⟨rfl, rfl⟩, hty⟩ := h1
      split at hr
      · cases hr
      · rename_i hc
        have c1 : ¬ n < 0 := fun z => hc (Or.inl z)
        have c2 : ¬ 100000 < n.toNatClampNeg := fun z => hc (Or.inr (Or.inl z))
        have c3 : ¬ eMc ent < cs + 1 := fun z => hc (Or.inr (Or.inr (Or.inl z)))
        have c4 : ¬ eMs ent < ss + n.toNatClampNeg := fun z => hc (Or.inr (Or.inr (Or.inr (Or.inl z))))
        obtain ⟨c5, c6⟩ := clo_w (fun z => hc (Or.inr (Or.inr (Or.inr (Or.inr z)))))
        intro ad H locs lsA hag hn0 hP hD hS hL hlen hcs hss
        have fi : ∀ (q : Nat) (cB : ClassId) (H1 : Heap), cB = cA t → va_P D classes (ww cA ad rd hp ++ [(q, .inl (cB, n.toNatClampNeg, .inl (fun _ => 0)))]) H1 → va_D A (ww cA ad rd hp ++ [(q, .inl (cB, n.toNatClampNeg, .inl (fun _ => 0)))]) → va_S A s.heap H1 locs → W p l e R s m args below meth c H1 locs (cs + 1) (ss + n.toNatClampNeg) Q (F0 m (pc + 2) lsA (.ref q :: st2.map (wv ad rd))) := by
          intro q cB H1 hcB hP1 hD1 hS1
          subst hcB
          have e1 := ww_push (cA := cA) (rd := rd) (ad := ad) (q := q) (x := .inl (t, n.toNatClampNeg, fun _ => 0)) c6
          have key := (gx hnx (ih' _ _ _ _ _ _ hr hres)) (fun i => if i = hp.length then q else ad i) H1 locs lsA (fun j hj => (if_neg (by omega)).trans (hag j hj)) (by rw [List.length_append]; omega) (by rw [e1]; exact hP1) (by rw [e1]; exact hD1) hS1 (hL.inn (fun j hj => if_neg (by omega)) (fun v hv => c5 v (List.mem_append_left _ hv))) hlen (by omega) (by omega)
          have e2 : (Value.ref hp.length :: st2).map (wv (fun i => if i = hp.length then q else ad i) rd) = .ref q :: st2.map (wv ad rd) := by
            rw [List.map_cons]
            refine congr (congrArg List.cons ?_) (List.map_congr_left fun v hv => wv_in (fun j hj => if_neg (by omega)) (c5 v (List.mem_append_right _ hv)))
            simp only [wv, if_true]
          rw [e2] at key
          exact key
        rcases hty with ⟨rfl, rfl⟩ | ⟨rfl, rfl⟩
        · refine va_newa (atype := .int) (ty := .int) hx hb (hts _ (tbl_of sysP_ok.2.2.2.1 rfl)) rfl hK hP hD hS hA (a0 := (n.toNatClampNeg, .inl (fun _ => 0))) (fun cB => rfl) c1 rfl (by show n.toNatClampNeg * 4 ≤ 536870912; omega) (by omega) (by omega) hdg (fun q cB H1 hK1 hP1 hD1 hS1 => fi q cB H1 ?_ hP1 hD1 hS1)
          have g1 : s.vm.findClass ("[" ++ FieldType.int.toString) = some cB := (hK1.2 3 (cB, .int) rfl).2
          have g2 : s.vm.findClass ("[" ++ FieldType.int.toString) = some (cA 0) := (hK.2 0 (cA 0, .int) rfl).2
          exact Option.some.inj (g1.symm.trans g2)
        · refine va_newa (atype := .char) (ty := .char) hx hb (hts _ (tbl_of sysP_ok.2.2.2.2.1 rfl)) rfl hK hP hD hS hA (a0 := (n.toNatClampNeg, .inl (fun _ => 0))) (fun cB => rfl) c1 rfl (by show n.toNatClampNeg * 2 ≤ 536870912; omega) (by omega) (by omega) hdg (fun q cB H1 hK1 hP1 hD1 hS1 => fi q cB H1 ?_ hP1 hD1 hS1)
          have g1 : s.vm.findClass ("[" ++ FieldType.char.toString) = some cB := (hK1.2 3 (cB, .char) rfl).2
          have g2 : s.vm.findClass ("[" ++ FieldType.char.toString) = some (cA 1) := (hK.2 1 (cA 1, .char) rfl).2
          exact Option.some.inj (g1.symm.trans g2)
    · cases hr
  case anewarray ix =>
    replace hr : (match (generalizing := false) xs, st with
        | [mcL, msL], .int n :: st => if n < 0 ∨ 100000 < n.toNatClampNeg ∨ mcL < cs + 1 ∨ msL < ss + n.toNatClampNeg ∨ clo hp.length (ls ++ st) hp = false then none else
            run ro call r en ls (.ref hp.length :: st) (hp ++ [.inr (NCl, List.replicate n.toNatClampNeg .null)]) (cs + 1) (ss + n.toNatClampNeg)
        | _, _ => none) = some res := hr
    obtain ⟨hdg, hnx⟩ := dn h0 rfl
    split at hr
    · rename_i mcL msL n st2
      replace h1 : (decide (mcL = eMc ent) && decide (msL = eMs ent) && clsT.any (fun e => e.1 == eC ent && e.2.1 == ix && e.2.2.1 == ARC)) = true := h1
      simp only [Bool.and_eq_true, decide_eq_true_eq] at h1
      obtain ⟨⟨rfl, rfl⟩, hcl⟩ := h1
      have w1 := cls_w (own := eC ent) (ix := ix) (q := ARC) (by simpa only [Bool.and_eq_true] using hcl)
      split at hr
      · cases hr
      · rename_i hc
        have c1 : ¬ n < 0 := fun z => hc (Or.inl z)
        have c2 : ¬ 100000 < n.toNatClampNeg := fun z => hc (Or.inr (Or.inl z))
        have c3 : ¬ eMc ent < cs + 1 := fun z => hc (Or.inr (Or.inr (Or.inl z)))
        have c4 : ¬ eMs ent < ss + n.toNatClampNeg := fun z => hc (Or.inr (Or.inr (Or.inr (Or.inl z))))
        obtain ⟨c5, c6⟩ := clo_w (fun z => hc (Or.inr (Or.inr (Or.inr (Or.inr z)))))
        intro ad H locs lsA hag hn0 hP hD hS hL hlen hcs hss
        refine va_newq hx hb hown (hts _ w1) hO hK hP hD hS hA c1 rfl (by omega) (by omega) (by omega) hdg (fun q cB H1 hK1 hP1 hD1 hS1 => ?_)
        have hcB : cB = cA 2 := by
          obtain ⟨k1, k2, k3, k4, k5, g1⟩ := (hK1.2 3 (cB, .object (RN ARC)) rfl).2
          obtain ⟨j1, j2, j3, j4, j5, g2⟩ := (hK.2 2 (cA 2, .object (RN ARC)) rfl).2
          exact Option.some.inj (g1.symm.trans g2)
        subst hcB
        have e1 := ww_push (cA := cA) (rd := rd) (ad := ad) (q := q) (x := .inr (NCl, List.replicate n.toNatClampNeg .null)) c6
        have e0 : we cA (fun i => if i = hp.length then q else ad i) rd (.inr (NCl, List.replicate n.toNatClampNeg .null)) = .inl (cA 2, n.toNatClampNeg, .inr (.inr (.inr (.inr (fun _ => none))))) := by
          rw [we_arr, List.length_replicate]
          refine congrArg (fun g => (Sum.inl (cA 2, n.toNatClampNeg, Sum.inr (Sum.inr (Sum.inr (Sum.inr g)))) : va_E)) (funext fun k => ?_)
          rw [List.getElem?_replicate]
          split <;> rfl
        rw [e0] at e1
        have key := (gx hnx (ih' _ _ _ _ _ _ hr hres)) (fun i => if i = hp.length then q else ad i) H1 locs lsA (fun j hj => (if_neg (by omega)).trans (hag j hj)) (by rw [List.length_append]; omega) (by rw [e1]; exact hP1) (by rw [e1]; exact hD1) hS1 (hL.inn (fun j hj => if_neg (by omega)) (fun v hv => c5 v (List.mem_append_left _ hv))) hlen (by omega) (by omega)
        have e2 : (Value.ref hp.length :: st2).map (wv (fun i => if i = hp.length then q else ad i) rd) = .ref q :: st2.map (wv ad rd) := by
          rw [List.map_cons]
          refine congr (congrArg List.cons ?_) (List.map_congr_left fun v hv => wv_in (fun j hj => if_neg (by omega)) (c5 v (List.mem_append_right _ hv)))
          simp only [wv, if_true]
        rw [e2] at key
        exact key
    · cases hr
  case new ix =>
    replace hr : (match (generalizing := false) xs with
        | [ci, N, mcL, msL] => if mcL < cs + 1 ∨ msL < ss + N ∨ clo hp.length (ls ++ st) hp = false then none else
            run ro call r en ls (.ref hp.length :: st) (hp ++ [.inr (ci, dfl ci)]) (cs + 1) (ss + N)
        | _ => none) = some res := hr
    obtain ⟨hdg, hnx⟩ := dn h0 rfl
    split at hr
    · rename_i ci N mcL msL
      replace h1 : (decide (mcL = eMc ent) && decide (msL = eMs ent) && decide (N = NX ci) && decide (ci < NCl) && clsT.any (fun e => e.1 == eC ent && e.2.1 == ix && e.2.2.1 == ci)) = true := h1
      simp only [Bool.and_eq_true, decide_eq_true_eq] at h1
      obtain ⟨⟨⟨⟨rfl, rfl⟩, rfl⟩, hci⟩, hcl⟩ := h1
      have w1 := cls_w (own := eC ent) (ix := ix) (q := ci) (by simpa only [Bool.and_eq_true] using hcl)
      obtain ⟨w2, w3⟩ := ins_w hci
      split at hr
      · cases hr
      · rename_i hc
        have c3 : ¬ eMc ent < cs + 1 := fun z => hc (Or.inl z)
        have c4 : ¬ eMs ent < ss + NX ci := fun z => hc (Or.inr (Or.inl z))
        obtain ⟨c5, c6⟩ := clo_w (fun z => hc (Or.inr (Or.inr z)))
        intro ad H locs lsA hag hn0 hP hD hS hL hlen hcs hss
        refine va_new (ci := ci) (fs := dfl ci) (C := RN ci) (T := TX ci) (N := NX ci) hx hb hts (lay_w hci) (tX ci) (typ_w hci).1 hown (hts _ w1) (hts _ w2) (hts _ w3) hK hP hD hS hA (cl_at hci) (dfl_w (ad := ad) (rd := rd) hci).2 (by omega) (by omega) hdg (fun q H1 hP1 hD1 hS1 => ?_)
        have e1 := ww_push (cA := cA) (rd := rd) (ad := ad) (q := q) (x := .inr (ci, dfl ci)) c6
        rw [we_obj hci, (dfl_w hci).1] at e1
        have key := (gx hnx (ih' _ _ _ _ _ _ hr hres)) (fun i => if i = hp.length then q else ad i) H1 locs lsA (fun j hj => (if_neg (by omega)).trans (hag j hj)) (by rw [List.length_append]; omega) (by rw [e1]; exact hP1) (by rw [e1]; exact hD1) hS1 (hL.inn (fun j hj => if_neg (by omega)) (fun v hv => c5 v (List.mem_append_left _ hv))) hlen (by omega) (by omega)
        have e2 : (Value.ref hp.length :: st).map (wv (fun i => if i = hp.length then q else ad i) rd) = .ref q :: st.map (wv ad rd) := by
          rw [List.map_cons]
          refine congr (congrArg List.cons ?_) (List.map_congr_left fun v hv => wv_in (fun j hj => if_neg (by omega)) (c5 v (List.mem_append_right _ hv)))
          simp only [wv, if_true]
        rw [e2] at key
        exact key
    · cases hr
  case invokevirtual ix =>
    replace hr : (match (generalizing := false) xs with
        | [q, na, n1, n2, cn, mc, ms, mcL, msL, _] => match (generalizing := false) st.drop na with
          | .ref j :: st' => if 8 < sw st' ∨ mcL < cs + mc ∨ msL < ss + ms ∨ hasC cn hp j = false then none else
            match (generalizing := false) cal call q n1 n2 (.ref j :: (st.take na).reverse) (ls ++ st') hp with
            | some (none, h) => run ro call r en ls st' h (cs + mc) (ss + ms)
            | some (some (.int v), h) => run ro call r en ls (.int v :: st') h (cs + mc) (ss + ms)
            | _ => none
          | _ => none
        | _ => none) = some res := hr
    obtain ⟨hdg, hnx⟩ := dn h0 rfl
    split at hr
    · rename_i q na n1 n2 cn mc ms mcL msL t
      split at hr
      · rename_i j st2 hst
        split at hr
        · cases hr
        · rename_i hc
          have c1 : ¬ 8 < sw st2 := fun z => hc (Or.inl z)
          have c2 : ¬ mcL < cs + mc := fun z => hc (Or.inr (Or.inl z))
          have c3 : ¬ msL < ss + ms := fun z => hc (Or.inr (Or.inr (Or.inl z)))
          have c4 : hasC cn hp j = true := by
            cases hq : hasC cn hp j with
            | true => rfl
            | false => exact absurd (Or.inr (Or.inr (Or.inr hq))) hc
          cases hq : tM[q]? with
          | none =>
            replace h1 : (match tM[q]? with
              | some e => okC ent ix q na mc ms mcL msL t e && decide (t = 0) && decide (cn = eC e) && decide (cn < NCl) && !eS e && decide ((eY e).name ≠ "<init>")
              | none => false) = true := h1
            rw [hq] at h1
            cases h1
          | some e' =>
          replace h1 : (match tM[q]? with
              | some e => okC ent ix q na mc ms mcL msL t e && decide (t = 0) && decide (cn = eC e) && decide (cn < NCl) && !eS e && decide ((eY e).name ≠ "<init>")
              | none => false) = true := h1
          rw [hq] at h1
          simp only [Bool.and_eq_true, decide_eq_true_eq, Bool.not_eq_true'] at h1
          obtain ⟨⟨⟨⟨⟨g1, rfl⟩, rfl⟩, g2⟩, g3⟩, g4⟩ := h1
          obtain ⟨⟨-, -, -, o4, o5⟩, -⟩ := okC_w g1
          split at hr
          · rename_i h hcal
            intro ad H locs lsA hag hn0 hP hD hS hL hlen hcs hss
            refine inv_virt C hcall hdg hq g1 g3 g4 g2 hst c1 c2 c3 c4 hcal hP hD hS (by rw [hL.1]; exact hlen) (fun ad2 H1 locs1 a1 a2 hP1 hD1 hS1 => ?_)
            have key := (gx hnx (ih' _ _ _ _ _ _ hr hres)) ad2 H1 locs1 lsA (fun j hj => (a1 j (Nat.lt_of_lt_of_le hj hn0)).trans (hag j hj)) (Nat.le_trans hn0 (cal_len hcal)) hP1 hD1 hS1 (hL.oth (fun v hv => a2 v (List.mem_append_left _ hv))) hlen (by omega) (by omega)
            rw [show (st2.map (wv ad2 rd)) = st2.map (wv ad rd) from (List.map_congr_left fun v hv => a2 v (List.mem_append_right _ hv))] at key
            exact key
          · rename_i v h hcal
            intro ad H locs lsA hag hn0 hP hD hS hL hlen hcs hss
            refine inv_virt C hcall hdg hq g1 g3 g4 g2 hst c1 c2 c3 c4 hcal hP hD hS (by rw [hL.1]; exact hlen) (fun ad2 H1 locs1 a1 a2 hP1 hD1 hS1 => ?_)
            have key := (gx hnx (ih' _ _ _ _ _ _ hr hres)) ad2 H1 locs1 lsA (fun j hj => (a1 j (Nat.lt_of_lt_of_le hj hn0)).trans (hag j hj)) (Nat.le_trans hn0 (cal_len hcal)) hP1 hD1 hS1 (hL.oth (fun v hv => a2 v (List.mem_append_left _ hv))) hlen (by omega) (by omega)
            rw [map_v (List.map_congr_left fun v hv => a2 v (List.mem_append_right _ hv))] at key
            exact key
          · cases hr
      · cases hr
    · cases hr
  case invokespecial ix =>
    replace hr : (match (generalizing := false) xs with
        | [q, na, n1, n2, _, mc, ms, mcL, msL, _] => match (generalizing := false) st.drop na with
          | .ref j :: st' => if 8 < sw st' ∨ mcL < cs + mc ∨ msL < ss + ms then none else
            match (generalizing := false) cal call q n1 n2 (.ref j :: (st.take na).reverse) (ls ++ st') hp with
            | some (none, h) => run ro call r en ls st' h (cs + mc) (ss + ms)
            | _ => none
          | _ => none
        | [] => match (generalizing := false) st with
          | .ref _ :: st' => if 8 < sw st' then none else run ro call r en ls st' hp cs ss
          | _ => none
        | _ => none) = some res := hr
    obtain ⟨hdg, hnx⟩ := dn h0 rfl
    split at hr
    · rename_i q na n1 n2 cn mc ms mcL msL t
      split at hr
      · rename_i j st2 hst
        split at hr
        · cases hr
        · rename_i hc
          have c1 : ¬ 8 < sw st2 := fun z => hc (Or.inl z)
          have c2 : ¬ mcL < cs + mc := fun z => hc (Or.inr (Or.inl z))
          have c3 : ¬ msL < ss + ms := fun z => hc (Or.inr (Or.inr z))
          cases hq : tM[q]? with
          | none =>
            replace h1 : (match tM[q]? with
              | some e => okC ent ix q na mc ms mcL msL t e && decide ((eY e).name = "<init>") && !eS e && decide (eR e = none)
              | none => false) = true := h1
            rw [hq] at h1
            cases h1
          | some e' =>
          replace h1 : (match tM[q]? with
              | some e => okC ent ix q na mc ms mcL msL t e && decide ((eY e).name = "<init>") && !eS e && decide (eR e = none)
              | none => false) = true := h1
          rw [hq] at h1
          simp only [Bool.and_eq_true, decide_eq_true_eq, Bool.not_eq_true'] at h1
          obtain ⟨⟨⟨g1, g2⟩, g3⟩, g4⟩ := h1
          obtain ⟨⟨-, -, -, o4, o5⟩, -⟩ := okC_w g1
          split at hr
          · rename_i h hcal
            intro ad H locs lsA hag hn0 hP hD hS hL hlen hcs hss
            refine inv_spec C hcall hdg hq g1 g3 g2 g4 hst c1 c2 c3 hcal hP hD hS (by rw [hL.1]; exact hlen) (fun ad2 H1 locs1 a1 a2 hP1 hD1 hS1 => ?_)
            have key := (gx hnx (ih' _ _ _ _ _ _ hr hres)) ad2 H1 locs1 lsA (fun j hj => (a1 j (Nat.lt_of_lt_of_le hj hn0)).trans (hag j hj)) (Nat.le_trans hn0 (cal_len hcal)) hP1 hD1 hS1 (hL.oth (fun v hv => a2 v (List.mem_append_left _ hv))) hlen (by omega) (by omega)
            rw [show (st2.map (wv ad2 rd)) = st2.map (wv ad rd) from (List.map_congr_left fun v hv => a2 v (List.mem_append_right _ hv))] at key
            exact key
          · cases hr
      · cases hr
    · split at hr
      · rename_i j st2
        split at hr
        · cases hr
        · rename_i hc
          replace h1 : (objT.any (fun e => e.1 == eC ent && e.2.1 == ix) && decide (1 ≤ eF ent) && decide (20 ≤ eLo ent)) = true := h1
          simp only [Bool.and_eq_true, decide_eq_true_eq] at h1
          obtain ⟨⟨g1, g2⟩, g3⟩ := h1
          have w1 := obj_w (own := eC ent) (ix := ix) (by simpa only [Bool.and_eq_true] using g1)
          intro ad H locs lsA hag hn0 hP hD hS hL hlen hcs hss
          refine W.objInit hx hb hown (hts _ w1) (hts _ (tbl_of sysP_ok.2.2.1.1 rfl)) (hts _ (tbl_of sysP_ok.2.2.1.2 rfl)) rfl (by rw [hml]; exact hL.1.trans hlen) rfl hdg (by omega) ?_ ((gx hnx (ih' _ _ _ _ _ _ hr hres)) ad H locs lsA hag hn0 hP hD hS hL hlen hcs hss)
          rw [wv_sum]
          show 2 * 0 + _ + 12 ≤ _
          omega
      · cases hr
    · cases hr
  case invokestatic ix =>
    replace hr : (match (generalizing := false) xs with
        | [q, na, n1, n2, _, mc, ms, mcL, msL, _] => if 8 < sw (st.drop na) ∨ mcL < cs + mc ∨ msL < ss + ms then none else if st.length < na then none else
            match (generalizing := false) cal call q n1 n2 (st.take na).reverse (ls ++ st.drop na) hp with
            | some (none, h) => run ro call r en ls (st.drop na) h (cs + mc) (ss + ms)
            | some (some (.int v), h) => run ro call r en ls (.int v :: st.drop na) h (cs + mc) (ss + ms)
            | _ => none
        | [q, na, mc, ms, mcL, msL, _] => if 8 < sw (st.drop na) ∨ mcL < cs + mc ∨ msL < ss + ms ∨ st.length < na ∨ (st.take na).all (fun v => !isD v) = false ∨ (ls ++ st.drop na).all (clV hp.length) = false then none else
            match (generalizing := false) call q (st.take na).reverse hp with
            | some (none, h) => if h.length < hp.length then none else run ro call r en ls (st.drop na) h (cs + mc) (ss + ms)
            | some (some (.int v), h) => if h.length < hp.length then none else run ro call r en ls (.int v :: st.drop na) h (cs + mc) (ss + ms)
            | some (some (.double v), h) => if h.length < hp.length then none else run ro call r en ls (.double v :: st.drop na) h (cs + mc) (ss + ms)
            | _ => none
        | [0] => match (generalizing := false) st with
          | .int y :: .int x :: st => if 8 < sw st then none else run ro call r en ls (.int (if x < y then y else x) :: st) hp cs ss
          | _ => none
        | [1] => match (generalizing := false) st with
          | .int y :: .int x :: st => if 8 < sw st then none else run ro call r en ls (.int (if y < x then y else x) :: st) hp cs ss
          | _ => none
        | [2] => match (generalizing := false) st with
          | .int n :: .int dp :: .ref b :: .int sp :: .ref a :: st => match (generalizing := false) hp[a]?, hp[b]? with
            | some (.inl (t, n0, f)), some (.inl (t', n1, g)) => if 8 < sw st ∨ sp < 0 ∨ dp < 0 ∨ n < 0 ∨ n0 < sp.toNatClampNeg + n.toNatClampNeg ∨ n1 < dp.toNatClampNeg + n.toNatClampNeg ∨ t ≠ 0 ∨ t' ≠ 0 then none else
                run ro call r en ls st (hp.set b (.inl (t', n1, va_cpy f g sp.toNatClampNeg dp.toNatClampNeg n.toNatClampNeg))) cs ss
            | _, _ => none
          | _ => none
        | _ => none) = some res := hr
    obtain ⟨hdg, hnx⟩ := dn h0 rfl
    split at hr
    · rename_i q na n1 n2 cn mc ms mcL msL t
      split at hr
      · cases hr
      · rename_i hc
        have c1 : ¬ 8 < sw (st.drop na) := fun z => hc (Or.inl z)
        have c2 : ¬ mcL < cs + mc := fun z => hc (Or.inr (Or.inl z))
        have c3 : ¬ msL < ss + ms := fun z => hc (Or.inr (Or.inr z))
        cases hq : tM[q]? with
        | none =>
          replace h1 : (match tM[q]? with
            | some e => okC ent ix q na mc ms mcL msL t e && eS e
            | none => false) = true := h1
          rw [hq] at h1
          cases h1
        | some e' =>
        replace h1 : (match tM[q]? with
            | some e => okC ent ix q na mc ms mcL msL t e && eS e
            | none => false) = true := h1
        rw [hq] at h1
        simp only [Bool.and_eq_true] at h1
        obtain ⟨g1, g3⟩ := h1
        obtain ⟨⟨-, -, -, o4, o5⟩, -⟩ := okC_w g1
        split at hr
        · cases hr
        · rename_i hna
          split at hr
          · rename_i h hcal
            intro ad H locs lsA hag hn0 hP hD hS hL hlen hcs hss
            refine inv_stat C hcall hdg hq g1 g3 (by omega) c1 c2 c3 hcal hP hD hS (by rw [hL.1]; exact hlen) (fun ad2 H1 locs1 a1 a2 hP1 hD1 hS1 => ?_)
            have key := (gx hnx (ih' _ _ _ _ _ _ hr hres)) ad2 H1 locs1 lsA (fun j hj => (a1 j (Nat.lt_of_lt_of_le hj hn0)).trans (hag j hj)) (Nat.le_trans hn0 (cal_len hcal)) hP1 hD1 hS1 (hL.oth (fun v hv => a2 v (List.mem_append_left _ hv))) hlen (by omega) (by omega)
            rw [show ((st.drop na).map (wv ad2 rd)) = (st.drop na).map (wv ad rd) from (List.map_congr_left fun v hv => a2 v (List.mem_append_right _ hv))] at key
            exact key
          · rename_i v h hcal
            intro ad H locs lsA hag hn0 hP hD hS hL hlen hcs hss
            refine inv_stat C hcall hdg hq g1 g3 (by omega) c1 c2 c3 hcal hP hD hS (by rw [hL.1]; exact hlen) (fun ad2 H1 locs1 a1 a2 hP1 hD1 hS1 => ?_)
            have key := (gx hnx (ih' _ _ _ _ _ _ hr hres)) ad2 H1 locs1 lsA (fun j hj => (a1 j (Nat.lt_of_lt_of_le hj hn0)).trans (hag j hj)) (Nat.le_trans hn0 (cal_len hcal)) hP1 hD1 hS1 (hL.oth (fun v hv => a2 v (List.mem_append_left _ hv))) hlen (by omega) (by omega)
            rw [map_v (List.map_congr_left fun v hv => a2 v (List.mem_append_right _ hv))] at key
            exact key
          · cases hr
    · rename_i q na mc ms mcL msL t
      split at hr
      · cases hr
      · rename_i hc
        have c1 : ¬ 8 < sw (st.drop na) := fun z => hc (Or.inl z)
        have c2 : ¬ mcL < cs + mc := fun z => hc (Or.inr (Or.inl z))
        have c3 : ¬ msL < ss + ms := fun z => hc (Or.inr (Or.inr (Or.inl z)))
        have c4 : ¬ st.length < na := fun z => hc (Or.inr (Or.inr (Or.inr (Or.inl z))))
        have c5 : (st.take na).all (fun v => !isD v) = true := by
          cases hz : (st.take na).all (fun v => !isD v) with
          | true => rfl
          | false => exact absurd (Or.inr (Or.inr (Or.inr (Or.inr (Or.inl hz))))) hc
        have c6 : (ls ++ st.drop na).all (clV hp.length) = true := by
          cases hz : (ls ++ st.drop na).all (clV hp.length) with
          | true => rfl
          | false => exact absurd (Or.inr (Or.inr (Or.inr (Or.inr (Or.inr hz))))) hc
        cases hq : tM[q]? with
        | none =>
          replace h1 : (match tM[q]? with
            | some e => okC ent ix q na mc ms mcL msL t e && eS e
            | none => false) = true := h1
          rw [hq] at h1
          cases h1
        | some e' =>
        replace h1 : (match tM[q]? with
            | some e => okC ent ix q na mc ms mcL msL t e && eS e
            | none => false) = true := h1
        rw [hq] at h1
        simp only [Bool.and_eq_true] at h1
        obtain ⟨g1, g3⟩ := h1
        obtain ⟨⟨-, -, -, o4, o5⟩, -⟩ := okC_w g1
        split at hr
        · rename_i h hcal
          split at hr
          · cases hr
          · rename_i hle
            intro ad H locs lsA hag hn0 hP hD hS hL hlen hcs hss
            refine inv_statA C hcall hdg hq g1 g3 (by omega) c1 c2 c3 c5 hcal hP hD hS (by rw [hL.1]; exact hlen) (fun ad2 H1 locs1 a1 hP1 hD1 hS1 => ?_)
            have a2 : ∀ w ∈ ls ++ st.drop na, wv ad2 rd w = wv ad rd w := fun w hw => wv_in a1 (List.all_eq_true.mp c6 w hw)
            have key := (gx hnx (ih' _ _ _ _ _ _ hr hres)) ad2 H1 locs1 lsA (fun j hj => (a1 j (Nat.lt_of_lt_of_le hj hn0)).trans (hag j hj)) (Nat.le_trans hn0 (by omega)) hP1 hD1 hS1 (hL.oth (fun v hv => a2 v (List.mem_append_left _ hv))) hlen (by omega) (by omega)
            rw [show ((st.drop na).map (wv ad2 rd)) = (st.drop na).map (wv ad rd) from (List.map_congr_left fun v hv => a2 v (List.mem_append_right _ hv))] at key
            exact key
        · rename_i v h hcal
          split at hr
          · cases hr
          · rename_i hle
            intro ad H locs lsA hag hn0 hP hD hS hL hlen hcs hss
            refine inv_statA C hcall hdg hq g1 g3 (by omega) c1 c2 c3 c5 hcal hP hD hS (by rw [hL.1]; exact hlen) (fun ad2 H1 locs1 a1 hP1 hD1 hS1 => ?_)
            have a2 : ∀ w ∈ ls ++ st.drop na, wv ad2 rd w = wv ad rd w := fun w hw => wv_in a1 (List.all_eq_true.mp c6 w hw)
            have key := (gx hnx (ih' _ _ _ _ _ _ hr hres)) ad2 H1 locs1 lsA (fun j hj => (a1 j (Nat.lt_of_lt_of_le hj hn0)).trans (hag j hj)) (Nat.le_trans hn0 (by omega)) hP1 hD1 hS1 (hL.oth (fun v hv => a2 v (List.mem_append_left _ hv))) hlen (by omega) (by omega)
            rw [map_v (List.map_congr_left fun v hv => a2 v (List.mem_append_right _ hv))] at key
            exact key
        · rename_i v h hcal
          split at hr
          · cases hr
          · rename_i hle
            intro ad H locs lsA hag hn0 hP hD hS hL hlen hcs hss
            refine inv_statA C hcall hdg hq g1 g3 (by omega) c1 c2 c3 c5 hcal hP hD hS (by rw [hL.1]; exact hlen) (fun ad2 H1 locs1 a1 hP1 hD1 hS1 => ?_)
            have a2 : ∀ w ∈ ls ++ st.drop na, wv ad2 rd w = wv ad rd w := fun w hw => wv_in a1 (List.all_eq_true.mp c6 w hw)
            have key := (gx hnx (ih' _ _ _ _ _ _ hr hres)) ad2 H1 locs1 lsA (fun j hj => (a1 j (Nat.lt_of_lt_of_le hj hn0)).trans (hag j hj)) (Nat.le_trans hn0 (by omega)) hP1 hD1 hS1 (hL.oth (fun v hv => a2 v (List.mem_append_left _ hv))) hlen (by omega) (by omega)
            rw [map_vD (List.map_congr_left fun v hv => a2 v (List.mem_append_right _ hv))] at key
            exact key
        · cases hr
    · replace h1 : (sysT.any (fun e => e.1 == eC ent && e.2.1 == ix && e.2.2.1 == 0) && decide (1 ≤ eF ent) && decide (8 + (nativeFrameWords "java/lang/System" "arraycopy" 5 + 11) ≤ eLo ent || (decide (0 < 2) && decide (21 ≤ eLo ent)))) = true := h1
      simp only [Bool.and_eq_true, Bool.or_eq_true, decide_eq_true_eq] at h1
      obtain ⟨⟨g1, g2⟩, g3⟩ := h1
      have w1 := sys_w (own := eC ent) (ix := ix) (q := 0) (by simpa only [Bool.and_eq_true] using g1)
      have g4 : 21 ≤ eLo ent := by
        rcases g3 with g3 | g3
        · have : (8 + (nativeFrameWords "java/lang/System" "arraycopy" 5 + 11)) = 26 := by decide +kernel
          omega
        · exact g3.2
      split at hr
      · rename_i y x st2
        split at hr
        · cases hr
        · rename_i hc
          intro ad H locs lsA hag hn0 hP hD hS hL hlen hcs hss
          refine va_mmax hx hb (by rw [hml]; exact (hL.1.trans hlen).symm) hown (hts _ w1) (hts _ (tbl_of sysP_ok.1.1 rfl)) (hts _ (tbl_of sysP_ok.1.2.1 rfl)) (hts _ (tbl_of sysP_ok.1.2.2.1 rfl)) (by omega) ?_ (by omega) (by omega) hdg ((gx hnx (ih' _ _ _ _ _ _ hr hres)) ad H locs lsA hag hn0 hP hD hS hL hlen hcs hss)
          rw [wv_sum]
          omega
      · cases hr
    · replace h1 : (sysT.any (fun e => e.1 == eC ent && e.2.1 == ix && e.2.2.1 == 1) && decide (1 ≤ eF ent) && decide (8 + (nativeFrameWords "java/lang/System" "arraycopy" 5 + 11) ≤ eLo ent || (decide (1 < 2) && decide (21 ≤ eLo ent)))) = true := h1
      simp only [Bool.and_eq_true, Bool.or_eq_true, decide_eq_true_eq] at h1
      obtain ⟨⟨g1, g2⟩, g3⟩ := h1
      have w1 := sys_w (own := eC ent) (ix := ix) (q := 1) (by simpa only [Bool.and_eq_true] using g1)
      have g4 : 21 ≤ eLo ent := by
        rcases g3 with g3 | g3
        · have : (8 + (nativeFrameWords "java/lang/System" "arraycopy" 5 + 11)) = 26 := by decide +kernel
          omega
        · exact g3.2
      split at hr
      · rename_i y x st2
        split at hr
        · cases hr
        · rename_i hc
          intro ad H locs lsA hag hn0 hP hD hS hL hlen hcs hss
          refine va_mmin hx hb (by rw [hml]; exact (hL.1.trans hlen).symm) hown (hts _ w1) (hts _ (tbl_of sysP_ok.1.2.2.2.1 rfl)) (hts _ (tbl_of sysP_ok.1.2.1 rfl)) (hts _ (tbl_of sysP_ok.1.2.2.2.2 rfl)) (by omega) ?_ (by omega) (by omega) hdg ((gx hnx (ih' _ _ _ _ _ _ hr hres)) ad H locs lsA hag hn0 hP hD hS hL hlen hcs hss)
          rw [wv_sum]
          omega
      · cases hr
    · replace h1 : (sysT.any (fun e => e.1 == eC ent && e.2.1 == ix && e.2.2.1 == 2) && decide (1 ≤ eF ent) && decide (8 + (nativeFrameWords "java/lang/System" "arraycopy" 5 + 11) ≤ eLo ent || (decide (2 < 2) && decide (21 ≤ eLo ent)))) = true := h1
      simp only [Bool.and_eq_true, Bool.or_eq_true, decide_eq_true_eq] at h1
      obtain ⟨⟨g1, g2⟩, g3⟩ := h1
      have w1 := sys_w (own := eC ent) (ix := ix) (q := 2) (by simpa only [Bool.and_eq_true] using g1)
      have g4 : 8 + (nativeFrameWords "java/lang/System" "arraycopy" 5 + 11) ≤ eLo ent := by
        rcases g3 with g3 | g3
        · exact g3
        · omega
      split at hr
      · rename_i n dp b sp a st2
        split at hr
        · rename_i t n0' f t' n1' g ha hb'
          split at hr
          · cases hr
          · rename_i hc
            have d1 : ¬ 8 < sw st2 := fun z => hc (Or.inl z)
            have d2 : ¬ sp < 0 := fun z => hc (Or.inr (Or.inl z))
            have d3 : ¬ dp < 0 := fun z => hc (Or.inr (Or.inr (Or.inl z)))
            have d4 : ¬ n < 0 := fun z => hc (Or.inr (Or.inr (Or.inr (Or.inl z))))
            have d5 : ¬ n0' < sp.toNatClampNeg + n.toNatClampNeg := fun z => hc (Or.inr (Or.inr (Or.inr (Or.inr (Or.inl z)))))
            have d6 : ¬ n1' < dp.toNatClampNeg + n.toNatClampNeg := fun z => hc (Or.inr (Or.inr (Or.inr (Or.inr (Or.inr (Or.inl z))))))
            have d7 : t = 0 := Classical.not_not.mp (fun z => hc (Or.inr (Or.inr (Or.inr (Or.inr (Or.inr (Or.inr (Or.inl z))))))))
            have d8 : t' = 0 := Classical.not_not.mp (fun z => hc (Or.inr (Or.inr (Or.inr (Or.inr (Or.inr (Or.inr (Or.inr z))))))))
            subst d7
            subst d8
            intro ad H locs lsA hag hn0 hP hD hS hL hlen hcs hss
            refine va_copyi (ty := .int) hx hb (by rw [hml]; exact (hL.1.trans hlen).symm) hown (hts _ w1) (hts _ (tbl_of sysP_ok.2.1.1 rfl)) (hts _ (tbl_of sysP_ok.2.1.2.1 rfl)) (hts _ (tbl_of sysP_ok.2.1.2.2 rfl)) hK hP hD hS a b 0 0 (ww_at ha) (ww_at hb') rfl rfl rfl d2 d3 d4 (by omega) (by omega) (fun i _ => rfl) (by omega) ?_ hdg (fun H1 locs1 hP1 hD1 hS1 => ?_)
            · rw [wv_sum]
              omega
            · have e1 : (ww cA ad rd hp).set b (ad b, .inl (cA 0, n1', .inl (va_cpy f g sp.toNatClampNeg dp.toNatClampNeg n.toNatClampNeg))) = ww cA ad rd (hp.set b (.inl (0, n1', va_cpy f g sp.toNatClampNeg dp.toNatClampNeg n.toNatClampNeg))) := by rw [ww_set]; rfl
              rw [e1] at hP1 hD1
              exact (gx hnx (ih' _ _ _ _ _ _ hr hres)) ad H1 locs1 lsA hag (by rw [List.length_set]; exact hn0) hP1 hD1 hS1 hL hlen hcs hss
        · cases hr
      · cases hr
    · cases hr
  case ireturn  =>
    replace hr : (match (generalizing := false) xs, st with
        | [t], [.int v] => if t = 0 ∨ v = 0 ∨ v = 1 then some (.inr (some (.int v), hp)) else none
        | _, _ => none) = some res := hr
    obtain ⟨hdg, hnx⟩ := dn h0 rfl
    split at hr
    · rename_i t v
      split at hr
      · rename_i hc
        cases hr
        intro ad H locs lsA hag hn0 hP hD hS hL hlen hcs hss
        refine (hret ad H locs lsA hp cs ss pc hag hn0 hP hD hS hcs hss).1 v hdg ?_ hres.symm
        replace h1 : ((decide ([t] = [0]) && decide (eR ent = some .int)) || (decide ([t] = [1]) && decide (eR ent = some .boolean))) = true := h1
        simp only [Bool.and_eq_true, Bool.or_eq_true, decide_eq_true_eq, List.cons.injEq, and_true] at h1
        rcases h1 with h1 | ⟨rfl, h1⟩
        · exact Or.inl h1.2
        · exact Or.inr ⟨h1, hc.resolve_left (by decide)⟩
      · cases hr
    · cases hr
  case return_  =>
    replace hr : (match (generalizing := false) st with
        | [] => some (.inr (none, hp))
        | _ => none) = some res := hr
    obtain ⟨hdg, hnx⟩ := dn h0 rfl
    split at hr
    · cases hr
      intro ad H locs lsA hag hn0 hP hD hS hL hlen hcs hss
      exact (hret ad H locs lsA hp cs ss pc hag hn0 hP hD hS hcs hss).2.1 hdg (of_decide_eq_true h1) hres.symm
    · cases hr
  all_goals (exfalso; replace hr : none = some res := hr; cases hr)
end BLK1
