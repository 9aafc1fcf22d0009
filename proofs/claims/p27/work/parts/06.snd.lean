
/-! THE SMALL MACHINE IS SOUND: what it comes to, the real one comes to -/
theorem any_mem {α : Type} {l : List α} {p : α → Bool} (h : l.any p = true) : ∃ a, a ∈ l ∧ p a = true := List.any_eq_true.mp h
theorem fld_w {own ix ci f : Nat} (h : fldT.any (fun e => e.1 == own && e.2.1 == ix && e.2.2.1 == ci && e.2.2.2.1 == f) = true) : Jvm.Cond.fieldLink (RN own) ix (TX ci f).1 (TX ci f).2.1 (TX ci f).2.2.1 ∈ TBL ∧ ci < NCl ∧ f < NX ci := by
  obtain ⟨e, he, hp⟩ := any_mem h
  simp only [Bool.and_eq_true, beq_iff_eq] at hp
  obtain ⟨⟨⟨h1, h2⟩, h3⟩, h4⟩ := hp
  have h0 := List.all_eq_true.mp fld_ok e he
  simp only [Bool.and_eq_true, decide_eq_true_eq] at h0
  subst h1; subst h2; subst h3; subst h4
  exact ⟨tbl_of h0.1.1 rfl, h0.1.2, h0.2⟩
theorem mth_w {own ix q : Nat} (h : mthT.any (fun e => e.1 == own && e.2.1 == ix && e.2.2.1 == q) = true) : Jvm.Cond.methodLink (RN own) ix (yn q) ∈ TBL := by
  obtain ⟨e, he, hp⟩ := any_mem h
  simp only [Bool.and_eq_true, beq_iff_eq] at hp
  obtain ⟨⟨h1, h2⟩, h3⟩ := hp
  have h0 := List.all_eq_true.mp mth_ok e he
  simp only [decide_eq_true_eq] at h0
  subst h1; subst h2; subst h3
  exact tbl_of h0 rfl
theorem nst_w {own ix q : Nat} (h : nstT.any (fun e => e.1 == own && e.2.1 == ix && e.2.2.1 == q) = true) : ∃ e ∈ nstT, nstW e = Jvm.Cond.methodLinkNest (RN own) ix (yn q) hostOf := by
  obtain ⟨e, he, hp⟩ := any_mem h
  simp only [Bool.and_eq_true, beq_iff_eq] at hp
  obtain ⟨⟨h1, h2⟩, h3⟩ := hp
  subst h1; subst h2; subst h3
  exact ⟨e, he, rfl⟩
theorem cls_w {own ix q : Nat} (h : clsT.any (fun e => e.1 == own && e.2.1 == ix && e.2.2.1 == q) = true) : Jvm.Cond.classLink (RN own) ix (RN q) ∈ TBL := by
  obtain ⟨e, he, hp⟩ := any_mem h
  simp only [Bool.and_eq_true, beq_iff_eq] at hp
  obtain ⟨⟨h1, h2⟩, h3⟩ := hp
  have h0 := List.all_eq_true.mp cls_ok e he
  simp only [decide_eq_true_eq] at h0
  subst h1; subst h2; subst h3
  exact tbl_of h0 rfl
theorem sta_w {own ix q : Nat} (h : staT.any (fun e => e.1 == own && e.2.1 == ix && e.2.2.1 == q) = true) : Jvm.Cond.fieldLink (RN own) ix (stC q).1 (stC q).2 "[I" ∈ TBL := by
  obtain ⟨e, he, hp⟩ := any_mem h
  simp only [Bool.and_eq_true, beq_iff_eq] at hp
  obtain ⟨⟨h1, h2⟩, h3⟩ := hp
  have h0 := List.all_eq_true.mp sta_ok e he
  simp only [decide_eq_true_eq] at h0
  subst h1; subst h2; subst h3
  exact tbl_of h0 rfl
theorem con_w {own ix k : Nat} (h : conT.any (fun e => e.1 == own && e.2.1 == ix && e.2.2.1 == k) = true) : Jvm.Cond.constant (RN own) ix (nI k) ∈ TBL := by
  obtain ⟨e, he, hp⟩ := any_mem h
  simp only [Bool.and_eq_true, beq_iff_eq] at hp
  obtain ⟨⟨h1, h2⟩, h3⟩ := hp
  have h0 := List.all_eq_true.mp con_ok e he
  simp only [decide_eq_true_eq] at h0
  subst h1; subst h2; subst h3
  exact tbl_of h0 rfl
theorem col_w {own ix k : Nat} (h : colT.any (fun e => e.1 == own && e.2.1 == ix && e.2.2.1 == k) = true) : Jvm.Cond.constantLong (RN own) ix (Int64.ofNat k) ∈ TBL := by
  obtain ⟨e, he, hp⟩ := any_mem h
  simp only [Bool.and_eq_true, beq_iff_eq] at hp
  obtain ⟨⟨h1, h2⟩, h3⟩ := hp
  have h0 := List.all_eq_true.mp col_ok e he
  simp only [decide_eq_true_eq] at h0
  subst h1; subst h2; subst h3
  exact tbl_of h0 rfl
theorem obj_w {own ix : Nat} (h : objT.any (fun e => e.1 == own && e.2.1 == ix) = true) : Jvm.Cond.methodLink (RN own) ix Lib.objectInit ∈ TBL := by
  obtain ⟨e, he, hp⟩ := any_mem h
  simp only [Bool.and_eq_true, beq_iff_eq] at hp
  obtain ⟨h1, h2⟩ := hp
  have h0 := List.all_eq_true.mp obj_ok e he
  simp only [decide_eq_true_eq] at h0
  subst h1; subst h2
  exact tbl_of h0 rfl
theorem sys_w {own ix q : Nat} (h : sysT.any (fun e => e.1 == own && e.2.1 == ix && e.2.2.1 == q) = true) : Jvm.Cond.methodLink (RN own) ix (sysN q) ∈ TBL := by
  obtain ⟨e, he, hp⟩ := any_mem h
  simp only [Bool.and_eq_true, beq_iff_eq] at hp
  obtain ⟨⟨h1, h2⟩, h3⟩ := hp
  have h0 := List.all_eq_true.mp sys_ok e he
  simp only [decide_eq_true_eq] at h0
  subst h1; subst h2; subst h3
  exact tbl_of h0 rfl
theorem lay_w {c : Nat} (hc : c < NCl) : ∀ w ∈ u_ws (RN c) (TX c) (NX c), w ∈ TBL := by
  intro w hw
  obtain ⟨k, hk, rfl⟩ := List.mem_map.mp hw
  have h0 := List.all_eq_true.mp lay_ok c (List.mem_range.mpr hc)
  have h1 := List.all_eq_true.mp h0 k hk
  simp only [Bool.and_eq_true, decide_eq_true_eq] at h1
  exact tbl_of h1.1 h1.2
theorem ins_w {c : Nat} (hc : c < NCl) : Jvm.Cond.instantiable (RN c) (NX c) ∈ TBL ∧ Jvm.Cond.initialized (RN c) ∈ TBL := by
  have h0 := List.all_eq_true.mp ins_ok c (List.mem_range.mpr hc)
  simp only [Bool.and_eq_true, decide_eq_true_eq] at h0
  exact ⟨tbl_of h0.1 rfl, tbl_of h0.2 rfl⟩
theorem typ_w {c : Nat} (hc : c < NCl) : (∀ k, k < NX c → parseFieldDescriptor (TX c k).2.2.1 = some (tX c k)) ∧ ∀ a, a < NX c → ∀ b, b < NX c → a ≠ b → (TX c a).2.1 ≠ (TX c b).2.1 := by
  have h0 := List.all_eq_true.mp typ_ok c (List.mem_range.mpr hc)
  refine ⟨fun k hk => ?_, fun a ha b hb hab => ?_⟩
  · have h1 := List.all_eq_true.mp h0 k (List.mem_range.mpr hk)
    simp only [Bool.and_eq_true, decide_eq_true_eq] at h1
    exact h1.1
  · have h1 := List.all_eq_true.mp h0 a (List.mem_range.mpr ha)
    simp only [Bool.and_eq_true, decide_eq_true_eq] at h1
    have h2 := List.all_eq_true.mp h1.2 b (List.mem_range.mpr hb)
    simp only [Bool.or_eq_true, decide_eq_true_eq] at h2
    exact h2.resolve_left hab
theorem cl_at {c : Nat} (hc : c < NCl) : classes[c]? = some (RN c, TX c, NX c) := by
  unfold classes
  rw [List.getElem?_map, List.getElem?_range (show c < 7 from hc)]
  rfl
theorem met_w {q : Nat} {e : Ent} (h : tM[q]? = some e) (hq : q ≠ lawId) : Jvm.Cond.code (eY e) (eB e) (eL e) (eR e) ∈ TBL ∧ Jvm.Cond.initialized (eY e).cls ∈ TBL ∧ (eS e = true → Jvm.Cond.static (eY e) ∈ TBL) ∧ (eS e = false → Jvm.Cond.instanceMethod (eY e) ∈ TBL ∧ ((eY e).name ≠ "<init>" → Jvm.Cond.selects (eY e).cls (eY e) (eY e) ∈ TBL)) := by
  have hl : q < tM.length := (List.getElem?_eq_some_iff.mp h).1
  have h0 := List.all_eq_true.mp met_all q (List.mem_range.mpr hl)
  simp only [Bool.or_eq_true, decide_eq_true_eq] at h0
  obtain ⟨x, hx, hxq⟩ := any_mem (h0.resolve_left hq)
  have hxq : x.1 = q := by simpa using hxq
  have h1 := List.all_eq_true.mp met_ok x hx
  simp only [metW, hxq, h, Bool.and_eq_true, decide_eq_true_eq] at h1
  obtain ⟨k, hk⟩ := List.getElem?_of_mem hx
  have h2 := congrArg (fun l => l[k]?) met_code
  simp only [List.getElem?_map, hk, Option.map_some, Option.some.injEq] at h2
  rw [hxq] at h2
  simp only [codW, h] at h2
  refine ⟨tbl_of h2 rfl, tbl_of h1.1 rfl, fun hs => ?_, fun hs => ?_⟩
  · rw [if_pos hs] at h1
    exact tbl_of (by simpa using h1.2) rfl
  · rw [if_neg (by rw [hs]; exact Bool.false_ne_true)] at h1
    have h3 := h1.2
    simp only [Bool.and_eq_true, Bool.or_eq_true, decide_eq_true_eq] at h3
    exact ⟨tbl_of h3.1 rfl, fun hn => tbl_of (h3.2.resolve_left hn) rfl⟩
theorem ent_w {q : Nat} {e : Ent} (h : tM[q]? = some e) : plainName (eY e).cls = true ∧ ((eY e).cls ≠ "java/lang/invoke/MethodHandle" ∧ (eY e).cls ≠ "java/lang/invoke/VarHandle") ∧ (∀ sig, parseMethodDescriptor (eY e).desc = some sig → eN e = sig.parameters.length) ∧ (eY e).cls = RN (eC e) := by
  have h0 := List.all_eq_true.mp ent_ok e (List.mem_of_getElem? h)
  simp only [entW, Bool.and_eq_true, decide_eq_true_eq] at h0
  obtain ⟨⟨⟨⟨h1, h2⟩, h3⟩, h4⟩, h5⟩ := h0
  refine ⟨h1, ⟨h2, h3⟩, fun sig hs => ?_, h5⟩
  rw [hs] at h4
  exact (Option.some.inj h4).symm
-- what the cells stand for
def wv (ad : Nat → Nat) (rd : Int64 → Nat) : Value → Value
  | .int x => .int x
  | .ref j => .ref (ad j)
  | .long a => .ref (rd a)
  | .double u => .long u.toInt64
  | _ => .null
def wq (ad : Nat → Nat) : Value → Option Nat
  | .ref j => some (ad j)
  | _ => none
def we (cA : Nat → ClassId) (ad : Nat → Nat) (rd : Int64 → Nat) : AE → va_E
  | .inl (t, n, f) => .inl (cA t, n, .inl f)
  | .inr (c, vs) => if c = NCl then .inl (cA 2, vs.length, .inr (.inr (.inr (.inr (fun k => (vs[k]?).bind (wq ad)))))) else .inr (c, vs.map (wv ad rd))
def ww (cA : Nat → ClassId) (ad : Nat → Nat) (rd : Int64 → Nat) (hp : List AE) : va_W := hp.mapIdx (fun i x => (ad i, we cA ad rd x))
def tys3 (cA : Nat → ClassId) : List (ClassId × FieldType) := [(cA 0, .int), (cA 1, .char), (cA 2, .object (RN ARC))]
theorem ww_at {cA : Nat → ClassId} {ad : Nat → Nat} {rd : Int64 → Nat} {hp : List AE} {j : Nat} {x : AE} (h : hp[j]? = some x) : (ww cA ad rd hp)[j]? = some (ad j, we cA ad rd x) := by
  simp only [ww, List.getElem?_mapIdx, h, Option.map_some]
theorem ww_set {cA : Nat → ClassId} {ad : Nat → Nat} {rd : Int64 → Nat} {hp : List AE} {j : Nat} {x : AE} : ww cA ad rd (hp.set j x) = (ww cA ad rd hp).set j (ad j, we cA ad rd x) := by
  simp only [ww, List.mapIdx_set]
theorem ww_len {cA : Nat → ClassId} {ad : Nat → Nat} {rd : Int64 → Nat} {hp : List AE} : (ww cA ad rd hp).length = hp.length := by
  simp only [ww, List.length_mapIdx]
theorem wv_cat (ad : Nat → Nat) (rd : Int64 → Nat) {v : Value} (h : isD v = false) : (wv ad rd v).category = 1 := by
  cases v <;> first | rfl | cases h
def rvV : Value → Value
  | .double u => .long u.toInt64
  | v => v
theorem wv_sum (ad : Nat → Nat) (rd : Int64 → Nat) : ∀ st : List Value, ((st.map (wv ad rd)).map fun v => v.category).sum = sw st
  | [] => rfl
  | v :: st => by
    have ih := wv_sum ad rd st
    rw [List.map_cons, List.map_cons, List.sum_cons, ih]
    cases v <;> exact Nat.add_comm _ _
def lvl (ad : Nat → Nat) (rd : Int64 → Nat) (L : List Value) : List (Nat × Value) := (L.mapIdx (fun i v => (i, v))).filterMap (fun q => if q.2 = .null ∨ (isD q.2 = true ∧ L[q.1 + 1]? ≠ some .null) then none else some (q.1, wv ad rd q.2))
theorem mem_lvl {ad : Nat → Nat} {rd : Int64 → Nat} {L : List Value} {q : Nat × Value} : q ∈ lvl ad rd L ↔ ∃ v, L[q.1]? = some v ∧ v ≠ .null ∧ (isD v = true → L[q.1 + 1]? = some .null) ∧ q.2 = wv ad rd v := by
  obtain ⟨i, w⟩ := q
  simp only [lvl, List.mem_filterMap, List.mem_mapIdx]
  constructor
  · rintro ⟨⟨a, v⟩, ⟨j, hj, e⟩, h⟩
    cases e
    dsimp only at h
    split at h
    · cases h
    · rename_i hc
      cases h
      exact ⟨_, List.getElem?_eq_getElem hj, fun z => hc (Or.inl z), fun z => Classical.not_not.mp (fun y => hc (Or.inr ⟨z, y⟩)), rfl⟩
  · rintro ⟨v, h1, h2, h3, h4⟩
    obtain ⟨hl, he⟩ := List.getElem?_eq_some_iff.mp h1
    refine ⟨(i, v), ⟨i, hl, by rw [he]⟩, ?_⟩
    dsimp only at h3 h4 ⊢
    rw [if_neg, h4]
    rintro (z | ⟨z1, z2⟩)
    · exact h2 z
    · exact z2 (h3 z1)
def LH (ad : Nat → Nat) (rd : Int64 → Nat) (ls : Array Slot) (L : List Value) : Prop := lv_has ls L.length (lvl ad rd L)
theorem LH.get {ad : Nat → Nat} {rd : Int64 → Nat} {ls : Array Slot} {L : List Value} (h : LH ad rd ls L) {i : Nat} {v : Value} (hv : L[i]? = some v) (hn : v ≠ .null) (hd : isD v = false) : ls[i]? = some (.val (wv ad rd v)) := h.2.2 (i, wv ad rd v) (mem_lvl.mpr ⟨v, hv, hn, fun z => (by rw [hd] at z; cases z), rfl⟩)
theorem LH.getd {ad : Nat → Nat} {rd : Int64 → Nat} {ls : Array Slot} {L : List Value} (h : LH ad rd ls L) {i : Nat} {x : UInt64} (hv : L[i]? = some (.double x)) (hn : L[i + 1]? = some .null) : ls[i]? = some (.val (.long x.toInt64)) := h.2.2 (i, .long x.toInt64) (mem_lvl.mpr ⟨.double x, hv, (by intro z; cases z), fun _ => hn, rfl⟩)
theorem LH.set {ad : Nat → Nat} {rd : Int64 → Nat} {ls : Array Slot} {L : List Value} {i : Nat} {v : Value} {l : List (Nat × Value)} (hi : i < L.length) (hv : v ≠ .null) (hl : l = (i, wv ad rd v) :: (lvl ad rd L).filter (fun q => !(q.1 == i) && !(q.1 + 1 == i && q.2.category == 2))) (h : lv_has ls L.length l) : LH ad rd ls (L.set i v) := by
  refine ⟨by rw [List.length_set]; exact h.1, h.2.1, fun q hq => h.2.2 q ?_⟩
  subst hl
  obtain ⟨w, h1, h2, h3, h4⟩ := mem_lvl.mp hq
  rw [List.getElem?_set] at h1 h3
  obtain ⟨a, b⟩ := q
  dsimp only at h1 h3 h4
  by_cases hai : i = a
  · rw [if_pos hai, if_pos (by omega)] at h1
    cases h1
    subst hai; subst h4
    exact List.mem_cons_self
  · rw [if_neg hai] at h1
    have h5 : isD w = true → L[a + 1]? = some .null ∧ i ≠ a + 1 := by
      intro z
      have h6 := h3 z
      by_cases hb : i = a + 1
      · rw [if_pos hb, if_pos (by omega)] at h6
        cases h6
        exact absurd rfl hv
      · rw [if_neg hb] at h6
        exact ⟨h6, hb⟩
    refine List.mem_cons_of_mem _ (List.mem_filter.mpr ⟨mem_lvl.mpr ⟨w, h1, h2, fun z => (h5 z).1, h4⟩, ?_⟩)
    subst h4
    cases hd : isD w with
    | true =>
      have h6 := (h5 hd).2
      have e1 : (a == i) = false := beq_eq_false_iff_ne.mpr (fun z => hai z.symm)
      have e2 : (a + 1 == i) = false := beq_eq_false_iff_ne.mpr (fun z => h6 z.symm)
      show (!(a == i) && !(a + 1 == i && _)) = true
      rw [e1, e2]
      rfl
    | false =>
      simp only [wv_cat ad rd hd]
      simp
      exact fun z => hai z.symm
theorem LH.setd {ad : Nat → Nat} {rd : Int64 → Nat} {ls : Array Slot} {L : List Value} {i : Nat} {x : UInt64} {l : List (Nat × Value)} (hi : i + 1 < L.length) (hl : l = (i, Value.long x.toInt64) :: (lvl ad rd L).filter (fun q => !(q.1 == i) && (!(q.1 == i + 1) && !(q.1 + 1 == i && q.2.category == 2)))) (h : lv_has ls L.length l) : LH ad rd ls ((L.set i (.double x)).set (i + 1) .null) := by
  refine ⟨by rw [List.length_set, List.length_set]; exact h.1, h.2.1, fun q hq => h.2.2 q ?_⟩
  subst hl
  obtain ⟨w, h1, h2, h3, h4⟩ := mem_lvl.mp hq
  have hg : ∀ k : Nat, ((L.set i (.double x)).set (i + 1) .null)[k]? = if k = i + 1 then some .null else if k = i then some (.double x) else L[k]? := by
    intro k
    rw [List.getElem?_set, List.getElem?_set, List.length_set]
    by_cases hk : k = i + 1
    · subst hk
      rw [if_pos rfl, if_pos hi, if_pos rfl]
    · rw [if_neg (fun z => hk z.symm), if_neg hk]
      by_cases hk2 : k = i
      · subst hk2
        rw [if_pos rfl, if_pos (by omega), if_pos rfl]
      · rw [if_neg (fun z => hk2 z.symm), if_neg hk2]
  rw [hg] at h1 h3
  obtain ⟨a, b⟩ := q
  dsimp only at h1 h3 h4
  by_cases ha1 : a = i + 1
  · rw [if_pos ha1] at h1
    cases h1
    exact absurd rfl h2
  · rw [if_neg ha1] at h1
    by_cases ha : a = i
    · rw [if_pos ha] at h1
      cases h1
      subst ha; subst h4
      exact List.mem_cons_self
    · rw [if_neg ha] at h1
      have h5 : isD w = true → L[a + 1]? = some .null ∧ a + 1 ≠ i := by
        intro z
        have h6 := h3 z
        rw [if_neg (by omega)] at h6
        by_cases hb : a + 1 = i
        · rw [if_pos hb] at h6
          cases h6
        · rw [if_neg hb] at h6
          exact ⟨h6, hb⟩
      refine List.mem_cons_of_mem _ (List.mem_filter.mpr ⟨mem_lvl.mpr ⟨w, h1, h2, fun z => (h5 z).1, h4⟩, ?_⟩)
      subst h4
      cases hd : isD w with
      | true =>
        have h6 := (h5 hd).2
        have e1 : (a == i) = false := beq_eq_false_iff_ne.mpr ha
        have e2 : (a + 1 == i) = false := beq_eq_false_iff_ne.mpr h6
        have e3 : (a == i + 1) = false := beq_eq_false_iff_ne.mpr ha1
        show (!(a == i) && (!(a == i + 1) && !(a + 1 == i && _))) = true
        rw [e1, e2, e3]
        rfl
      | false =>
        simp only [wv_cat ad rd hd]
        simp
        exact ⟨ha, ha1⟩
theorem wv_in {ad ad' : Nat → Nat} {rd : Int64 → Nat} {n : Nat} (h : ∀ j, j < n → ad' j = ad j) {v : Value} (hv : clV n v = true) : wv ad' rd v = wv ad rd v := by
  cases v with
  | ref j => simp only [clV, decide_eq_true_eq] at hv; simp only [wv, h j hv]
  | _ => rfl
theorem we_in {cA : Nat → ClassId} {ad ad' : Nat → Nat} {rd : Int64 → Nat} {n : Nat} (h : ∀ j, j < n → ad' j = ad j) {x : AE} (hx : clE n x = true) : we cA ad' rd x = we cA ad rd x := by
  cases x with
  | inl y => rfl
  | inr y =>
    obtain ⟨c, vs⟩ := y
    simp only [clE, List.all_eq_true] at hx
    simp only [we]
    split
    · refine congrArg (fun g => (Sum.inl (cA 2, vs.length, Sum.inr (Sum.inr (Sum.inr (Sum.inr g)))) : va_E)) (funext fun k => ?_)
      cases hk : vs[k]? with
      | none => rfl
      | some v =>
        have := hx v (List.mem_of_getElem? hk)
        cases v with
        | ref j => simp only [clV, decide_eq_true_eq] at this; simp only [Option.bind_some, wq, h j this]
        | _ => rfl
    · congr 2
      exact List.map_congr_left fun v hv => wv_in h (hx v hv)
theorem ww_in {cA : Nat → ClassId} {ad ad' : Nat → Nat} {rd : Int64 → Nat} {hp : List AE} (h : ∀ j, j < hp.length → ad' j = ad j) (hx : ∀ x ∈ hp, clE hp.length x = true) : ww cA ad' rd hp = ww cA ad rd hp := by
  refine List.ext_getElem? fun i => ?_
  cases hi : hp[i]? with
  | none => simp only [ww, List.getElem?_mapIdx, hi, Option.map_none]
  | some x =>
    rw [ww_at hi, ww_at hi, h i (List.getElem?_eq_some_iff.mp hi).1, we_in h (hx x (List.mem_of_getElem? hi))]
