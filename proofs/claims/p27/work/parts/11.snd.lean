
/-! THE SMALL MACHINE'S METHODS ARE SOUND -/
theorem lookup_mem {α β : Type} [BEq α] [LawfulBEq α] {a : α} {b : β} : ∀ {l : List (α × β)}, l.lookup a = some b → (a, b) ∈ l
  | [], h => by cases h
  | (c, d) :: r, h => by
    simp only [List.lookup] at h
    split at h
    · rename_i hc
      cases h
      have : a = c := by simpa using hc
      subst this
      exact List.mem_cons_self
    · exact List.mem_cons_of_mem _ (lookup_mem h)
section EXE
variable {p : Program} {l : Launch} {e : Env} {R : Room} {s : State} {m : MethodId} {args : Array Value} {below : List Frame} {meth : Method} {c : Code} {Q : State → Prop}
variable {ent : Ent} {D : va_G} {cA : Nat → ClassId} {rd : Int64 → Nat} {ro ro0 : RO} {A : Nat → Prop} {ad0 : Nat → Nat} {n0 : Nat}
theorem go_snd {r0 : Rs} {call : CL} {q : Nat} (hq : tM[q]? = some ent) (C : CX p R s m args meth c ent D cA rd ro ro0 A) (hcall : ∀ q a h r, call q a h = some r → MetOf l ro0 q a h r) (hret : RET p l e R s m args below meth c Q ent D cA rd A ad0 n0 r0) :
    ∀ (f pc : Nat) (ls st : List Value) (hp : List AE) (cs ss : Nat), go ro call q f pc ls st hp cs ss = some r0 → GG p l e R s m args below meth c Q ent D cA rd A ad0 n0 pc ls st hp cs ss
  | 0, _, _, _, _, _, _, h => by cases h
  | f + 1, pc, ls, st, hp, cs, ss, h => by
    simp only [go, stp, cod, hq] at h
    cases hb : (eBl ent).lookup pc with
    | none => rw [hb] at h; cases h
    | some b =>
      obtain ⟨ops, en⟩ := b
      rw [hb] at h
      have hm := lookup_mem hb
      have hc := List.all_eq_true.mp (chk_all ent (List.mem_of_getElem? hq)) _ hm
      simp only [Bool.and_eq_true, decide_eq_true_eq] at hc
      dsimp only at h
      cases hr : run ro call ops en ls st hp cs ss with
      | none => rw [hr] at h; cases h
      | some res =>
        rw [hr] at h
        refine gx hc.1 (run_snd C hcall hret ops en hc.2 ls st hp cs ss res hr ?_)
        match res, h with
        | .inl (pc', ls', st', hp', cs', ss'), h => exact go_snd hq C hcall hret f _ _ _ _ _ _ h
        | .inr r, h => cases h; exact rfl
theorem lv_args_mem {ad : Nat → Nat} : ∀ (vs : List Value) (hvs : ∀ v ∈ vs, isD v = false) (k i : Nat) (v : Value), vs[i]? = some v → (k + i, wv ad rd v) ∈ lv_args k (vs.map (wv ad rd))
  | [], _, k, i, v, h => by simp at h
  | w :: vs, hvs, k, i, v, h => by
    simp only [List.map_cons, lv_args, wv_cat ad rd (hvs w List.mem_cons_self)]
    rw [if_neg (by decide)]
    cases i with
    | zero => simp only [List.getElem?_cons_zero] at h; cases h; exact List.mem_cons_self
    | succ i =>
      simp only [List.getElem?_cons_succ] at h
      have := lv_args_mem (ad := ad) vs (fun v hv => hvs v (List.mem_cons_of_mem _ hv)) (k + 1) i v h
      rw [show k + (i + 1) = k + 1 + i by omega]
      exact List.mem_cons_of_mem _ this
theorem lg_len {ad : Nat → Nat} (vs : List Value) (hvs : ∀ v ∈ vs, isD v = false) : (lg_sl (vs.map (wv ad rd))).length = vs.length := by
  induction vs with
  | nil => rfl
  | cons v vs ih =>
    have ih := ih (fun v hv => hvs v (List.mem_cons_of_mem _ hv))
    simp only [List.map_cons, lg_sl, List.flatMap_cons, wv_cat ad rd (hvs v List.mem_cons_self)] at ih ⊢
    rw [if_neg (by decide)]
    simp only [List.length_append, List.length_cons, List.length_nil]
    omega
/-- the locals at a method's entry -/
theorem LH_entry {ad : Nat → Nat} {vs : List Value} {n : Nat} (h : vs.length ≤ n) (hvs : ∀ v ∈ vs, isD v = false) : LH ad rd ((lg_sl (vs.map (wv ad rd)) ++ List.replicate (n - (lg_sl (vs.map (wv ad rd))).length) Slot.unset).toArray) (vs ++ List.replicate (n - vs.length) .null) := by
  have hl := lv_entry (vs.map (wv ad rd)) (n := n) (by rw [lg_len vs hvs]; exact h)
  refine ⟨?_, hl.2.1, fun q hq => hl.2.2 q ?_⟩
  · rw [hl.1, List.length_append, List.length_replicate]
    omega
  · obtain ⟨v, h1, h2, h4, h3⟩ := mem_lvl.mp hq
    obtain ⟨i, w⟩ := q
    have h3 : w = wv ad rd v := h3
    have h1 : (vs ++ List.replicate (n - vs.length) Value.null)[i]? = some v := h1
    subst h3
    by_cases hi : i < vs.length
    · rw [List.getElem?_append_left hi] at h1
      have := lv_args_mem (rd := rd) (ad := ad) vs hvs 0 i v h1
      rw [Nat.zero_add] at this
      exact this
    · rw [List.getElem?_append_right (by omega), List.getElem?_replicate] at h1
      split at h1
      · cases h1
        exact absurd rfl h2
      · cases h1
theorem exec_snd (l : Launch) (ro0 : RO) : ∀ (d q : Nat) (a : List Value) (h : List AE) (r : Rs), exec ro0 d q a h = some r → MetOf l ro0 q a h r
  | 0, _, _, _, _, hr => by cases hr
  | d + 1, q, a, h, r, hr => by
    intro hql hnd ent hq D cA rd ad sz
    simp only [exec, hq] at hr
    split at hr
    · rename_i hal
      obtain ⟨f, hf⟩ := ev_go hr
      obtain ⟨w1, w2, w3, w4⟩ := ent_w hq
      refine Met.ofW (cc := eB ent) (maxL := eL ent) (ret := eR ent) w1 rfl ?_
      intro p e s m args below meth c s₁ B hml hv
      obtain ⟨rfl, hsz, hP, hK, hD0, hN, hO, hSt⟩ := hv
      subst hsz
      have hts := atoms_spec (ws := wsm ent) B.pre
      have hown : s.vm.findClass (eY ent).cls = some m.cls := findClass_of_methodNamed B.named
      rw [w4] at hown
      have C : CX p (headSpec (wsm ent) (rmm ent)).room s m (a.map (wv ad rd)).toArray meth c ent D cA rd ro0 ro0 (va_A (ww cA ad rd h) s.heap.size) :=
        ⟨⟨B.exec, B.bytes, hml, hown, fun w hw => hts w (List.mem_cons_of_mem _ hw)⟩, ⟨fun h => (name_of_methodNamed B.named B.method).1.trans h, hK, hN, hO, hSt⟩, ⟨fun _ _ => rfl, fun q hq => Or.inr hq⟩, Nat.le_refl _, Nat.le_refl _, Nat.le_refl _, Nat.le_refl _⟩
      have hret : RET p l e (headSpec (wsm ent) (rmm ent)).room s m (a.map (wv ad rd)).toArray below meth c (MQ below (PostB D cA rd (va_A (ww cA ad rd h) s.heap.size) ad h.length (r.1.map rvV) r.2) (a.map (wv ad rd)).toArray s (eMc ent) (eMs ent) (va_A (ww cA ad rd h) s.heap.size)) ent D cA rd (va_A (ww cA ad rd h) s.heap.size) ad h.length r := by
        intro ad1 H locs ls hp cs ss pc hag hn hP1 hD1 hS1 hcs hss
        refine ⟨fun v hdg hty hr0 => ?_, fun hdg hty hr0 => ?_, fun v hdg hty hr0 => ?_⟩
        · subst hr0
          refine W.widen hcs hss ?_
          rcases hty with hty | ⟨hty, hv⟩
          · exact W.zret (ty := .int) B.exec B.bytes (B.returns.trans hty) rfl (fun t ht hW => ⟨⟨rfl, ad1, hag, by rw [ht]; exact hP1, hD1⟩, hS1.F ht⟩) hS1.2.2 hdg B.notSynchronized
          · exact W.zret (ty := .boolean) B.exec B.bytes (B.returns.trans hty) (by rcases hv with rfl | rfl <;> rfl) (fun t ht hW => ⟨⟨rfl, ad1, hag, by rw [ht]; exact hP1, hD1⟩, hS1.F ht⟩) hS1.2.2 hdg B.notSynchronized
        · subst hr0
          refine W.widen hcs hss ?_
          exact W.vret B.exec B.bytes (B.returns.trans hty) (fun t ht hW => ⟨⟨rfl, ad1, hag, by rw [ht]; exact hP1, hD1⟩, hS1.F ht⟩) hS1.2.2 hdg B.notSynchronized
        · subst hr0
          refine W.widen hcs hss ?_
          exact W.lret B.exec B.bytes (B.returns.trans hty) (fun t ht hW => ⟨⟨rfl, ad1, hag, by rw [ht]; exact hP1, hD1⟩, hS1.F ht⟩) hS1.2.2 hdg B.notSynchronized
      have G := go_snd hq C (exec_snd l ro0 d) hret f 0 _ _ _ _ _ hf
      rw [lg_entry_eq]
      exact G ad s.heap [] _ (fun _ _ => rfl) (Nat.le_refl _) hP hD0.self va_S.rf (LH_entry hal hnd) (by rw [List.length_append, List.length_replicate]; omega) (Nat.zero_le _) (Nat.zero_le _)
    · cases hr
end EXE
