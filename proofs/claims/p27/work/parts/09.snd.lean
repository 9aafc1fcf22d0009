
/-! A CALL IS SOUND -/
theorem cal_inv {call : CL} {q n1 n2 : Nat} {av oth : List Value} {hp : List AE} {v : Option Value} {h' : List AE} (h : cal call q n1 n2 av oth hp = some (v, h')) :
    (rf0 av + n1 ≤ hp.length ∧ rf1 av + n2 ≤ hp.length ∧ (rf0 av + n1 ≤ rf1 av ∨ rf1 av + n2 ≤ rf0 av ∨ n2 = 0)) ∧ ∃ (a : List Value) (g qh : List AE), unL (rf0 av) n1 (rf1 av) n2 av = some a ∧ unH (rf0 av) n1 (rf1 av) n2 ((hp.drop (rf0 av)).take n1 ++ (hp.drop (rf1 av)).take n2) = some g ∧ call q a g = some (v, qh) ∧
      (n1 + n2 ≤ qh.length ∧ qh.all (clE qh.length) = true ∧ (qh.length = n1 + n2 ∨ clo hp.length oth hp = true)) ∧
      h' = spl (rf1 av) n2 (((qh.map (glE (rf0 av) n1 (rf1 av) n2 hp.length)).drop n1).take n2) (spl (rf0 av) n1 ((qh.map (glE (rf0 av) n1 (rf1 av) n2 hp.length)).take n1) hp) ++ (qh.map (glE (rf0 av) n1 (rf1 av) n2 hp.length)).drop (n1 + n2) := by
  unfold cal at h
  split at h
  · rename_i hc
    refine ⟨hc, ?_⟩
    cases ha : unL (rf0 av) n1 (rf1 av) n2 av with
    | none => rw [ha] at h; cases h
    | some a =>
      cases hg : unH (rf0 av) n1 (rf1 av) n2 ((hp.drop (rf0 av)).take n1 ++ (hp.drop (rf1 av)).take n2) with
      | none => rw [ha, hg] at h; cases h
      | some g =>
        rw [ha, hg] at h
        dsimp only at h
        cases hq : call q a g with
        | none => rw [hq] at h; cases h
        | some x =>
          obtain ⟨v', qh⟩ := x
          rw [hq] at h
          dsimp only at h
          split at h
          · rename_i hc2
            cases h
            exact ⟨a, g, qh, rfl, rfl, hq, hc2, rfl⟩
          · cases h
  · cases h
section CALS
variable {p : Program} {l : Launch} {e : Env} {R : Room} {s : State} {m : MethodId} {args : Array Value} {below : List Frame} {meth : Method} {c : Code} {Q : State → Prop}
variable {ent : Ent} {D : va_G} {cA : Nat → ClassId} {rd : Int64 → Nat} {ro ro0 : RO} {A : Nat → Prop} {ad0 : Nat → Nat} {n0 : Nat}
theorem Sta.sub {ro' : RO} {A' : Nat → Prop} {U : State} {H : Heap} (h : Sta rd ro A s s.heap) (hr : ∀ a, ((ro' a).1 ≠ 0 ∨ (ro' a).2 0 = 7) → ro a = ro' a) (hvm : s.vm.Alike U.vm) (hH : ∀ q : Nat, q < s.heap.size → ¬ A q → H[q]? = s.heap[q]?) (hA : ∀ q, A' q → A q) : Sta rd ro' A' U H := by
  refine ⟨⟨va_Z.moved hvm ((h.1.1.kept hH).narrow hA), va_Z.moved hvm ((h.1.2.kept hH).narrow hA)⟩, fun a ha => ?_⟩
  have he := hr a ha
  have h2 := h.2 a (by rw [he]; exact ha)
  rw [he] at h2
  exact va_T.moved hvm ((h2.kept hH).narrow hA)
theorem nestW.moved {U : State} (hW : s.WarmedH U.vm) (h : nestW s) : nestW U := fun x hx => va_Nw.warmM hW (h x hx)
/-- the callee's start, out of the caller's state -/
theorem pre_call (C : CX p R s m args meth c ent D cA rd ro ro0 A) {ad : Nat → Nat} {hp g : List AE} {H : Heap} {locs : List Loc} {s1 n1 s2 n2 : Nat} (h1 : s1 + n1 ≤ hp.length) (h2 : s2 + n2 ≤ hp.length) (hd : s1 + n1 ≤ s2 ∨ s2 + n2 ≤ s1 ∨ n2 = 0)
    (hu : unH s1 n1 s2 n2 ((hp.drop s1).take n1 ++ (hp.drop s2).take n2) = some g) (hP : va_P D classes (ww cA ad rd hp) H) (hD : va_D A (ww cA ad rd hp)) (hS : va_S A s.heap H locs) :
    (∀ q, va_A (ww cA (fun k => ad (gk s1 n1 s2 k)) rd g) H.size q → A q) ∧ ∀ U : State, U.heap = H → s.WarmedH U.vm → PreB D cA rd ro0 (fun k => ad (gk s1 n1 s2 k)) g H.size U := by
  obtain ⟨⟨hx, hb, hml, hown, hts⟩, ⟨hnm, hK, hN, hO, hSt⟩, ⟨hro, hA⟩, hF⟩ := C
  obtain ⟨lg, hsub⟩ := sub_ww (cA := cA) (ad := ad) (rd := rd) h1 h2 hu
  have hin : ∀ q, va_A (ww cA (fun k => ad (gk s1 n1 s2 k)) rd g) H.size q → A q := by
    intro q hq
    rcases hq with ⟨k, x, hk⟩ | hq
    · have hk' : k < n1 + n2 := by rw [← lg, ← ww_len (cA := cA) (ad := fun k => ad (gk s1 n1 s2 k)) (rd := rd)]; exact (List.getElem?_eq_some_iff.mp hk).1
      obtain ⟨y, y1, y2⟩ := hsub k hk'
      rw [hk] at y2
      cases y2
      exact hD.2 _ _ y1
    · exact hA q (Nat.le_trans hS.1 hq)
  refine ⟨hin, fun U hU hW => ?_⟩
  subst hU
  refine ⟨rfl, fun k q hk => ?_, va_K.moved hW.alike hK, ⟨fun i j x y hi hj hxy => ?_, fun _ _ _ => trivial⟩, hN.moved hW, va_AO.moved hW.alike hO, hSt.sub hro hW.alike hS.2.1 hin⟩
  · have hk' : k < n1 + n2 := by rw [← lg, ← ww_len (cA := cA) (ad := fun k => ad (gk s1 n1 s2 k)) (rd := rd)]; exact (List.getElem?_eq_some_iff.mp hk).1
    obtain ⟨y, y1, y2⟩ := hsub k hk'
    rw [hk] at y2
    cases y2
    exact hP _ _ y1
  · have hi' : i < n1 + n2 := by rw [← lg, ← ww_len (cA := cA) (ad := fun k => ad (gk s1 n1 s2 k)) (rd := rd)]; exact (List.getElem?_eq_some_iff.mp hi).1
    have hj' : j < n1 + n2 := by rw [← lg, ← ww_len (cA := cA) (ad := fun k => ad (gk s1 n1 s2 k)) (rd := rd)]; exact (List.getElem?_eq_some_iff.mp hj).1
    obtain ⟨y, y1, y2⟩ := hsub i hi'
    obtain ⟨z, z1, z2⟩ := hsub j hj'
    rw [hi] at y2; cases y2
    rw [hj] at z2; cases z2
    exact gk_inj hd hi' hj' (hD.1 _ _ _ _ y1 z1 hxy)
/-- the caller's cells, out of the callee's end -/
theorem post_call {ad ad1 : Nat → Nat} {hp g q : List AE} {oth : List Value} {H H1 : Heap} {s1 n1 s2 n2 : Nat} (h1 : s1 + n1 ≤ hp.length) (h2 : s2 + n2 ≤ hp.length) (hd : s1 + n1 ≤ s2 ∨ s2 + n2 ≤ s1 ∨ n2 = 0)
    (hu : unH s1 n1 s2 n2 ((hp.drop s1).take n1 ++ (hp.drop s2).take n2) = some g) (hP : va_P D classes (ww cA ad rd hp) H) (hD : va_D A (ww cA ad rd hp))
    (hin : ∀ x, va_A (ww cA (fun k => ad (gk s1 n1 s2 k)) rd g) H.size x → A x)
    (hq : n1 + n2 ≤ q.length ∧ q.all (clE q.length) = true ∧ (q.length = n1 + n2 ∨ clo hp.length oth hp = true))
    (hag : ∀ j, j < n1 + n2 → ad1 j = ad (gk s1 n1 s2 j)) (hP1 : va_P D classes (ww cA ad1 rd q) H1) (hD1 : va_D (va_A (ww cA (fun k => ad (gk s1 n1 s2 k)) rd g) H.size) (ww cA ad1 rd q))
    (hk : ∀ x : Nat, x < H.size → ¬ va_A (ww cA (fun k => ad (gk s1 n1 s2 k)) rd g) H.size x → H1[x]? = H[x]?) :
    ∃ adN : Nat → Nat, (∀ j, j < hp.length → adN j = ad j) ∧ (∀ w ∈ oth, wv adN rd w = wv ad rd w) ∧
      va_P D classes (ww cA adN rd (spl s2 n2 (((q.map (glE s1 n1 s2 n2 hp.length)).drop n1).take n2) (spl s1 n1 ((q.map (glE s1 n1 s2 n2 hp.length)).take n1) hp) ++ (q.map (glE s1 n1 s2 n2 hp.length)).drop (n1 + n2))) H1 ∧
      va_D A (ww cA adN rd (spl s2 n2 (((q.map (glE s1 n1 s2 n2 hp.length)).drop n1).take n2) (spl s1 n1 ((q.map (glE s1 n1 s2 n2 hp.length)).take n1) hp) ++ (q.map (glE s1 n1 s2 n2 hp.length)).drop (n1 + n2))) := by
  obtain ⟨lg, hsub⟩ := sub_ww (cA := cA) (ad := ad) (rd := rd) h1 h2 hu
  obtain ⟨hq1, hq2, hq3⟩ := hq
  obtain ⟨adN, hN1, hN2, hN3⟩ : ∃ adN : Nat → Nat, (∀ j, j < hp.length → adN j = ad j) ∧ (∀ k, k < q.length → adN (gl s1 n1 s2 n2 hp.length k) = ad1 k) ∧ ((∀ w ∈ oth, wv adN rd w = wv ad rd w) ∧ ∀ x ∈ hp, we cA adN rd x = we cA ad rd x) := by
    have hgl : ∀ k, k < n1 + n2 → gl s1 n1 s2 n2 hp.length k = gk s1 n1 s2 k := fun k hk' => by
      unfold gl gk
      split
      · rfl
      · first | rfl | rw [if_pos hk']
    have hgb : ∀ k, k < n1 + n2 → gk s1 n1 s2 k < hp.length := fun k hk' => by unfold gk; split <;> omega
    rcases hq3 with hq3 | hq3
    · exact ⟨ad, fun _ _ => rfl, fun k hk' => by rw [hgl k (by omega)]; exact (hag k (by omega)).symm, fun _ _ => rfl, fun _ _ => rfl⟩
    · refine ⟨fun i => if i < hp.length then ad i else ad1 (n1 + n2 + (i - hp.length)), fun j hj => if_pos hj, fun k hk' => ?_, ?_⟩
      · by_cases hkk : k < n1 + n2
        · dsimp only
          rw [hgl k hkk, if_pos (hgb k hkk)]
          exact (hag k hkk).symm
        · have e : gl s1 n1 s2 n2 hp.length k = hp.length + (k - (n1 + n2)) := by
            unfold gl
            rw [if_neg (by omega), if_neg hkk]
          dsimp only
          rw [e, if_neg (by omega)]
          congr 1
          omega
      · simp only [clo, Bool.and_eq_true, List.all_eq_true] at hq3
        exact ⟨fun w hw => wv_in (fun j hj => if_pos hj) (hq3.1 w hw), fun x hx => we_in (fun j hj => if_pos hj) (hq3.2 x hx)⟩
  have hqc : ∀ x ∈ q, clE q.length x = true := List.all_eq_true.mp hq2
  obtain ⟨b1, b2, b3, b4⟩ := back_at (q := q.map (glE s1 n1 s2 n2 hp.length)) h1 h2 hd (by rw [List.length_map]; exact hq1)
  generalize hQ : spl s2 n2 (((q.map (glE s1 n1 s2 n2 hp.length)).drop n1).take n2) (spl s1 n1 ((q.map (glE s1 n1 s2 n2 hp.length)).take n1) hp) ++ (q.map (glE s1 n1 s2 n2 hp.length)).drop (n1 + n2) = hN at b1 b2 b3 b4 ⊢
  rw [List.length_map] at b1
  -- each cell of the new world: the callee's, or an old one outside it
  have key : ∀ (i : Nat) (x : Nat × va_E), (ww cA adN rd hN)[i]? = some x → (∃ k, k < q.length ∧ i = gl s1 n1 s2 n2 hp.length k ∧ (ww cA ad1 rd q)[k]? = some x) ∨ (i < hp.length ∧ (∀ k, k < n1 + n2 → gk s1 n1 s2 k ≠ i) ∧ (ww cA ad rd hp)[i]? = some x) := by
    intro i x hx
    have hi : i < hN.length := by rw [← ww_len (cA := cA) (ad := adN) (rd := rd)]; exact (List.getElem?_eq_some_iff.mp hx).1
    have fromq : ∀ k, k < q.length → gl s1 n1 s2 n2 hp.length k = i → hN[i]? = (q.map (glE s1 n1 s2 n2 hp.length))[k]? → (ww cA ad1 rd q)[k]? = some x := by
      intro k hk' hgl he
      have hqk : q[k]? = some q[k] := List.getElem?_eq_getElem hk'
      generalize q[k] = y at hqk
      rw [List.getElem?_map, hqk] at he
      rw [ww_at he] at hx
      cases hx
      rw [ww_at hqk, glE_w (ad1 := ad1) hN2 (hqc y (List.mem_of_getElem? hqk)), ← hgl, hN2 k hk']
    by_cases hil : i < hp.length
    · by_cases hex : ∃ k, k < n1 + n2 ∧ gk s1 n1 s2 k = i
      · obtain ⟨k, hk1, hk2⟩ := hex
        have hgl : gl s1 n1 s2 n2 hp.length k = i := by
          rw [← hk2]
          unfold gl gk
          split
          · rfl
          · first | rfl | rw [if_pos hk1]
        exact Or.inl ⟨k, by omega, hgl.symm, fromq k (by omega) hgl (by rw [← hk2]; exact b2 k hk1)⟩
      · have hno : ∀ k, k < n1 + n2 → gk s1 n1 s2 k ≠ i := fun k hk1 hk2 => hex ⟨k, hk1, hk2⟩
        refine Or.inr ⟨hil, hno, ?_⟩
        have he := b3 i hil hno
        have hpi : hp[i]? = some hp[i] := List.getElem?_eq_getElem hil
        generalize hp[i] = y at hpi
        rw [hpi] at he
        rw [ww_at he] at hx
        cases hx
        rw [ww_at hpi, hN1 i hil, hN3.2 y (List.mem_of_getElem? hpi)]
    · have hgl : gl s1 n1 s2 n2 hp.length (n1 + n2 + (i - hp.length)) = i := by
        unfold gl
        rw [if_neg (by omega), if_neg (by omega)]
        omega
      refine Or.inl ⟨n1 + n2 + (i - hp.length), by omega, hgl.symm, fromq _ (by omega) hgl ?_⟩
      have := b4 (i - hp.length)
      rw [show hp.length + (i - hp.length) = i by omega] at this
      exact this
  -- an old cell outside the callee's world isn't the callee's
  have apart : ∀ (i : Nat) (x : Nat × va_E), i < hp.length → (∀ k, k < n1 + n2 → gk s1 n1 s2 k ≠ i) → (ww cA ad rd hp)[i]? = some x → x.1 < H.size ∧ ¬ va_A (ww cA (fun k => ad (gk s1 n1 s2 k)) rd g) H.size x.1 := by
    intro i x hi hno hx
    have hl := (hP i x hx).lt
    refine ⟨hl, fun h => ?_⟩
    rcases h with ⟨k, y, hy⟩ | h
    · have hk' : k < n1 + n2 := by rw [← lg, ← ww_len (cA := cA) (ad := fun k => ad (gk s1 n1 s2 k)) (rd := rd)]; exact (List.getElem?_eq_some_iff.mp hy).1
      obtain ⟨z, z1, z2⟩ := hsub k hk'
      rw [hy] at z2
      cases z2
      exact hno k hk' (hD.1 _ _ _ _ z1 hx rfl)
    · omega
  refine ⟨adN, hN1, hN3.1, fun i x hx => ?_, fun i j x y hi hj hxy => ?_, fun i x hx => ?_⟩
  · rcases key i x hx with ⟨k, -, -, hk2⟩ | ⟨k1, k2, k3⟩
    · exact hP1 k x hk2
    · obtain ⟨a1, a2⟩ := apart i x k1 k2 k3
      exact (hP i x k3).kept (hk x.1 a1 a2)
  · rcases key i x hi with ⟨k, k0, k1, k2⟩ | ⟨k1, k2, k3⟩ <;> rcases key j y hj with ⟨k', k0', k1', k2'⟩ | ⟨k1', k2', k3'⟩
    · have := hD1.1 _ _ _ _ k2 k2' hxy
      rw [k1, k1', this]
    · exact absurd (by rw [← hxy]; exact hD1.2 _ _ k2) (apart j y k1' k2' k3').2
    · exact absurd (by rw [hxy]; exact hD1.2 _ _ k2') (apart i x k1 k2 k3).2
    · exact hD.1 _ _ _ _ k3 k3' hxy
  · rcases key i x hx with ⟨k, -, -, hk2⟩ | ⟨k1, k2, k3⟩
    · exact hin _ (hD1.2 _ _ hk2)
    · exact hD.2 _ _ k3
end CALS
