
/-! A CALL: the callee's cells among the caller's -/
section CALL
variable {s1 n1 s2 n2 : Nat} {ad ad1 : Nat → Nat} {rd : Int64 → Nat} {cA : Nat → ClassId}
def gk (s1 n1 s2 k : Nat) : Nat := if k < n1 then s1 + k else s2 + (k - n1)
theorem lc_gk {j k : Nat} (h : lc s1 n1 s2 n2 j = some k) : gk s1 n1 s2 k = j ∧ k < n1 + n2 := by
  unfold lc at h
  split at h
  · rename_i hc
    cases h
    unfold gk
    rw [if_pos (by omega)]
    omega
  · split at h
    · rename_i hc
      cases h
      unfold gk
      rw [if_neg (by omega)]
      omega
    · cases h
theorem unV_w {v w : Value} (h : unV s1 n1 s2 n2 v = some w) : wv (fun k => ad (gk s1 n1 s2 k)) rd w = wv ad rd v ∧ wq (fun k => ad (gk s1 n1 s2 k)) w = wq ad v := by
  cases v with
  | int x => cases h; exact ⟨rfl, rfl⟩
  | null => cases h; exact ⟨rfl, rfl⟩
  | ref j =>
    simp only [unV] at h
    cases hl : lc s1 n1 s2 n2 j with
    | none => rw [hl] at h; cases h
    | some k =>
      rw [hl] at h
      cases h
      simp only [wv, wq, (lc_gk hl).1, and_self]
  | _ => cases h
theorem unL_w : ∀ {vs ws : List Value}, unL s1 n1 s2 n2 vs = some ws → ws.map (wv (fun k => ad (gk s1 n1 s2 k)) rd) = vs.map (wv ad rd) ∧ ws.length = vs.length ∧ ∀ k : Nat, (ws[k]?).bind (wq (fun k => ad (gk s1 n1 s2 k))) = (vs[k]?).bind (wq ad)
  | [], ws, h => by cases h; exact ⟨rfl, rfl, fun k => rfl⟩
  | v :: r, ws, h => by
    simp only [unL] at h
    cases hv : unV s1 n1 s2 n2 v with
    | none => rw [hv] at h; cases h
    | some a =>
      cases hr : unL s1 n1 s2 n2 r with
      | none => rw [hv, hr] at h; cases h
      | some b =>
        rw [hv, hr] at h
        cases h
        obtain ⟨i1, i2, i3⟩ := unL_w hr
        refine ⟨by rw [List.map_cons, List.map_cons, i1, (unV_w hv).1], by rw [List.length_cons, List.length_cons, i2], fun k => ?_⟩
        cases k with
        | zero => simp only [List.getElem?_cons_zero, Option.bind_some]; exact (unV_w (rd := rd) hv).2
        | succ k => simp only [List.getElem?_cons_succ]; exact i3 k
theorem unL_nd : ∀ {vs ws : List Value}, unL s1 n1 s2 n2 vs = some ws → ∀ w ∈ ws, isD w = false
  | [], ws, h => by cases h; intro w hw; cases hw
  | v :: r, ws, h => by
    simp only [unL] at h
    cases hv : unV s1 n1 s2 n2 v with
    | none => rw [hv] at h; cases h
    | some a =>
      cases hr : unL s1 n1 s2 n2 r with
      | none => rw [hv, hr] at h; cases h
      | some b =>
        rw [hv, hr] at h
        cases h
        intro w hw
        rcases List.mem_cons.mp hw with rfl | hw
        · cases v with
          | int x => cases hv; rfl
          | null => cases hv; rfl
          | ref j =>
            simp only [unV] at hv
            split at hv
            · cases hv; rfl
            · cases hv
          | _ => cases hv
        · exact unL_nd hr w hw
theorem unE_w {x y : AE} (h : unE s1 n1 s2 n2 x = some y) : we cA (fun k => ad (gk s1 n1 s2 k)) rd y = we cA ad rd x ∧ (∀ c vs, x = .inr (c, vs) → ∃ ws, y = .inr (c, ws)) := by
  cases x with
  | inl z => cases h; exact ⟨rfl, fun c vs h => by cases h⟩
  | inr z =>
    obtain ⟨c, vs⟩ := z
    simp only [unE] at h
    cases hv : unL s1 n1 s2 n2 vs with
    | none => rw [hv] at h; cases h
    | some ws =>
      rw [hv] at h
      cases h
      obtain ⟨i1, i2, i3⟩ := unL_w (ad := ad) (rd := rd) hv
      refine ⟨?_, fun c' vs' h => by cases h; exact ⟨ws, rfl⟩⟩
      simp only [we]
      split
      · rw [i2]
        exact congrArg (fun g => (Sum.inl (cA 2, vs.length, Sum.inr (Sum.inr (Sum.inr (Sum.inr g)))) : va_E)) (funext i3)
      · rw [i1]
theorem unH_w : ∀ {xs ys : List AE}, unH s1 n1 s2 n2 xs = some ys → ys.length = xs.length ∧ ∀ (k : Nat) (x : AE), xs[k]? = some x → ∃ y, ys[k]? = some y ∧ unE s1 n1 s2 n2 x = some y
  | [], ys, h => by cases h; exact ⟨rfl, fun k x h => by simp at h⟩
  | v :: r, ys, h => by
    simp only [unH] at h
    cases hv : unE s1 n1 s2 n2 v with
    | none => rw [hv] at h; cases h
    | some a =>
      cases hr : unH s1 n1 s2 n2 r with
      | none => rw [hv, hr] at h; cases h
      | some b =>
        rw [hv, hr] at h
        cases h
        obtain ⟨i1, i2⟩ := unH_w hr
        refine ⟨by rw [List.length_cons, List.length_cons, i1], fun k x hx => ?_⟩
        cases k with
        | zero => simp only [List.getElem?_cons_zero] at hx ⊢; cases hx; exact ⟨a, rfl, hv⟩
        | succ k => simp only [List.getElem?_cons_succ] at hx ⊢; exact i2 k x hx
theorem sub_at {hp : List AE} (h1 : s1 + n1 ≤ hp.length) (h2 : s2 + n2 ≤ hp.length) : ((hp.drop s1).take n1 ++ (hp.drop s2).take n2).length = n1 + n2 ∧ ∀ k, k < n1 + n2 → ((hp.drop s1).take n1 ++ (hp.drop s2).take n2)[k]? = hp[gk s1 n1 s2 k]? := by
  have l1 : ((hp.drop s1).take n1).length = n1 := by rw [List.length_take, List.length_drop]; omega
  have l2 : ((hp.drop s2).take n2).length = n2 := by rw [List.length_take, List.length_drop]; omega
  refine ⟨by rw [List.length_append, l1, l2], fun k hk => ?_⟩
  unfold gk
  by_cases h : k < n1
  · rw [if_pos h, List.getElem?_append_left (by omega), List.getElem?_take_of_lt h, List.getElem?_drop]
  · rw [if_neg h, List.getElem?_append_right (by omega), l1, List.getElem?_take_of_lt (by omega), List.getElem?_drop]
/-- the callee's world is a part of the caller's -/
theorem sub_ww {hp h : List AE} (h1 : s1 + n1 ≤ hp.length) (h2 : s2 + n2 ≤ hp.length) (hu : unH s1 n1 s2 n2 ((hp.drop s1).take n1 ++ (hp.drop s2).take n2) = some h) : h.length = n1 + n2 ∧ ∀ k, k < n1 + n2 → ∃ x, (ww cA ad rd hp)[gk s1 n1 s2 k]? = some x ∧ (ww cA (fun k => ad (gk s1 n1 s2 k)) rd h)[k]? = some x := by
  obtain ⟨l0, ha⟩ := sub_at (s1 := s1) (n1 := n1) (s2 := s2) (n2 := n2) h1 h2
  obtain ⟨i1, i2⟩ := unH_w hu
  refine ⟨by rw [i1, l0], fun k hk => ?_⟩
  have hl : gk s1 n1 s2 k < hp.length := by unfold gk; split <;> omega
  have hx : hp[gk s1 n1 s2 k]? = some hp[gk s1 n1 s2 k] := List.getElem?_eq_getElem hl
  generalize hp[gk s1 n1 s2 k] = x at hx
  obtain ⟨y, hy, he⟩ := i2 k x (by rw [ha k hk]; exact hx)
  refine ⟨_, ww_at hx, ?_⟩
  rw [ww_at hy, (unE_w (cA := cA) (ad := ad) (rd := rd) he).1]
theorem gk_inj (hd : s1 + n1 ≤ s2 ∨ s2 + n2 ≤ s1 ∨ n2 = 0) {i j : Nat} (hi : i < n1 + n2) (hj : j < n1 + n2) (h : gk s1 n1 s2 i = gk s1 n1 s2 j) : i = j := by
  unfold gk at h
  split at h <;> split at h <;> omega
theorem spl_at {s n : Nat} {q h : List AE} (hq : q.length = n) (hs : s + n ≤ h.length) : (spl s n q h).length = h.length ∧ ∀ i, (spl s n q h)[i]? = if s ≤ i ∧ i < s + n then q[i - s]? else h[i]? := by
  have l1 : (h.take s).length = s := by rw [List.length_take]; omega
  refine ⟨by simp only [spl, List.length_append, l1, hq, List.length_drop]; omega, fun i => ?_⟩
  unfold spl
  by_cases h1 : i < s
  · rw [List.getElem?_append_left (by omega), List.getElem?_take_of_lt h1, if_neg (by omega)]
  · rw [List.getElem?_append_right (by omega), l1]
    by_cases h2 : i - s < n
    · rw [List.getElem?_append_left (by omega), if_pos (by omega)]
    · rw [List.getElem?_append_right (by omega), List.getElem?_drop, if_neg (by omega)]
      congr 1
      omega
/-- the caller's cells behind the call -/
theorem back_at {hp q : List AE} (h1 : s1 + n1 ≤ hp.length) (h2 : s2 + n2 ≤ hp.length) (hd : s1 + n1 ≤ s2 ∨ s2 + n2 ≤ s1 ∨ n2 = 0) (hq : n1 + n2 ≤ q.length) :
    (spl s2 n2 ((q.drop n1).take n2) (spl s1 n1 (q.take n1) hp) ++ q.drop (n1 + n2)).length = hp.length + (q.length - (n1 + n2)) ∧
    (∀ k, k < n1 + n2 → (spl s2 n2 ((q.drop n1).take n2) (spl s1 n1 (q.take n1) hp) ++ q.drop (n1 + n2))[gk s1 n1 s2 k]? = q[k]?) ∧
    (∀ i, i < hp.length → (∀ k, k < n1 + n2 → gk s1 n1 s2 k ≠ i) → (spl s2 n2 ((q.drop n1).take n2) (spl s1 n1 (q.take n1) hp) ++ q.drop (n1 + n2))[i]? = hp[i]?) ∧
    (∀ k, (spl s2 n2 ((q.drop n1).take n2) (spl s1 n1 (q.take n1) hp) ++ q.drop (n1 + n2))[hp.length + k]? = q[n1 + n2 + k]?) := by
  have a1 : (q.take n1).length = n1 := by rw [List.length_take]; omega
  have a2 : ((q.drop n1).take n2).length = n2 := by rw [List.length_take, List.length_drop]; omega
  obtain ⟨b1, b2⟩ := spl_at (s := s1) a1 h1
  obtain ⟨c1, c2⟩ := spl_at (s := s2) (h := spl s1 n1 (q.take n1) hp) a2 (by rw [b1]; exact h2)
  have c3 := c1.trans b1
  refine ⟨by rw [List.length_append, c3, List.length_drop], fun k hk => ?_, fun i hi hn => ?_, fun k => ?_⟩
  · have hl : gk s1 n1 s2 k < hp.length := by unfold gk; split <;> omega
    rw [List.getElem?_append_left (by omega), c2]
    unfold gk
    by_cases h : k < n1
    · rw [if_pos h]
      by_cases h3 : s2 ≤ s1 + k ∧ s1 + k < s2 + n2
      · omega
      · rw [if_neg h3, b2, if_pos (by omega), List.getElem?_take_of_lt (by omega)]
        congr 1
        omega
    · rw [if_neg h, if_pos (by omega), List.getElem?_take_of_lt (by omega), List.getElem?_drop]
      congr 1
      omega
  · rw [List.getElem?_append_left (by omega), c2]
    have e2 : ¬ (s2 ≤ i ∧ i < s2 + n2) := fun h3 => hn (n1 + (i - s2)) (by omega) (by unfold gk; rw [if_neg (by omega)]; omega)
    have e1 : ¬ (s1 ≤ i ∧ i < s1 + n1) := fun h3 => hn (i - s1) (by omega) (by unfold gk; rw [if_pos (by omega)]; omega)
    rw [if_neg e2, b2, if_neg e1]
  · rw [List.getElem?_append_right (by omega), c3, List.getElem?_drop]
    congr 1
    omega
theorem glV_w {h L : Nat} {adN : Nat → Nat} (hg : ∀ k, k < L → adN (gl s1 n1 s2 n2 h k) = ad1 k) {v : Value} (hv : clV L v = true) : wv adN rd (glV s1 n1 s2 n2 h v) = wv ad1 rd v ∧ wq adN (glV s1 n1 s2 n2 h v) = wq ad1 v := by
  cases v with
  | ref k => simp only [clV, decide_eq_true_eq] at hv; simp only [glV, wv, wq, hg k hv, and_self]
  | _ => exact ⟨rfl, rfl⟩
theorem glE_w {h L : Nat} {adN : Nat → Nat} (hg : ∀ k, k < L → adN (gl s1 n1 s2 n2 h k) = ad1 k) {x : AE} (hx : clE L x = true) : we cA adN rd (glE s1 n1 s2 n2 h x) = we cA ad1 rd x := by
  cases x with
  | inl y => rfl
  | inr y =>
    obtain ⟨c, vs⟩ := y
    simp only [clE, List.all_eq_true] at hx
    simp only [glE, we, List.length_map]
    split
    · refine congrArg (fun g => (Sum.inl (cA 2, vs.length, Sum.inr (Sum.inr (Sum.inr (Sum.inr g)))) : va_E)) (funext fun k => ?_)
      rw [List.getElem?_map]
      cases hk : vs[k]? with
      | none => rfl
      | some v => simp only [Option.map_some, Option.bind_some]; exact (glV_w (rd := rd) hg (hx v (List.mem_of_getElem? hk))).2
    · refine congrArg (fun g => (Sum.inr (c, g) : va_E)) ?_
      rw [List.map_map]
      exact List.map_congr_left fun v hv => (glV_w hg (hx v hv)).1
end CALL
