

-- needs P<=45 85.th
theorem RQ_w1 {p : Nat → Nat → Nat} {m : Nat → Nat} (hq : Qu p) (h : RQ p m) {i v : Nat} (h7 : i ≠ 7) (h9 : i ≠ 9) (hi : i < 138 ∨ 266 ≤ i) : RQ p (w1 m i v) := by
  refine ⟨by rw [w1_ne (by omega)]; exact h.1, by rw [w1_ne (by omega)]; exact h.2.1, fun j hj => ?_⟩
  have := hq.2.1 j hj
  have := hq.1
  rw [w1_ne (by omega), w1_ne (by omega)]
  exact h.2.2 j hj
theorem RQ_p {p q : Nat → Nat → Nat} {m : Nat → Nat} (h : RQ p m) (h0 : q 10 0 = p 10 0) (h1 : q 10 1 = p 10 1) (h7 : q 10 7 = p 10 7) (h8 : ∀ j, q 8 j = p 8 j) : RQ q m := by
  refine ⟨by rw [h0]; exact h.1, by rw [h7]; exact h.2.1, fun j hj => ?_⟩
  rw [h8, h1]
  exact h.2.2 j (by omega)
theorem RG_w1 {p : Nat → Nat → Nat} {m : Nat → Nat} (h : RG p m) {i v : Nat} (hi : 4 ≤ i) : RG p (w1 m i v) := by
  unfold RG at *
  rw [w1_ne (by omega), w1_ne (by omega), w1_ne (by omega), w1_ne (by omega)]
  exact h
theorem RG_p {p q : Nat → Nat → Nat} {m : Nat → Nat} (h : RG p m) (h9 : ∀ i, q 9 i = p 9 i) (h2 : q 10 2 = p 10 2) : RG q m := by
  unfold RG at *
  rw [h9, h9, h9, h2]
  exact h
theorem Sg_p {p q : Nat → Nat → Nat} (h : Sg p) (h9 : ∀ i, q 9 i = p 9 i) : Sg q := by
  unfold Sg at *
  rw [h9, h9, h9]
  exact h
theorem Qu_p {p q : Nat → Nat → Nat} (h : Qu p) (h0 : ∀ i, q 0 i = p 0 i) (h1 : ∀ i, q 1 i = p 1 i) (h8 : ∀ i, q 8 i = p 8 i) (ha : q 10 0 = p 10 0) (hb : q 10 1 = p 10 1) : Qu q := by
  obtain ⟨q1, q2, q3, q4, q5⟩ := h
  refine ⟨by omega, fun j hj => ?_, fun i j hi hj e => ?_, fun hz => ?_, fun hz => ?_⟩
  · rw [h8, h0, h1]; exact q2 j (by omega)
  · rw [h8, h8] at e; exact q3 i j (by omega) (by omega) e
  · rw [hb, h8, h0]; exact q4 (by omega)
  · rw [hb]; exact q5 (by omega)
theorem Nm_w2 {p : Nat → Nat → Nat} (h : Nm p) {f i v : Nat} (hi : (f = 0 ∨ f = 1 ∨ f = 8) → i < 64) (hi2 : (2 ≤ f ∧ f ≤ 7) → i < 12) (hi3 : f = 9 → i < 3) : Nm (w2 p f i v) := by
  refine ⟨fun j hj => ?_, fun j hj => ?_, fun j hj => ?_⟩
  · have := h.1 j hj
    refine ⟨?_, ?_, ?_⟩ <;> (unfold w2; rw [if_neg (fun z => by omega)]; omega)
  · have := h.2.1 j hj
    refine ⟨?_, ?_, ?_, ?_, ?_, ?_⟩ <;> (unfold w2; rw [if_neg (fun z => by omega)]; omega)
  · have := h.2.2 j hj
    unfold w2
    rw [if_neg (fun z => by omega)]
    omega
theorem Nm_mk {p : Nat → Nat → Nat} (h : Nm p) {a k n v : Nat} (hk : a + k ≤ 64) : Nm (mkk p a k n v) := by
  refine ⟨fun j hj => ?_, fun j hj => ?_, fun j hj => ?_⟩
  · rw [mkk_io, mkk_io, mkk_io, if_neg (by omega), if_neg (by omega), if_neg (by omega)]
    exact h.1 j hj
  · have := h.2.1 j hj
    rw [gv_n _ (by omega), gv_n _ (by omega), gv_n _ (by omega), gv_n _ (by omega), gv_n _ (by omega), gv_n _ (by omega)]
    exact this
  · rw [gv_n _ (by omega)]
    exact h.2.2 j hj
theorem so_Nm {p : Nat → Nat → Nat} (h : Nm p) {a : Nat} (ha : a + p 0 a ≤ 64) (h0 : p 10 0 < 64) : Nm (soilF p a) := by
  unfold soilF
  exact Nm_w2 (Nm_w2 (Nm_mk h ha) (fun _ => h0) (by omega) (by omega)) (by omega) (by omega) (by omega)
theorem di_n (p : Nat → Nat → Nat) {g F : Nat} (h2 : F ≠ 2) (h7 : F ≠ 7) (i : Nat) : disF p g F i = soilF p (p 3 g) F i := by
  unfold disF
  rw [w2_ne h7, w2_ne h2]
theorem di_2 (p : Nat → Nat → Nat) (g i : Nat) : disF p g 2 i = if i = g then 0 else p 2 i := by
  unfold disF
  rw [w2_ne (by omega), w2_sm, so_n p (by omega) (by omega) (by omega)]
theorem di_7 (p : Nat → Nat → Nat) (g i : Nat) : disF p g 7 i = if i = g then (if p 5 g = 1 then p 9 2 else 0) else p 7 i := by
  unfold disF
  rw [w2_sm, w2_ne (by omega), so_n p (by omega) (by omega) (by omega)]
theorem dis_inv {p : Nat → Nat → Nat} {B x g : Nat} (h : InX p B x) (hx : x = g ∨ x = 12) (hg : g < 12) (h0 : 0 < p 2 g) : Inv (disF p g) B := by
  obtain ⟨al, nf, gs, qu, sg, nm⟩ := h
  have hgg := gs.1 g hg
  have hgo := hgg.2.2.2.2.2.2 h0
  have ha := hgg.2.1
  have hz := hgo.1
  have h1 : p 1 (p 3 g) ≠ 0 := by omega
  have ff : fst p (p 3 g) = p 3 g := by unfold fst; rw [hz]; rfl
  have hal := Al_f al ha
  have d0 : ∀ i, disF p g 0 i = p 0 i := fun i => by rw [di_n p (by omega) (by omega), so_0 al ha hz]
  have d1 : ∀ i, disF p g 1 i = if p 3 g ≤ i ∧ i < p 3 g + p 0 (p 3 g) then 0 else p 1 i := fun i => by rw [di_n p (by omega) (by omega), so_1]
  have dn : ∀ F i, 2 ≤ F → F ≠ 2 → F ≠ 7 → F ≠ 8 → F ≠ 10 → disF p g F i = p F i := fun F i a b c d e => by rw [di_n p b c, so_n p a d e]
  have hin : ∀ i, p 3 g ≤ i → i < p 3 g + p 0 (p 3 g) → p 1 i = g + 2 := fun i i1 i2 => by
    rw [(Al_s al ha (by omega) (by omega)).2.1]
    exact hgo.2.1
  refine ⟨?_, ?_, ⟨fun k hk => ?_, fun r hr => ?_⟩, ?_, Sg_p sg (fun i => dn 9 i (by omega) (by omega) (by omega) (by omega) (by omega)), ?_⟩
  · exact Al_p (so_Al al ha hz) (fun i => di_n p (by omega) (by omega) i) (fun i => di_n p (by omega) (by omega) i)
  · exact Nf_p (so_Nf al nf ha hz) (fun i => di_n p (by omega) (by omega) i) (fun i => di_n p (by omega) (by omega) i)
  · have hk2 := gs.1 k hk
    rw [di_2, di_7, dn 3 k (by omega) (by omega) (by omega) (by omega) (by omega), dn 4 k (by omega) (by omega) (by omega) (by omega) (by omega), dn 5 k (by omega) (by omega) (by omega) (by omega) (by omega), dn 6 k (by omega) (by omega) (by omega) (by omega) (by omega), d0, d1]
    have hs := sg.2.2.2
    by_cases c : k = g
    · rw [if_pos c, if_pos c]
      refine ⟨by omega, hk2.2.1, hk2.2.2.1, hk2.2.2.2.1, hk2.2.2.2.2.1, ?_, fun z => by omega⟩
      split <;> omega
    · rw [if_neg c, if_neg c]
      refine ⟨hk2.1, hk2.2.1, hk2.2.2.1, hk2.2.2.2.1, hk2.2.2.2.2.1, hk2.2.2.2.2.2.1, fun z => ?_⟩
      have hk3 := hk2.2.2.2.2.2.2 z
      refine ⟨hk3.1, ?_, hk3.2.2.1, fun _ => hk3.2.2.2.1 (by omega), hk3.2.2.2.2⟩
      rw [if_neg (fun y => ?_)]
      · exact hk3.2.1
      · have := hin _ y.1 y.2
        omega
  · have hr2 := gs.2 r hr
    rw [d1]
    by_cases c : p 3 g ≤ r ∧ r < p 3 g + p 0 (p 3 g)
    · rw [if_pos c]
      exact ⟨by omega, fun z => by omega⟩
    · rw [if_neg c]
      refine ⟨hr2.1, fun z => ?_⟩
      have hr3 := hr2.2 z
      have hne : p 1 r - 2 ≠ g := by
        intro y
        rw [y] at hr3
        have hfr := Al_f al hr
        have as := Al_s al hr (show fst p r ≤ p 3 g by omega) (by omega)
        omega
      rw [di_2, if_neg hne, dn 3 _ (by omega) (by omega) (by omega) (by omega) (by omega)]
      refine ⟨hr3.1, ?_⟩
      rw [hr3.2]
      unfold fst
      rw [d0]
  · exact Qu_p (so_Qu al qu ha hz h1) (fun i => di_n p (by omega) (by omega) i) (fun i => di_n p (by omega) (by omega) i) (fun i => di_n p (by omega) (by omega) i) (di_n p (by omega) (by omega) 0) (di_n p (by omega) (by omega) 1)
  · unfold disF
    exact Nm_w2 (Nm_w2 (so_Nm nm (by omega) (Qu_lt qu ha h1)) (by omega) (fun _ => hg) (by omega)) (by omega) (fun _ => hg) (by omega)
theorem dis_rel {p : Nat → Nat → Nat} {m dl : Nat → Nat} {B x g : Nat} (h : InX p B x) (hr : Rl p m dl) (hd : dl g = 0) (hg : g < 12) (h0 : 0 < p 2 g) : Rl (disF p g) (dlM m g) dl ∧ dlM m g (10 + m (266 + 7 * g + 2)) = p 0 (p 3 g) ∧ m (266 + 7 * g) = 1 ∧ m (266 + 7 * g + 2) = p 3 g ∧ m 9 < 64 ∧ m (266 + 7 * g + 4) ≤ 1 := by
  obtain ⟨al, nf, gs, qu, sg, nm⟩ := h
  obtain ⟨rs, rq, rh, rg⟩ := hr
  have hgg := gs.1 g hg
  have hgo := hgg.2.2.2.2.2.2 h0
  have ha := hgg.2.1
  have hz := hgo.1
  have h1 : p 1 (p 3 g) ≠ 0 := by omega
  have hl := Qu_lt qu ha h1
  have hc := rh.2.2 g hg
  have hc2 := hc.2.2.2 h0
  have h9 : m 9 < 64 := by rw [rq.1]; exact hl
  have e2 : m (266 + 7 * g + 2) = p 3 g := hc2.2.1
  have ed : dlM m g = w1 (w1 (mdF m (p 3 g)) (266 + 7 * g) 0) (266 + 7 * g + 6) (if p 5 g = 1 then p 9 2 else 0) := by
    unfold dlM dl0
    rw [e2, w1_ne (by omega), w1_ne (by omega), md_n m h9 ha (by omega), md_n m h9 ha (by omega), hc2.2.2.2.1, rg.2.2.1]
  have rsS := so_RS al rs ha hz h9
  have rqS := so_RQ qu rq ha h1
  have rsD : RS (disF p g) (dlM m g) := by
    rw [ed]
    exact RS_p (RS_w1 (RS_w1 rsS (by omega) (by omega) (by omega)) (by omega) (by omega) (by omega)) (fun i => di_n p (by omega) (by omega) i) (fun i => di_n p (by omega) (by omega) i) (di_n p (by omega) (by omega) 3) (di_n p (by omega) (by omega) 4)
  refine ⟨⟨rsD, ?_, ?_, ?_⟩, ?_, ?_, e2, h9, hc.2.2.1⟩
  · rw [ed]
    have quS := so_Qu al qu ha hz h1
    exact RQ_p (RQ_w1 quS (RQ_w1 quS rqS (by omega) (by omega) (by omega)) (by omega) (by omega) (by omega)) (di_n p (by omega) (by omega) 0) (di_n p (by omega) (by omega) 1) (di_n p (by omega) (by omega) 7) (fun i => di_n p (by omega) (by omega) i)
  · rw [ed]
    refine ⟨?_, ?_, fun k hk => ?_⟩
    · rw [w1_ne (by omega), w1_ne (by omega), md_n m h9 ha (by omega), rh.1, di_n p (by omega) (by omega), so_10, if_neg (by omega)]
    · rw [w1_ne (by omega), w1_ne (by omega), md_n m h9 ha (by omega), rh.2.1, di_n p (by omega) (by omega), so_10, if_neg (by omega)]
    · have hk2 := rh.2.2 k hk
      rw [di_2, di_7]
      by_cases c : k = g
      · subst c
        rw [if_pos rfl, if_pos rfl, w1_ne (by omega), w1_at, w1_at, hd, w1_ne (by omega), w1_ne (by omega), md_n m h9 ha (by omega)]
        exact ⟨rfl, rfl, hk2.2.2.1, fun z => by omega⟩
      · rw [if_neg c, if_neg c]
        rw [w1_ne (by omega), w1_ne (by omega), md_n m h9 ha (by omega), w1_ne (by omega), w1_ne (by omega), md_n m h9 ha (by omega), w1_ne (by omega), w1_ne (by omega), md_n m h9 ha (by omega)]
        rw [w1_ne (by omega), w1_ne (by omega), md_n m h9 ha (by omega), w1_ne (by omega), w1_ne (by omega), md_n m h9 ha (by omega), w1_ne (by omega), w1_ne (by omega), md_n m h9 ha (by omega), w1_ne (by omega), w1_ne (by omega), md_n m h9 ha (by omega)]
        rw [di_n p (by omega) (by omega), di_n p (by omega) (by omega), di_n p (by omega) (by omega), di_n p (by omega) (by omega), so_n p (by omega) (by omega) (by omega), so_n p (by omega) (by omega) (by omega), so_n p (by omega) (by omega) (by omega), so_n p (by omega) (by omega) (by omega)]
        exact hk2
  · rw [ed]
    refine RG_w1 (RG_w1 ?_ (by omega)) (by omega)
    refine RG_p (p := p) ?_ (fun i => ?_) ?_
    · unfold RG at *
      rw [md_n m h9 ha (by omega), md_n m h9 ha (by omega), md_n m h9 ha (by omega), md_n m h9 ha (by omega)]
      exact rg
    · rw [di_n p (by omega) (by omega), so_n p (by omega) (by omega) (by omega)]
    · rw [di_n p (by omega) (by omega), so_10, if_neg (by omega)]
  · rw [e2, rsD.1 _ ha, di_n p (by omega) (by omega), so_0 al ha hz, if_pos hz]
  · rw [hc.1, if_pos h0]
