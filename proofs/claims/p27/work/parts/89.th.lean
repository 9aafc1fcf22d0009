

-- needs P<=45 88.th
theorem re_n (p : Nat → Nat → Nat) (f g : Nat) {F : Nat} (h3 : F ≠ 3) (h6 : F ≠ 6) (i : Nat) : rehF p f g F i = soilF (tkQ p f (szf (p 2 g)) g) (p 3 g) F i := by
  unfold rehF
  rw [w2_ne h6, w2_ne h3]
  rfl
theorem re_3 (p : Nat → Nat → Nat) (f g i : Nat) : rehF p f g 3 i = if i = g then f else tkQ p f (szf (p 2 g)) g 3 i := by
  unfold rehF
  rw [w2_ne (by omega), w2_sm, so_n _ (by omega) (by omega) (by omega)]
  rfl
theorem re_6 (p : Nat → Nat → Nat) (f g i : Nat) : rehF p f g 6 i = if i = g then p 6 g + 1 else tkQ p f (szf (p 2 g)) g 6 i := by
  unfold rehF
  rw [w2_sm, w2_ne (by omega), so_n _ (by omega) (by omega) (by omega)]
  rfl
theorem reh_all {p : Nat → Nat → Nat} {m : Nat → Nat} {B g : Nat} (h : Inv p B) (hr : Rel p m) (hg : g < 12) (h0 : 0 < p 2 g) (hw : lk p (szf (p 2 g)) = 0) : ∃ r f, m (266 + 7 * g) = 1 ∧ m (266 + 7 * g + 1) = p 2 g ∧ m (266 + 7 * g + 2) = p 3 g ∧ wsM m (p 2 g) = 0 ∧ sfm m (szf (p 2 g)) 64 = r + 1 ∧ r + m (10 + r) ≤ 64 ∧ mv2 m g r 9 < 64 ∧ mvM m g r (266 + 7 * g + 2) = f ∧ f < 64 ∧ plc p (szf (p 2 g)) (p 9 0) = nI f ∧ f + tkN f (szf (p 2 g)) 6 p 0 f ≤ 64 ∧ p 3 g + rehQ p f g 0 (p 3 g) ≤ 64 ∧ p 10 0 < 64 ∧ Inv (rehF p f g) (B + 1) ∧ Rel (rehF p f g) (mvM m g r) := by
  have hwf := InX_wf h
  obtain ⟨al, nf, gs, qu, sg, nm⟩ := id h
  obtain ⟨rs, rq, rh, rg⟩ := id hr
  have hgg := gs.1 g hg
  have hgo := hgg.2.2.2.2.2.2 h0
  have ha := hgg.2.1
  have hn : p 2 g ≤ 64 := hgg.1
  have hc := rh.2.2 g hg
  have hc2 := hc.2.2.2 h0
  have h1 : p 1 (p 3 g) ≠ 0 := by omega
  have hl := Qu_lt qu ha h1
  have hs : sfm m (szf (p 2 g)) 64 ≠ 0 := by
    intro z
    have := RS_lk al hwf rs hn
    unfold wsM at this
    rw [hw, z] at this
    split at this
    · omega
    · rw [if_pos rfl] at this
      omega
  obtain ⟨r, f, t1, t2, t3, t4, t5, t6, t7, t8, t9, t10, t11, t12, t13⟩ := tk_use h rs rg.1 hn hs
  obtain ⟨T1, T2, T3, T4, T5, T6, T7, T8, T9, T10⟩ := t13 g
  have hz := szf_pw _ hn
  have hzl := pow_le hz
  have haf : ¬ (f ≤ p 3 g ∧ p 3 g < f + szf (p 2 g)) := fun y => by have := t12 _ y.1 y.2; omega
  have Q0 : tkQ p f (szf (p 2 g)) g 0 (p 3 g) = p 0 (p 3 g) := T6 _ ha (by omega)
  have Q1 : tkQ p f (szf (p 2 g)) g 1 (p 3 g) = g + 2 := by rw [T5, if_neg haf, hgo.2.1]
  have hza : p 3 g % tkQ p f (szf (p 2 g)) g 0 (p 3 g) = 0 := by rw [Q0]; exact hgo.1
  have ffa : fst p (p 3 g) = p 3 g := by unfold fst; rw [hgo.1]; rfl
  have ala := Al_f al ha
  have hbk : ∀ i, p 3 g ≤ i → i < p 3 g + p 0 (p 3 g) → p 1 i = g + 2 ∧ i < 64 := fun i i1 i2 => by
    have as := Al_s al ha (show fst p (p 3 g) ≤ i by omega) (by omega)
    rw [as.2.1]
    exact ⟨hgo.2.1, as.2.2.2⟩
  have e10 : ∀ i, i ≠ 3 → tkQ p f (szf (p 2 g)) g 10 i = p 10 i := fun i b => T8 10 i (by omega) (by omega)
  have quQ : Qu (tkQ p f (szf (p 2 g)) g) := by
    obtain ⟨q1, q2, q3, q4, q5⟩ := qu
    have e8 : ∀ i, tkQ p f (szf (p 2 g)) g 8 i = p 8 i := fun i => T8 8 i (by omega) (by omega)
    have e0 := e10 0 (by omega)
    have e1 := e10 1 (by omega)
    have hb : ∀ j, j < p 10 0 → tkQ p f (szf (p 2 g)) g 0 (p 8 j) = p 0 (p 8 j) ∧ tkQ p f (szf (p 2 g)) g 1 (p 8 j) = 0 := fun j hj => by
      have := q2 j hj
      rw [T6 _ this.1 (by omega), T5, if_neg (fun y => by have := t12 _ y.1 y.2; omega)]
      exact ⟨rfl, this.2.2⟩
    refine ⟨by omega, fun j hj => ?_, fun i j hi hj e => ?_, fun z => ?_, fun z => ?_⟩
    · rw [e8, (hb j (by omega)).1, (hb j (by omega)).2]
      have := q2 j (by omega)
      exact ⟨this.1, this.2.1, rfl⟩
    · rw [e8, e8] at e
      exact q3 i j (by omega) (by omega) e
    · rw [e1, e8, (hb 0 (by omega)).1]
      exact q4 (by omega)
    · rw [e1]
      exact q5 (by omega)
  have hQ1 : tkQ p f (szf (p 2 g)) g 1 (p 3 g) ≠ 0 := by omega
  -- the reference's row
  have em2 : mv2 m g r = w1 (w1 (tkS m r (szf (p 2 g))) (266 + 7 * g + 2) f) (266 + 7 * g + 5) (p 6 g + 1) := by
    unfold mv2 mv1
    rw [hc2.1, t10]
    congr 1
    rw [w1_ne (by omega), T9 _ (by omega) (by omega), hc2.2.2.2.2]
  have hm9 : mv2 m g r 9 < 64 := by
    rw [em2, w1_ne (by omega), w1_ne (by omega), T9 9 (by omega) (by omega), rq.1]
    exact hl
  have emM : mvM m g r = mdF (mv2 m g r) (p 3 g) := by
    unfold mvM
    rw [hc2.2.1]
  have rs2 : RS (tkQ p f (szf (p 2 g)) g) (mv2 m g r) := by
    rw [em2]
    exact RS_w1 (RS_w1 T3 (by omega) (by omega) (by omega)) (by omega) (by omega) (by omega)
  have rq2 : RQ (tkQ p f (szf (p 2 g)) g) (mv2 m g r) := by
    have qj := qu.2.1
    have ql := qu.1
    rw [em2]
    refine ⟨?_, ?_, fun j hj => ?_⟩
    · rw [w1_ne (by omega), w1_ne (by omega), T9 9 (by omega) (by omega), e10 0 (by omega)]
      exact rq.1
    · rw [w1_ne (by omega), w1_ne (by omega), T9 7 (by omega) (by omega), e10 7 (by omega)]
      exact rq.2.1
    · rw [e10 0 (by omega)] at hj
      have hj2 := qj j hj
      rw [T8 8 j (by omega) (by omega), e10 1 (by omega)]
      rw [w1_ne (by omega), w1_ne (by omega), T9 _ (by omega) (by omega)]
      rw [w1_ne (by omega), w1_ne (by omega), T10 _ hj2.1 (by omega)]
      exact rq.2.2 j hj
  have hmn : ∀ i, (i < 7 ∨ i = 8 ∨ 266 ≤ i) → mvM m g r i = mv2 m g r i := fun i hi => by
    rw [emM]
    exact md_n _ hm9 ha hi
  have hm2n : ∀ i, i ≠ 4 → (i < 10 ∨ 202 ≤ i) → i ≠ 266 + 7 * g + 2 → i ≠ 266 + 7 * g + 5 → mv2 m g r i = m i := fun i a b c d => by
    rw [em2, w1_ne d, w1_ne c, T9 i a b]
  have hres : mvM m g r (266 + 7 * g + 2) = f := by
    rw [hmn _ (by omega), em2, w1_ne (by omega), w1_at]
  have d0 : ∀ i, rehF p f g 0 i = tkQ p f (szf (p 2 g)) g 0 i := fun i => by rw [re_n p f g (by omega) (by omega), so_0 T1 ha hza]
  have d1 : ∀ i, rehF p f g 1 i = if p 3 g ≤ i ∧ i < p 3 g + p 0 (p 3 g) then 0 else if f ≤ i ∧ i < f + szf (p 2 g) then g + 2 else p 1 i := fun i => by
    rw [re_n p f g (by omega) (by omega), so_1, Q0, T5]
  have dn : ∀ F i, 2 ≤ F → F ≠ 3 → F ≠ 6 → F ≠ 8 → F ≠ 10 → rehF p f g F i = p F i := fun F i a b c d e => by
    rw [re_n p f g b c, so_n _ a d e, T8 F i a (by omega)]
  refine ⟨r, f, by rw [hc.1, if_pos h0], hc2.1, hc2.2.1, by rw [RS_lk al hwf rs hn, hw], t1, t3, hm9, hres, t5, t6, t8, ?_, hl, ?_, ?_⟩
  · show p 3 g + tkQ p f (szf (p 2 g)) g 0 (p 3 g) ≤ 64
    rw [Q0]
    omega
  · refine ⟨?_, ?_, ⟨fun k hk => ?_, fun r' hr' => ?_⟩, ?_, Sg_p sg (fun i => dn 9 i (by omega) (by omega) (by omega) (by omega) (by omega)), ?_⟩
    · exact Al_p (so_Al T1 ha hza) (fun i => re_n p f g (by omega) (by omega) i) (fun i => re_n p f g (by omega) (by omega) i)
    · exact Nf_p (so_Nf T1 T2 ha hza) (fun i => re_n p f g (by omega) (by omega) i) (fun i => re_n p f g (by omega) (by omega) i)
    · have gk := gs.1 k hk
      rw [re_3, re_6, dn 2 k (by omega) (by omega) (by omega) (by omega) (by omega), dn 4 k (by omega) (by omega) (by omega) (by omega) (by omega), dn 5 k (by omega) (by omega) (by omega) (by omega) (by omega), dn 7 k (by omega) (by omega) (by omega) (by omega) (by omega), T8 3 k (by omega) (by omega), T8 6 k (by omega) (by omega)]
      by_cases c : k = g
      · rw [if_pos c, if_pos c]
        refine ⟨gk.1, t5, gk.2.2.1, gk.2.2.2.1, by have := hgg.2.2.2.2.1; omega, gk.2.2.2.2.2.1, fun z => ?_⟩
        have gk2 := gk.2.2.2.2.2.2 z
        rw [d0, d1, if_neg (fun y => by have := hbk f y.1 y.2; have := t12 f (by omega) (by omega); omega), if_pos ⟨by omega, by omega⟩, T7 f (by omega) (by omega)]
        refine ⟨t11, by rw [c], by rw [c], gk2.2.2.2.1, gk2.2.2.2.2⟩
      · rw [if_neg c, if_neg c]
        refine ⟨gk.1, gk.2.1, gk.2.2.1, gk.2.2.2.1, by have := gk.2.2.2.2.1; omega, gk.2.2.2.2.2.1, fun z => ?_⟩
        have gk2 := gk.2.2.2.2.2.2 z
        rw [d0, d1, if_neg (fun y => by have := hbk _ y.1 y.2; omega), if_neg (fun y => by have := t12 _ y.1 y.2; omega), T6 _ gk.2.1 (by omega)]
        exact gk2
    · have g2 := gs.2 r' hr'
      rw [d1]
      by_cases ca : p 3 g ≤ r' ∧ r' < p 3 g + p 0 (p 3 g)
      · rw [if_pos ca]
        exact ⟨by omega, fun z => by omega⟩
      · rw [if_neg ca]
        by_cases c : f ≤ r' ∧ r' < f + szf (p 2 g)
        · rw [if_pos c]
          refine ⟨by omega, fun _ => ?_⟩
          rw [show g + 2 - 2 = g by omega, re_3, if_pos rfl, dn 2 g (by omega) (by omega) (by omega) (by omega) (by omega)]
          refine ⟨h0, ?_⟩
          show f = r' - r' % rehF p f g 0 r'
          rw [d0, T7 r' c.1 c.2]
          exact (blk_in hz t11 c.1 c.2).symm
        · rw [if_neg c]
          refine ⟨g2.1, fun z => ?_⟩
          have g3 := g2.2 z
          have hne : p 1 r' - 2 ≠ g := by
            intro y
            rw [y] at g3
            have hfr := Al_f al hr'
            have as := Al_s al hr' (show fst p r' ≤ p 3 g by omega) (by omega)
            omega
          rw [re_3, if_neg hne, T8 3 _ (by omega) (by omega), dn 2 _ (by omega) (by omega) (by omega) (by omega) (by omega)]
          refine ⟨g3.1, ?_⟩
          rw [g3.2]
          show r' - r' % p 0 r' = r' - r' % rehF p f g 0 r'
          rw [d0, T6 r' hr' (by omega)]
    · exact Qu_p (so_Qu T1 quQ ha hza hQ1) (fun i => re_n p f g (by omega) (by omega) i) (fun i => re_n p f g (by omega) (by omega) i) (fun i => re_n p f g (by omega) (by omega) i) (re_n p f g (by omega) (by omega) 0) (re_n p f g (by omega) (by omega) 1)
    · unfold rehF
      exact Nm_w2 (Nm_w2 (so_Nm T4 (show p 3 g + tkQ p f (szf (p 2 g)) g 0 (p 3 g) ≤ 64 by rw [Q0]; omega) (show tkQ p f (szf (p 2 g)) g 10 0 < 64 by rw [e10 0 (by omega)]; exact hl)) (by omega) (fun _ => hg) (by omega)) (by omega) (fun _ => hg) (by omega)
  · refine ⟨?_, ?_, ?_, ?_⟩
    · rw [emM]
      exact RS_p (so_RS T1 rs2 ha hza hm9) (fun i => re_n p f g (by omega) (by omega) i) (fun i => re_n p f g (by omega) (by omega) i) (re_n p f g (by omega) (by omega) 3) (re_n p f g (by omega) (by omega) 4)
    · rw [emM]
      exact RQ_p (so_RQ quQ rq2 ha hQ1) (re_n p f g (by omega) (by omega) 0) (re_n p f g (by omega) (by omega) 1) (re_n p f g (by omega) (by omega) 7) (fun i => re_n p f g (by omega) (by omega) i)
    · refine ⟨?_, ?_, fun k hk => ?_⟩
      · rw [hmn 6 (by omega), hm2n 6 (by omega) (by omega) (by omega) (by omega), re_n p f g (by omega) (by omega), so_10, if_neg (by omega), e10 5 (by omega)]
        exact rh.1
      · rw [hmn 8 (by omega), hm2n 8 (by omega) (by omega) (by omega) (by omega), re_n p f g (by omega) (by omega), so_10, if_neg (by omega), e10 6 (by omega)]
        exact rh.2.1
      · have hk2 := rh.2.2 k hk
        rw [re_3, re_6, dn 2 k (by omega) (by omega) (by omega) (by omega) (by omega), dn 4 k (by omega) (by omega) (by omega) (by omega) (by omega), dn 5 k (by omega) (by omega) (by omega) (by omega) (by omega), dn 7 k (by omega) (by omega) (by omega) (by omega) (by omega), T8 3 k (by omega) (by omega), T8 6 k (by omega) (by omega)]
        rw [hmn (266 + 7 * k) (by omega), hmn (266 + 7 * k + 1) (by omega), hmn (266 + 7 * k + 2) (by omega), hmn (266 + 7 * k + 3) (by omega), hmn (266 + 7 * k + 4) (by omega), hmn (266 + 7 * k + 5) (by omega), hmn (266 + 7 * k + 6) (by omega)]
        rw [hm2n (266 + 7 * k) (by omega) (by omega) (by omega) (by omega), hm2n (266 + 7 * k + 1) (by omega) (by omega) (by omega) (by omega), hm2n (266 + 7 * k + 3) (by omega) (by omega) (by omega) (by omega), hm2n (266 + 7 * k + 4) (by omega) (by omega) (by omega) (by omega), hm2n (266 + 7 * k + 6) (by omega) (by omega) (by omega) (by omega)]
        by_cases c : k = g
        · subst c
          rw [if_pos rfl, if_pos rfl]
          refine ⟨hk2.1, hk2.2.1, hk2.2.2.1, fun z => ?_⟩
          have hk3 := hk2.2.2.2 z
          refine ⟨hk3.1, ?_, hk3.2.2.1, hk3.2.2.2.1, ?_⟩
          · rw [em2, w1_ne (by omega), w1_at]
          · rw [em2, w1_at]
        · rw [if_neg c, if_neg c, hm2n (266 + 7 * k + 2) (by omega) (by omega) (by omega) (by omega), hm2n (266 + 7 * k + 5) (by omega) (by omega) (by omega) (by omega)]
          exact hk2
    · refine RG_p (p := p) ?_ (fun i => dn 9 i (by omega) (by omega) (by omega) (by omega) (by omega)) ?_
      · unfold RG at *
        rw [hmn 0 (by omega), hmn 1 (by omega), hmn 2 (by omega), hmn 3 (by omega), hm2n 0 (by omega) (by omega) (by omega) (by omega), hm2n 1 (by omega) (by omega) (by omega) (by omega), hm2n 2 (by omega) (by omega) (by omega) (by omega), hm2n 3 (by omega) (by omega) (by omega) (by omega)]
        exact rg
      · rw [re_n p f g (by omega) (by omega), so_10, if_neg (by omega), e10 2 (by omega)]
