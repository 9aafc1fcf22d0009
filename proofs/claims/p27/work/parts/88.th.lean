

-- needs P<=45 87.th
theorem ad_lo (p : Nat → Nat → Nat) (n y f g : Nat) {F : Nat} (hF : F = 0 ∨ F = 1 ∨ F = 7 ∨ F = 8 ∨ F = 9) (i : Nat) : admF p n y f g F i = tkQ p f (szf n) g F i := by
  unfold admF
  rw [w2_ne (by omega), w2_ne (by omega), w2_ne (by omega), w2_ne (by omega), w2_ne (by omega), w2_ne (by omega)]
  rfl
theorem ad_10 (p : Nat → Nat → Nat) (n y f g i : Nat) : admF p n y f g 10 i = if i = 5 then p 10 5 + 1 else tkQ p f (szf n) g 10 i := by
  unfold admF
  rw [w2_sm, w2_ne (by omega), w2_ne (by omega), w2_ne (by omega), w2_ne (by omega), w2_ne (by omega)]
  rfl
theorem ad_2 (p : Nat → Nat → Nat) (n y f g i : Nat) : admF p n y f g 2 i = if i = g then n else tkQ p f (szf n) g 2 i := by
  unfold admF
  rw [w2_ne (by omega), w2_ne (by omega), w2_ne (by omega), w2_ne (by omega), w2_ne (by omega), w2_sm]
  rfl
theorem ad_3 (p : Nat → Nat → Nat) (n y f g i : Nat) : admF p n y f g 3 i = if i = g then f else tkQ p f (szf n) g 3 i := by
  unfold admF
  rw [w2_ne (by omega), w2_ne (by omega), w2_ne (by omega), w2_ne (by omega), w2_sm, w2_ne (by omega)]
  rfl
theorem ad_4 (p : Nat → Nat → Nat) (n y f g i : Nat) : admF p n y f g 4 i = if i = g then y else tkQ p f (szf n) g 4 i := by
  unfold admF
  rw [w2_ne (by omega), w2_ne (by omega), w2_ne (by omega), w2_sm, w2_ne (by omega), w2_ne (by omega)]
  rfl
theorem ad_5 (p : Nat → Nat → Nat) (n y f g i : Nat) : admF p n y f g 5 i = if i = g then 0 else tkQ p f (szf n) g 5 i := by
  unfold admF
  rw [w2_ne (by omega), w2_ne (by omega), w2_sm, w2_ne (by omega), w2_ne (by omega), w2_ne (by omega)]
  rfl
theorem ad_6 (p : Nat → Nat → Nat) (n y f g i : Nat) : admF p n y f g 6 i = if i = g then 0 else tkQ p f (szf n) g 6 i := by
  unfold admF
  rw [w2_ne (by omega), w2_sm, w2_ne (by omega), w2_ne (by omega), w2_ne (by omega), w2_ne (by omega)]
  rfl
theorem adm_all {p : Nat → Nat → Nat} {m : Nat → Nat} {B n y : Nat} (h : Inv p B) (hr : Rel p m) (h1 : 1 ≤ n) (hn : n ≤ 64) (hy : 1 ≤ y) (hy2 : y ≤ 30) (hw : rfs p (szf n) = 0) : ∃ r f, gK p < 12 ∧ wnM m n = 0 ∧ lhM m = gK p ∧ SB (cm1 m (gK p) n) ∧ sfm (cm1 m (gK p) n) (szf n) 64 = r + 1 ∧ r + cm1 m (gK p) n (10 + r) ≤ 64 ∧ f < 64 ∧ plc p (szf n) (p 9 0) = nI f ∧ f + tkN f (szf n) 6 p 0 f ≤ 64 ∧ Inv (admF p n y f (gK p)) B ∧ Rel (admF p n y f (gK p)) (cmM m (gK p) n r y) := by
  have hwf := InX_wf h
  have hsb := Rl_sb h hr (fun _ => by omega)
  obtain ⟨al, nf, gs, qu, sg, nm⟩ := id h
  obtain ⟨rs, rq, rh, rg⟩ := id hr
  have hwn := RH_wn al hwf hr hn
  have hlh := RH_lh rh
  have hg : gK p < 12 := by
    have := gK_le p
    unfold rfs at hw
    split at hw <;> omega
  have hlk : lk p (szf n) = 0 := by
    unfold rfs at hw
    split at hw
    · omega
    · exact hw
  have hgb := gK_b hg
  generalize gK p = g at *
  have c0 : ∀ i, i ≠ 266 + 7 * g → i ≠ 266 + 7 * g + 1 → cm1 m g n i = m i := fun i a b => by
    unfold cm1
    rw [w1_ne b, w1_ne a]
  have rs1 : RS p (cm1 m g n) := by
    unfold cm1
    exact RS_w1 (RS_w1 rs (by omega) (by omega) (by omega)) (by omega) (by omega) (by omega)
  have h00 : cm1 m g n 0 = p 9 0 := by rw [c0 0 (by omega) (by omega)]; exact rg.1
  have hs : sfm (cm1 m g n) (szf n) 64 ≠ 0 := by
    intro z
    have := RS_lk al hwf rs1 hn
    unfold wsM at this
    rw [hlk, z] at this
    split at this
    · omega
    · rw [if_pos rfl] at this
      omega
  obtain ⟨r, f, t1, t2, t3, t4, t5, t6, t7, t8, t9, t10, t11, t12, t13⟩ := tk_use h rs1 h00 hn hs
  have T := t13 g
  obtain ⟨T1, T2, T3, T4, T5, T6, T7, T8, T9, T10⟩ := T
  refine ⟨r, f, hg, by rw [hwn, hw], hlh, ?_, t1, t3, t5, t6, t8, ?_, ?_⟩
  · refine ⟨fun r' hr' => ?_, fun i hi => ?_, fun k hk => ?_⟩
    · rw [c0 _ (by omega) (by omega), c0 _ (by omega) (by omega)]
      exact hsb.1 r' hr'
    · rw [c0 _ (by omega) (by omega)]
      exact hsb.2.1 i hi
    · have := hsb.2.2 k hk
      rw [c0 (266 + 7 * k + 4) (by omega) (by omega), c0 (266 + 7 * k + 6) (by omega) (by omega)]
      refine ⟨?_, this.2.1, this.2.2⟩
      by_cases c : k = g
      · rw [c]
        unfold cm1
        rw [w1_ne (by omega), w1_at]
        omega
      · rw [c0 _ (by omega) (by omega)]
        exact this.1
  · have hz := szf_pw n hn
    have hzl := pow_le hz
    refine ⟨Al_p T1 (fun i => ad_lo p n y f g (by omega) i) (fun i => ad_lo p n y f g (by omega) i), Nf_p T2 (fun i => ad_lo p n y f g (by omega) i) (fun i => ad_lo p n y f g (by omega) i), ⟨fun k hk => ?_, fun r' hr' => ?_⟩, ?_, ?_, ?_⟩
    · have gk := gs.1 k hk
      rw [ad_2, ad_3, ad_4, ad_5, ad_6, ad_lo p n y f g (F := 7) (by omega)]
      rw [T8 2 k (by omega) (by omega), T8 3 k (by omega) (by omega), T8 4 k (by omega) (by omega), T8 5 k (by omega) (by omega), T8 6 k (by omega) (by omega), T8 7 k (by omega) (by omega)]
      by_cases c : k = g
      · rw [if_pos c, if_pos c, if_pos c, if_pos c, if_pos c]
        refine ⟨hn, t5, by omega, by omega, by omega, gk.2.2.2.2.2.1, fun _ => ?_⟩
        rw [ad_lo p n y f g (F := 0) (by omega), ad_lo p n y f g (F := 1) (by omega), T7 f (by omega) (by omega), T5, if_pos ⟨by omega, by omega⟩]
        exact ⟨t11, by rw [c], rfl, fun _ => hy, by rw [c]; exact hgb.2⟩
      · rw [if_neg c, if_neg c, if_neg c, if_neg c, if_neg c]
        refine ⟨gk.1, gk.2.1, gk.2.2.1, gk.2.2.2.1, gk.2.2.2.2.1, gk.2.2.2.2.2.1, fun z => ?_⟩
        have gk2 := gk.2.2.2.2.2.2 z
        rw [ad_lo p n y f g (F := 0) (by omega), ad_lo p n y f g (F := 1) (by omega), T6 _ gk.2.1 (by omega), T5, if_neg (fun y => by have := t12 _ y.1 y.2; omega)]
        exact gk2
    · have g2 := gs.2 r' hr'
      rw [ad_lo p n y f g (F := 1) (by omega), T5]
      by_cases c : f ≤ r' ∧ r' < f + szf n
      · rw [if_pos c]
        refine ⟨by omega, fun _ => ?_⟩
        rw [show g + 2 - 2 = g by omega, ad_2, ad_3, if_pos rfl, if_pos rfl]
        refine ⟨by omega, ?_⟩
        show f = r' - r' % admF p n y f g 0 r'
        rw [ad_lo p n y f g (F := 0) (by omega), T7 r' c.1 c.2]
        exact (blk_in hz t11 c.1 c.2).symm
      · rw [if_neg c]
        refine ⟨g2.1, fun z => ?_⟩
        have g3 := g2.2 z
        have hne : p 1 r' - 2 ≠ g := by
          intro e
          rw [e] at g3
          omega
        rw [ad_2, ad_3, if_neg hne, if_neg hne, T8 2 _ (by omega) (by omega), T8 3 _ (by omega) (by omega)]
        refine ⟨g3.1, ?_⟩
        rw [g3.2]
        show r' - r' % p 0 r' = r' - r' % admF p n y f g 0 r'
        rw [ad_lo p n y f g (F := 0) (by omega), T6 r' hr' (by omega)]
    · obtain ⟨q1, q2, q3, q4, q5⟩ := qu
      have e10 : ∀ i, i ≠ 5 → i ≠ 3 → admF p n y f g 10 i = p 10 i := fun i a b => by
        rw [ad_10, if_neg a, T8 10 i (by omega) (by omega)]
      have e8 : ∀ i, admF p n y f g 8 i = p 8 i := fun i => by rw [ad_lo p n y f g (F := 8) (by omega), T8 8 i (by omega) (by omega)]
      have e0 := e10 0 (by omega) (by omega)
      have e1 := e10 1 (by omega) (by omega)
      have hb : ∀ j, j < p 10 0 → admF p n y f g 0 (p 8 j) = p 0 (p 8 j) ∧ admF p n y f g 1 (p 8 j) = 0 := fun j hj => by
        have := q2 j hj
        rw [ad_lo p n y f g (F := 0) (by omega), ad_lo p n y f g (F := 1) (by omega), T6 _ this.1 (by omega), T5, if_neg (fun y => by have := t12 _ y.1 y.2; omega)]
        exact ⟨rfl, this.2.2⟩
      refine ⟨by omega, fun j hj => ?_, fun i j hi hj e => ?_, fun z => ?_, fun z => ?_⟩
      · rw [e8, (hb j (by omega)).1, (hb j (by omega)).2]
        have := q2 j (by omega)
        exact ⟨this.1, this.2.1, rfl⟩
      · rw [e8, e8] at e
        exact q3 i j (by omega) (by omega) e
      · rw [e1, e8, (hb 0 (by omega)).1]
        exact q4 (by omega)
      · rw [e1]
        exact q5 (by omega)
    · exact Sg_p sg (fun i => by rw [ad_lo p n y f g (F := 9) (by omega), T8 9 i (by omega) (by omega)])
    · unfold admF
      exact Nm_w2 (Nm_w2 (Nm_w2 (Nm_w2 (Nm_w2 (Nm_w2 T4 (by omega) (fun _ => hg) (by omega)) (by omega) (fun _ => hg) (by omega)) (by omega) (fun _ => hg) (by omega)) (by omega) (fun _ => hg) (by omega)) (by omega) (fun _ => hg) (by omega)) (by omega) (by omega) (by omega)
  · have ec : cmM m g n r y = w1 (w1 (w1 (w1 (w1 (tkS (cm1 m g n) r (szf n)) (266 + 7 * g + 2) f) (266 + 7 * g + 3) y) (266 + 7 * g + 4) 0) (266 + 7 * g + 5) 0) 6 (p 10 5 + 1) := by
      unfold cmM cm2
      rw [t10]
      congr 1
      rw [w1_ne (by omega), w1_ne (by omega), w1_ne (by omega), w1_ne (by omega), T9 6 (by omega) (by omega), c0 6 (by omega) (by omega), rh.1]
    have qu2 := qu
    obtain ⟨q1, q2, q3, q4, q5⟩ := qu2
    have e10 : ∀ i, i ≠ 5 → i ≠ 3 → admF p n y f g 10 i = p 10 i := fun i a b => by
      rw [ad_10, if_neg a, T8 10 i (by omega) (by omega)]
    refine ⟨?_, ?_, ?_, ?_⟩
    · rw [ec]
      refine RS_p (RS_w1 (RS_w1 (RS_w1 (RS_w1 (RS_w1 T3 (by omega) (by omega) (by omega)) (by omega) (by omega) (by omega)) (by omega) (by omega) (by omega)) (by omega) (by omega) (by omega)) (by omega) (by omega) (by omega)) (fun i => ad_lo p n y f g (by omega) i) (fun i => ad_lo p n y f g (by omega) i) ?_ ?_
      · rw [ad_10, if_neg (by omega)]
      · rw [ad_10, if_neg (by omega)]
    · rw [ec]
      refine ⟨?_, ?_, fun j hj => ?_⟩
      · rw [w1_ne (by omega), w1_ne (by omega), w1_ne (by omega), w1_ne (by omega), w1_ne (by omega), T9 9 (by omega) (by omega), c0 9 (by omega) (by omega), e10 0 (by omega) (by omega)]
        exact rq.1
      · rw [w1_ne (by omega), w1_ne (by omega), w1_ne (by omega), w1_ne (by omega), w1_ne (by omega), T9 7 (by omega) (by omega), c0 7 (by omega) (by omega), e10 7 (by omega) (by omega)]
        exact rq.2.1
      · rw [e10 0 (by omega) (by omega)] at hj
        have hj2 := q2 j hj
        rw [ad_lo p n y f g (F := 8) (by omega), T8 8 j (by omega) (by omega), e10 1 (by omega) (by omega)]
        rw [w1_ne (by omega), w1_ne (by omega), w1_ne (by omega), w1_ne (by omega), w1_ne (by omega), T9 _ (by omega) (by omega), c0 _ (by omega) (by omega)]
        rw [w1_ne (by omega), w1_ne (by omega), w1_ne (by omega), w1_ne (by omega), w1_ne (by omega), T10 _ hj2.1 (by omega), c0 _ (by omega) (by omega)]
        exact rq.2.2 j hj
    · rw [ec]
      refine ⟨?_, ?_, fun k hk => ?_⟩
      · rw [w1_at, ad_10, if_pos rfl]
      · rw [w1_ne (by omega), w1_ne (by omega), w1_ne (by omega), w1_ne (by omega), w1_ne (by omega), T9 8 (by omega) (by omega), c0 8 (by omega) (by omega), e10 6 (by omega) (by omega)]
        exact rh.2.1
      · have hk2 := rh.2.2 k hk
        rw [ad_2, ad_3, ad_4, ad_5, ad_6, ad_lo p n y f g (F := 7) (by omega)]
        rw [T8 2 k (by omega) (by omega), T8 3 k (by omega) (by omega), T8 4 k (by omega) (by omega), T8 5 k (by omega) (by omega), T8 6 k (by omega) (by omega), T8 7 k (by omega) (by omega)]
        by_cases c : k = g
        · subst c
          rw [if_pos rfl, if_pos rfl, if_pos rfl, if_pos rfl, if_pos rfl, if_pos (show 0 < n by omega)]
          refine ⟨?_, ?_, ?_, fun _ => ⟨?_, ?_, ?_, ?_, ?_⟩⟩
          · rw [w1_ne (by omega), w1_ne (by omega), w1_ne (by omega), w1_ne (by omega), w1_ne (by omega), T9 _ (by omega) (by omega)]
            unfold cm1
            rw [w1_ne (by omega), w1_at]
          · rw [w1_ne (by omega), w1_ne (by omega), w1_ne (by omega), w1_ne (by omega), w1_ne (by omega), T9 _ (by omega) (by omega), c0 _ (by omega) (by omega)]
            exact hk2.2.1
          · rw [w1_ne (by omega), w1_ne (by omega), w1_at]
            omega
          · rw [w1_ne (by omega), w1_ne (by omega), w1_ne (by omega), w1_ne (by omega), w1_ne (by omega), T9 _ (by omega) (by omega)]
            unfold cm1
            rw [w1_at]
          · rw [w1_ne (by omega), w1_ne (by omega), w1_ne (by omega), w1_ne (by omega), w1_at]
          · rw [w1_ne (by omega), w1_ne (by omega), w1_ne (by omega), w1_at]
          · rw [w1_ne (by omega), w1_ne (by omega), w1_at]
          · rw [w1_ne (by omega), w1_at]
        · rw [if_neg c, if_neg c, if_neg c, if_neg c, if_neg c]
          have e : ∀ i, 266 + 7 * k ≤ i → i < 266 + 7 * k + 7 → w1 (w1 (w1 (w1 (w1 (tkS (cm1 m g n) r (szf n)) (266 + 7 * g + 2) f) (266 + 7 * g + 3) y) (266 + 7 * g + 4) 0) (266 + 7 * g + 5) 0) 6 (p 10 5 + 1) i = m i := fun i hi hi2 => by
            rw [w1_ne (by omega), w1_ne (by omega), w1_ne (by omega), w1_ne (by omega), w1_ne (by omega), T9 _ (by omega) (by omega), c0 _ (by omega) (by omega)]
          rw [e (266 + 7 * k) (by omega) (by omega), e (266 + 7 * k + 1) (by omega) (by omega), e (266 + 7 * k + 2) (by omega) (by omega), e (266 + 7 * k + 3) (by omega) (by omega), e (266 + 7 * k + 4) (by omega) (by omega), e (266 + 7 * k + 5) (by omega) (by omega), e (266 + 7 * k + 6) (by omega) (by omega)]
          exact hk2
    · rw [ec]
      refine RG_w1 (RG_w1 (RG_w1 (RG_w1 (RG_w1 (RG_p (p := p) ?_ (fun i => ?_) ?_) (by omega)) (by omega)) (by omega)) (by omega)) (by omega)
      · unfold RG at *
        rw [T9 0 (by omega) (by omega), T9 1 (by omega) (by omega), T9 2 (by omega) (by omega), T9 3 (by omega) (by omega), c0 0 (by omega) (by omega), c0 1 (by omega) (by omega), c0 2 (by omega) (by omega), c0 3 (by omega) (by omega)]
        exact rg
      · rw [ad_lo p n y f g (F := 9) (by omega), T8 9 i (by omega) (by omega)]
      · exact e10 2 (by omega) (by omega)
