
-- needs P<=45 99.b
/-- an answer, and nothing changed -/
theorem same_n {B z R c l n a a' : Nat} {p t s h0 h1 h2 h3 : Nat → Nat → Nat} {x k u' v' : Nat → Int32} {m b sp hy g : Nat → Nat} {sg f1 f2 : Int32} (hc : SimC B z p t s R c h0 h1 h2 h3 l x m hy g) : Sim (B + 1) (topT z p t s (hisR R c h0 h1 h2 h3 ++ ordT l n a x k u' v')) (modW m b sp hy g x c z l a' sg f1 f2) := by
  refine Sim_up (B := B) ⟨z, p, t, s, R, c, h0, h1, h2, h3, l, n, a, x, k, u', v', m, b, sp, hy, g, a', sg, f1, f2, rfl, rfl, hc⟩ (by omega)
theorem c_move (d : Nat) (u : Int32) : OK d 108 170 [.int u] := by
  intro B A M hB ⟨z, p, t, s, R, c, h0, h1, h2, h3, l, n, a, x, k, u', v', m, b, sp, hy, g, a', sg, f1, f2, e1, e2, hc⟩
  subst e1 e2
  have hi := hc.1.2.1
  have hr := hc.1.2.2.1
  have hd := hc.1.2.2.2.1
  have nm := hi.2.2.2.2.2
  have hwf := InX_wf hi
  have hb := InX_hb hi (show B < 1000000 by omega)
  have hsb := Rl_sb hi hr (fun _ => by omega)
  -- an attempt that fails
  have bad : ∀ w : Int32, w < 0 → exec roS (d + 8) 58 [.ref 0, .int u] (palW p) = some (some (.int w), palW p) → exec roS (d + 9) 170 [.ref 0, .int u] (modW m b sp hy g x c z l a' sg f1 f2) = some (some (.int w), modW m b sp hy g x c z l a' sg f1 f2) → ∃ w A' M', exec roS (d + 9) 108 [.ref 0, .int u] (topT z p t s (hisR R c h0 h1 h2 h3 ++ ordT l n a x k u' v')) = some (some (.int w), A') ∧ exec roS (d + 9) 170 [.ref 0, .int u] (modW m b sp hy g x c z l a' sg f1 f2) = some (some (.int w), M') ∧ Sim (B + 1) A' M' := by
    intro w hw e1 e2
    obtain ⟨p', T', t1, t2, t3, t4⟩ := set_both (n := n) (a := a) (a' := a') (k := k) (u := u') (v := v') (sp := sp) (sg := sg) (f1 := f1) (f2 := f2) roS hc (m' := m) (q := p) (w := w) (B' := B) (Or.inl ⟨hw, hr, nm⟩) (Nat.le_refl B)
    have ec := top_move roS (d + 2) z p t s _ T' (tf_ok hc.2.1.1 c h0 h1 h2 h3 l n a x k u' v') t1 nm hc.1.2.2.2.2.1 e1 (t2 (d + 4))
    exact ⟨w, _, _, ec, e2, Sim_up (t3 hw _) (by omega)⟩
  rcases hk_rng u with ⟨g1, g2⟩ | ⟨j, hj, rfl⟩
  · exact bad (-1) (by decide) (p_rehouseN roS (d + 5) p g2) (m_moveO roS (d + 6) m b sp hy g x c z l a' sg f1 f2 g1)
  · have hh := hr.2.2.1.2.2 j hj
    by_cases h0' : p 2 j = 0
    · exact bad (-1) (by decide) (p_rehouse0 roS (d + 5) p hj h0') (m_move0 roS (d + 6) m b sp hy g x c z l a' sg f1 f2 hj (by rw [hh.1, if_neg (by omega)]))
    · have hp : 0 < p 2 j := by omega
      have gg := hi.2.2.1.1 j hj
      have e1 := (hh.2.2.2 hp).1
      by_cases hl : lk p (szf (p 2 j)) = 0
      · obtain ⟨r, f, k1, k2, k3, k4, k5, k6, k7, k8, k9, k10, k11, k12, k13, k14, k15⟩ := reh_all hi hr hj hp hl
        have ep := p_rehouseY roS (d + 2) p hj hwf hb hp gg.1 hl hi.2.2.2.2.1.1 k9 k10 k11 k12 k13
        have em := m_move roS (d + 5) m b sp hy g x c z l a' sg f1 f2 (r := r) hj k1 hsb (by rw [k2]; exact gg.1) (by rw [k2]; exact k4) (by rw [k2]; exact k5) k6 (by rw [k3]; exact gg.2.1) k7 (by rw [k8]; exact k9) hc.2.1.2.1
        rw [k8] at em
        have hd2 : rehF p f j 10 2 ≤ 9999 := by
          have ht : ∀ k q, tkN f (szf (p 2 j)) k q 10 2 = q 10 2 := by
            intro k
            induction k with
            | zero => intro q; rfl
            | succ k ih =>
              intro q
              unfold tkN
              split
              · rw [ih, hv_n (by omega) (by omega)]
              · rfl
          rw [re_n p f j (by omega) (by omega), so_10, if_neg (by omega)]
          unfold tkQ
          rw [gv_n _ (by omega), ht]
          exact hd
        obtain ⟨p', T', t1, t2, t3, t4⟩ := set_both (n := n) (a := a) (a' := a') (k := k) (u := u') (v := v') (sp := sp) (sg := sg) (f1 := f1) (f2 := f2) roS hc (m' := mvM m j r) (q := rehF p f j) (w := nI f) (B' := B + 1) (Or.inr ⟨⟨f, by omega, rfl⟩, k14, k15, hd2⟩) (by omega)
        have ec := top_move roS (d + 2) z p t s _ T' (tf_ok hc.2.1.1 c h0 h1 h2 h3 l n a x k u' v') t1 nm hc.1.2.2.2.2.1 ep (t2 (d + 4))
        exact ⟨nI f, _, _, ec, em, t4 (nI_pos (by omega)) _ (fun i hi => cpl_a0 hi)⟩
      · have hlk := RS_lk hi.1 hwf hr.1 gg.1
        exact bad (-4) (by decide) (p_rehouseL roS (d + 3) p hj hwf hp gg.1 hl) (m_moveR roS (d + 5) m b sp hy g x c z l a' sg f1 f2 hj (by rw [hh.1, if_pos hp]) hsb (by rw [e1]; exact gg.1) (by rw [e1, hlk]; exact hl))
theorem c_stay (d : Nat) (u v : Int32) : OK d 109 171 [.int u, .int v] := by
  intro B A M hB ⟨z, p, t, s, R, c, h0, h1, h2, h3, l, n, a, x, k, u', v', m, b, sp, hy, g, a', sg, f1, f2, e1, e2, hc⟩
  subst e1 e2
  have hi := hc.1.2.1
  have hr := hc.1.2.2.1
  have hd := hc.1.2.2.2.1
  have nm := hi.2.2.2.2.2
  have bad : ∀ w : Int32, w < 0 → exec roS (d + 8) 60 [.ref 0, .int u, .int v] (palW p) = some (some (.int w), palW p) → exec roS (d + 9) 171 [.ref 0, .int u, .int v] (modW m b sp hy g x c z l a' sg f1 f2) = some (some (.int w), modW m b sp hy g x c z l a' sg f1 f2) → ∃ w A' M', exec roS (d + 9) 109 [.ref 0, .int u, .int v] (topT z p t s (hisR R c h0 h1 h2 h3 ++ ordT l n a x k u' v')) = some (some (.int w), A') ∧ exec roS (d + 9) 171 [.ref 0, .int u, .int v] (modW m b sp hy g x c z l a' sg f1 f2) = some (some (.int w), M') ∧ Sim (B + 1) A' M' := by
    intro w hw e1 e2
    obtain ⟨p', T', t1, t2, t3, t4⟩ := set_both (n := n) (a := a) (a' := a') (k := k) (u := u') (v := v') (sp := sp) (sg := sg) (f1 := f1) (f2 := f2) roS hc (m' := m) (q := p) (w := w) (B' := B) (Or.inl ⟨hw, hr, nm⟩) (Nat.le_refl B)
    have ec := top_stay roS (d + 3) z p t s _ T' (tf_ok hc.2.1.1 c h0 h1 h2 h3 l n a x k u' v') t1 nm hc.1.2.2.2.2.1 e1 (t2 (d + 4))
    exact ⟨w, _, _, ec, e2, Sim_up (t3 hw _) (by omega)⟩
  rcases hk_rng u with ⟨g1, g2⟩ | ⟨j, hj, rfl⟩
  · exact bad (-1) (by decide) (p_prolongN roS (d + 5) p g2) (m_stayO roS (d + 6) m b sp hy g x c z l a' sg f1 f2 g1)
  · have hh := hr.2.2.1.2.2 j hj
    by_cases h0' : p 2 j = 0
    · exact bad (-1) (by decide) (p_prolong0 roS (d + 5) p hj h0') (m_stay0 roS (d + 6) m b sp hy g x c z l a' sg f1 f2 hj (by rw [hh.1, if_neg (by omega)]))
    · have hp : 0 < p 2 j := by omega
      have gg := hi.2.2.1.1 j hj
      have h1' : m (266 + 7 * j) = 1 := by rw [hh.1, if_pos hp]
      have hm3 := (hh.2.2.2 hp).2.2.1
      rcases in_rng v (a := 1) (b := 30) (by omega) (by omega) with g1 | ⟨y, y1, y2, rfl⟩
      · exact bad (-2) (by decide) (p_prolongO roS (d + 5) p hj hp (by omega) g1) (m_stayD roS (d + 6) m b sp hy g x c z l a' sg f1 f2 hj h1' g1)
      · have ep := p_prolong roS (d + 5) p hj hp (by omega) y1 y2 (by omega)
        have em := m_stay roS (d + 6) m b sp hy g x c z l a' sg f1 f2 hj h1' y1 y2 (by omega) hc.2.1.2.1
        rw [hm3] at em
        by_cases c99 : 99 < p 4 j + y
        · rw [if_pos c99] at ep em
          exact bad (-4) (by decide) ep em
        · rw [if_neg c99] at ep em
          obtain ⟨p', T', t1, t2, t3, t4⟩ := set_both (n := n) (a := a) (a' := a') (k := k) (u := u') (v := v') (sp := sp) (sg := sg) (f1 := f1) (f2 := f2) roS hc (m' := w1 m (266 + 7 * j + 3) (p 4 j + y)) (q := w2 p 4 j (p 4 j + y)) (w := nI (p 4 j + y)) (B' := B) (Or.inr ⟨⟨_, by omega, rfl⟩, w4_inv hi hj (by omega) (Or.inr (by omega)), w4_rel hi hr hj, by rw [w2_ne (by omega)]; exact hd⟩) (by omega)
          have ec := top_stay roS (d + 3) z p t s _ T' (tf_ok hc.2.1.1 c h0 h1 h2 h3 l n a x k u' v') t1 nm hc.1.2.2.2.2.1 ep (t2 (d + 4))
          exact ⟨_, _, _, ec, em, Sim_up (t4 (nI_pos (by omega)) _ (fun i hi => cpl_a0 hi)) (by omega)⟩
theorem los_inv {p : Nat → Nat → Nat} {B j : Nat} (h : Inv p B) (hj : j < 12) : Inv (losF p j) B := by
  obtain ⟨al, nf, gs, qu, sg, nm⟩ := h
  have d : ∀ F, F ≠ 5 → F ≠ 10 → ∀ i, losF p j F i = p F i := fun F a b i => by unfold losF; rw [w2_ne b, w2_ne a]
  have d5 : ∀ i, losF p j 5 i = if i = j then 1 else p 5 i := fun i => by unfold losF; rw [w2_ne (by omega), w2_sm]
  have d10 : ∀ i, i ≠ 6 → losF p j 10 i = p 10 i := fun i a => by unfold losF; rw [w2_ni a, w2_ne (by omega)]
  refine ⟨Al_p al (d 0 (by omega) (by omega)) (d 1 (by omega) (by omega)), Nf_p nf (d 0 (by omega) (by omega)) (d 1 (by omega) (by omega)), ⟨fun g hg => ?_, fun r hr => ?_⟩, Qu_p qu (d 0 (by omega) (by omega)) (d 1 (by omega) (by omega)) (d 8 (by omega) (by omega)) (d10 0 (by omega)) (d10 1 (by omega)), Sg_p sg (d 9 (by omega) (by omega)), Nm_w2 (Nm_w2 nm (by omega) (fun _ => hj) (by omega)) (by omega) (by omega) (by omega)⟩
  · have := gs.1 g hg
    rw [d 2 (by omega) (by omega), d 3 (by omega) (by omega), d 4 (by omega) (by omega), d5, d 6 (by omega) (by omega), d 7 (by omega) (by omega), d 0 (by omega) (by omega), d 1 (by omega) (by omega)]
    refine ⟨this.1, this.2.1, this.2.2.1, ?_, this.2.2.2.2⟩
    split
    · omega
    · exact this.2.2.2.1
  · rw [d 1 (by omega) (by omega), d 2 (by omega) (by omega), d 3 (by omega) (by omega)]
    have := gs.2 r hr
    refine ⟨this.1, fun y => ?_⟩
    have := this.2 y
    unfold fst at this ⊢
    rw [d 0 (by omega) (by omega)]
    exact this
theorem los_rel {p : Nat → Nat → Nat} {m : Nat → Nat} {B j : Nat} (h : Inv p B) (hr : Rel p m) (hj : j < 12) : Rel (losF p j) (lsM m j) := by
  obtain ⟨rs, rq, rh, rg⟩ := hr
  have d : ∀ F, F ≠ 5 → F ≠ 10 → ∀ i, losF p j F i = p F i := fun F a b i => by unfold losF; rw [w2_ne b, w2_ne a]
  have d5 : ∀ i, losF p j 5 i = if i = j then 1 else p 5 i := fun i => by unfold losF; rw [w2_ne (by omega), w2_sm]
  have d10 : ∀ i, i ≠ 6 → losF p j 10 i = p 10 i := fun i a => by unfold losF; rw [w2_ni a, w2_ne (by omega)]
  have d6 : losF p j 10 6 = p 10 6 + 1 := by unfold losF; rw [w2_at]
  have e : ∀ i, i ≠ 8 → i ≠ 266 + 7 * j + 4 → lsM m j i = m i := fun i a b => by unfold lsM; rw [w1_ne a, w1_ne b]
  have e8 : lsM m j 8 = m 8 + 1 := by unfold lsM; rw [w1_at, w1_ne (by omega)]
  refine ⟨RS_p ?_ (d 0 (by omega) (by omega)) (d 1 (by omega) (by omega)) (d10 3 (by omega)) (d10 4 (by omega)), RQ_p ?_ (d10 0 (by omega)) (d10 1 (by omega)) (d10 7 (by omega)) (d 8 (by omega) (by omega)), ⟨?_, ?_, fun k hk => ?_⟩, RG_p ?_ (d 9 (by omega) (by omega)) (d10 2 (by omega))⟩
  · unfold lsM
    exact RS_w1 (RS_w1 rs (by omega) (by omega) (by omega)) (by omega) (by omega) (by omega)
  · unfold lsM
    exact RQ_w1 h.2.2.2.1 (RQ_w1 h.2.2.2.1 rq (by omega) (by omega) (by omega)) (by omega) (by omega) (by omega)
  · rw [e 6 (by omega) (by omega), d10 5 (by omega)]; exact rh.1
  · rw [e8, d6, rh.2.1]
  · have := rh.2.2 k hk
    rw [e (266 + 7 * k) (by omega) (by omega), e (266 + 7 * k + 1) (by omega) (by omega), e (266 + 7 * k + 2) (by omega) (by omega), e (266 + 7 * k + 3) (by omega) (by omega), e (266 + 7 * k + 5) (by omega) (by omega), e (266 + 7 * k + 6) (by omega) (by omega), d 2 (by omega) (by omega), d 3 (by omega) (by omega), d 4 (by omega) (by omega), d5, d 6 (by omega) (by omega), d 7 (by omega) (by omega)]
    by_cases ck : k = j
    · subst ck
      have e4 : lsM m k (266 + 7 * k + 4) = 1 := by unfold lsM; rw [w1_ne (by omega), w1_at]
      rw [e4, if_pos rfl]
      exact ⟨this.1, this.2.1, by omega, fun y => ⟨(this.2.2.2 y).1, (this.2.2.2 y).2.1, (this.2.2.2 y).2.2.1, rfl, (this.2.2.2 y).2.2.2.2⟩⟩
    · rw [if_neg ck, e _ (by omega) (by omega)]
      exact this
  · unfold lsM
    exact RG_w1 (RG_w1 rg (by omega)) (by omega)
theorem los_c {p : Nat → Nat → Nat} {m : Nat → Nat} (hr : Rel p m) : gtM m 4 = cL p := cnt_congr 12 (fun g hg => by
  have := hr.2.2.1.2.2 g hg
  by_cases h0 : 0 < p 2 g
  · rw [this.1, if_pos h0, (this.2.2.2 h0).2.2.2.1, decide_eq_true h0]
    rfl
  · rw [this.1, if_neg h0, decide_eq_false h0]
    rfl)
theorem c_lose (d : Nat) (u : Int32) : OK d 110 173 [.int u] := by
  intro B A M hB ⟨z, p, t, s, R, c, h0, h1, h2, h3, l, n, a, x, k, u', v', m, b, sp, hy, g, a', sg, f1, f2, e1, e2, hc⟩
  subst e1 e2
  have hi := hc.1.2.1
  have hr := hc.1.2.2.1
  have hd := hc.1.2.2.2.1
  have nm := hi.2.2.2.2.2
  have hb := InX_hb hi (show B < 1000000 by omega)
  have bad : ∀ w : Int32, w < 0 → exec roS (d + 8) 61 [.ref 0, .int u] (palW p) = some (some (.int w), palW p) → exec roS (d + 9) 173 [.ref 0, .int u] (modW m b sp hy g x c z l a' sg f1 f2) = some (some (.int w), modW m b sp hy g x c z l a' sg f1 f2) → ∃ w A' M', exec roS (d + 9) 110 [.ref 0, .int u] (topT z p t s (hisR R c h0 h1 h2 h3 ++ ordT l n a x k u' v')) = some (some (.int w), A') ∧ exec roS (d + 9) 173 [.ref 0, .int u] (modW m b sp hy g x c z l a' sg f1 f2) = some (some (.int w), M') ∧ Sim (B + 1) A' M' := by
    intro w hw e1 e2
    obtain ⟨p', T', t1, t2, t3, t4⟩ := set_both (n := n) (a := a) (a' := a') (k := k) (u := u') (v := v') (sp := sp) (sg := sg) (f1 := f1) (f2 := f2) roS hc (m' := m) (q := p) (w := w) (B' := B) (Or.inl ⟨hw, hr, nm⟩) (Nat.le_refl B)
    have ec := top_lose roS (d + 3) z p t s _ T' (tf_ok hc.2.1.1 c h0 h1 h2 h3 l n a x k u' v') t1 nm hc.1.2.2.2.2.1 e1 (t2 (d + 4))
    exact ⟨w, _, _, ec, e2, Sim_up (t3 hw _) (by omega)⟩
  rcases hk_rng u with ⟨g1, g2⟩ | ⟨j, hj, rfl⟩
  · exact bad (-1) (by decide) (p_loseN roS (d + 5) p g2) (m_loseO roS (d + 6) m b sp hy g x c z l a' sg f1 f2 g1)
  · have hh := hr.2.2.1.2.2 j hj
    by_cases h0' : p 2 j = 0
    · exact bad (-1) (by decide) (p_lose0 roS (d + 5) p hj h0') (m_lose0 roS (d + 6) m b sp hy g x c z l a' sg f1 f2 hj (by rw [hh.1, if_neg (by omega)]))
    · have hp : 0 < p 2 j := by omega
      have gg := hi.2.2.1.1 j hj
      have h1' : m (266 + 7 * j) = 1 := by rw [hh.1, if_pos hp]
      have h4 := (hh.2.2.2 hp).2.2.2.1
      have ep := p_lose roS (d + 4) p hj hp hb
      by_cases c5 : p 5 j = 1
      · rw [if_pos c5] at ep
        exact bad (-5) (by decide) ep (m_lose1 roS (d + 6) m b sp hy g x c z l a' sg f1 f2 hj h1' (by rw [h4]; exact c5))
      · rw [if_neg c5] at ep
        have li := los_inv hi hj
        have lr := los_rel hi hr hj
        have em := m_lose roS (d + 6) m b sp hy g x c z l a' sg f1 f2 hj h1' (by rw [h4]; omega) (Rl_sb li lr (fun _ => by omega)) hc.2.1.2.1
        rw [los_c lr] at em
        have hle : cL (losF p j) ≤ 12 := cnt_le _ 12
        obtain ⟨p', T', t1, t2, t3, t4⟩ := set_both (n := n) (a := a) (a' := a') (k := k) (u := u') (v := v') (sp := sp) (sg := sg) (f1 := f1) (f2 := f2) roS hc (m' := lsM m j) (q := losF p j) (w := nI (cL (losF p j))) (B' := B) (Or.inr ⟨⟨_, by omega, rfl⟩, li, lr, by unfold losF; rw [w2_ni (by omega), w2_ne (by omega)]; exact hd⟩) (by omega)
        have ec := top_lose roS (d + 3) z p t s _ T' (tf_ok hc.2.1.1 c h0 h1 h2 h3 l n a x k u' v') t1 nm hc.1.2.2.2.2.1 ep (t2 (d + 4))
        exact ⟨_, _, _, ec, em, Sim_up (t4 (nI_pos (by omega)) _ (fun i hi => cpl_a0 hi)) (by omega)⟩
theorem set_inv {p : Nat → Nat → Nat} {B j y : Nat} (h : Inv p B) (hj : j ≤ 2) (hy : (if j = 1 then 1 else 0) ≤ y ∧ y ≤ (if j = 0 then 1 else if j = 1 then 64 else 9)) : Inv (w2 p 9 j y) B := by
  obtain ⟨al, nf, gs, qu, sg, nm⟩ := h
  have d : ∀ F, F ≠ 9 → ∀ i, w2 p 9 j y F i = p F i := fun F a i => w2_ne a i
  refine ⟨Al_p al (d 0 (by omega)) (d 1 (by omega)), Nf_p nf (d 0 (by omega)) (d 1 (by omega)), ⟨fun g hg => ?_, fun r hr => ?_⟩, Qu_p qu (d 0 (by omega)) (d 1 (by omega)) (d 8 (by omega)) (d 10 (by omega) 0) (d 10 (by omega) 1), ?_, Nm_w2 nm (by omega) (by omega) (by omega)⟩
  · have := gs.1 g hg
    rw [d 2 (by omega), d 3 (by omega), d 4 (by omega), d 5 (by omega), d 6 (by omega), d 7 (by omega), d 0 (by omega), d 1 (by omega)]
    exact this
  · rw [d 1 (by omega), d 2 (by omega), d 3 (by omega)]
    have := gs.2 r hr
    refine ⟨this.1, fun z => ?_⟩
    have := this.2 z
    unfold fst at this ⊢
    rw [d 0 (by omega)]
    exact this
  · unfold Sg at *
    rw [w2_sm, w2_sm, w2_sm]
    rcases (show j = 0 ∨ j = 1 ∨ j = 2 by omega) with rfl | rfl | rfl
    · rw [if_pos rfl, if_neg (by omega), if_neg (by omega)]
      rw [if_neg (by omega), if_pos rfl] at hy
      omega
    · rw [if_neg (by omega), if_pos rfl, if_neg (by omega)]
      rw [if_pos rfl, if_neg (by omega), if_pos rfl] at hy
      omega
    · rw [if_neg (by omega), if_neg (by omega), if_pos rfl]
      rw [if_neg (by omega), if_neg (by omega), if_neg (by omega)] at hy
      omega
theorem set_rel {p : Nat → Nat → Nat} {m : Nat → Nat} {B j y : Nat} (h : Inv p B) (hr : Rel p m) (hj : j ≤ 2) : Rel (w2 p 9 j y) (w1 m j y) := by
  obtain ⟨rs, rq, rh, rg⟩ := hr
  have d : ∀ F, F ≠ 9 → ∀ i, w2 p 9 j y F i = p F i := fun F a i => w2_ne a i
  refine ⟨RS_p (RS_w1 rs (by omega) (by omega) (by omega)) (d 0 (by omega)) (d 1 (by omega)) (d 10 (by omega) 3) (d 10 (by omega) 4), RQ_p (RQ_w1 h.2.2.2.1 rq (by omega) (by omega) (by omega)) (d 10 (by omega) 0) (d 10 (by omega) 1) (d 10 (by omega) 7) (d 8 (by omega)), ⟨?_, ?_, fun k hk => ?_⟩, ?_⟩
  · rw [w1_ne (by omega), d 10 (by omega)]; exact rh.1
  · rw [w1_ne (by omega), d 10 (by omega)]; exact rh.2.1
  · have e : ∀ i, 266 ≤ i → w1 m j y i = m i := fun i hi => w1_ne (by omega)
    rw [e _ (by omega), e _ (by omega), e _ (by omega), e _ (by omega), e _ (by omega), e _ (by omega), e _ (by omega), d 2 (by omega), d 3 (by omega), d 4 (by omega), d 5 (by omega), d 6 (by omega), d 7 (by omega)]
    exact rh.2.2 k hk
  · unfold RG at *
    rw [w2_sm, w2_sm, w2_sm, d 10 (by omega)]
    unfold w1
    rcases (show j = 0 ∨ j = 1 ∨ j = 2 by omega) with rfl | rfl | rfl
    · exact ⟨rfl, rg.2.1, rg.2.2.1, rg.2.2.2⟩
    · exact ⟨rg.1, rfl, rg.2.2.1, rg.2.2.2⟩
    · exact ⟨rg.1, rg.2.1, rfl, rg.2.2.2⟩
theorem c_set (d : Nat) (u v : Int32) : OK d 112 176 [.int u, .int v] := by
  intro B A M hB ⟨z, p, t, s, R, c, h0, h1, h2, h3, l, n, a, x, k, u', v', m, b, sp, hy, g, a', sg, f1, f2, e1, e2, hc⟩
  subst e1 e2
  have hi := hc.1.2.1
  have hr := hc.1.2.2.1
  have hd := hc.1.2.2.2.1
  have nm := hi.2.2.2.2.2
  have bad : ∀ w : Int32, w < 0 → exec roS (d + 8) 65 [.ref 0, .int u, .int v] (palW p) = some (some (.int w), palW p) → ∀ m' b', Rel p m' → exec roS (d + 9) 176 [.ref 0, .int u, .int v] (modW m b sp hy g x c z l a' sg f1 f2) = some (some (.int w), modW m' b' sp hy g x c z l a' sg f1 f2) → ∃ w A' M', exec roS (d + 9) 112 [.ref 0, .int u, .int v] (topT z p t s (hisR R c h0 h1 h2 h3 ++ ordT l n a x k u' v')) = some (some (.int w), A') ∧ exec roS (d + 9) 176 [.ref 0, .int u, .int v] (modW m b sp hy g x c z l a' sg f1 f2) = some (some (.int w), M') ∧ Sim (B + 1) A' M' := by
    intro w hw e1 m' b' hr' e2
    obtain ⟨p', T', t1, t2, t3, t4⟩ := set_both (n := n) (a := a) (a' := a') (k := k) (u := u') (v := v') (sp := sp) (sg := sg) (f1 := f1) (f2 := f2) roS hc (m' := m') (q := p) (w := w) (B' := B) (Or.inl ⟨hw, hr', nm⟩) (Nat.le_refl B)
    have ec := top_setV roS (d + 3) z p t s _ T' (tf_ok hc.2.1.1 c h0 h1 h2 h3 l n a x k u' v') t1 nm hc.1.2.2.2.2.1 e1 (t2 (d + 4))
    exact ⟨w, _, _, ec, e2, Sim_up (t3 hw _) (by omega)⟩
  rcases in_rng u (a := 0) (b := 2) (by omega) (by omega) with g1 | ⟨j, _, hj, rfl⟩
  · exact bad (-1) (by decide) (p_adjustO roS (d + 6) p g1) m b hr (m_setO roS (d + 7) m b sp hy g x c z l a' sg f1 f2 g1)
  · have ep := p_adjust (d + 6) p (b := v) hj
    have hlo : (if j = 1 then 1 else 0) ≤ 1 := by split <;> omega
    have hhi : (if j = 0 then 1 else if j = 1 then 64 else 9) ≤ 64 := by split <;> (try split) <;> omega
    rcases in_rng v (a := if j = 1 then 1 else 0) (b := if j = 0 then 1 else if j = 1 then 64 else 9) (by omega) (by omega) with g2 | ⟨y, y1, y2, rfl⟩
    · rw [if_pos g2] at ep
      exact bad (-2) (by decide) ep m b hr (m_setD roS (d + 7) m b sp hy g x c z l a' sg f1 f2 hj g2)
    · have hno : ¬ (nI y < nI (if j = 1 then 1 else 0) ∨ nI (if j = 0 then 1 else if j = 1 then 64 else 9) < nI y) := by
        rw [nb_ltI (by omega) (by omega), nb_ltI (by omega) (by omega)]
        omega
      rw [if_neg hno] at ep
      have hmj : m j = p 9 j := by
        have := hr.2.2.2
        unfold RG at this
        rcases (show j = 0 ∨ j = 1 ∨ j = 2 by omega) with rfl | rfl | rfl
        · exact this.1
        · exact this.2.1
        · exact this.2.2.1
      have hpj : p 9 j ≤ 64 := by
        have := hi.2.2.2.2.1
        unfold Sg at this
        rcases (show j = 0 ∨ j = 1 ∨ j = 2 by omega) with rfl | rfl | rfl <;> omega
      have em := m_set roS (d + 6) m b sp hy g x c z l a' sg f1 f2 hj hno (by omega) (by omega) hc.2.1.2.1
      rw [hmj] at em
      by_cases ce : p 9 j = y
      · rw [if_pos (by rw [ce])] at ep
        rw [if_pos ce] at em
        refine bad (-5) (by decide) ep _ _ ?_ em
        rw [← ce, ← hmj, w1_sm]
        exact hr
      · rw [if_neg (by rw [nI_eq (by omega) (by omega)]; exact ce)] at ep
        rw [if_neg ce] at em
        have ew : (palW p).set 13 (.inl (0, 3, upd (fun i => nI (p 9 i)) j (nI y))) = palW (w2 p 9 j y) := by
          rw [upd_w2]
          have e : ∀ F, F ≠ 9 → w2 p 9 j y F = p F := fun F hF => funext (fun i => w2_ne hF i)
          unfold palW
          rw [e 0 (by omega), e 1 (by omega), e 2 (by omega), e 3 (by omega), e 4 (by omega), e 5 (by omega), e 6 (by omega), e 7 (by omega), e 8 (by omega), e 10 (by omega)]
          rfl
        rw [ew] at ep
        obtain ⟨p', T', t1, t2, t3, t4⟩ := set_both (n := n) (a := a) (a' := a') (k := k) (u := u') (v := v') (sp := sp) (sg := sg) (f1 := f1) (f2 := f2) roS hc (m' := w1 m j y) (q := w2 p 9 j y) (w := nI (p 9 j)) (B' := B) (Or.inr ⟨⟨_, by omega, rfl⟩, set_inv hi hj ⟨y1, y2⟩, set_rel hi hr hj, by rw [w2_ne (by omega)]; exact hd⟩) (by omega)
        have ec := top_setV roS (d + 3) z p t s _ T' (tf_ok hc.2.1.1 c h0 h1 h2 h3 l n a x k u' v') t1 nm hc.1.2.2.2.2.1 ep (t2 (d + 4))
        exact ⟨_, _, _, ec, em, Sim_up (t4 (nI_pos (by omega)) _ (fun i hi => cpl_a0 hi)) (by omega)⟩
