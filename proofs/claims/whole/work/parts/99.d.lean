
-- needs P<=45 99.c
theorem c_undo (d : Nat) : OK d 117 141 [] := by
  intro B A M hB ⟨z, p, t, s, R, c, h0, h1, h2, h3, l, n, a, x, k, u', v', m, b, sp, hy, g, a', sg, f1, f2, e1, e2, hc⟩
  subst e1 e2
  obtain ⟨⟨c1, c2, c3, c4, c5, c6, c7⟩, ⟨d1, d2, d3, d4, d5, d6, d7⟩, c8⟩ := id hc
  cases c with
  | zero => exact ⟨-5, _, _, top_undo0 roS (d + 5) d1, m_undo0 roS (d + 8) m b sp hy g x z l a' sg f1 f2, same_n hc⟩
  | succ c =>
    have hq' := d7 c (by omega)
    have e : tkb (c + 1) h0 h1 h2 h3 = hq h0 h1 h2 h3 c := by
      rcases (show c = 0 ∨ c = 1 ∨ c = 2 ∨ c = 3 by omega) with rfl | rfl | rfl | rfl <;> rfl
    have ec := top_undo roS (d + 5) (z := z) (p := p) (t := t) (s := s) (l := l) (n := n) (a := a) (x := x) (k := k) (u := u') (v := v') d1 (show c < 4 by omega) c2.2.2.2.2.2 d3 d4 d5 d6
    rw [e] at ec
    have em := m_undo roS (d + 8) m b sp hy g x c z l a' sg f1 f2 (by omega)
    refine ⟨nI c, _, _, ec, em, Sim_up (B := B) ⟨z, hq h0 h1 h2 h3 c, t, s, R, c, h0, h1, h2, h3, l, n, a, x, k, u', v', _, b, sp, hy, g, a', sg, f1, f2, rfl, rfl, ⟨c1, hq'.1, Rel_ext hq'.1 hq'.2.1 (fun i hi => ?_), hq'.2.2, c5, c6, c7⟩, ⟨d1, by omega, d3, d4, d5, d6, fun i hi => d7 i (by omega)⟩, c8⟩ (by omega)⟩
    rw [cpl_a0 hi, Nat.mul_comm]
theorem c_keep (d : Nat) : OK d 118 142 [] := by
  intro B A M hB ⟨z, p, t, s, R, c, h0, h1, h2, h3, l, n, a, x, k, u', v', m, b, sp, hy, g, a', sg, f1, f2, e1, e2, hc⟩
  subst e1 e2
  obtain ⟨⟨c1, c2, c3, c4, c5, c6, c7⟩, hh, c8⟩ := id hc
  have ec := top_keep' roS (d + 6) z p t s _ c1 (tf_ok hc.2.1.1 c h0 h1 h2 h3 l n a x k u' v') c2.2.2.2.2.2 c6
  have em := m_keep roS (d + 8) m b sp hy g x c z l a' sg f1 f2
  rw [c3.2.2.2.2.2.2] at em
  exact ⟨_, _, _, ec, em, Sim_up (B := B) ⟨1, p, t, p, R, c, h0, h1, h2, h3, l, n, a, x, k, u', v', m, b, sp, hy, _, a', sg, f1, f2, rfl, rfl, ⟨by omega, c2, c3, c4, c5, c2.2.2.2.2.2, fun _ => ⟨c2, Rel_ext c2 c3 (fun i hi => cpl_a0 hi), c4⟩⟩, hh, c8⟩ (by omega)⟩
theorem c_restore (d : Nat) : OK d 119 143 [] := by
  intro B A M hB ⟨z, p, t, s, R, c, h0, h1, h2, h3, l, n, a, x, k, u', v', m, b, sp, hy, g, a', sg, f1, f2, e1, e2, hc⟩
  subst e1 e2
  obtain ⟨⟨c1, c2, c3, c4, c5, c6, c7⟩, hh, c8⟩ := id hc
  rcases (show z = 0 ∨ z = 1 by omega) with rfl | rfl
  · exact ⟨-5, _, _, top_restore0 roS (d + 6) p t s _, m_restore0 roS (d + 7) m b sp hy g x c l a' sg f1 f2, same_n hc⟩
  · obtain ⟨s1, s2, s3⟩ := c7 rfl
    obtain ⟨d1, d2, d3, d4, d5, d6, d7⟩ := id hh
    have hnp := c2.2.2.2.2.2
    have pa := push_all (b := cpl 350 0 m b) (m := m) (fun i hi => cpl_a0 hi) c2 c3 c4 hh
    obtain ⟨p1, p2, p3, p4, p5, p6, p7, p8⟩ := pa
    have es := top_settle roS (d + 4) (z := 1) (y := s 10 2) (l := l) (n := n) (a := a) (x := x) (k := k) (u := u') (v := v') (s := s) d1 d2 (by omega) hnp c6 d3 d4 d5 d6
    have ec := top_restore roS (d + 4) p t s _ _ (tf_ok hc.2.1.1 c h0 h1 h2 h3 l n a x k u' v') (tf_ok p1 _ _ _ _ _ _ _ _ _ _ _ _) c6 c5 es
    have em := m_restore roS (d + 7) m b sp hy g x c l a' sg f1 f2 d2
    have rs : Rel s (cpl 350 0 g m) := Rel_ext s1 s2 (fun i hi => cpl_a0 hi)
    rw [rs.2.2.2.2.2.2, ← p3] at em
    exact ⟨_, _, _, ec, em, Sim_up (B := B) ⟨1, s, s, s, rcR R c, rcC c, _, _, _, _, l, n, a, x, k, u', v', _, _, sp, _, g, a', sg, f1, f2, rfl, rfl, ⟨by omega, s1, rs, s3, c6, c6, c7⟩, ⟨p1, p2, p4, p5, p6, p7, p8⟩, c8⟩ (by omega)⟩
theorem c_type (d : Nat) (w : Int32) : OK d 115 177 [.int (w.toUInt32 % 65536).toInt32] := by
  intro B A M hB ⟨z, p, t, s, R, c, h0, h1, h2, h3, l, n, a, x, k, u', v', m, b, sp, hy, g, a', sg, f1, f2, e1, e2, hc⟩
  subst e1 e2
  obtain ⟨hp, hh, c8, c9⟩ := id hc
  by_cases h60 : l = 60
  · subst h60
    have ec := top_type roS (d + 6) z p t s (hisR_len R c h0 h1 h2 h3) (o_appendF roS (d + 6) 60 n a x k u' v' (by omega) (by omega) (w.toUInt32 % 65536).toInt32)
    exact ⟨-3, _, _, ec, m_typeF roS (d + 8) m b sp hy g x c z a' sg f1 f2 _, same_n hc⟩
  · have ec := top_type roS (d + 6) z p t s (hisR_len R c h0 h1 h2 h3) (o_append roS (d + 6) l n a x k u' v' (by omega) (w.toUInt32 % 65536).toInt32)
    rw [pk_vc] at ec
    have em := m_type roS (d + 8) m b sp hy g x c z l a' sg f1 f2 (by omega) (w.toUInt32 % 65536).toInt32
    refine ⟨_, _, _, ec, em, Sim_up (B := B) ⟨z, p, t, s, R, c, h0, h1, h2, h3, l + 1, n, a, _, k, u', v', m, b, sp, hy, g, a', sg, f1, f2, rfl, rfl, hp, hh, by omega, fun i => ?_⟩ (by omega)⟩
    by_cases hi : i = l
    · exact ⟨w.toBitVec.toNat % 65536, by omega, by rw [hi]; unfold upd; rw [if_pos rfl, pk_char]⟩
    · obtain ⟨y, y1, y2⟩ := c9 i
      exact ⟨y, y1, by unfold upd; rw [if_neg hi]; exact y2⟩
theorem c_clearText (d : Nat) : OK d 116 178 [] := by
  intro B A M hB ⟨z, p, t, s, R, c, h0, h1, h2, h3, l, n, a, x, k, u', v', m, b, sp, hy, g, a', sg, f1, f2, e1, e2, hc⟩
  subst e1 e2
  obtain ⟨hp, hh, c8, c9⟩ := id hc
  have ec := top_clearText roS (d + 7) z p t s (hisR_len R c h0 h1 h2 h3) (l := l) (n := n) (a := a) (x := x) (k := k) (u := u') (v := v')
  have em := m_clearText roS (d + 8) m b sp hy g x c z l a' sg f1 f2
  exact ⟨_, _, _, ec, em, Sim_up (B := B) ⟨z, p, t, s, R, c, h0, h1, h2, h3, 0, n, a, x, k, u', v', m, b, sp, hy, g, a', sg, f1, f2, rfl, rfl, hp, hh, by omega, c9⟩ (by omega)⟩
theorem c_room (d : Nat) (u v : Int32) : OK d 120 188 [.int u, .int v] := by
  intro B A M hB ⟨z, p, t, s, R, c, h0, h1, h2, h3, l, n, a, x, k, u', v', m, b, sp, hy, g, a', sg, f1, f2, e1, e2, hc⟩
  subst e1 e2
  have hi := hc.1.2.1
  have hr := hc.1.2.2.1
  have hwf := InX_wf hi
  have hsb := Rl_sb hi hr (fun _ => by omega)
  rcases in_rng u (a := 0) (b := 63) (by omega) (by omega) with g1 | ⟨j, _, hj, rfl⟩
  · exact ⟨-1, _, _, top_room roS (d + 3) z p t s _ (tf_ok hc.2.1.1 c h0 h1 h2 h3 l n a x k u' v') (p_ofRoomO roS (d + 6) p g1), m_roomO roS (d + 7) m b sp hy g x c z l a' sg f1 f2 g1, same_n hc⟩
  · have ec := top_room roS (d + 3) z p t s _ (tf_ok hc.2.1.1 c h0 h1 h2 h3 l n a x k u' v') (p_ofRoom roS (d + 4) p (w := v) (show j < 64 by omega) hwf)
    rcases in_rng v (a := 0) (b := 5) (by omega) (by omega) with g2 | ⟨w, _, hw, rfl⟩
    · have e : ofR p j v = -2 := by
        unfold ofR
        have ne : ∀ i, i ≤ 5 → v ≠ nI i := fun i hi5 e => by
          rw [e, nb_ltI (by omega) (by omega), nb_ltI (by omega) (by omega)] at g2
          omega
        rw [if_neg (ne 0 (by omega)), if_neg (ne 1 (by omega)), if_neg (ne 2 (by omega)), if_neg (ne 3 (by omega)), if_neg (ne 4 (by omega)), if_neg (ne 5 (by omega))]
      rw [e] at ec
      exact ⟨-2, _, _, ec, m_roomW roS (d + 7) m b sp hy g x c z l a' sg f1 f2 (by omega) g2, same_n hc⟩
    · have q := q_roomP hi hr (show j < 64 by omega)
      have em := m_room roS (d + 5) m b sp hy g x c z l a' sg f1 f2 (show j < 64 by omega) q.1 q.2.1 q.2.2.1 q.2.2.2 hw hsb (fun g' hg' h1' => (q_pre hi hr g' hg' h1').2.2.2.1)
      rw [q_room hi hr (by omega) hw] at em
      exact ⟨_, _, _, ec, em, same_n hc⟩
theorem c_guest (d : Nat) (u v : Int32) : OK d 121 189 [.int u, .int v] := by
  intro B A M hB ⟨z, p, t, s, R, c, h0, h1, h2, h3, l, n, a, x, k, u', v', m, b, sp, hy, g, a', sg, f1, f2, e1, e2, hc⟩
  subst e1 e2
  have hi := hc.1.2.1
  have hr := hc.1.2.2.1
  have hb := InX_hb hi (show B < 1000000 by omega)
  rcases hk_rng u with ⟨g1, g2⟩ | ⟨j, hj, rfl⟩
  · exact ⟨-1, _, _, top_guest roS (d + 3) z p t s _ (tf_ok hc.2.1.1 c h0 h1 h2 h3 l n a x k u' v') (p_ofGuestN roS (d + 5) p g2), m_guestO roS (d + 6) m b sp hy g x c z l a' sg f1 f2 g1, same_n hc⟩
  · have hh := hr.2.2.1.2.2 j hj
    by_cases h0' : p 2 j = 0
    · exact ⟨-1, _, _, top_guest roS (d + 3) z p t s _ (tf_ok hc.2.1.1 c h0 h1 h2 h3 l n a x k u' v') (p_ofGuest0 roS (d + 5) p hj h0'), m_guest0 roS (d + 6) m b sp hy g x c z l a' sg f1 f2 hj (by rw [hh.1, if_neg (by omega)]), same_n hc⟩
    · have hp : 0 < p 2 j := by omega
      have h1' : m (266 + 7 * j) = 1 := by rw [hh.1, if_pos hp]
      have ec := top_guest roS (d + 3) z p t s _ (tf_ok hc.2.1.1 c h0 h1 h2 h3 l n a x k u' v') (p_ofGuest roS (d + 5) p (w := v) hj hp hb)
      rcases in_rng v (a := 0) (b := 5) (by omega) (by omega) with g2 | ⟨w, _, hw, rfl⟩
      · have e : ofG p j v = -2 := by
          unfold ofG
          have ne : ∀ i, i ≤ 5 → v ≠ nI i := fun i hi5 e => by
            rw [e, nb_ltI (by omega) (by omega), nb_ltI (by omega) (by omega)] at g2
            omega
          rw [if_neg (ne 0 (by omega)), if_neg (ne 1 (by omega)), if_neg (ne 2 (by omega)), if_neg (ne 3 (by omega)), if_neg (ne 4 (by omega)), if_neg (ne 5 (by omega))]
        rw [e] at ec
        exact ⟨-2, _, _, ec, m_guestW roS (d + 6) m b sp hy g x c z l a' sg f1 f2 hj h1' g2, same_n hc⟩
      · have em := m_guest roS (d + 6) m b sp hy g x c z l a' sg f1 f2 hj h1' (q_pre hi hr j hj h1').2.2.2.1 hw
        rw [q_guest hi hr hj hp hw] at em
        exact ⟨_, _, _, ec, em, same_n hc⟩
theorem c_hook (d : Nat) (u : Int32) : OK d 122 190 [.int u] := by
  intro B A M hB ⟨z, p, t, s, R, c, h0, h1, h2, h3, l, n, a, x, k, u', v', m, b, sp, hy, g, a', sg, f1, f2, e1, e2, hc⟩
  subst e1 e2
  have hi := hc.1.2.1
  have hr := hc.1.2.2.1
  have hb := InX_hb hi (show B < 1000000 by omega)
  have hsb := Rl_sb hi hr (fun _ => by omega)
  rcases in_rng u (a := 0) (b := 11) (by omega) (by omega) with g1 | ⟨j, _, hj, rfl⟩
  · exact ⟨-1, _, _, top_hook roS (d + 3) z p t s _ (tf_ok hc.2.1.1 c h0 h1 h2 h3 l n a x k u' v') (p_ofHookO roS (d + 6) p g1), m_hookO roS (d + 7) m b sp hy g x c z l a' sg f1 f2 g1, same_n hc⟩
  · have em := m_hook roS (d + 7) m b sp hy g x c z l a' sg f1 f2 (show j < 12 by omega) hsb
    rw [q_hook hi hr (by omega)] at em
    exact ⟨_, _, _, top_hook roS (d + 3) z p t s _ (tf_ok hc.2.1.1 c h0 h1 h2 h3 l n a x k u' v') (p_ofHook roS (d + 5) p (show j < 12 by omega) hb), em, same_n hc⟩
theorem c_free (d : Nat) (u v : Int32) : OK d 123 191 [.int u, .int v] := by
  intro B A M hB ⟨z, p, t, s, R, c, h0, h1, h2, h3, l, n, a, x, k, u', v', m, b, sp, hy, g, a', sg, f1, f2, e1, e2, hc⟩
  subst e1 e2
  have hi := hc.1.2.1
  have hr := hc.1.2.2.1
  have hwf := InX_wf hi
  have hsb := Rl_sb hi hr (fun _ => by omega)
  rcases in_rng u (a := 1) (b := 64) (by omega) (by omega) with g1 | ⟨j, j1, j2, rfl⟩
  · exact ⟨-2, _, _, top_free roS (d + 3) z p t s _ (tf_ok hc.2.1.1 c h0 h1 h2 h3 l n a x k u' v') (p_ofFreeO roS (d + 6) p g1), m_freeO roS (d + 7) m b sp hy g x c z l a' sg f1 f2 g1, same_n hc⟩
  · by_cases hz : szf j = j
    · rcases in_rng v (a := 0) (b := 1) (by omega) (by omega) with g2 | ⟨w, _, hw, rfl⟩
      · exact ⟨-2, _, _, top_free roS (d + 3) z p t s _ (tf_ok hc.2.1.1 c h0 h1 h2 h3 l n a x k u' v') (p_ofFreeB roS (d + 6) p j1 j2 hz g2), m_freeW roS (d + 7) m b sp hy g x c z l a' sg f1 f2 j1 j2 hz g2, same_n hc⟩
      · have em := m_free roS (d + 7) m b sp hy g x c z l a' sg f1 f2 j1 j2 hz hw hsb
        have q := q_free (n := j) hi hr
        rw [q.1, q.2] at em
        exact ⟨_, _, _, top_free roS (d + 3) z p t s _ (tf_ok hc.2.1.1 c h0 h1 h2 h3 l n a x k u' v') (p_ofFree roS (d + 4) p j1 j2 hz hw hwf), em, same_n hc⟩
    · exact ⟨-2, _, _, top_free roS (d + 3) z p t s _ (tf_ok hc.2.1.1 c h0 h1 h2 h3 l n a x k u' v') (p_ofFreeS roS (d + 6) p j1 j2 hz), m_freeS roS (d + 7) m b sp hy g x c z l a' sg f1 f2 j1 j2 hz, same_n hc⟩
theorem c_greatest (d : Nat) (u : Int32) : OK d 124 192 [.int u] := by
  intro B A M hB ⟨z, p, t, s, R, c, h0, h1, h2, h3, l, n, a, x, k, u', v', m, b, sp, hy, g, a', sg, f1, f2, e1, e2, hc⟩
  subst e1 e2
  have hi := hc.1.2.1
  have hr := hc.1.2.2.1
  have hwf := InX_wf hi
  have hsb := Rl_sb hi hr (fun _ => by omega)
  have ec := top_greatest roS (d + 3) z p t s _ (tf_ok hc.2.1.1 c h0 h1 h2 h3 l n a x k u' v') (p_greatestFree roS (d + 4) p (w := u) hwf)
  rw [gbr_eq hi.1 hi.2.1] at ec
  rcases in_rng u (a := 0) (b := 1) (by omega) (by omega) with g1 | ⟨j, _, hj, rfl⟩
  · have ne : ∀ i, i ≤ 1 → u ≠ nI i := fun i hi5 e => by
      rw [e, nb_ltI (by omega) (by omega), nb_ltI (by omega) (by omega)] at g1
      omega
    rw [if_neg (ne 0 (by omega)), if_neg (ne 1 (by omega))] at ec
    exact ⟨-2, _, _, ec, m_greatestW roS (d + 6) m b sp hy g x c z l a' sg f1 f2 g1, same_n hc⟩
  · have em := m_greatest roS (d + 6) m b sp hy g x c z l a' sg f1 f2 hj hsb
    rw [RS_gS hi.1 hr.1] at em
    have e : (if nI j = nI 0 then nI (gS p) else if nI j = nI 1 then nI (gS p) else -2) = nI (gS p) := by
      rcases (show j = 0 ∨ j = 1 by omega) with rfl | rfl
      · exact if_pos rfl
      · rw [if_neg (by decide), if_pos rfl]
    rw [e] at ec
    exact ⟨_, _, _, ec, em, same_n hc⟩
theorem c_total (d : Nat) (u : Int32) : OK d 125 196 [.int u] := by
  intro B A M hB ⟨z, p, t, s, R, c, h0, h1, h2, h3, l, n, a, x, k, u', v', m, b, sp, hy, g, a', sg, f1, f2, e1, e2, hc⟩
  subst e1 e2
  have hi := hc.1.2.1
  have hr := hc.1.2.2.1
  have hwf := InX_wf hi
  have hb := InX_hb hi (show B < 1000000 by omega)
  have hsb := Rl_sb hi hr (fun _ => by omega)
  rcases in_rng u (a := 0) (b := 17) (by omega) (by omega) with g1 | ⟨j, _, hj, rfl⟩
  · have ne : ∀ i, i ≤ 17 → u ≠ nI i := fun i hi5 e => by
      rw [e, nb_ltI (by omega) (by omega), nb_ltI (by omega) (by omega)] at g1
      omega
    have g2 : u < nI 0 ∨ nI 15 < u := by
      rcases g1 with y | y
      · exact Or.inl y
      · exact Or.inr (Int32.lt_trans (by decide) y)
    exact ⟨-2, _, _, top_total roS (d + 4) z p t s _ (ne 16 (by omega)) (ne 17 (by omega)) (p_ofWholeO roS (d + 7) p g2), m_totalO roS (d + 8) m b sp hy g x c z l a' sg f1 f2 g1, same_n hc⟩
  · have em := m_total roS (d + 6) m b sp hy g x c z l a' sg f1 f2 (k := j) hj hsb (fun g' hg' h1' => by
      have q := q_pre hi hr g' hg' h1'
      exact ⟨q.2.2.2.1, by rw [q.2.2.1, q.2.2.2.2.1]; exact q.2.2.2.2.2⟩)
    by_cases j16 : j = 16
    · subst j16
      exact ⟨_, _, _, top_total16 roS (d + 7) z p t s, em, same_n hc⟩
    · by_cases j17 : j = 17
      · subst j17
        exact ⟨_, _, _, top_total17 roS (d + 7) z p t s (hisR_len R c h0 h1 h2 h3), em, same_n hc⟩
      · rw [q_total hi hr (by omega)] at em
        exact ⟨_, _, _, top_total roS (d + 4) z p t s _ (by intro e; rw [nI_eq (by omega) (by omega)] at e; omega) (by intro e; rw [nI_eq (by omega) (by omega)] at e; omega) (p_ofWhole roS (d + 4) p (show j ≤ 15 by omega) hwf hb), em, same_n hc⟩
theorem c_why (d : Nat) (u : Int32) : OK d 126 197 [.int u] := by
  intro B A M hB ⟨z, p, t, s, R, c, h0, h1, h2, h3, l, n, a, x, k, u', v', m, b, sp, hy, g, a', sg, f1, f2, e1, e2, hc⟩
  subst e1 e2
  have hi := hc.1.2.1
  have hr := hc.1.2.2.1
  have hwf := InX_wf hi
  have hb := InX_hb hi (show B < 1000000 by omega)
  have hsb := Rl_sb hi hr (fun _ => by omega)
  rcases in_rng u (a := 1) (b := 64) (by omega) (by omega) with g1 | ⟨j, j1, j2, rfl⟩
  · exact ⟨-2, _, _, top_whyO roS (d + 7) z p t s _ g1, m_whyO roS (d + 7) m b sp hy g x c z l a' sg f1 f2 g1, same_n hc⟩
  · have em := m_why roS (d + 4) m b sp hy g x c z l a' sg f1 f2 j1 j2 hsb
    rw [RH_wn hi.1 hwf hr j2] at em
    exact ⟨_, _, _, top_why roS (d + 3) z p t s _ j1 j2 (tf_ok hc.2.1.1 c h0 h1 h2 h3 l n a x k u' v') hwf hb, em, same_n hc⟩
theorem c_ifCome (d : Nat) (u : Int32) : OK d 127 198 [.int u] := by
  intro B A M hB ⟨z, p, t, s, R, c, h0, h1, h2, h3, l, n, a, x, k, u', v', m, b, sp, hy, g, a', sg, f1, f2, e1, e2, hc⟩
  subst e1 e2
  have hi := hc.1.2.1
  have hr := hc.1.2.2.1
  have hwf := InX_wf hi
  have hsb := Rl_sb hi hr (fun _ => by omega)
  rcases in_rng u (a := 1) (b := 64) (by omega) (by omega) with g1 | ⟨j, j1, j2, rfl⟩
  · exact ⟨-2, _, _, top_ifComeO roS (d + 7) z p t s _ g1, m_ifComeO roS (d + 7) m b sp hy g x c z l a' sg f1 f2 g1, same_n hc⟩
  · have ec := top_ifCome roS (d + 4) z p t s _ j1 j2 (tf_ok hc.2.1.1 c h0 h1 h2 h3 l n a x k u' v') hwf hi.2.2.2.2.1.1
    rw [RS_pc hi.1 hwf hr.1 hr.2.2.2.1] at ec
    have hic := RS_ic hi.1 hwf hr.1 j2
    by_cases hs : sfm m (szf j) 64 = 0
    · rw [if_pos hs] at ec
      exact ⟨-5, _, _, ec, m_ifCome0 roS (d + 5) m b sp hy g x c z l a' sg f1 f2 j1 j2 hsb (fun e => (hic.mp e) hs), same_n hc⟩
    · rw [if_neg hs] at ec
      have hb := sfm_b 64 hs
      have em := m_ifCome roS (d + 5) m b sp hy g x c z l a' sg f1 f2 (r := sfm m (szf j) 64 - 1) j1 j2 hsb (hic.mpr hs) (by omega) (by omega)
      exact ⟨_, _, _, ec, em, same_n hc⟩
theorem c_untilRoom (d : Nat) (u : Int32) : OK d 128 199 [.int u] := by
  intro B A M hB ⟨z, p, t, s, R, c, h0, h1, h2, h3, l, n, a, x, k, u', v', m, b, sp, hy, g, a', sg, f1, f2, e1, e2, hc⟩
  subst e1 e2
  obtain ⟨⟨c1, c2, c3, c4, c5, c6, c7⟩, hh, c8⟩ := id hc
  have hi := hc.1.2.1
  rcases in_rng u (a := 1) (b := 64) (by omega) (by omega) with g1 | ⟨j, j1, j2, rfl⟩
  · exact ⟨-2, _, _, top_untilO roS (d + 7) z p t s _ g1, m_untilO roS (d + 7) b sp hy g x c z l a' sg f1 f2 g1, same_n hc⟩
  · obtain ⟨kk, _, ec⟩ := top_until roS (d + 2) z p t s _ j1 j2 (tf_ok hc.2.1.1 c h0 h1 h2 h3 l n a x k u' v') c2.2.2.2.2.2 c5 (fun kk _ => ⟨inv_pok (psN_inv hi kk) (by omega), InX_wf (psN_inv hi kk), (psN_inv hi kk).2.2.2.2.1.1⟩)
    obtain ⟨m', s', em, rel⟩ := m_until roS (d + 3) b sp hy g x c z l a' sg f1 f2 j1 j2 c2 c3
    exact ⟨_, _, _, ec, em, Sim_up (B := B) ⟨z, p, _, s, R, c, h0, h1, h2, h3, l, n, a, x, k, u', v', m', b, s', hy, g, a', sg, f1, f2, rfl, rfl, ⟨c1, c2, rel, c4, (psN_inv hi kk).2.2.2.2.2, c6, c7⟩, hh, c8⟩ (by omega)⟩
theorem c_bestLeave (d : Nat) : OK d 129 201 [] := by
  intro B A M hB ⟨z, p, t, s, R, c, h0, h1, h2, h3, l, n, a, x, k, u', v', m, b, sp, hy, g, a', sg, f1, f2, e1, e2, hc⟩
  subst e1 e2
  obtain ⟨⟨c1, c2, c3, c4, c5, c6, c7⟩, hh, c8⟩ := id hc
  have hi := hc.1.2.1
  have hwf := InX_wf hi
  have hb := InX_hb hi (show B < 1000000 by omega)
  obtain ⟨t', ht', ec⟩ := top_bestLeave roS (d + 3) z p t s _ (tf_ok hc.2.1.1 c h0 h1 h2 h3 l n a x k u' v') c2.2.2.2.2.2 c5 hb hwf (fun g' hg' h0' => by
    have gg := hi.2.2.1.1 g' hg'
    exact blk_64 (hi.1 _ gg.2.1).1 (gg.2.2.2.2.2.2 h0').1 gg.2.1) (fun g' hg' => by
    by_cases h0' : 0 < p 2 g'
    · obtain ⟨_, _, _, _, y1, y2⟩ := m_without roS 0 b sp hy g x c z l a' sg f1 f2 hg' h0' hi c3
      exact ⟨y1, y2⟩
    · unfold wtF
      rw [if_pos (by omega)]
      exact ⟨c2.2.2.2.2.2, hwf⟩)
  obtain ⟨m', s', em, rel⟩ := m_bestLeave roS (d + 4) b sp hy g x c z l a' sg f1 f2 c2 c3
  exact ⟨_, _, _, ec, em, Sim_up (B := B) ⟨z, p, t', s, R, c, h0, h1, h2, h3, l, n, a, x, k, u', v', m', b, s', hy, g, a', sg, f1, f2, rfl, rfl, ⟨c1, c2, rel, c4, ht', c6, c7⟩, hh, c8⟩ (by omega)⟩
theorem c_ifPassed (d : Nat) (u v : Int32) : OK d 130 202 [.int u, .int v] := by
  intro B A M hB ⟨z, p, t, s, R, c, h0, h1, h2, h3, l, n, a, x, k, u', v', m, b, sp, hy, g, a', sg, f1, f2, e1, e2, hc⟩
  subst e1 e2
  obtain ⟨⟨c1, c2, c3, c4, c5, c6, c7⟩, hh, c8⟩ := id hc
  have hi := hc.1.2.1
  by_cases ho : (u < nI 1 ∨ nI 300 < u) ∨ (v < nI 0 ∨ nI 2 < v)
  · exact ⟨-2, _, _, top_ifPassedO roS (d + 7) z p t s _ ho, m_ifPassedO roS (d + 7) b sp hy g x c z l a' sg f1 f2 ho, same_n hc⟩
  · rcases in_rng u (a := 1) (b := 300) (by omega) (by omega) with g1 | ⟨j, j1, j2, rfl⟩
    · exact absurd (Or.inl g1) ho
    · rcases in_rng v (a := 0) (b := 2) (by omega) (by omega) with g2 | ⟨w, _, hw, rfl⟩
      · exact absurd (Or.inr g2) ho
      · have hin := psN_inv hi j
        have ec := top_ifPassed roS (d + 2) z p t s _ j1 j2 hw (tf_ok hc.2.1.1 c h0 h1 h2 h3 l n a x k u' v') c2.2.2.2.2.2 c5 (fun kk _ => inv_pok (psN_inv hi kk) (by omega)) (InX_wf hin) (InX_hb hin (by omega))
        obtain ⟨m', s', em, rel⟩ := m_ifPassed roS (d + 2) b sp hy g x c z l a' sg f1 f2 j1 j2 hw c2 c3
        exact ⟨_, _, _, ec, em, Sim_up (B := B) ⟨z, p, _, s, R, c, h0, h1, h2, h3, l, n, a, x, k, u', v', m', b, s', hy, g, a', sg, f1, f2, rfl, rfl, ⟨c1, c2, rel, c4, hin.2.2.2.2.2, c6, c7⟩, hh, c8⟩ (by omega)⟩
