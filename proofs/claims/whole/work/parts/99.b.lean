
-- needs P<=45 99.a
theorem Sim_up {B C : Nat} {A M : List AE} (h : Sim B A M) (hc : B ≤ C) : Sim C A M := by
  obtain ⟨z, p, t, s, R, c, h0, h1, h2, h3, l, n, a, x, k, u, v, m, b, sp, hy, g, a', sg, f1, f2, e1, e2, ⟨c1, c2, c3, c4, c5, c6, c7⟩, ⟨d1, d2, d3, d4, d5, d6, d7⟩, c8⟩ := h
  exact ⟨z, p, t, s, R, c, h0, h1, h2, h3, l, n, a, x, k, u, v, m, b, sp, hy, g, a', sg, f1, f2, e1, e2, ⟨c1, Inv_up c2 hc, c3, c4, c5, c6, fun y => ⟨Inv_up (c7 y).1 hc, (c7 y).2⟩⟩, ⟨d1, d2, d3, d4, d5, d6, fun i hi => ⟨Inv_up (d7 i hi).1 hc, (d7 i hi).2⟩⟩, c8⟩
/-- a call that both worlds answer alike -/
def OK (d mt mm : Nat) (args : List Value) : Prop := ∀ B A M, B ≤ 600 → Sim B A M → ∃ w A' M', exec roS (d + 9) mt (.ref 0 :: args) A = some (some (.int w), A') ∧ exec roS (d + 9) mm (.ref 0 :: args) M = some (some (.int w), M') ∧ Sim (B + 1) A' M'
theorem set_both {B B' z R c l n a a' : Nat} {p t s h0 h1 h2 h3 q : Nat → Nat → Nat} {x k u v : Nat → Int32} {m m' sp hy g : Nat → Nat} {sg f1 f2 w : Int32} (ro : RO) (hc : SimC B z p t s R c h0 h1 h2 h3 l x m hy g) (bo : Bo p q m' w B') (hB : B ≤ B') : ∃ p' T', TF T' ∧ (∀ e, exec ro (e + 4) 114 [.ref 0, .int w] (topT z p q s (hisR R c h0 h1 h2 h3 ++ ordT l n a x k u v)) = some (some (.int w), topT z p' q s T')) ∧ (w < 0 → ∀ b', Sim B' (topT z p' q s T') (modW m' b' sp hy g x c z l a' sg f1 f2)) ∧ (¬ w < 0 → ∀ b' : Nat → Nat, (∀ i, i < 350 → b' i = m i) → Sim B' (topT z p' q s T') (modW m' b' sp (psM b' hy c) g x (psS c) z l a' sg f1 f2)) := by
  obtain ⟨⟨c1, c2, c3, c4, c5, c6, c7⟩, hh, c8⟩ := id hc
  obtain ⟨d1, d2, d3, d4, d5, d6, d7⟩ := id hh
  rcases bo with ⟨hw, hr, hq⟩ | ⟨⟨t', ht, rfl⟩, hi, hr, hd⟩
  · refine ⟨p, (hisR R c h0 h1 h2 h3 ++ ordT l n a x k u v), tf_ok d1 _ _ _ _ _ _ _ _ _ _ _ _, fun e => top_settleN ro (e + 3) hw, fun _ b' => ?_, fun y => absurd hw y⟩
    exact ⟨z, p, q, s, R, c, h0, h1, h2, h3, l, n, a, x, k, u, v, m', b', sp, hy, g, a', sg, f1, f2, rfl, rfl, ⟨c1, Inv_up c2 hB, hr, c4, hq, c6, fun y => ⟨Inv_up (c7 y).1 hB, (c7 y).2⟩⟩, ⟨d1, d2, d3, d4, d5, d6, fun i hi => ⟨Inv_up (d7 i hi).1 hB, (d7 i hi).2⟩⟩, c8⟩
  · have hnq := hi.2.2.2.2.2
    have hnp := c2.2.2.2.2.2
    have hpr : rcR R c < 4 := by unfold rcR; split <;> omega
    refine ⟨q, hisR (rcR R c) (rcC c) (rc0 c p h0 h1) (rc1 c p h1 h2) (rc2 c p h2 h3) (rc3 c p h3) ++ ordT l n a x k u v, tf_ok hpr _ _ _ _ _ _ _ _ _ _ _ _, fun e => top_settle ro e d1 d2 (by omega) hnp hnq d3 d4 d5 d6, fun y => absurd y (nI_pos (by omega)), fun _ b' hb' => ?_⟩
    have pa := push_all (b := b') hb' c2 c3 c4 hh
    obtain ⟨p1, p2, p3, p4, p5, p6, p7, p8⟩ := pa
    rw [← p3]
    exact ⟨z, q, q, s, rcR R c, rcC c, _, _, _, _, l, n, a, x, k, u, v, m', b', sp, psM b' hy c, g, a', sg, f1, f2, rfl, rfl, ⟨c1, hi, hr, hd, hnq, c6, fun y => ⟨Inv_up (c7 y).1 hB, (c7 y).2⟩⟩, ⟨p1, p2, p4, p5, p6, p7, fun i hi2 => ⟨Inv_up (p8 i hi2).1 hB, (p8 i hi2).2⟩⟩, c8⟩
theorem c_come (d : Nat) (u v : Int32) : OK d 106 168 [.int u, .int v] := by
  intro B A M hB ⟨z, p, t, s, R, c, h0, h1, h2, h3, l, n, a, x, k, u', v', m, b, sp, hy, g, a', sg, f1, f2, e1, e2, hc⟩
  subst e1 e2
  obtain ⟨w, q, m', b1, b2, bo⟩ := b_come roS (d + 2) (d + 3) (cpl 350 0 m b) sp hy g x c z l a' sg f1 f2 u v hc.1.2.1 (by omega) hc.1.2.2.1 hc.1.2.2.2.1
  obtain ⟨p', T', t1, t2, t3, t4⟩ := set_both (n := n) (a := a) (a' := a') (k := k) (u := u') (v := v') (sp := sp) (sg := sg) (f1 := f1) (f2 := f2) roS hc bo (Nat.le_refl B)
  have ec := top_come roS (d + 2) z p t s _ T' (tf_ok hc.2.1.1 c h0 h1 h2 h3 l n a x k u' v') t1 hc.1.2.1.2.2.2.2.2 hc.1.2.2.2.2.1 b1 (t2 (d + 4))
  have em := m_come roS (d + 3) m b sp hy g x c z l a' sg f1 f2 b2 (Bo_w bo) hc.2.1.2.1
  by_cases hw : w < 0
  · rw [if_pos hw] at em
    exact ⟨w, _, _, ec, em, Sim_up (t3 hw _) (by omega)⟩
  · rw [if_neg hw] at em
    exact ⟨w, _, _, ec, em, Sim_up (t4 hw _ (fun i hi => cpl_a0 hi)) (by omega)⟩
theorem c_leave (d : Nat) (u : Int32) : OK d 107 169 [.int u] := by
  intro B A M hB ⟨z, p, t, s, R, c, h0, h1, h2, h3, l, n, a, x, k, u', v', m, b, sp, hy, g, a', sg, f1, f2, e1, e2, hc⟩
  subst e1 e2
  obtain ⟨w, q, m', b1, b2, bo⟩ := b_leave roS (d + 3) (d + 5) (cpl 350 0 m b) sp hy g x c z l a' sg f1 f2 u hc.1.2.1 (by omega) hc.1.2.2.1 hc.1.2.2.2.1
  obtain ⟨p', T', t1, t2, t3, t4⟩ := set_both (n := n) (a := a) (a' := a') (k := k) (u := u') (v := v') (sp := sp) (sg := sg) (f1 := f1) (f2 := f2) roS hc bo (Nat.le_refl B)
  have ec := top_leave roS (d + 3) z p t s _ T' (tf_ok hc.2.1.1 c h0 h1 h2 h3 l n a x k u' v') t1 hc.1.2.1.2.2.2.2.2 hc.1.2.2.2.2.1 b1 (t2 (d + 4))
  have em := m_leave roS (d + 5) m b sp hy g x c z l a' sg f1 f2 b2 (Bo_w bo) hc.2.1.2.1
  by_cases hw : w < 0
  · rw [if_pos hw] at em
    exact ⟨w, _, _, ec, em, Sim_up (t3 hw _) (by omega)⟩
  · rw [if_neg hw] at em
    exact ⟨w, _, _, ec, em, Sim_up (t4 hw _ (fun i hi => cpl_a0 hi)) (by omega)⟩
theorem c_pass (d : Nat) (u : Int32) : OK d 111 174 [.int u] := by
  intro B A M hB ⟨z, p, t, s, R, c, h0, h1, h2, h3, l, n, a, x, k, u', v', m, b, sp, hy, g, a', sg, f1, f2, e1, e2, hc⟩
  subst e1 e2
  obtain ⟨w, q, m', b1, b2, bo⟩ := b_pass roS (d + 1) (d + 1) (cpl 350 0 m b) sp hy g x c z l a' sg f1 f2 u hc.1.2.1 (by omega) hc.1.2.2.1 hc.1.2.2.2.1
  obtain ⟨p', T', t1, t2, t3, t4⟩ := set_both (n := n) (a := a) (a' := a') (k := k) (u := u') (v := v') (sp := sp) (sg := sg) (f1 := f1) (f2 := f2) roS hc bo (Nat.le_refl B)
  have ec := top_pass roS (d + 1) z p t s _ T' (tf_ok hc.2.1.1 c h0 h1 h2 h3 l n a x k u' v') t1 hc.1.2.1.2.2.2.2.2 hc.1.2.2.2.2.1 b1 (t2 (d + 4))
  have em := m_pass roS (d + 1) m b sp hy g x c z l a' sg f1 f2 b2 (Bo_w bo) hc.2.1.2.1
  by_cases hw : w < 0
  · rw [if_pos hw] at em
    exact ⟨w, _, _, ec, em, Sim_up (t3 hw _) (by omega)⟩
  · rw [if_neg hw] at em
    exact ⟨w, _, _, ec, em, Sim_up (t4 hw _ (fun i hi => cpl_a0 hi)) (by omega)⟩
