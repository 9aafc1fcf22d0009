

-- needs P<=45 89.th
theorem rel_o {a : Nat} (ha : a < 64) : ∀ (n : Nat) (p : Nat → Nat → Nat), Al p → p 1 a = 1 → (∀ i, i < 64 → p 1 i ≠ 1 → rel a n p 0 i = p 0 i) ∧ (∀ i, 64 ≤ i → rel a n p 0 i = p 0 i)
  | 0, p, _, _ => ⟨fun _ _ _ => rfl, fun _ _ => rfl⟩
  | n + 1, p, hp, h1 => by
    unfold rel
    split
    · rename_i hj
      have pre := jn_pre hp ha h1 hj
      have ih := rel_o ha n (jn1 p a) (jn_Al hp ha h1 hj) (by rw [jn_1 hp ha h1 hj]; exact h1)
      have hb := (fst_le ha pre.1).1
      refine ⟨fun i hi hz => ?_, fun i hi => ?_⟩
      · rw [ih.1 i hi (by rw [jn_1 hp ha h1 hj]; exact hz), jn_0, if_neg (fun z => hz (pre.2.2.2.2 i z.1 z.2).2.1)]
      · rw [ih.2 i hi, jn_0, if_neg (by omega)]
    · exact ⟨fun _ _ _ => rfl, fun _ _ => rfl⟩
def clk (p : Nat → Nat → Nat) (k : Nat) : Nat → Nat → Nat := w2 (w2 p 10 1 (p 10 1 + k)) 10 7 (p 10 7 + k)
theorem clk_n (p : Nat → Nat → Nat) (k : Nat) {F : Nat} (h : F ≠ 10) (i : Nat) : clk p k F i = p F i := by
  unfold clk
  rw [w2_ne h, w2_ne h]
theorem clk_10 (p : Nat → Nat → Nat) (k i : Nat) : clk p k 10 i = if i = 7 then p 10 7 + k else if i = 1 then p 10 1 + k else p 10 i := by
  unfold clk
  rw [w2_sm, w2_sm]
theorem clk_0 (p : Nat → Nat → Nat) : clk p 0 = p := by
  funext F i
  by_cases h : F = 10
  · subst h
    rw [clk_10]
    split
    · rename_i e; rw [e]; rfl
    · split
      · rename_i e; rw [e]; rfl
      · rfl
  · rw [clk_n p 0 h]
theorem clA_clk (p : Nat → Nat → Nat) (k : Nat) : clA (clk p k) = clk p (k + 1) := by
  funext F i
  unfold clA
  by_cases h : F = 10
  · subst h
    rw [w2_sm, w2_sm, clk_10, clk_10, clk_10, clk_10]
    split
    · rfl
    · split <;> rfl
  · rw [w2_ne h, w2_ne h, clk_n p k h, clk_n p (k + 1) h]
theorem cl_it {p : Nat → Nat → Nat} (h0 : p 10 0 ≠ 0) (j : Nat) : ∀ k, p 10 1 + k < p 0 (p 8 0) → clF (k + j) p = clF j (clk p k)
  | 0, _ => by rw [Nat.zero_add, clk_0]
  | k + 1, h => by
    have e1 := cl_it h0 (j + 1) k (by omega)
    rw [show k + 1 + j = k + (j + 1) by omega, e1]
    show clF j (clS (clk p k)) = _
    have : clS (clk p k) = clA (clk p k) := by
      unfold clS
      rw [if_neg (by rw [clk_10, if_neg (by omega), if_neg (by omega)]; exact h0), if_pos (by rw [clk_10, if_neg (by omega), if_pos rfl, clk_n p k (by omega), clk_n p k (by omega)]; omega)]
    rw [this, clA_clk]
theorem clk_inv {p : Nat → Nat → Nat} {B x k : Nat} (h : InX p B x) (h0 : p 10 0 ≠ 0) (hk : p 10 1 + k < p 0 (p 8 0)) : InX (clk p k) B x := by
  obtain ⟨al, nf, gs, qu, sg, nm⟩ := h
  have d : ∀ F, F ≠ 10 → ∀ i, clk p k F i = p F i := fun F hF i => clk_n p k hF i
  refine ⟨Al_p al (d 0 (by omega)) (d 1 (by omega)), Nf_p nf (d 0 (by omega)) (d 1 (by omega)), ?_, ?_, Sg_p sg (d 9 (by omega)), ?_⟩
  · refine ⟨fun g hg => ?_, fun r hr => ?_⟩
    · rw [d 2 (by omega), d 3 (by omega), d 4 (by omega), d 5 (by omega), d 6 (by omega), d 7 (by omega), d 0 (by omega), d 1 (by omega)]
      exact gs.1 g hg
    · rw [d 1 (by omega), d 2 (by omega), d 3 (by omega)]
      have := gs.2 r hr
      refine ⟨this.1, fun z => ?_⟩
      have := this.2 z
      unfold fst at this ⊢
      rw [d 0 (by omega)]
      exact this
  · obtain ⟨q1, q2, q3, q4, q5⟩ := qu
    have e0 : clk p k 10 0 = p 10 0 := by rw [clk_10, if_neg (by omega), if_neg (by omega)]
    have e1 : clk p k 10 1 = p 10 1 + k := by rw [clk_10, if_neg (by omega), if_pos rfl]
    refine ⟨by omega, fun j hj => ?_, fun i j hi hj e => ?_, fun z => ?_, fun z => by omega⟩
    · rw [d 8 (by omega), d 0 (by omega), d 1 (by omega)]
      exact q2 j (by omega)
    · rw [d 8 (by omega), d 8 (by omega)] at e
      exact q3 i j (by omega) (by omega) e
    · rw [e1, d 8 (by omega), d 0 (by omega)]
      exact hk
  · unfold clk
    exact Nm_w2 (Nm_w2 nm (by omega) (by omega) (by omega)) (by omega) (by omega) (by omega)
theorem clk_rel {p : Nat → Nat → Nat} {m dl : Nat → Nat} {B x k : Nat} (h : InX p B x) (hr : Rl p m dl) (h0 : p 10 0 ≠ 0) : Rl (clk p k) (w1 (w1 m (138 + p 8 0) (m (138 + p 8 0) + k)) 7 (m 7 + k)) dl ∧ m (138 + p 8 0) = p 10 1 ∧ m 202 = p 8 0 ∧ m (10 + p 8 0) = p 0 (p 8 0) ∧ m 9 = p 10 0 ∧ p 8 0 < 64 := by
  obtain ⟨al, nf, gs, qu, sg, nm⟩ := h
  obtain ⟨rs, rq, rh, rg⟩ := hr
  have d : ∀ F, F ≠ 10 → ∀ i, clk p k F i = p F i := fun F hF i => clk_n p k hF i
  have q0 := qu.2.1 0 (by omega)
  have r0 := rq.2.2 0 (by omega)
  rw [if_pos rfl, Nat.add_zero] at r0
  have e10 : ∀ i, i ≠ 7 → i ≠ 1 → clk p k 10 i = p 10 i := fun i a b => by rw [clk_10, if_neg a, if_neg b]
  refine ⟨⟨?_, ?_, ?_, ?_⟩, r0.2, r0.1, ?_, rq.1, q0.1⟩
  · exact RS_p (RS_w1 (RS_w1 rs (by omega) (by omega) (by omega)) (by omega) (by omega) (by omega)) (d 0 (by omega)) (d 1 (by omega)) (e10 3 (by omega) (by omega)) (e10 4 (by omega) (by omega))
  · refine ⟨?_, ?_, fun j hj => ?_⟩
    · rw [w1_ne (by omega), w1_ne (by omega), e10 0 (by omega) (by omega)]
      exact rq.1
    · rw [w1_at, clk_10, if_pos rfl, rq.2.1]
    · rw [e10 0 (by omega) (by omega)] at hj
      have qj := qu.2.1 j hj
      have rj := rq.2.2 j hj
      have ql := qu.1
      have ec1 : clk p k 10 1 = p 10 1 + k := by rw [clk_10, if_neg (by omega), if_pos rfl]
      rw [d 8 (by omega), ec1, w1_ne (by omega), w1_ne (by omega), w1_ne (by omega)]
      refine ⟨rj.1, ?_⟩
      by_cases c : j = 0
      · rw [c, w1_at, if_pos rfl, r0.2]
      · have hne : p 8 j ≠ p 8 0 := fun z => c (qu.2.2.1 j 0 hj (by omega) z)
        rw [w1_ne (by omega), if_neg c, rj.2, if_neg c]
  · refine ⟨?_, ?_, fun g hg => ?_⟩
    · rw [w1_ne (by omega), w1_ne (by omega), e10 5 (by omega) (by omega)]
      exact rh.1
    · rw [w1_ne (by omega), w1_ne (by omega), e10 6 (by omega) (by omega)]
      exact rh.2.1
    · have := rh.2.2 g hg
      have e : ∀ i, 266 ≤ i → w1 (w1 m (138 + p 8 0) (m (138 + p 8 0) + k)) 7 (m 7 + k) i = m i := fun i hi => by rw [w1_ne (by omega), w1_ne (by omega)]
      rw [e _ (by omega), e _ (by omega), e _ (by omega), e _ (by omega), e _ (by omega), e _ (by omega), e _ (by omega), d 2 (by omega), d 3 (by omega), d 4 (by omega), d 5 (by omega), d 6 (by omega), d 7 (by omega)]
      exact this
  · exact RG_w1 (RG_w1 (RG_p rg (d 9 (by omega)) (e10 2 (by omega) (by omega))) (by omega)) (by omega)
  · rw [rs.1 _ q0.1, if_pos q0.2.1]
theorem clB_n (q : Nat → Nat → Nat) {F : Nat} (h8 : F ≠ 8) (h10 : F ≠ 10) (i : Nat) : clB q F i = q F i := by
  unfold clB clA
  rw [w2_ne h10, w2_ne h10, rmF_ne h8, w2_ne h10, w2_ne h10]
theorem clB_8 (q : Nat → Nat → Nat) (i : Nat) : clB q 8 i = if i < 63 then q 8 (i + 1) else q 8 i := by
  unfold clB clA
  rw [w2_ne (by omega), w2_ne (by omega), rmF_8]
  split
  · rw [w2_ne (by omega), w2_ne (by omega)]
  · rw [w2_ne (by omega), w2_ne (by omega)]
theorem clB_10 (q : Nat → Nat → Nat) (i : Nat) : clB q 10 i = if i = 1 then 0 else if i = 0 then q 10 0 - 1 else if i = 7 then q 10 7 + 1 else q 10 i := by
  unfold clB clA
  rw [w2_sm, w2_sm, rmF_ne (by omega), w2_sm, w2_sm]
  split
  · rfl
  · split
    · rfl
    · split
      · rfl
      · rfl
/-- a cleaned suite becomes free, and is joined -/
theorem clC_all {p : Nat → Nat → Nat} {m dl : Nat → Nat} {B x v : Nat} (h : InX p B x) (hr : Rl p m dl) (h0 : p 10 0 ≠ 0) (hv : m 7 = v) : InX (clC p (p 8 0)) B x ∧ Rl (clC p (p 8 0)) (mrl 7 (w1 (w1 (shm (w1 (w1 m 7 (v + 1)) 9 (m 9 - 1)) (m 9 - 1)) (74 + p 8 0) 0) (138 + p 8 0) 0) (p 8 0)) dl := by
  obtain ⟨al, nf, gs, qu, sg, nm⟩ := h
  obtain ⟨rs, rq, rh, rg⟩ := hr
  obtain ⟨q1, q2, q3, q4, q5⟩ := id qu
  have q0 := q2 0 (by omega)
  have ha := q0.1
  have hz := q0.2.1
  have ff : fst p (p 8 0) = p 8 0 := by unfold fst; rw [hz]; rfl
  generalize hA : p 8 0 = a at *
  have ala := Al_f al ha
  have hl := pow_le (al a ha).1
  -- the palace with the suite free
  have gA := gv_Al (h := 1) al ha hz
  have gN := gv_NfX al nf ha hz
  have g1 : mkk p a (p 0 a) (p 0 a) 1 1 a = 1 := by rw [gv_1, if_pos ⟨by omega, by omega⟩]
  have gf : fst (mkk p a (p 0 a) (p 0 a) 1) a = a := by unfold fst; rw [gv_0 al ha hz, hz]; rfl
  have gRS := gv_RS (h := 1) al rs ha hz
  rw [show kd 1 = 0 from rfl] at gRS
  -- the reference's row before the release
  have hm9 : m 9 = p 10 0 := rq.1
  have e2 : ∀ i, i ≠ 7 → i ≠ 9 → ¬ (202 ≤ i ∧ i < 202 + (m 9 - 1)) → shm (w1 (w1 m 7 (v + 1)) 9 (m 9 - 1)) (m 9 - 1) i = m i := fun i a1 a2 a3 => by
    unfold shm
    rw [if_neg a3, w1_ne a2, w1_ne a1]
  have e2q : ∀ j, j < m 9 - 1 → shm (w1 (w1 m 7 (v + 1)) 9 (m 9 - 1)) (m 9 - 1) (202 + j) = m (202 + (j + 1)) := fun j hj => by
    unfold shm
    rw [if_pos ⟨by omega, by omega⟩, w1_ne (by omega), w1_ne (by omega)]
    rfl
  have e29 : shm (w1 (w1 m 7 (v + 1)) 9 (m 9 - 1)) (m 9 - 1) 9 = m 9 - 1 := by
    rw [shm_9, w1_at]
  have e27 : shm (w1 (w1 m 7 (v + 1)) 9 (m 9 - 1)) (m 9 - 1) 7 = v + 1 := by
    unfold shm
    rw [if_neg (by omega), w1_ne (by omega), w1_at]
  generalize shm (w1 (w1 m 7 (v + 1)) 9 (m 9 - 1)) (m 9 - 1) = m2 at *
  have rs3 : RS (mkk p a (p 0 a) (p 0 a) 1) (w1 (w1 m2 (74 + a) 0) (138 + a) 0) := by
    obtain ⟨b1, b2, b3, b4, b5⟩ := gRS
    refine RS_w1 ?_ (by omega) (by omega) (by omega)
    refine ⟨fun r hr => ?_, fun r hr hzr => ?_, fun r hr => ?_, ?_, ?_⟩
    · rw [w1_ne (by omega), e2 _ (by omega) (by omega) (by omega), ← b1 r hr, w1_ne (by omega)]
    · rw [← b2 r hr hzr]
      by_cases c : r = a
      · rw [c, w1_at, w1_at]
      · rw [w1_ne (by omega), w1_ne (by omega), e2 _ (by omega) (by omega) (by omega)]
    · by_cases c : r = a
      · rw [c, w1_at]; omega
      · rw [w1_ne (by omega), e2 _ (by omega) (by omega) (by omega)]
        exact rs.2.2.1 r hr
    · rw [w1_ne (by omega), e2 _ (by omega) (by omega) (by omega), ← b4, w1_ne (by omega)]
    · rw [w1_ne (by omega), e2 _ (by omega) (by omega) (by omega), ← b5, w1_ne (by omega)]
  have key := rel_all ha 6 7 _ _ (by omega) gA g1 (by rw [gv_0 al ha hz]; omega) rs3 gN
  rw [gf] at key
  obtain ⟨k1, k2, k3, k4, k5, k6⟩ := key
  have ko := rel_o ha 6 _ gA g1
  have hQ : ∀ F i, F ≠ 8 → F ≠ 10 → clC p a F i = rel a 6 (mkk p a (p 0 a) (p 0 a) 1) F i := fun F i b c => by
    unfold clC
    exact clB_n _ b c i
  have Q1 : ∀ i, clC p a 1 i = if a ≤ i ∧ i < a + p 0 a then 1 else p 1 i := fun i => by rw [hQ 1 i (by omega) (by omega), k4, gv_1]
  have Q0 : ∀ i, i < 64 → ¬ (a ≤ i ∧ i < a + p 0 a) → p 1 i ≠ 1 → clC p a 0 i = p 0 i := fun i hi b c => by
    rw [hQ 0 i (by omega) (by omega), ko.1 i hi (by rw [gv_1, if_neg b]; exact c), gv_0 al ha hz]
  have Qn : ∀ F i, 2 ≤ F → F ≠ 8 → F ≠ 10 → clC p a F i = p F i := fun F i b c d => by
    rw [hQ F i c d, k5 F i b (by omega), gv_n _ b]
  have Q8 : ∀ i, i < 63 → clC p a 8 i = p 8 (i + 1) := fun i hi => by
    unfold clC
    rw [clB_8, if_pos hi, k5 8 _ (by omega) (by omega), gv_n _ (by omega)]
  have Q10 : ∀ i, clC p a 10 i = if i = 1 then 0 else if i = 0 then p 10 0 - 1 else if i = 7 then p 10 7 + 1 else rel a 6 (mkk p a (p 0 a) (p 0 a) 1) 10 i := fun i => by
    unfold clC
    rw [clB_10, k5 10 0 (by omega) (by omega), k5 10 7 (by omega) (by omega), gv_n _ (by omega), gv_n _ (by omega)]
  have Q10n : ∀ i, i ≠ 1 → i ≠ 0 → i ≠ 7 → i ≠ 4 → clC p a 10 i = p 10 i := fun i b c d e => by
    rw [Q10, if_neg b, if_neg c, if_neg d, k5 10 i (by omega) (by omega), gv_n _ (by omega)]
  have hdirty : ∀ i, a ≤ i → i < a + p 0 a → p 1 i = 0 ∧ fst p i = a := fun i i1 i2 => by
    have as := Al_s al ha (show fst p a ≤ i by omega) (by omega)
    exact ⟨by rw [as.2.1]; exact q0.2.2, by rw [as.2.2.1, ff]⟩
  have hqj : ∀ j, j + 1 < p 10 0 → ¬ (a ≤ p 8 (j + 1) ∧ p 8 (j + 1) < a + p 0 a) := fun j hj z => by
    have qj := q2 (j + 1) hj
    have hd := (hdirty _ z.1 z.2).2
    have : fst p (p 8 (j + 1)) = p 8 (j + 1) := by unfold fst; rw [qj.2.1]; rfl
    have e := q3 (j + 1) 0 hj (by omega) (by rw [hA]; omega)
    omega
  refine ⟨⟨?_, ?_, ⟨fun g hg => ?_, fun r hr => ?_⟩, ?_, Sg_p sg (fun i => Qn 9 i (by omega) (by omega) (by omega)), ?_⟩, ?_, ?_, ?_, ?_⟩
  · exact Al_p k1 (fun i => hQ 0 i (by omega) (by omega)) (fun i => hQ 1 i (by omega) (by omega))
  · exact Nf_p k3 (fun i => hQ 0 i (by omega) (by omega)) (fun i => hQ 1 i (by omega) (by omega))
  · have gg := gs.1 g hg
    rw [Qn 2 g (by omega) (by omega) (by omega), Qn 3 g (by omega) (by omega) (by omega), Qn 4 g (by omega) (by omega) (by omega), Qn 5 g (by omega) (by omega) (by omega), Qn 6 g (by omega) (by omega) (by omega), Qn 7 g (by omega) (by omega) (by omega)]
    refine ⟨gg.1, gg.2.1, gg.2.2.1, gg.2.2.2.1, gg.2.2.2.2.1, gg.2.2.2.2.2.1, fun z => ?_⟩
    have g2 := gg.2.2.2.2.2.2 z
    have hnb : ¬ (a ≤ p 3 g ∧ p 3 g < a + p 0 a) := fun y => by have := hdirty _ y.1 y.2; omega
    rw [Q0 _ gg.2.1 hnb (by omega), Q1, if_neg hnb]
    exact g2
  · have g2 := gs.2 r hr
    rw [Q1]
    by_cases c : a ≤ r ∧ r < a + p 0 a
    · rw [if_pos c]
      exact ⟨by omega, fun z => by omega⟩
    · rw [if_neg c]
      refine ⟨g2.1, fun z => ?_⟩
      have g3 := g2.2 z
      rw [Qn 2 _ (by omega) (by omega) (by omega), Qn 3 _ (by omega) (by omega) (by omega)]
      refine ⟨g3.1, ?_⟩
      rw [g3.2]
      show r - r % p 0 r = r - r % clC p a 0 r
      rw [Q0 r hr c (by omega)]
  · have e0 : clC p a 10 0 = p 10 0 - 1 := by rw [Q10, if_neg (by omega), if_pos rfl]
    have e1 : clC p a 10 1 = 0 := by rw [Q10, if_pos rfl]
    refine ⟨by omega, fun j hj => ?_, fun i j hi hj e => ?_, fun z => ?_, fun _ => e1⟩
    · have qj := q2 (j + 1) (by omega)
      have hn := hqj j (by omega)
      rw [Q8 j (by omega), Q0 _ qj.1 hn (by omega), Q1, if_neg hn]
      exact qj
    · rw [Q8 i (by omega), Q8 j (by omega)] at e
      have := q3 (i + 1) (j + 1) (by omega) (by omega) e
      omega
    · have qj := q2 1 (by omega)
      have hn := hqj 0 (by omega)
      rw [e1, Q8 0 (by omega), Q0 _ qj.1 hn (by omega)]
      exact (pow_le (al _ qj.1).1).2
  · refine ⟨fun i hi => ?_, fun i hi => ?_, fun i hi => ?_⟩
    · have := nm.1 i hi
      rw [hQ 0 i (by omega) (by omega), ko.2 i hi, gv_0 al ha hz, Q1, if_neg (by omega)]
      refine ⟨this.1, this.2.1, ?_⟩
      unfold clC
      rw [clB_8, if_neg (by omega), k5 8 _ (by omega) (by omega), gv_n _ (by omega)]
      exact this.2.2
    · rw [Qn 2 i (by omega) (by omega) (by omega), Qn 3 i (by omega) (by omega) (by omega), Qn 4 i (by omega) (by omega) (by omega), Qn 5 i (by omega) (by omega) (by omega), Qn 6 i (by omega) (by omega) (by omega), Qn 7 i (by omega) (by omega) (by omega)]
      exact nm.2.1 i hi
    · rw [Qn 9 i (by omega) (by omega) (by omega)]
      exact nm.2.2 i hi
  · refine RS_p k2 (fun i => hQ 0 i (by omega) (by omega)) (fun i => hQ 1 i (by omega) (by omega)) ?_ ?_
    · rw [Q10, if_neg (by omega), if_neg (by omega), if_neg (by omega)]
    · rw [Q10, if_neg (by omega), if_neg (by omega), if_neg (by omega)]
  · refine ⟨?_, ?_, fun j hj => ?_⟩
    · rw [k6 9 (by omega) (by omega), w1_ne (by omega), w1_ne (by omega), e29, Q10, if_neg (by omega), if_pos rfl, hm9]
    · rw [k6 7 (by omega) (by omega), w1_ne (by omega), w1_ne (by omega), e27, Q10, if_neg (by omega), if_neg (by omega), if_pos rfl, ← hv, rq.2.1]
    · rw [Q10, if_neg (by omega), if_pos rfl] at hj
      have qj := q2 (j + 1) (by omega)
      have rj := rq.2.2 (j + 1) (by omega)
      have hne : p 8 (j + 1) ≠ a := fun z => hqj j (by omega) ⟨by omega, by omega⟩
      rw [Q8 j (by omega), Q10, if_pos rfl, k6 _ (by omega) (by omega), w1_ne (by omega), w1_ne (by omega), e2q j (by omega), k6 _ (by omega) (by omega), w1_ne (by omega), w1_ne (by omega), e2 _ (by omega) (by omega) (by omega), rj.2, if_neg (by omega)]
      refine ⟨rj.1, ?_⟩
      split <;> rfl
  · refine ⟨?_, ?_, fun g hg => ?_⟩
    · rw [k6 6 (by omega) (by omega), w1_ne (by omega), w1_ne (by omega), e2 6 (by omega) (by omega) (by omega), Q10n 5 (by omega) (by omega) (by omega) (by omega)]
      exact rh.1
    · rw [k6 8 (by omega) (by omega), w1_ne (by omega), w1_ne (by omega), e2 8 (by omega) (by omega) (by omega), Q10n 6 (by omega) (by omega) (by omega) (by omega)]
      exact rh.2.1
    · have e : ∀ i, 266 ≤ i → mrl 7 (w1 (w1 m2 (74 + a) 0) (138 + a) 0) a i = m i := fun i hi => by
        rw [k6 i (by omega) (by omega), w1_ne (by omega), w1_ne (by omega), e2 i (by omega) (by omega) (by omega)]
      rw [e _ (by omega), e _ (by omega), e _ (by omega), e _ (by omega), e _ (by omega), e _ (by omega), e _ (by omega), Qn 2 g (by omega) (by omega) (by omega), Qn 3 g (by omega) (by omega) (by omega), Qn 4 g (by omega) (by omega) (by omega), Qn 5 g (by omega) (by omega) (by omega), Qn 6 g (by omega) (by omega) (by omega), Qn 7 g (by omega) (by omega) (by omega)]
      exact rh.2.2 g hg
  · refine RG_p (p := p) ?_ (fun i => Qn 9 i (by omega) (by omega) (by omega)) (Q10n 2 (by omega) (by omega) (by omega) (by omega))
    unfold RG at *
    have e : ∀ i, i < 4 → mrl 7 (w1 (w1 m2 (74 + a) 0) (138 + a) 0) a i = m i := fun i hi => by
      rw [k6 i (by omega) (by omega), w1_ne (by omega), w1_ne (by omega), e2 i (by omega) (by omega) (by omega)]
    rw [e 0 (by omega), e 1 (by omega), e 2 (by omega), e 3 (by omega)]
    exact rg
