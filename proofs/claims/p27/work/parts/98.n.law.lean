

/-! THE LAW's accounts, in the palace's own -/
def exq (a : Nat → Nat) (Q : Nat → Bool) : Nat → Nat → Bool
  | 0, _ => false
  | m + 1, r => exq a Q m r || (Q m && decide (a m = r))
theorem exq_iff (a : Nat → Nat) (Q : Nat → Bool) (r : Nat) : ∀ m, exq a Q m r = true ↔ ∃ j, j < m ∧ Q j = true ∧ a j = r
  | 0 => ⟨fun h => (by cases h), fun ⟨j, h, _⟩ => by omega⟩
  | m + 1 => by
    show (exq a Q m r || (Q m && decide (a m = r))) = true ↔ _
    rw [Bool.or_eq_true, Bool.and_eq_true, decide_eq_true_eq, exq_iff a Q r m]
    constructor
    · rintro (⟨j, j1, j2⟩ | h)
      · exact ⟨j, by omega, j2⟩
      · exact ⟨m, by omega, h⟩
    · rintro ⟨j, j1, j2⟩
      by_cases c : j = m
      · exact Or.inr (c ▸ j2)
      · exact Or.inl ⟨j, by omega, j2⟩
theorem smf_pt (k c : Nat) : ∀ n, smf (fun r => if r = k then c else 0) n = if k < n then c else 0
  | 0 => by rw [if_neg (by omega)]; rfl
  | n + 1 => by
    rw [smfS, smf_pt k c n]
    by_cases h : n = k
    · rw [if_pos h, if_neg (by omega), if_pos (by omega), Nat.zero_add]
    · rw [if_neg h, Nat.add_zero]
      by_cases h2 : k < n
      · rw [if_pos h2, if_pos (by omega)]
      · rw [if_neg h2, if_neg (by omega)]
theorem sum_inj (a : Nat → Nat) (Q : Nat → Bool) (F : Nat → Nat) : ∀ m, (∀ j, j < m → Q j = true → a j < 64) → (∀ i j, i < m → j < m → Q i = true → Q j = true → a i = a j → i = j) → smf (fun j => if Q j = true then F (a j) else 0) m = smf (fun r => if exq a Q m r = true then F r else 0) 64
  | 0, _, _ => by
    have : smf (fun r => if exq a Q 0 r = true then F r else 0) 64 = smf (fun _ => 0) 64 := smf_congr 64 (fun i _ => if_neg (by intro z; cases z))
    rw [this]
    rfl
  | m + 1, h1, h2 => by
    rw [smfS, sum_inj a Q F m (fun j hj => h1 j (by omega)) (fun i j hi hj => h2 i j (by omega) (by omega))]
    by_cases c : Q m = true
    · rw [if_pos c]
      have hk := h1 m (by omega) c
      have e : smf (fun r => if exq a Q (m + 1) r = true then F r else 0) 64 = smf (fun r => (if exq a Q m r = true then F r else 0) + (if r = a m then F (a m) else 0)) 64 := smf_congr 64 (fun r _ => by
        have hx := exq_iff a Q r m
        have hy := exq_iff a Q r (m + 1)
        by_cases c2 : r = a m
        · have n1 : ¬ exq a Q m r = true := fun z => by
            obtain ⟨j, j1, j2, j3⟩ := hx.mp z
            have := h2 j m (by omega) (by omega) j2 c (by rw [j3, c2])
            omega
          rw [if_pos (hy.mpr ⟨m, by omega, c, c2.symm⟩), if_neg n1, if_pos c2, c2, Nat.zero_add]
        · rw [if_neg c2, Nat.add_zero]
          by_cases c3 : exq a Q m r = true
          · obtain ⟨j, j1, j2⟩ := hx.mp c3
            rw [if_pos c3, if_pos (hy.mpr ⟨j, by omega, j2⟩)]
            rfl
          · rw [if_neg c3, if_neg (fun z => c3 (hx.mpr (by
              obtain ⟨j, j1, j2, j3⟩ := hy.mp z
              refine ⟨j, ?_, j2, j3⟩
              by_cases hj : j = m
              · subst hj
                exact absurd j3.symm c2
              · omega)))])
      rw [e, smf_add, smf_pt, if_pos hk]
    · rw [if_neg c, Nat.add_zero]
      refine smf_congr 64 (fun r _ => ?_)
      have e : exq a Q (m + 1) r = exq a Q m r := by
        show (exq a Q m r || (Q m && decide (a m = r))) = _
        rw [Bool.eq_false_iff.mpr c, Bool.false_and, Bool.or_false]
      rw [e]
theorem cnt_smf (q : Nat → Bool) : ∀ n, cnt q n = smf (fun i => if q i = true then 1 else 0) n
  | 0 => rfl
  | n + 1 => by
    rw [smfS, ← cnt_smf q n]
    rfl
theorem du_ex {p : Nat → Nat → Nat} {B x r : Nat} (h : InX p B x) (hd : DQ p) (hr : r < 64) : exq (p 8) (fun _ => true) (p 10 0) r = true ↔ (r % p 0 r = 0 ∧ p 1 r = 0) := by
  rw [exq_iff]
  constructor
  · rintro ⟨j, j1, -, j3⟩
    have uj := h.2.2.2.1.2.1 j j1
    rw [j3] at uj
    exact ⟨uj.2.1, uj.2.2⟩
  · rintro ⟨h1, h2⟩
    obtain ⟨j, j1, j2⟩ := hd r hr h2
    refine ⟨j, j1, rfl, ?_⟩
    rw [j2]
    unfold fst
    rw [h1]
    rfl
theorem dirty_n {p : Nat → Nat → Nat} {B x : Nat} (h : InX p B x) (hd : DQ p) : smf (fun j => p 0 (p 8 j)) (p 10 0) = cD p := by
  have hw := InX_wf h
  have qu := h.2.2.2.1
  have e1 := sum_inj (p 8) (fun _ => true) (p 0) (p 10 0) (fun j hj _ => (qu.2.1 j hj).1) (fun i j hi hj _ _ y => qu.2.2.1 i j hi hj y)
  have e2 := tile h.1 (fun r => decide (p 1 r = 0)) (fun r i hr i1 i2 => by rw [(Al_s h.1 hr i1 i2).2.1])
  have e3 : cD p = cnt (fun r => decide (p 1 r = 0)) 64 := cnt_congr 64 (fun r hr => decide_eq_decide.mpr (by rw [ho_dirty (hw r hr).2]))
  rw [e3, ← e2]
  have e0 : smf (fun j => p 0 (p 8 j)) (p 10 0) = smf (fun j => if (fun _ => true : Nat → Bool) j = true then p 0 (p 8 j) else 0) (p 10 0) := smf_congr _ (fun j _ => (if_pos rfl).symm)
  rw [e0, e1]
  refine smf_congr 64 (fun r hr => ?_)
  have hx := du_ex h hd hr
  by_cases c : exq (p 8) (fun _ => true) (p 10 0) r = true
  · rw [if_pos c, if_pos ⟨(hx.mp c).1, decide_eq_true (hx.mp c).2⟩]
  · rw [if_neg c, if_neg (fun y => c (hx.mpr ⟨y.1, of_decide_eq_true y.2⟩))]
theorem taken_n {p : Nat → Nat → Nat} {B x : Nat} (h : InX p B x) : rG p = nI (smf (fun g => if 0 < p 2 g then p 0 (p 3 g) else 0) 12) := by
  have hw := InX_wf h
  have e3 := cnt_3 (p := p) 64
  have e1 : cnt (fun r => decide (kd (p 1 r) = 1)) 64 = smf (fun g => if 0 < p 2 g then p 0 (p 3 g) else 0) 12 := by
    rw [← tak_1 64 (fun r hr2 => (h.2.2.1.2 r hr2).1)]
    exact smf_congr 12 (fun g hg => tak_2 h hg)
  have e2 : cnt (fun r => decide (kd (p 1 r) = 0)) 64 = cF p := cnt_congr 64 (fun r hr => decide_eq_decide.mpr (by rw [ho_free (hw r hr).2, kd_0]))
  have e4 : cnt (fun r => decide (kd (p 1 r) = 2)) 64 = cD p := cnt_congr 64 (fun r hr => decide_eq_decide.mpr (by rw [ho_dirty (hw r hr).2, kd_2]))
  unfold rG
  rw [pk_sub (by omega), pk_sub (by omega)]
  congr 1
  omega
theorem szf_ge {n : Nat} (hn : n ≤ 64) : n ≤ szf n := by
  have : ∀ n, n ≤ 64 → n ≤ szf n := by decide +kernel
  exact this n hn
theorem beyond_n {p : Nat → Nat → Nat} {B x : Nat} (h : InX p B x) : rG p - nI (smf (p 2) 12) = nI (smf (fun g => if 0 < p 2 g then p 0 (p 3 g) - p 2 g else 0) 12) := by
  have e : smf (fun g => if 0 < p 2 g then p 0 (p 3 g) else 0) 12 = smf (fun g => (if 0 < p 2 g then p 0 (p 3 g) - p 2 g else 0) + p 2 g) 12 := smf_congr 12 (fun g hg => by
    have gg := h.2.2.1.1 g hg
    by_cases c : 0 < p 2 g
    · have := gg.2.2.2.2.2.2 c
      have hz := szf_ge gg.1
      rw [if_pos c, if_pos c]
      omega
    · rw [if_neg c, if_neg c]
      omega)
  rw [taken_n h, e, smf_add]
  have e5 : smf (fun g => p 2 g) 12 = smf (p 2) 12 := rfl
  rw [e5, pk_sub (by omega)]
  congr 1
  omega
theorem suites_n {p : Nat → Nat → Nat} {B x : Nat} (h : InX p B x) (hd : DQ p) : cSu p = cG p + p 10 0 + cnt (bfr p) 64 := by
  have qu := h.2.2.2.1
  have gs := h.2.2.1
  have a1 : cnt (bfr p) 64 = smf (fun r => if bfr p r = true then 1 else 0) 64 := cnt_smf _ _
  have a2 : p 10 0 = smf (fun r => if exq (p 8) (fun _ => true) (p 10 0) r = true then 1 else 0) 64 := by
    have e1 := sum_inj (p 8) (fun _ => true) (fun _ => 1) (p 10 0) (fun j hj _ => (qu.2.1 j hj).1) (fun i j hi hj _ _ y => qu.2.2.1 i j hi hj y)
    rw [← e1]
    have : ∀ n, smf (fun j => if (fun _ => true : Nat → Bool) j = true then 1 else 0) n = n := by
      intro n
      induction n with
      | zero => rfl
      | succ n ih => rw [smfS, ih]; rfl
    exact (this _).symm
  have a3 : cG p = smf (fun r => if exq (p 3) (fun g => decide (0 < p 2 g)) 12 r = true then 1 else 0) 64 := by
    have e1 := sum_inj (p 3) (fun g => decide (0 < p 2 g)) (fun _ => 1) 12 (fun j hj _ => (gs.1 j hj).2.1) (fun i j hi hj q1 q2 y => by
      have g1 := (gs.1 i hi).2.2.2.2.2.2 (of_decide_eq_true q1)
      have g2 := (gs.1 j hj).2.2.2.2.2.2 (of_decide_eq_true q2)
      have := g1.2.1
      rw [y, g2.2.1] at this
      omega)
    rw [← e1]
    exact cnt_smf _ _
  have a4 : cSu p = smf (fun r => if decide (r % p 0 r = 0) = true then 1 else 0) 64 := cnt_smf _ _
  rw [a4, a3, a1]
  conv => rhs; rw [a2]
  rw [← smf_add, ← smf_add]
  refine smf_congr 64 (fun r hr => ?_)
  have hx := du_ex h hd hr
  have hg : exq (p 3) (fun g => decide (0 < p 2 g)) 12 r = true ↔ (r % p 0 r = 0 ∧ 2 ≤ p 1 r) := by
    rw [exq_iff]
    constructor
    · rintro ⟨j, j1, j2, j3⟩
      have g1 := (gs.1 j j1).2.2.2.2.2.2 (of_decide_eq_true j2)
      rw [j3] at g1
      exact ⟨g1.1, by omega⟩
    · rintro ⟨h1, h2⟩
      have g2 := (gs.2 r hr).2 h2
      have g3 := (gs.2 r hr).1
      refine ⟨p 1 r - 2, by omega, decide_eq_true g2.1, ?_⟩
      rw [g2.2]
      unfold fst
      rw [h1]
      rfl
  have hb : bfr p r = true ↔ (p 1 r = 1 ∧ r % p 0 r = 0) := by
    unfold bfr
    rw [Bool.and_eq_true, decide_eq_true_eq, decide_eq_true_eq]
  by_cases c : r % p 0 r = 0
  · rw [if_pos (decide_eq_true c)]
    rcases (show p 1 r = 0 ∨ p 1 r = 1 ∨ 2 ≤ p 1 r by omega) with z | z | z
    · rw [if_neg (fun y => by have := hg.mp y; omega), if_pos (hx.mpr ⟨c, z⟩), if_neg (fun y => by have := hb.mp y; omega)]
    · rw [if_neg (fun y => by have := hg.mp y; omega), if_neg (fun y => by have := hx.mp y; omega), if_pos (hb.mpr ⟨z, c⟩)]
    · rw [if_pos (hg.mpr ⟨c, z⟩), if_neg (fun y => by have := hx.mp y; omega), if_neg (fun y => by have := hb.mp y; omega)]
  · rw [if_neg (fun y => c (of_decide_eq_true y)), if_neg (fun y => c (hg.mp y).1), if_neg (fun y => c (hx.mp y).1), if_neg (fun y => c (hb.mp y).2)]
theorem wt_all {p : Nat → Nat → Nat} {B g : Nat} {f : Nat → Nat} (h : Inv p B) (hf : RF p f) (hg : g < 12) (h0 : 0 < p 2 g) : Al (wtF p g) ∧ Nf (wtF p g) ∧ Nm (wtF p g) ∧ Wf (wtF p g) ∧ RF (wtF p g) (trn f (p 3 g) (p 0 (p 3 g))) ∧ p 3 g + p 0 (p 3 g) ≤ 64 := by
  obtain ⟨al, nf, gs, qu, sgg, nm⟩ := id h
  have rs := (row_rel h).1
  have hgg := gs.1 g hg
  have hgo := hgg.2.2.2.2.2.2 h0
  have ha := hgg.2.1
  have hz := hgo.1
  have gA := gv_Al (h := 1) al ha hz
  have gN := gv_NfX al nf ha hz
  have hl := pow_le (al _ ha).1
  have h64 := blk_64 (al _ ha).1 hz ha
  have g1 : mkk p (p 3 g) (p 0 (p 3 g)) (p 0 (p 3 g)) 1 1 (p 3 g) = 1 := by rw [gv_1, if_pos ⟨by omega, by omega⟩]
  have gRS := gv_RS (h := 1) al rs ha hz
  obtain ⟨k1, k2, k3, k4, k5, k6⟩ := rel_all ha 6 7 _ _ (by omega) gA g1 (by rw [gv_0 al ha hz]; omega) gRS gN
  have ko := rel_o ha 6 _ gA g1
  have hwt : wtF p g = rel (p 3 g) 6 (mkk p (p 3 g) (p 0 (p 3 g)) (p 0 (p 3 g)) 1) := if_neg (by omega)
  have hm := Nm_mk (a := p 3 g) (k := p 0 (p 3 g)) (n := p 0 (p 3 g)) (v := 1) nm h64
  rw [← hwt] at k1 k3 k4 k5 ko
  have c1 : ∀ i, wtF p g 1 i = if p 3 g ≤ i ∧ i < p 3 g + p 0 (p 3 g) then 1 else p 1 i := fun i => by rw [k4, gv_1]
  refine ⟨k1, k3, ⟨fun i hi => ?_, fun i hi => ?_, fun i hi => ?_⟩, fun r hr => ⟨(k1 r hr).1, ?_⟩, ⟨trn_fo hf.1 _ _, fun r hr => ?_⟩, h64⟩
  · rw [ko.2 i hi, k4, k5 8 i (by omega) (by omega)]
    exact hm.1 i hi
  · rw [k5 2 i (by omega) (by omega), k5 3 i (by omega) (by omega), k5 4 i (by omega) (by omega), k5 5 i (by omega) (by omega), k5 6 i (by omega) (by omega), k5 7 i (by omega) (by omega)]
    exact hm.2.1 i hi
  · rw [k5 9 i (by omega) (by omega)]
    exact hm.2.2 i hi
  · rw [c1]
    split
    · omega
    · exact (gs.2 r hr).1
  · rw [trn_fr, c1, hf.2 r hr]
    by_cases c : p 3 g ≤ r ∧ r < p 3 g + p 0 (p 3 g)
    · have hs := Al_s al ha (i := r) (by unfold fst; rw [hz]; omega) (by unfold fst; rw [hz]; omega)
      rw [if_pos c, if_pos c, decide_eq_false (by rw [hs.2.1, hgo.2.1]; omega)]
      rfl
    · rw [if_neg c, if_neg c]
def lowD (q : Nat → Bool) (j : Nat) : Int32 := if fstf q 64 (64 - j) = 64 then -5 else nI (fstf q 64 (64 - j))
theorem lowD_s (q : Nat → Bool) {j : Nat} (h : j < 64) : lowD q j = if q j = true then nI j else lowD q (j + 1) := by
  unfold lowD
  rw [show 64 - j = (64 - (j + 1)) + 1 by omega]
  have e : fstf q 64 ((64 - (j + 1)) + 1) = if q j = true then j else fstf q 64 (64 - (j + 1)) := by
    show (if q (64 - ((64 - (j + 1)) + 1)) = true then 64 - ((64 - (j + 1)) + 1) else _) = _
    rw [show 64 - ((64 - (j + 1)) + 1) = j by omega]
  rw [e]
  by_cases c : q j = true
  · rw [if_pos c, if_pos c, if_neg (by omega)]
  · rw [if_neg c, if_neg c]
def cntD (q : Nat → Bool) (j : Nat) : Nat := cnt q 64 - cnt q j
theorem cntD_s (q : Nat → Bool) {j : Nat} (h : j < 64) : cntD q j = if q j = true then cntD q (j + 1) + 1 else cntD q (j + 1) := by
  have m := cnt_mono q (j + 1) (64 - (j + 1))
  rw [show j + 1 + (64 - (j + 1)) = 64 by omega] at m
  unfold cntD
  by_cases c : q j = true
  · have := cntT c
    rw [if_pos c]
    omega
  · have := cntF (Bool.eq_false_iff.mpr c)
    rw [if_neg c]
    omega
