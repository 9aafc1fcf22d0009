

-- needs P<=45 96.th
theorem fstf_u {q : Nat → Bool} {n g : Nat} (hg : g < n) (hq : q g = true) (hu : ∀ i, i < n → q i = true → i = g) : fstf q n n = g := by
  rcases Nat.lt_or_ge (fstf q n n) n with z | z
  · exact hu _ z (fstf_b n (Nat.le_refl _) z)
  · have := fstf_le q n n (Nat.le_refl _)
    have e : fstf q n n = n := by omega
    have := (fstf_ne n (Nat.le_refl _)).mp e g (by omega) hg
    rw [hq] at this
    cases this
/-- what the reference needs for its queries -/
theorem q_pre {p : Nat → Nat → Nat} {m : Nat → Nat} {B x : Nat} (h : InX p B x) (hr : Rel p m) : ∀ g, g < 12 → m (266 + 7 * g) = 1 → 0 < p 2 g ∧ m (266 + 7 * g + 2) = p 3 g ∧ m (266 + 7 * g + 1) = p 2 g ∧ m (266 + 7 * g + 2) < 64 ∧ m (10 + m (266 + 7 * g + 2)) = p 0 (p 3 g) ∧ p 2 g ≤ p 0 (p 3 g) := by
  intro g hg h1
  have hh := hr.2.2.1.2.2 g hg
  have gg := h.2.2.1.1 g hg
  have h0 : 0 < p 2 g := by
    have := hh.1
    rw [h1] at this
    split at this
    · assumption
    · omega
  have hc := hh.2.2.2 h0
  have g2 := gg.2.2.2.2.2.2 h0
  refine ⟨h0, hc.2.1, hc.1, by rw [hc.2.1]; exact gg.2.1, by rw [hc.2.1, hr.1.1 _ gg.2.1, if_pos g2.1], ?_⟩
  rw [g2.2.2.1]
  have : ∀ n, n ≤ 64 → n ≤ szf n := by decide +kernel
  exact this _ gg.1
theorem q_room {p : Nat → Nat → Nat} {m : Nat → Nat} {B x k w : Nat} (h : InX p B x) (hr : Rel p m) (hk : k < 64) (hw : w ≤ 5) : trM m (fst p k) w = ofR p k (nI w) := by
  obtain ⟨al, nf, gs, qu, sg, nm⟩ := id h
  obtain ⟨rs, rq, rh, rg⟩ := id hr
  have ff := Al_f al hk
  have hl := pow_le (al k hk).1
  have hs : m (10 + fst p k) = p 0 k := by
    rw [rs.1 _ ff.2.2.2.2.1, ff.2.2.2.2.2.1, if_pos ff.1]
  have hz : fst p k % p 0 (fst p k) = 0 := by rw [ff.2.2.2.2.2.1]; exact ff.1
  rcases (show w = 0 ∨ w = 1 ∨ w = 2 ∨ w = 3 ∨ w = 4 ∨ w = 5 by omega) with rfl | rfl | rfl | rfl | rfl | rfl
  · rfl
  · show nI (m (10 + fst p k)) = nI (p 0 k)
    rw [hs]
  · show nI (m (74 + fst p k)) = nI (if p 1 k = 1 then 0 else if p 1 k = 0 then 2 else 1)
    rw [rs.2.1 _ ff.2.2.2.2.1 hz, ff.2.2.2.2.2.2.1]
    congr 1
    unfold kd
    split
    · rw [if_neg (by omega)]
    · rfl
  · show (if goM m (fst p k) = 12 then -5 else nI (goM m (fst p k))) = (if p 1 k < 2 then -5 else nI (p 1 k - 2))
    have gk := gs.2 k hk
    by_cases c : p 1 k < 2
    · rw [if_pos c]
      have : goM m (fst p k) = 12 := by
        unfold goM
        rw [fstf_ne 12 (Nat.le_refl _)]
        intro g _ hg
        cases hq : (decide (m (266 + 7 * g) = 1) && decide (m (266 + 7 * g + 2) = fst p k)) with
        | false => rfl
        | true =>
          rw [Bool.and_eq_true, decide_eq_true_eq, decide_eq_true_eq] at hq
          have pre := q_pre h hr g hg hq.1
          have g2 := (gs.1 g hg).2.2.2.2.2.2 pre.1
          have e : p 3 g = fst p k := by rw [← pre.2.1, hq.2]
          have := g2.2.1
          rw [e, ff.2.2.2.2.2.2.1] at this
          omega
      rw [if_pos this]
    · rw [if_neg c]
      have g3 := gk.2 (by omega)
      have hg : p 1 k - 2 < 12 := by omega
      have : goM m (fst p k) = p 1 k - 2 := by
        unfold goM
        refine fstf_u hg ?_ (fun i hi hq => ?_)
        · have hh := rh.2.2 _ hg
          rw [Bool.and_eq_true, decide_eq_true_eq, decide_eq_true_eq]
          refine ⟨by rw [hh.1, if_pos g3.1], ?_⟩
          rw [(hh.2.2.2 g3.1).2.1, g3.2]
        · rw [Bool.and_eq_true, decide_eq_true_eq, decide_eq_true_eq] at hq
          have pre := q_pre h hr i hi hq.1
          have g2 := (gs.1 i hi).2.2.2.2.2.2 pre.1
          have e : p 3 i = fst p k := by rw [← pre.2.1, hq.2]
          have := g2.2.1
          rw [e, ff.2.2.2.2.2.2.1] at this
          omega
      rw [this, if_neg (by omega)]
  · show twM m (fst p k) = twI p k
    unfold twM twI
    rw [hs]
    by_cases c : p 0 k = 64
    · rw [if_pos c, if_pos c]
    · rw [if_neg c, if_neg c]
      have tb := tw_blk (al k hk).1 c hk
      rw [tb.2.2.2.2 (fst p k) (by rw [ff.1]; exact Nat.sub_zero _)]
  · show nI (if m (10 + fst p k) ≠ 64 ∧ m (10 + tw (fst p k) (m (10 + fst p k))) = m (10 + fst p k) then 1 else 0) = nI (if p 0 k ≠ 64 ∧ p 0 (tw k (p 0 k)) = p 0 k then 1 else 0)
    rw [hs]
    by_cases c : p 0 k = 64
    · rw [if_neg (fun z => z.1 c), if_neg (fun z => z.1 c)]
    · have tb := tw_blk (al k hk).1 c hk
      rw [tb.2.2.2.2 (fst p k) (by rw [ff.1]; exact Nat.sub_zero _)]
      have ht : tw k (p 0 k) < 64 := by omega
      have hlt := pow_le (al _ ht).1
      have e := rs.1 _ ht
      by_cases d : p 0 (tw k (p 0 k)) = p 0 k
      · have em : m (10 + tw k (p 0 k)) = p 0 k := by rw [e, d, if_pos tb.1]
        rw [if_pos ⟨c, em⟩, if_pos ⟨c, d⟩]
      · have em : ¬ m (10 + tw k (p 0 k)) = p 0 k := fun z => by
          rw [e] at z
          split at z
          · exact d z
          · omega
        rw [if_neg (fun z => em z.2), if_neg (fun z => d z.2)]
theorem q_roomP {p : Nat → Nat → Nat} {m : Nat → Nat} {B x k : Nat} (h : InX p B x) (hr : Rel p m) (hk : k < 64) : fst p k ≤ k ∧ (∀ i, fst p k < i → i ≤ k → m (10 + i) = 0) ∧ Pw (m (10 + fst p k)) ∧ fst p k % m (10 + fst p k) = 0 := by
  have ff := Al_f h.1 hk
  have hs : m (10 + fst p k) = p 0 k := by
    rw [hr.1.1 _ ff.2.2.2.2.1, ff.2.2.2.2.2.1, if_pos ff.1]
  refine ⟨ff.2.1, fun i h1 h2 => ?_, by rw [hs]; exact (h.1 k hk).1, by rw [hs]; exact ff.1⟩
  have as := Al_s h.1 hk (show fst p k ≤ i by omega) (by omega)
  rw [hr.1.1 i as.2.2.2, if_neg ?_]
  intro z
  have : fst p i = i := by unfold fst; rw [z]; rfl
  omega
theorem q_guest {p : Nat → Nat → Nat} {m : Nat → Nat} {B x g w : Nat} (h : InX p B x) (hr : Rel p m) (hg : g < 12) (h0 : 0 < p 2 g) (hw : w ≤ 5) : ggM m g w = ofG p g (nI w) := by
  have hh := hr.2.2.1.2.2 g hg
  have hc := hh.2.2.2 h0
  have pre := q_pre h hr g hg (by rw [hh.1, if_pos h0])
  rcases (show w = 0 ∨ w = 1 ∨ w = 2 ∨ w = 3 ∨ w = 4 ∨ w = 5 by omega) with rfl | rfl | rfl | rfl | rfl | rfl
  · show nI _ = nI _
    rw [hc.1]
  · show nI _ = nI _
    rw [pre.2.2.2.2.1]
  · show nI _ = nI _
    rw [hc.2.1]
  · show nI _ = nI _
    rw [hc.2.2.1]
  · show nI _ = nI _
    rw [hc.2.2.2.1]
  · show nI _ = nI _
    rw [hc.2.2.2.2]
theorem q_hook {p : Nat → Nat → Nat} {m : Nat → Nat} {B x g : Nat} (h : InX p B x) (hr : Rel p m) (hg : g < 12) : hoM m g = if 0 < p 2 g then nI (1 + p 3 g) else if 0 < p 7 g then -10 - nI (p 7 g) else nI 0 := by
  have hh := hr.2.2.1.2.2 g hg
  have h7 : m (266 + 7 * g + 6) = p 7 g := hh.2.1
  unfold hoM
  rw [h7]
  by_cases h0 : 0 < p 2 g
  · have e1 : m (266 + 7 * g) = 1 := by rw [hh.1, if_pos h0]
    rw [if_pos e1, if_pos h0, (hh.2.2.2 h0).2.1]
  · have e1 : ¬ m (266 + 7 * g) = 1 := by rw [hh.1, if_neg h0]; omega
    rw [if_neg e1, if_neg h0]
theorem q_free {p : Nat → Nat → Nat} {m : Nat → Nat} {B x n : Nat} (h : InX p B x) (hr : Rel p m) : cnt (frM m n) 64 = hsz p n ∧ fstf (frM m n) 64 64 = hlo p n := by
  have e : ∀ i, i < 64 → frM m n i = (bfr p i && decide (p 0 i = n)) := fun i hi => by
    unfold frM
    have hf := RS_fr h.1 hr.1 hi
    rw [hf]
    cases hb : bfr p i with
    | false => rfl
    | true =>
      have := RS_sz hr.1 hi (by rw [hf, hb])
      rw [this]
  exact ⟨cnt_congr 64 e, fstf_congr e 64 (Nat.le_refl _)⟩
theorem smf_add (f g : Nat → Nat) : ∀ n, smf (fun i => f i + g i) n = smf f n + smf g n
  | 0 => rfl
  | n + 1 => by
    show smf (fun i => f i + g i) n + (f n + g n) = smf f n + f n + (smf g n + g n)
    rw [smf_add f g n]
    omega
theorem smf_1 {k : Nat} : ∀ n, smf (fun i => if i = k then 1 else 0) n = if k < n then 1 else 0
  | 0 => by rw [if_neg (by omega)]; rfl
  | n + 1 => by
    show smf (fun i => if i = k then 1 else 0) n + (if n = k then 1 else 0) = _
    rw [smf_1 n]
    by_cases c : n = k
    · rw [if_pos c, if_neg (by omega), if_pos (by omega)]
    · rw [if_neg c]
      by_cases d : k < n
      · rw [if_pos d, if_pos (by omega)]
      · rw [if_neg d, if_neg (by omega)]
/-- the taken rooms, guest by guest -/
theorem tak_1 {p : Nat → Nat → Nat} : ∀ n, (∀ r, r < n → p 1 r < 14) → smf (fun g => cnt (fun r => decide (p 1 r = g + 2)) n) 12 = cnt (fun r => decide (kd (p 1 r) = 1)) n
  | 0, _ => rfl
  | n + 1, h => by
    have ih := tak_1 n (fun r hr => h r (by omega))
    have hn := h n (by omega)
    have e : smf (fun g => cnt (fun r => decide (p 1 r = g + 2)) (n + 1)) 12 = smf (fun g => cnt (fun r => decide (p 1 r = g + 2)) n + (if p 1 n = g + 2 then 1 else 0)) 12 := smf_congr 12 (fun g _ => by
      show cnt (fun r => decide (p 1 r = g + 2)) n + (if decide (p 1 n = g + 2) = true then 1 else 0) = _
      simp only [decide_eq_true_eq])
    have e2 : cnt (fun r => decide (kd (p 1 r) = 1)) (n + 1) = cnt (fun r => decide (kd (p 1 r) = 1)) n + (if decide (kd (p 1 n) = 1) = true then 1 else 0) := rfl
    rw [e, smf_add, ih, e2]
    congr 1
    simp only [decide_eq_true_eq]
    have hk : (kd (p 1 n) = 1) = (2 ≤ p 1 n) := by
      unfold kd
      refine propext ⟨fun z => ?_, fun z => ?_⟩
      · split at z
        · omega
        · split at z <;> omega
      · rw [if_neg (by omega), if_neg (by omega)]
    simp only [hk]
    by_cases c : 2 ≤ p 1 n
    · rw [if_pos c]
      have e3 : smf (fun g => if p 1 n = g + 2 then 1 else 0) 12 = smf (fun g => if g = p 1 n - 2 then 1 else 0) 12 := smf_congr 12 (fun g _ => by
        by_cases d : p 1 n = g + 2
        · rw [if_pos d, if_pos (by omega)]
        · rw [if_neg d, if_neg (by omega)])
      rw [e3, smf_1, if_pos (by omega)]
    · rw [if_neg c]
      have e3 : smf (fun g => if p 1 n = g + 2 then 1 else 0) 12 = smf (fun _ => 0) 12 := smf_congr 12 (fun g _ => by rw [if_neg (by omega)])
      rw [e3]
      rfl
theorem tak_2 {p : Nat → Nat → Nat} {B x g : Nat} (h : InX p B x) (hg : g < 12) : cnt (fun r => decide (p 1 r = g + 2)) 64 = if 0 < p 2 g then p 0 (p 3 g) else 0 := by
  obtain ⟨al, nf, gs, qu, sg, nm⟩ := h
  have gg := gs.1 g hg
  by_cases h0 : 0 < p 2 g
  · rw [if_pos h0]
    have g2 := gg.2.2.2.2.2.2 h0
    have ff : fst p (p 3 g) = p 3 g := by unfold fst; rw [g2.1]; rfl
    have fa := Al_f al gg.2.1
    have hout : ∀ r, r < 64 → ¬ (p 3 g ≤ r ∧ r < p 3 g + p 0 (p 3 g)) → decide (p 1 r = g + 2) = false := fun r hr ho => by
      rw [decide_eq_false_iff_not]
      intro z
      have g3 := (gs.2 r hr).2 (by omega)
      rw [show p 1 r - 2 = g by omega] at g3
      have fr := Al_f al hr
      have as := Al_s al hr (show fst p r ≤ p 3 g by omega) (by have := pow_le (al r hr).1; omega)
      apply ho
      omega
    have c1 := cnt_no (P := fun r => decide (p 1 r = g + 2)) (a := 0) (p 3 g) (fun i i1 i2 => hout i (by omega) (by omega))
    have c2 := cnt_int (P := fun r => decide (p 1 r = g + 2)) (a := p 3 g) (p 0 (p 3 g)) (fun i i1 i2 => by
      have as := Al_s al gg.2.1 (show fst p (p 3 g) ≤ i by omega) (by omega)
      rw [decide_eq_true_eq, as.2.1, g2.2.1])
    have c3 := cnt_no (P := fun r => decide (p 1 r = g + 2)) (a := p 3 g + p 0 (p 3 g)) (64 - (p 3 g + p 0 (p 3 g))) (fun i i1 i2 => hout i (by omega) (by omega))
    rw [Nat.zero_add] at c1
    rw [show p 3 g + p 0 (p 3 g) + (64 - (p 3 g + p 0 (p 3 g))) = 64 by omega] at c3
    have c0 : cnt (fun r => decide (p 1 r = g + 2)) 0 = 0 := rfl
    omega
  · rw [if_neg h0]
    have c1 := cnt_no (P := fun r => decide (p 1 r = g + 2)) (a := 0) 64 (fun i i1 i2 => by
      rw [decide_eq_false_iff_not]
      intro z
      have g3 := (gs.2 i (by omega)).2 (by omega)
      rw [show p 1 i - 2 = g by omega] at g3
      omega)
    exact c1
theorem cnt_3 {p : Nat → Nat → Nat} : ∀ n, cnt (fun r => decide (kd (p 1 r) = 0)) n + cnt (fun r => decide (kd (p 1 r) = 1)) n + cnt (fun r => decide (kd (p 1 r) = 2)) n = n
  | 0 => rfl
  | n + 1 => by
    have ih := cnt_3 (p := p) n
    show cnt (fun r => decide (kd (p 1 r) = 0)) n + (if decide (kd (p 1 n) = 0) = true then 1 else 0) + (cnt (fun r => decide (kd (p 1 r) = 1)) n + (if decide (kd (p 1 n) = 1) = true then 1 else 0)) + (cnt (fun r => decide (kd (p 1 r) = 2)) n + (if decide (kd (p 1 n) = 2) = true then 1 else 0)) = n + 1
    simp only [decide_eq_true_eq]
    have hk : kd (p 1 n) = 0 ∨ kd (p 1 n) = 1 ∨ kd (p 1 n) = 2 := by
      unfold kd
      split
      · omega
      · split <;> omega
    rcases hk with e | e | e <;> (rw [e]; simp; omega)
theorem q_total {p : Nat → Nat → Nat} {m : Nat → Nat} {B x st l k : Nat} (h : InX p B x) (hr : Rel p m) (hk : k ≤ 15) : ttM m st l k = ofW p k := by
  obtain ⟨al, nf, gs, qu, sg, nm⟩ := id h
  obtain ⟨rs, rq, rh, rg⟩ := id hr
  have hwf := InX_wf h
  have eF := RS_cF al hwf rs
  have eD := RS_cD al hwf rs
  have e3 := cnt_3 (p := p) 64
  rw [← RS_rt al rs 0, ← RS_rt al rs 1, ← RS_rt al rs 2] at e3
  have hG : gtM m 0 = cG p := cnt_congr 12 (fun g hg => by
    have := (rh.2.2 g hg).1
    rw [Nat.add_zero, this, Bool.and_self, decide_eq_decide]
    split <;> omega)
  have hrG : rG p = nI (rtM m 1) := by
    unfold rG
    rw [← eF, ← eD, pk_sub (by omega), pk_sub (by omega)]
    congr 1
    omega
  have hrb : rtM m 1 - smf (p 2) 12 = rbM m ∧ smf (p 2) 12 ≤ rtM m 1 := by
    have e1 : rtM m 1 = smf (fun g => if 0 < p 2 g then p 0 (p 3 g) else 0) 12 := by
      rw [RS_rt al rs 1, ← tak_1 64 (fun r hr2 => (gs.2 r hr2).1)]
      exact smf_congr 12 (fun g hg => tak_2 h hg)
    have e2 : smf (fun g => if 0 < p 2 g then p 0 (p 3 g) else 0) 12 = smf (fun g => (if m (266 + 7 * g) = 1 then m (10 + m (266 + 7 * g + 2)) - m (266 + 7 * g + 1) else 0) + p 2 g) 12 := smf_congr 12 (fun g hg => by
      have hh := rh.2.2 g hg
      by_cases h0 : 0 < p 2 g
      · have h1 : m (266 + 7 * g) = 1 := by rw [hh.1, if_pos h0]
        have pre := q_pre h hr g hg h1
        rw [if_pos h0, if_pos h1, pre.2.2.2.2.1, pre.2.2.1]
        omega
      · have h1 : ¬ m (266 + 7 * g) = 1 := by rw [hh.1, if_neg h0]; omega
        rw [if_neg h0, if_neg h1]
        omega)
    rw [smf_add] at e2
    have e4 : rbM m = smf (fun g => if m (266 + 7 * g) = 1 then m (10 + m (266 + 7 * g + 2)) - m (266 + 7 * g + 1) else 0) 12 := rfl
    have e5 : smf (fun g => p 2 g) 12 = smf (p 2) 12 := rfl
    rw [e1, e2, e4, e5]
    exact ⟨by omega, by omega⟩
  rcases (show k = 0 ∨ k = 1 ∨ k = 2 ∨ k = 3 ∨ k = 4 ∨ k = 5 ∨ k = 6 ∨ k = 7 ∨ k = 8 ∨ k = 9 ∨ k = 10 ∨ k = 11 ∨ k = 12 ∨ k = 13 ∨ k = 14 ∨ k = 15 by omega) with rfl | rfl | rfl | rfl | rfl | rfl | rfl | rfl | rfl | rfl | rfl | rfl | rfl | rfl | rfl | rfl
  · show nI (m 0) = nI (p 9 0)
    rw [rg.1]
  · show nI (m 1) = nI (p 9 1)
    rw [rg.2.1]
  · show nI (m 2) = nI (p 9 2)
    rw [rg.2.2.1]
  · show nI (m 3) = nI (p 10 2)
    rw [rg.2.2.2]
  · show nI (gtM m 0) = nI (cG p)
    rw [hG]
  · show nI (rtM m 0) = nI (cF p)
    rw [eF]
  · exact hrG.symm
  · show nI (rtM m 2) = nI (cD p)
    rw [eD]
  · show nI (rbM m) = rG p - nI (smf (p 2) 12)
    rw [hrG, pk_sub hrb.2, hrb.1]
  · show nI (suM m) = nI (cSu p)
    rw [RS_su al rs]
  · show nI (m 4) = nI (p 10 3)
    rw [rs.2.2.2.1]
  · show nI (m 5) = nI (p 10 4)
    rw [rs.2.2.2.2]
  · show nI (m 6) = nI (p 10 5)
    rw [rh.1]
  · show nI (m 7) = nI (p 10 7)
    rw [rq.2.1]
  · show nI (m 8) = nI (p 10 6)
    rw [rh.2.1]
  · show nI (kcM m) = nI (cCu p)
    congr 1
    exact cnt_congr 12 (fun g hg => by
      have : m (266 + 7 * g + 6) = p 7 g := (rh.2.2 g hg).2.1
      rw [this])
