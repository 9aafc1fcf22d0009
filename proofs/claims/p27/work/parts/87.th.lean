

-- needs P<=45 86.th
theorem fstf_b {q : Nat → Bool} {n : Nat} : ∀ k, k ≤ n → fstf q n k < n → q (fstf q n k) = true
  | 0, _, h => absurd h (Nat.lt_irrefl _)
  | k + 1, hk, h => by
    cases hq : q (n - (k + 1)) with
    | true => rw [fstT hq, hq]
    | false =>
      rw [fstF hq] at h ⊢
      exact fstf_b k (by omega) h
theorem RH_lh {p : Nat → Nat → Nat} {m : Nat → Nat} (h : RH p m (fun _ => 0)) : lhM m = gK p := by
  unfold lhM gK
  refine fstf_congr (fun i hi => ?_) 12 (Nat.le_refl _)
  have := h.2.2 i hi
  unfold kyM
  rw [this.1, this.2.1, Nat.add_zero]
  congr 1
  rw [decide_eq_decide]
  split <;> omega
theorem RH_wn {p : Nat → Nat → Nat} {m : Nat → Nat} (hp : Al p) (hw : Wf p) (hr : Rel p m) {n : Nat} (hn : n ≤ 64) : wnM m n = rfs p (szf n) := by
  unfold wnM rfs
  rw [RH_lh hr.2.2.1, RS_lk hp hw hr.1 hn]
theorem gK_b {p : Nat → Nat → Nat} (h : gK p < 12) : p 2 (gK p) = 0 ∧ p 7 (gK p) = 0 := by
  have := fstf_b (q := fun h => decide (p 2 h = 0) && decide (p 7 h = 0)) 12 (Nat.le_refl _) h
  rw [Bool.and_eq_true, decide_eq_true_eq, decide_eq_true_eq] at this
  exact this
/-- the suite that is taken for n rooms -/
def tkQ (p : Nat → Nat → Nat) (f w g : Nat) : Nat → Nat → Nat := mkk (tkN f w 6 p) f (tkN f w 6 p 0 f) (tkN f w 6 p 0 f) (g + 2)
theorem tk_use {p : Nat → Nat → Nat} {m : Nat → Nat} {B x n : Nat} (h : InX p B x) (hr : RS p m) (h0 : m 0 = p 9 0) (hn : n ≤ 64) (hs : sfm m (szf n) 64 ≠ 0) : ∃ r f, sfm m (szf n) 64 = r + 1 ∧ r < 64 ∧ r + m (10 + r) ≤ 64 ∧ szf n ≤ r + m (10 + r) ∧ f < 64 ∧ plc p (szf n) (p 9 0) = nI f ∧ f = (if m 0 = 1 then r + m (10 + r) - szf n else r) ∧ f + tkN f (szf n) 6 p 0 f ≤ 64 ∧ tkN f (szf n) 6 p 0 f = szf n ∧ tkR m r (szf n) = f ∧ f % szf n = 0 ∧ (∀ i, f ≤ i → i < f + szf n → p 1 i = 1) ∧ ∀ g, Al (tkQ p f (szf n) g) ∧ Nf (tkQ p f (szf n) g) ∧ RS (tkQ p f (szf n) g) (tkS m r (szf n)) ∧ Nm (tkQ p f (szf n) g) ∧ (∀ i, tkQ p f (szf n) g 1 i = if f ≤ i ∧ i < f + szf n then g + 2 else p 1 i) ∧ (∀ i, i < 64 → p 1 i ≠ 1 → tkQ p f (szf n) g 0 i = p 0 i) ∧ (∀ i, f ≤ i → i < f + szf n → tkQ p f (szf n) g 0 i = szf n) ∧ (∀ F i, 2 ≤ F → ¬ (F = 10 ∧ i = 3) → tkQ p f (szf n) g F i = p F i) ∧ (∀ i, i ≠ 4 → (i < 10 ∨ 202 ≤ i) → tkS m r (szf n) i = m i) ∧ (∀ i, i < 64 → p 1 i ≠ 1 → tkS m r (szf n) (138 + i) = m (138 + i)) := by
  obtain ⟨al, nf, gs, qu, sg, nm⟩ := h
  have hwf : Wf p := fun r hr => ⟨(al r hr).1, (gs.2 r hr).1⟩
  have hz := szf_pw n hn
  have hzl := pow_le hz
  have hb := sfm_b 64 hs
  generalize hR : sfm m (szf n) 64 = R at *
  have hR1 : R = (R - 1) + 1 := by omega
  generalize hrr : R - 1 = r at *
  have hr64 : r < 64 := by omega
  have hfr := RS_fr al hr hr64
  have hmr := RS_sz hr hr64 hb.2.1
  have hbf : bfr p r = true := by rw [← hfr]; exact hb.2.1
  unfold bfr at hbf
  rw [Bool.and_eq_true, decide_eq_true_eq, decide_eq_true_eq] at hbf
  have fr : fst p r = r := by unfold fst; rw [hbf.2]; rfl
  have alr := Al_f al hr64
  have hpc := RS_pc al hwf hr (w := szf n) h0
  rw [hR, if_neg hs, hrr, hmr] at hpc
  have hle := hb.2.2
  rw [hmr] at hle
  have hfin : ∀ f, f = (if m 0 = 1 then r + p 0 r - szf n else r) → fst p r ≤ f ∧ f < fst p r + p 0 r := by
    intro f hf
    rw [hf, fr]
    split <;> omega
  refine ⟨r, if m 0 = 1 then r + p 0 r - szf n else r, hR1, hr64, by rw [hmr]; omega, by rw [hmr]; omega, ?_⟩
  rw [hmr]
  generalize hf : (if m 0 = 1 then r + p 0 r - szf n else r) = f at *
  have hin := hfin f rfl
  have as := Al_s al hr64 hin.1 hin.2
  have hff : f < 64 := as.2.2.2
  have key := tk_all hz hff 6 7 p m r (by omega) al (by rw [as.2.1]; exact hbf.1) (by rw [as.2.2.1, fr]) (by rw [as.1]; exact hle) (by rw [as.1]; have := pow_le (al r hr64).1; omega) (by
    intro c
    have hf2 := hf
    rw [if_pos (show m 0 = 1 by omega)] at hf2
    rw [as.1]
    omega) (by
    intro c
    have hf2 := hf
    rw [if_neg (show ¬ m 0 = 1 by omega)] at hf2
    omega) hr (fun r hr h1 hj => by rw [nf r hr h1] at hj; cases hj) h0
  obtain ⟨k1, k2, k3, k4, k5, k6, k7, k8, k9, k10⟩ := key
  have hq := Al_f k1 hff
  have hqz : f % tkN f (szf n) 6 p 0 f = 0 := by rw [k2]; exact k4
  have hfw : f + szf n ≤ 64 := blk_64 hz k4 hff
  have hq1 : fst (tkN f (szf n) 6 p) f = f := by unfold fst; rw [hqz]; rfl
  have hsub : ∀ i, f ≤ i → i < f + szf n → p 1 i = 1 ∧ r ≤ i ∧ i < r + p 0 r := by
    intro i i1 i2
    have a := Al_s k1 hff (show fst (tkN f (szf n) 6 p) f ≤ i by omega) (by rw [hq1, k2]; exact i2)
    refine ⟨?_, ?_⟩
    · rw [← k7 i, a.2.1, k7, as.2.1]
      exact hbf.1
    · rcases (show (i < r ∨ r + p 0 r ≤ i) ∨ (r ≤ i ∧ i < r + p 0 r) by omega) with z | z
      · exfalso
        have hs1 : szf n ≤ p 0 r := hle
        have e1 := hf
        by_cases c : m 0 = 1
        · rw [if_pos c] at e1
          omega
        · rw [if_neg c] at e1
          omega
      · exact z
  have htR : tkR m r (szf n) = f := k3
  refine ⟨hff, ?_, rfl, by rw [k2]; exact hfw, k2, htR, k4, fun i i1 i2 => (hsub i i1 i2).1, fun g => ?_⟩
  · rw [hpc]
  have d0 : ∀ i, tkQ p f (szf n) g 0 i = tkN f (szf n) 6 p 0 i := fun i => by unfold tkQ; exact gv_0 k1 hff hqz i
  have d1 : ∀ i, tkQ p f (szf n) g 1 i = if f ≤ i ∧ i < f + szf n then g + 2 else p 1 i := fun i => by unfold tkQ; rw [gv_1, k2, k7]
  have dn : ∀ F i, 2 ≤ F → tkQ p f (szf n) g F i = tkN f (szf n) 6 p F i := fun F i hF => by unfold tkQ; exact gv_n _ hF i
  refine ⟨gv_Al k1 hff hqz, gv_Nf k1 k6 hff hqz (by omega), ?_, ?_, d1, fun i hi h1 => ?_, fun i i1 i2 => ?_, fun F i hF hc => by rw [dn F i hF, k8 F i hF hc], fun i h4 hi => ?_, fun i hi h1 => ?_⟩
  · have := gv_RS (h := g + 2) k1 k5 hff hqz
    have e : kd (g + 2) = 1 := by unfold kd; rw [if_neg (by omega), if_neg (by omega)]
    rw [e] at this
    unfold tkS
    rw [htR]
    exact this
  · have hN : Nm (tkN f (szf n) 6 p) := by
      have a1 : ∀ i, 64 ≤ i → tkN f (szf n) 6 p 0 i = p 0 i := fun i hi => by
        refine k10 i (Or.inr ?_)
        rw [as.1]
        omega
      refine ⟨fun i hi => ?_, fun i hi => ?_, fun i hi => ?_⟩
      · rw [a1 i hi, k7, k8 8 i (by omega) (by omega)]
        exact nm.1 i hi
      · rw [k8 2 i (by omega) (by omega), k8 3 i (by omega) (by omega), k8 4 i (by omega) (by omega), k8 5 i (by omega) (by omega), k8 6 i (by omega) (by omega), k8 7 i (by omega) (by omega)]
        exact nm.2.1 i hi
      · rw [k8 9 i (by omega) (by omega)]
        exact nm.2.2 i hi
    unfold tkQ
    exact Nm_mk hN (by rw [k2]; exact hfw)
  · rw [d0]
    refine k10 i ?_
    rw [as.1]
    rcases (show (i < r ∨ r + p 0 r ≤ i) ∨ (r ≤ i ∧ i < r + p 0 r) by omega) with z | z
    · exact z
    · exfalso
      have a := Al_s al hr64 (show fst p r ≤ i by omega) (by omega)
      exact h1 (by rw [a.2.1]; exact hbf.1)
  · rw [d0]
    have a := Al_s k1 hff (show fst (tkN f (szf n) 6 p) f ≤ i by omega) (by rw [hq1, k2]; exact i2)
    rw [a.1, k2]
  · unfold tkS
    rw [htR, w1_ne (by omega)]
    refine k9 i h4 (fun r' r1 r2 => ?_)
    rw [as.1] at r2
    omega
  · unfold tkS
    rw [htR, w1_ne (by omega)]
    refine k9 (138 + i) (by omega) (fun r' r1 r2 => ?_)
    rw [as.1] at r2
    have a := Al_s al hr64 (show fst p r ≤ r' by omega) (by omega)
    have : i ≠ r' := fun z => h1 (by rw [z, a.2.1]; exact hbf.1)
    omega
