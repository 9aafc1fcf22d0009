

-- needs P<=45 81.th
theorem fst_eq {p : Nat → Nat → Nat} {a r : Nat} (h : p 0 r = a) : r - r % a = fst p r := by unfold fst; rw [h]
theorem gv_NfX {p : Nat → Nat → Nat} (hp : Al p) (hn : Nf p) {f : Nat} (hf : f < 64) (h0 : f % p 0 f = 0) : NfX (mkk p f (p 0 f) (p 0 f) 1) f := by
  have ff : fst p f = f := by unfold fst; rw [h0]; rfl
  have qf : fst (mkk p f (p 0 f) (p 0 f) 1) f = f := by unfold fst; rw [gv_0 hp hf h0, h0]; rfl
  intro r hr h1 hj
  rw [jnb_iff, gv_0 hp hf h0, gv_0 hp hf h0, gv_1] at hj
  rw [gv_1] at h1
  rw [qf, gv_0 hp hf h0]
  have hb := tw_blk (hp r hr).1 hj.1 hr
  by_cases a : f ≤ r ∧ r < f + p 0 f
  · refine Or.inl ?_
    show r - r % mkk p f (p 0 f) (p 0 f) 1 0 r = f
    rw [gv_0 hp hf h0]
    have as := Al_s hp hf (show fst p f ≤ r by omega) (by omega)
    rw [show r - r % p 0 r = fst p r from rfl, as.2.2.1, ff]
  · refine Or.inr ?_
    rw [if_neg a] at h1
    by_cases b : f ≤ tw r (p 0 r) ∧ tw r (p 0 r) < f + p 0 f
    · have as := Al_s hp hf (show fst p f ≤ tw r (p 0 r) by omega) (by omega)
      have : fst p (tw r (p 0 r)) = tw r (p 0 r) := by
        unfold fst
        rw [hj.2.1, hb.1]
        rfl
      omega
    · rw [if_neg b] at hj
      have := hn r hr h1
      have hjj : jnb p r = true := jnb_iff.mpr ⟨hj.1, hj.2.1, hj.2.2⟩
      rw [hjj] at this
      cases this
theorem gv_Nf {p : Nat → Nat → Nat} (hp : Al p) {f h : Nat} (hn : NfX p f) (hf : f < 64) (h0 : f % p 0 f = 0) (hh : h ≠ 1) : Nf (mkk p f (p 0 f) (p 0 f) h) := by
  have ff : fst p f = f := by unfold fst; rw [h0]; rfl
  intro r hr h1
  rw [gv_1] at h1
  by_cases a : f ≤ r ∧ r < f + p 0 f
  · rw [if_pos a] at h1
    exact absurd h1 hh
  · rw [if_neg a] at h1
    cases hj : jnb (mkk p f (p 0 f) (p 0 f) h) r with
    | false => rfl
    | true =>
      exfalso
      rw [jnb_iff, gv_0 hp hf h0, gv_0 hp hf h0, gv_1] at hj
      by_cases b : f ≤ tw r (p 0 r) ∧ tw r (p 0 r) < f + p 0 f
      · rw [if_pos b] at hj
        exact hh hj.2.2
      · rw [if_neg b] at hj
        have hr' := Al_f hp hr
        have := pow_le (hp f hf).1
        rcases hn r hr h1 (jnb_iff.mpr ⟨hj.1, hj.2.1, hj.2.2⟩) with z | z
        · have as := Al_s hp hr (show fst p r ≤ f by omega) (by omega)
          rw [as.1] at a
          omega
        · rw [ff] at z
          omega
theorem hv_NfX {p : Nat → Nat → Nat} (hp : Al p) {f : Nat} (hn : NfX p f) (hf : f < 64) (h1 : p 0 f ≠ 1) (hF : p 1 f = 1) : NfX (hlv p f) f := by
  have ff := Al_f hp hf
  have hb := half_blk (hp f hf).1 h1 ff.1 ff.2.1 ff.2.2.1
  have th := tw_half (hp f hf).1 h1 ff.1
  have hqf := (hv_fst hp hf h1 (r := f)).1 ⟨ff.2.1, ff.2.2.1⟩
  intro r hr hz hj
  rw [hv_1 hp hf h1 hF] at hz
  rw [jnb_iff, hv_1 hp hf h1 hF] at hj
  have e := hv_fst hp hf h1 (r := r)
  rw [hqf]
  by_cases a : fst p f ≤ r ∧ r < fst p f + p 0 f
  · have e0 : hlv p f 0 r = p 0 f / 2 := by rw [hv_0 hp hf h1, if_pos a]
    have er := e.1 a
    rw [er]
    rw [e0] at hj ⊢
    have hbt := tw_blk hb.1 hj.1 hr
    have hrr : r - r % (p 0 f / 2) = if r < fst p f + p 0 f / 2 then fst p f else fst p f + p 0 f / 2 := by
      rw [← er]
      exact fst_eq e0
    by_cases c : r < fst p f + p 0 f / 2
    · rw [if_pos c] at hrr ⊢
      have ht : tw r (p 0 f / 2) = fst p f + p 0 f / 2 := by
        rw [← th.1]
        have h2 := (tw_blk hb.1 hj.1 ff.2.2.2.2.1).2.2.2.2 r (by rw [hrr, hb.2.2.1]; rfl)
        exact h2
      split
      · exact Or.inl rfl
      · exact Or.inr ht
    · rw [if_neg c] at hrr ⊢
      have ht : tw r (p 0 f / 2) = fst p f := by
        have h2 := (tw_blk hb.1 hj.1 (show fst p f + p 0 f / 2 < 64 by omega)).2.2.2.2 r (by rw [hrr, hb.2.2.2.1]; rfl)
        rw [h2, th.2]
      split
      · exact Or.inr ht
      · exact Or.inl rfl
  · exfalso
    have e0 : hlv p f 0 r = p 0 r := by rw [hv_0 hp hf h1, if_neg a]
    rw [e0] at hj
    have hbt := tw_blk (hp r hr).1 hj.1 hr
    by_cases b : fst p f ≤ tw r (p 0 r) ∧ tw r (p 0 r) < fst p f + p 0 f
    · rw [hv_0 hp hf h1, if_pos b] at hj
      have hh2 := half_blk (hp f hf).1 h1 ff.1 b.1 b.2
      have hrr := hbt.2.2.1
      rw [← hj.2.1] at hbt hrr
      have hl := pow_le hb.1
      have t0 : tw r (p 0 f / 2) - tw r (p 0 f / 2) % (p 0 f / 2) = tw r (p 0 f / 2) := by rw [hbt.1]; rfl
      rw [← hj.2.1] at hh2 b
      have hlr := blk_of (i := r) (hp r hr).1
      rw [← hj.2.1] at hlr
      rcases Nat.lt_or_ge (tw r (p 0 f / 2)) (fst p f + p 0 f / 2) with z | z
      · have z1 := hh2.2.2.2.2.1.mpr z
        have z2 : tw r (p 0 f / 2) = fst p f := by omega
        rw [z2, th.1] at hrr
        omega
      · have z1 := hh2.2.2.2.2.2.mpr z
        have z2 : tw r (p 0 f / 2) = fst p f + p 0 f / 2 := by omega
        rw [z2, th.2] at hrr
        omega
    · rw [hv_0 hp hf h1, if_neg b] at hj
      rcases hn r hr hz (jnb_iff.mpr hj) with z | z
      · have hr' := Al_f hp hr
        have as := Al_s hp hf (show fst p f ≤ fst p r by omega) (by omega)
        have : p 0 r = p 0 f := by rw [← hr'.2.2.2.2.2.1, as.1]
        omega
      · have := pow_le (hp f hf).1
        omega
/-- a suite of room f is halved until its size is w -/
theorem tk_all {w : Nat} (hw : Pw w) {f : Nat} (hf : f < 64) : ∀ (n k : Nat) (p : Nat → Nat → Nat) (m : Nat → Nat) (fm : Nat), n ≤ k → Al p → p 1 f = 1 → fst p f = fm → w ≤ p 0 f → p 0 f ≤ w * 2 ^ n → (p 9 0 = 1 → f = fm + p 0 f - w) → (p 9 0 ≠ 1 → f = fm) → RS p m → NfX p f → m 0 = p 9 0 →
    Al (tkN f w n p) ∧ tkN f w n p 0 f = w ∧ (tkm w k m fm).2 = f ∧ f % w = 0 ∧ RS (tkN f w n p) (tkm w k m fm).1 ∧ NfX (tkN f w n p) f ∧ (∀ i, tkN f w n p 1 i = p 1 i) ∧ (∀ g i, 2 ≤ g → ¬ (g = 10 ∧ i = 3) → tkN f w n p g i = p g i) ∧ (∀ i, i ≠ 4 → (∀ r, fm ≤ r → r < fm + p 0 f → i ≠ 10 + r ∧ i ≠ 74 + r ∧ i ≠ 138 + r) → (tkm w k m fm).1 i = m i) ∧ (∀ i, (i < fm ∨ fm + p 0 f ≤ i) → tkN f w n p 0 i = p 0 i) := by
  have fin : ∀ (p : Nat → Nat → Nat) (m : Nat → Nat) (fm : Nat), Al p → fst p f = fm → p 0 f = w → (p 9 0 = 1 → f = fm + p 0 f - w) → (p 9 0 ≠ 1 → f = fm) → fm = f ∧ f % w = 0 := by
    intro p m fm hp h2 h3 h4 h5
    have ff := Al_f hp hf
    have hfm : fm = f := by
      by_cases c : p 9 0 = 1
      · have := h4 c
        omega
      · exact (h5 c).symm
    refine ⟨hfm, ?_⟩
    rw [h2, hfm, h3] at ff
    exact ff.1
  have mst : ∀ (p : Nat → Nat → Nat) (m : Nat → Nat) (fm : Nat) (k : Nat), Al p → RS p m → fst p f = fm → p 0 f = w → tkm w k m fm = (m, fm) := by
    intro p m fm k hp hr h2 h3
    cases k with
    | zero => rfl
    | succ k =>
      have ff := Al_f hp hf
      have hm : m (10 + fm) = p 0 f := by
        rw [hr.1 fm (by omega), ← h2, ff.2.2.2.2.2.1, if_pos ff.1]
      exact if_neg (by rw [hm]; omega)
  intro n
  induction n with
  | zero =>
    intro k p m fm hk hp h1 h2 h3 h4 h5 h6 hr hn h0
    have hw0 : p 0 f = w := by omega
    have hfin := fin p m fm hp h2 hw0 h5 h6
    rw [mst p m fm k hp hr h2 hw0]
    exact ⟨hp, hw0, hfin.1, hfin.2, hr, hn, fun _ => rfl, fun _ _ _ _ => rfl, fun _ _ _ => rfl, fun _ _ => rfl⟩
  | succ n ih =>
    intro k p m fm hk hp h1 h2 h3 h4 h5 h6 hr hn h0
    by_cases hlt : w < p 0 f
    · cases k with
      | zero => omega
      | succ k =>
        have ff := Al_f hp hf
        have hw1 := pow_le hw
        have hne : p 0 f ≠ 1 := by omega
        have hb := half_blk (hp f hf).1 hne ff.1 ff.2.1 ff.2.2.1
        have hm : m (10 + fm) = p 0 f := by
          rw [hr.1 fm (by omega), ← h2, ff.2.2.2.2.2.1, if_pos ff.1]
        have et : tkN f w (n + 1) p = tkN f w n (hlv p f) := if_pos hlt
        have em : tkm w (k + 1) m fm = tkm w k (hvm m fm (p 0 f / 2)) (if m 0 = 1 then fm + p 0 f / 2 else fm) := by
          show (if w < m (10 + fm) then _ else _) = _
          rw [if_pos (by rw [hm]; exact hlt), hm]
        have hq := (hv_fst hp hf hne (r := f)).1 ⟨ff.2.1, ff.2.2.1⟩
        have hq0 : hlv p f 0 f = p 0 f / 2 := by rw [hv_0 hp hf hne, if_pos ⟨ff.2.1, ff.2.2.1⟩]
        have hwh : w ≤ p 0 f / 2 := by
          have a := Pw_cases hw
          have b := Pw_cases (hp f hf).1
          simp only [List.mem_cons, List.not_mem_nil, or_false] at a b
          omega
        have h9 : hlv p f 9 0 = p 9 0 := hv_n (by omega) (by omega)
        have hfm2 : fst (hlv p f) f = if m 0 = 1 then fm + p 0 f / 2 else fm := by
          rw [hq, h2, h0]
          by_cases c : p 9 0 = 1
          · have := h5 c
            rw [if_pos c, if_neg (by omega)]
          · have := h6 c
            rw [if_neg c, if_pos (by omega)]
        have hpw : p 0 f / 2 ≤ w * 2 ^ n := by
          rw [Nat.pow_succ, ← Nat.mul_assoc] at h4
          omega
        have hh0 : hvm m fm (p 0 f / 2) 0 = m 0 := hv0_0 m fm _
        have hrs := hv_RS hp hr hf hne h1
        rw [h2] at hrs
        have key := ih k (hlv p f) (hvm m fm (p 0 f / 2)) (if m 0 = 1 then fm + p 0 f / 2 else fm) (by omega) (hv_Al hp hf hne h1) (by rw [hv_1 hp hf hne h1]; exact h1) hfm2 (by rw [hq0]; exact hwh) (by rw [hq0]; exact hpw) (by
          rw [h9, hq0]
          intro c
          have := h5 c
          rw [h0, if_pos c]
          omega) (by
          rw [h9]
          intro c
          have := h6 c
          rw [h0, if_neg c]
          exact this) hrs (hv_NfX hp hn hf hne h1) (by rw [hh0, h9]; exact h0)
        rw [et, em]
        obtain ⟨k1, k2, k3, k4, k5, k6, k7, k8, k9, k10⟩ := key
        rw [hq0] at k9 k10
        refine ⟨k1, k2, k3, k4, k5, k6, fun i => by rw [k7, hv_1 hp hf hne h1], fun g i hg hgi => by rw [k8 g i hg hgi, hv_n hg hgi], fun i hi hout => ?_, fun i hi => ?_⟩
        · have hsub : (if m 0 = 1 then fm + p 0 f / 2 else fm) = fm ∨ (if m 0 = 1 then fm + p 0 f / 2 else fm) = fm + p 0 f / 2 := by
            split
            · exact Or.inr rfl
            · exact Or.inl rfl
          rw [k9 i hi (fun r r1 r2 => hout r (by omega) (by omega))]
          have o1 := hout fm (by omega) (by omega)
          have o2 := hout (fm + p 0 f / 2) (by omega) (by omega)
          unfold hvm hv0
          rw [w1_ne hi, w1_ne (by omega), w1_ne (by omega), w1_ne (by omega), w1_ne (by omega)]
        · have hsub : (if m 0 = 1 then fm + p 0 f / 2 else fm) = fm ∨ (if m 0 = 1 then fm + p 0 f / 2 else fm) = fm + p 0 f / 2 := by
            split
            · exact Or.inr rfl
            · exact Or.inl rfl
          rw [k10 i (by omega), hv_0 hp hf hne, h2, if_neg (by omega)]
    · have hw0 : p 0 f = w := by omega
      have hfin := fin p m fm hp h2 hw0 h5 h6
      rw [mst p m fm k hp hr h2 hw0, show tkN f w (n + 1) p = p from if_neg hlt]
      exact ⟨hp, hw0, hfin.1, hfin.2, hr, hn, fun _ => rfl, fun _ _ _ _ => rfl, fun _ _ _ => rfl, fun _ _ => rfl⟩
