

-- needs P<=45 82.th
theorem jn_0 (p : Nat → Nat → Nat) (a i : Nat) : jn1 p a 0 i = if a - a % (2 * p 0 a) ≤ i ∧ i < a - a % (2 * p 0 a) + 2 * p 0 a then 2 * p 0 a else p 0 i := by
  unfold jn1
  rw [sc_io, if_neg (by omega), mkk_io]
  split
  · rw [if_pos rfl]
  · rfl
theorem jn_n {p : Nat → Nat → Nat} {a g i : Nat} (hg : 2 ≤ g) (h : ¬ (g = 10 ∧ i = 4)) : jn1 p a g i = p g i := by
  unfold jn1
  rw [sc_io, if_neg h, gv_n _ hg]
theorem jn_4 (p : Nat → Nat → Nat) (a : Nat) : jn1 p a 10 4 = p 10 4 + 1 := by
  unfold jn1
  rw [sc_io, if_pos ⟨rfl, rfl⟩]
/-- what a join needs -/
theorem jn_pre {p : Nat → Nat → Nat} (hp : Al p) {a : Nat} (ha : a < 64) (h1 : p 1 a = 1) (hj : jnb p a = true) : Pw (2 * p 0 a) ∧ tw a (p 0 a) < 64 ∧ fst p (tw a (p 0 a)) = tw a (p 0 a) ∧ (∀ i, (a - a % (2 * p 0 a) ≤ i ∧ i < a - a % (2 * p 0 a) + 2 * p 0 a) ↔ ((fst p a ≤ i ∧ i < fst p a + p 0 a) ∨ (tw a (p 0 a) ≤ i ∧ i < tw a (p 0 a) + p 0 a))) ∧ (∀ i, a - a % (2 * p 0 a) ≤ i → i < a - a % (2 * p 0 a) + 2 * p 0 a → p 0 i = p 0 a ∧ p 1 i = 1 ∧ i < 64) := by
  rw [jnb_iff] at hj
  have ff := Al_f hp ha
  have hb := tw_blk (hp a ha).1 hj.1 ha
  have hl := pow_le (hp a ha).1
  have ht : tw a (p 0 a) < 64 := by omega
  have hft : fst p (tw a (p 0 a)) = tw a (p 0 a) := by
    unfold fst
    rw [hj.2.1, hb.1]
    rfl
  have hi : ∀ i, (a - a % (2 * p 0 a) ≤ i ∧ i < a - a % (2 * p 0 a) + 2 * p 0 a) ↔ ((fst p a ≤ i ∧ i < fst p a + p 0 a) ∨ (tw a (p 0 a) ≤ i ∧ i < tw a (p 0 a) + p 0 a)) := fun i => jn_blk (hp a ha).1 hj.1 ha
  refine ⟨Pw_dbl (hp a ha).1 hj.1, ht, hft, hi, fun i i1 i2 => ?_⟩
  rcases (hi i).mp ⟨i1, i2⟩ with z | z
  · have as := Al_s hp ha z.1 z.2
    exact ⟨as.1, by rw [as.2.1, h1], as.2.2.2⟩
  · have as := Al_s hp ht (show fst p (tw a (p 0 a)) ≤ i by omega) (by rw [hft, hj.2.1]; exact z.2)
    exact ⟨by rw [as.1, hj.2.1], by rw [as.2.1, hj.2.2], as.2.2.2⟩
theorem jn_1 {p : Nat → Nat → Nat} (hp : Al p) {a : Nat} (ha : a < 64) (h1 : p 1 a = 1) (hj : jnb p a = true) (i : Nat) : jn1 p a 1 i = p 1 i := by
  have pre := jn_pre hp ha h1 hj
  unfold jn1
  rw [sc_io, if_neg (by omega), gv_1]
  split
  · rename_i hi
    exact (pre.2.2.2.2 i hi.1 hi.2).2.1.symm
  · rfl
theorem jn_fst {p : Nat → Nat → Nat} (hp : Al p) {a : Nat} (ha : a < 64) (h1 : p 1 a = 1) (hj : jnb p a = true) (r : Nat) : fst (jn1 p a) r = if a - a % (2 * p 0 a) ≤ r ∧ r < a - a % (2 * p 0 a) + 2 * p 0 a then a - a % (2 * p 0 a) else fst p r := by
  have pre := jn_pre hp ha h1 hj
  unfold fst
  rw [jn_0]
  by_cases c : a - a % (2 * p 0 a) ≤ r ∧ r < a - a % (2 * p 0 a) + 2 * p 0 a
  · rw [if_pos c, if_pos c]
    exact blk_in pre.1 (blk_of (i := a) pre.1).1 c.1 c.2
  · rw [if_neg c, if_neg c]
/-- outside both suites: the whole suite is outside -/
theorem jn_out {p : Nat → Nat → Nat} (hp : Al p) {a : Nat} (ha : a < 64) (h1 : p 1 a = 1) (hj : jnb p a = true) {r i : Nat} (hr : r < 64) (ho : ¬ (a - a % (2 * p 0 a) ≤ r ∧ r < a - a % (2 * p 0 a) + 2 * p 0 a)) (i1 : fst p r ≤ i) (i2 : i < fst p r + p 0 r) : ¬ (a - a % (2 * p 0 a) ≤ i ∧ i < a - a % (2 * p 0 a) + 2 * p 0 a) := by
  have pre := jn_pre hp ha h1 hj
  have hjj := jnb_iff.mp hj
  rw [pre.2.2.2.1] at ho ⊢
  have o1 := Al_o hp hr ha (fun z => ho (Or.inl z)) i1 i2
  have o2 := Al_o hp hr pre.2.1 (by rw [pre.2.2.1, hjj.2.1]; exact fun z => ho (Or.inr z)) i1 i2
  rw [pre.2.2.1, hjj.2.1] at o2
  rintro (z | z)
  · exact o1 z
  · exact o2 z
theorem jn_Al {p : Nat → Nat → Nat} (hp : Al p) {a : Nat} (ha : a < 64) (h1 : p 1 a = 1) (hj : jnb p a = true) : Al (jn1 p a) := by
  have pre := jn_pre hp ha h1 hj
  intro r hr
  have e := jn_fst hp ha h1 hj r
  unfold fst at e
  by_cases c : a - a % (2 * p 0 a) ≤ r ∧ r < a - a % (2 * p 0 a) + 2 * p 0 a
  · rw [if_pos c] at e
    have e0 : jn1 p a 0 r = 2 * p 0 a := by rw [jn_0, if_pos c]
    rw [e0] at e ⊢
    refine ⟨pre.1, fun i i1 i2 => ?_⟩
    rw [e] at i1 i2
    rw [jn_0, if_pos ⟨i1, i2⟩, jn_1 hp ha h1 hj, jn_1 hp ha h1 hj, (pre.2.2.2.2 i i1 i2).2.1, (pre.2.2.2.2 r c.1 c.2).2.1]
    exact ⟨rfl, rfl⟩
  · have e0 : jn1 p a 0 r = p 0 r := by rw [jn_0, if_neg c]
    rw [e0]
    refine ⟨(hp r hr).1, fun i i1 i2 => ?_⟩
    rw [jn_0, if_neg (jn_out hp ha h1 hj hr c i1 i2), jn_1 hp ha h1 hj, jn_1 hp ha h1 hj]
    exact (hp r hr).2 i i1 i2
theorem jn_NfX {p : Nat → Nat → Nat} (hp : Al p) {a : Nat} (hn : NfX p a) (ha : a < 64) (h1 : p 1 a = 1) (hj : jnb p a = true) : NfX (jn1 p a) a := by
  have pre := jn_pre hp ha h1 hj
  have hda := blk_of (i := a) pre.1
  have hfa := jn_fst hp ha h1 hj a
  rw [if_pos ⟨hda.2.1, hda.2.2⟩] at hfa
  intro r hr hz hjr
  rw [jn_1 hp ha h1 hj] at hz
  rw [jnb_iff, jn_1 hp ha h1 hj] at hjr
  rw [hfa, jn_fst hp ha h1 hj]
  by_cases c : a - a % (2 * p 0 a) ≤ r ∧ r < a - a % (2 * p 0 a) + 2 * p 0 a
  · rw [if_pos c]
    exact Or.inl rfl
  · rw [if_neg c]
    have e0 : jn1 p a 0 r = p 0 r := by rw [jn_0, if_neg c]
    rw [e0] at hjr ⊢
    refine Or.inr ?_
    have hb := tw_blk (hp r hr).1 hjr.1 hr
    by_cases b : a - a % (2 * p 0 a) ≤ tw r (p 0 r) ∧ tw r (p 0 r) < a - a % (2 * p 0 a) + 2 * p 0 a
    · rw [jn_0, if_pos b] at hjr
      have hb1 := hb.1
      rw [← hjr.2.1] at hb1 b ⊢
      have := blk_in pre.1 hda.1 b.1 b.2
      omega
    · exfalso
      rw [jn_0, if_neg b] at hjr
      rcases hn r hr hz (jnb_iff.mpr hjr) with z | z
      · apply c
        rw [pre.2.2.2.1]
        have ffr := Al_f hp hr
        have ffa := Al_f hp ha
        have as := Al_s hp hr (show fst p r ≤ fst p a by omega) (by have := pow_le (hp r hr).1; omega)
        have : p 0 r = p 0 a := by rw [← ffa.2.2.2.2.2.1, as.1]
        omega
      · apply b
        rw [pre.2.2.2.1, z]
        have := pow_le (hp a ha).1
        omega
theorem jn_RS {p : Nat → Nat → Nat} {m : Nat → Nat} (hp : Al p) (hr : RS p m) {a : Nat} (ha : a < 64) (h1 : p 1 a = 1) (hj : jnb p a = true) : RS (jn1 p a) (mj1 m (min (fst p a) (tw a (p 0 a))) (max (fst p a) (tw a (p 0 a)))) ∧ min (fst p a) (tw a (p 0 a)) = a - a % (2 * p 0 a) := by
  obtain ⟨a1, a2, a3, a4, a5⟩ := hr
  have pre := jn_pre hp ha h1 hj
  have hjj := jnb_iff.mp hj
  have ff := Al_f hp ha
  have hb := tw_blk (hp a ha).1 hjj.1 ha
  have hmin := (tw_le ha (hp a ha).1 hjj.1).2.2.1
  have hl := pow_le (hp a ha).1
  rw [show a - a % p 0 a = fst p a from rfl] at hmin
  refine ⟨?_, hmin⟩
  have hdb := blk_of (i := a) pre.1
  have hlo : ∀ r, r = fst p a ∨ r = tw a (p 0 a) → r < 64 ∧ r % p 0 r = 0 ∧ p 0 r = p 0 a ∧ p 1 r = 1 := by
    intro r h
    rcases h with h | h
    · rw [h, ff.2.2.2.2.2.1, ff.2.2.2.2.2.2.1]
      exact ⟨ff.2.2.2.2.1, ff.1, rfl, h1⟩
    · rw [h, hjj.2.1]
      exact ⟨pre.2.1, hb.1, rfl, hjj.2.2⟩
  have hL : min (fst p a) (tw a (p 0 a)) = fst p a ∨ min (fst p a) (tw a (p 0 a)) = tw a (p 0 a) := by omega
  have hU : max (fst p a) (tw a (p 0 a)) = fst p a ∨ max (fst p a) (tw a (p 0 a)) = tw a (p 0 a) := by omega
  have hne := hb.2.2.2.1
  rw [show a - a % p 0 a = fst p a from rfl] at hne
  have hLU : min (fst p a) (tw a (p 0 a)) < max (fst p a) (tw a (p 0 a)) := by omega
  have pL := hlo _ hL
  have pU := hlo _ hU
  have hin : ∀ r, (a - a % (2 * p 0 a) ≤ r ∧ r < a - a % (2 * p 0 a) + 2 * p 0 a) → r % p 0 r = 0 → r = min (fst p a) (tw a (p 0 a)) ∨ r = max (fst p a) (tw a (p 0 a)) := by
    intro r hrin hz
    have e := (pre.2.2.2.2 r hrin.1 hrin.2)
    rw [pre.2.2.2.1] at hrin
    have hfr : fst p r = r := by unfold fst; rw [hz]; rfl
    rcases hrin with z | z
    · have as := Al_s hp ha z.1 z.2
      omega
    · have as := Al_s hp pre.2.1 (show fst p (tw a (p 0 a)) ≤ r by omega) (by rw [pre.2.2.1, hjj.2.1]; exact z.2)
      rw [pre.2.2.1] at as
      omega
  have hUin : a - a % (2 * p 0 a) ≤ max (fst p a) (tw a (p 0 a)) ∧ max (fst p a) (tw a (p 0 a)) < a - a % (2 * p 0 a) + 2 * p 0 a := by
    rw [pre.2.2.2.1]
    rcases hU with z | z
    · rw [z]; exact Or.inl ⟨by omega, by omega⟩
    · rw [z]; exact Or.inr ⟨by omega, by omega⟩
  generalize min (fst p a) (tw a (p 0 a)) = lo at *
  generalize max (fst p a) (tw a (p 0 a)) = up at *
  generalize hLL : a - a % (2 * p 0 a) = L at *
  have hmlo : m (10 + lo) = p 0 a := by rw [a1 lo pL.1, if_pos pL.2.1, pL.2.2.1]
  have c1 : ∀ r, r < 64 → mj1 m lo up (10 + r) = if r = up then 0 else if r = lo then 2 * p 0 a else m (10 + r) := by
    intro r hr
    unfold mj1 mj0 w1
    rw [if_neg (by omega)]
    by_cases e1 : r = up
    · rw [if_pos (by omega), if_pos e1]
    · rw [if_neg (by omega), if_neg e1]
      by_cases e2 : r = lo
      · rw [if_pos (by omega), if_pos e2, hmlo]
      · rw [if_neg (by omega), if_neg e2]
  have c2 : ∀ r, r < 64 → mj1 m lo up (74 + r) = m (74 + r) := by
    intro r hr
    unfold mj1 mj0
    rw [w1_ne (by omega), w1_ne (by omega), w1_ne (by omega)]
  refine ⟨fun r hr => ?_, fun r hr hz => ?_, fun r hr => ?_, ?_, ?_⟩
  · rw [c1 r hr, jn_0, hLL]
    by_cases c : L ≤ r ∧ r < L + 2 * p 0 a
    · rw [if_pos c]
      have hfr : r - r % (2 * p 0 a) = L := by
        have := blk_in pre.1 (by rw [← hLL]; exact (blk_of (i := a) pre.1).1) c.1 c.2
        exact this
      by_cases e1 : r = up
      · rw [if_pos e1, if_neg (by omega)]
      · rw [if_neg e1]
        by_cases e2 : r = lo
        · rw [if_pos e2, if_pos (by have := Nat.mod_le r (2 * p 0 a); omega)]
        · rw [if_neg e2, a1 r hr]
          have hnz : r % p 0 r ≠ 0 := fun y => by
            rcases hin r c y with y | y
            · exact e2 y
            · exact e1 y
          rw [if_neg hnz, if_neg (by have := Nat.mod_le r (2 * p 0 a); omega)]
    · rw [if_neg c, if_neg (by omega), if_neg (by omega)]
      exact a1 r hr
  · rw [c2 r hr, jn_1 hp ha h1 hj]
    rw [jn_0, hLL] at hz
    by_cases c : L ≤ r ∧ r < L + 2 * p 0 a
    · rw [if_pos c] at hz
      have hfr : r - r % (2 * p 0 a) = L := by
        have := blk_in pre.1 (by rw [← hLL]; exact (blk_of (i := a) pre.1).1) c.1 c.2
        exact this
      have : r = lo := by omega
      rw [this]
      exact a2 lo pL.1 pL.2.1
    · rw [if_neg c] at hz
      exact a2 r hr hz
  · rw [c2 r hr]
    exact a3 r hr
  · rw [jn_n (by omega) (by omega)]
    unfold mj1 mj0
    rw [w1_ne (by omega), w1_ne (by omega), w1_ne (by omega)]
    exact a4
  · rw [jn_4]
    unfold mj1
    rw [w1_at]
    have : mj0 m lo up 5 = m 5 := by
      unfold mj0
      rw [w1_ne (by omega), w1_ne (by omega)]
    rw [this, a5]
/-- both see the same join -/
theorem jn_b {p : Nat → Nat → Nat} {m : Nat → Nat} (hp : Al p) (hr : RS p m) {a : Nat} (ha : a < 64) (h1 : p 1 a = 1) : mjb m (fst p a) = jnb p a ∧ (p 0 a ≠ 64 → mtw m (fst p a) = tw a (p 0 a)) := by
  have ff := Al_f hp ha
  have hl := pow_le (hp a ha).1
  have hm : m (10 + fst p a) = p 0 a := by
    rw [hr.1 _ ff.2.2.2.2.1, ff.2.2.2.2.2.1, if_pos ff.1]
  by_cases h64 : p 0 a = 64
  · refine ⟨?_, fun z => absurd h64 z⟩
    unfold mjb jnb
    rw [hm, h64]
    rfl
  · have hb := tw_blk (hp a ha).1 h64 ha
    have ht : mtw m (fst p a) = tw a (p 0 a) := by
      unfold mtw
      rw [hm]
      exact hb.2.2.2.2 (fst p a) (by rw [ff.1]; exact Nat.sub_zero _)
    refine ⟨?_, fun _ => ht⟩
    have htl : tw a (p 0 a) < 64 := by omega
    have e1 := hr.1 _ htl
    have e2 := hr.2.1 _ htl
    have hpt := pow_le (hp _ htl).1
    rw [Bool.eq_iff_iff, jnb_iff]
    unfold mjb mfr
    rw [ht, hm]
    simp only [Bool.and_eq_true, decide_eq_true_eq, ne_eq]
    constructor
    · rintro ⟨x1, ⟨x2, x3⟩, x4⟩
      have hz : tw a (p 0 a) % p 0 (tw a (p 0 a)) = 0 := by
        rcases Nat.eq_zero_or_pos (tw a (p 0 a) % p 0 (tw a (p 0 a))) with y | y
        · exact y
        · rw [if_neg (by omega)] at e1
          omega
      rw [if_pos hz] at e1
      have e2 := e2 hz
      refine ⟨x1, by omega, ?_⟩
      rw [x3] at e2
      unfold kd at e2
      split at e2
      · omega
      · split at e2
        · assumption
        · omega
    · rintro ⟨x1, x2, x3⟩
      have hz : tw a (p 0 a) % p 0 (tw a (p 0 a)) = 0 := by rw [x2]; exact hb.1
      rw [if_pos hz] at e1
      have e2 := e2 hz
      rw [x3] at e2
      refine ⟨x1, ⟨by omega, e2⟩, by omega⟩
theorem rel_all {a : Nat} (ha : a < 64) : ∀ (n k : Nat) (p : Nat → Nat → Nat) (m : Nat → Nat), n ≤ k → Al p → p 1 a = 1 → 64 ≤ p 0 a * 2 ^ n → RS p m → NfX p a →
    Al (rel a n p) ∧ RS (rel a n p) (mrl k m (fst p a)) ∧ Nf (rel a n p) ∧ (∀ i, rel a n p 1 i = p 1 i) ∧ (∀ g i, 2 ≤ g → ¬ (g = 10 ∧ i = 4) → rel a n p g i = p g i) ∧ (∀ i, i ≠ 5 → (i < 10 ∨ 74 ≤ i) → mrl k m (fst p a) i = m i) := by
  have stop : ∀ (p : Nat → Nat → Nat) (m : Nat → Nat) (k : Nat), Al p → RS p m → NfX p a → p 1 a = 1 → jnb p a = false → mrl k m (fst p a) = m ∧ Nf p := by
    intro p m k hp hr hn h1 hj
    constructor
    · cases k with
      | zero => rfl
      | succ k => exact if_neg (by rw [(jn_b hp hr ha h1).1, hj]; exact Bool.false_ne_true)
    · intro r hr2 hz
      cases hjr : jnb p r with
      | false => rfl
      | true =>
        exfalso
        have hjj := jnb_iff.mp hjr
        have hb := tw_blk (hp r hr2).1 hjj.1 hr2
        have ffa := Al_f hp ha
        have ffr := Al_f hp hr2
        have hla := pow_le (hp a ha).1
        have hlr := pow_le (hp r hr2).1
        have : jnb p a = true := by
          rcases hn r hr2 hz hjr with z | z
          · have as := Al_s hp hr2 (show fst p r ≤ fst p a by omega) (by omega)
            have hs : p 0 a = p 0 r := by rw [← ffa.2.2.2.2.2.1, as.1]
            rw [jnb_iff, hs, hb.2.2.2.2 a (by rw [fst_eq hs, ← z]; rfl)]
            exact hjj
          · have hs : p 0 a = p 0 r := by rw [← ffa.2.2.2.2.2.1, ← z, hjj.2.1]
            have hta : tw a (p 0 r) = fst p r := by
              have hbt := tw_blk (hp r hr2).1 hjj.1 (show tw r (p 0 r) < 64 by omega)
              rw [hbt.2.2.2.2 a (by rw [fst_eq hs, ← z, hb.1]; rfl)]
              exact hb.2.2.1
            rw [jnb_iff, hs, hta, ffr.2.2.2.2.2.1, ffr.2.2.2.2.2.2.1]
            exact ⟨hjj.1, rfl, hz⟩
        rw [hj] at this
        cases this
  intro n
  induction n with
  | zero =>
    intro k p m hk hp h1 h64 hr hn
    have hl := pow_le (hp a ha).1
    have hj : jnb p a = false := by
      cases h : jnb p a with
      | false => rfl
      | true =>
        have := (jnb_iff.mp h).1
        omega
    have st := stop p m k hp hr hn h1 hj
    rw [st.1]
    exact ⟨hp, hr, st.2, fun _ => rfl, fun _ _ _ _ => rfl, fun _ _ _ => rfl⟩
  | succ n ih =>
    intro k p m hk hp h1 h64 hr hn
    cases hj : jnb p a with
    | false =>
      have st := stop p m k hp hr hn h1 hj
      rw [st.1, show rel a (n + 1) p = p from if_neg (by rw [hj]; exact Bool.false_ne_true)]
      exact ⟨hp, hr, st.2, fun _ => rfl, fun _ _ _ _ => rfl, fun _ _ _ => rfl⟩
    | true =>
      cases k with
      | zero => omega
      | succ k =>
        have hjj := jnb_iff.mp hj
        have jb := jn_b hp hr ha h1
        have er : rel a (n + 1) p = rel a n (jn1 p a) := if_pos hj
        have em : mrl (k + 1) m (fst p a) = mrl k (mj1 m (min (fst p a) (mtw m (fst p a))) (max (fst p a) (mtw m (fst p a)))) (min (fst p a) (mtw m (fst p a))) := if_pos (by rw [jb.1, hj])
        rw [jb.2 hjj.1] at em
        have rs := jn_RS hp hr ha h1 hj
        have hpre := jn_pre hp ha h1 hj
        have hda := blk_of (i := a) hpre.1
        have hfa := jn_fst hp ha h1 hj a
        rw [if_pos ⟨hda.2.1, hda.2.2⟩] at hfa
        have h0 : jn1 p a 0 a = 2 * p 0 a := by rw [jn_0, if_pos ⟨hda.2.1, hda.2.2⟩]
        have key := ih k (jn1 p a) (mj1 m (min (fst p a) (tw a (p 0 a))) (max (fst p a) (tw a (p 0 a)))) (by omega) (jn_Al hp ha h1 hj) (by rw [jn_1 hp ha h1 hj]; exact h1) (by
          rw [h0]
          rw [Nat.pow_succ, Nat.mul_comm (2 ^ n) 2, ← Nat.mul_assoc] at h64
          rw [Nat.mul_comm 2]
          exact h64) rs.1 (jn_NfX hp hn ha h1 hj)
        rw [hfa, ← rs.2, ← em] at key
        rw [er]
        obtain ⟨k1, k2, k3, k4, k5, k6⟩ := key
        refine ⟨k1, k2, k3, fun i => by rw [k4, jn_1 hp ha h1 hj], fun g i hg hgi => by rw [k5 g i hg hgi, jn_n hg hgi], fun i hi hi2 => ?_⟩
        have hft := (Al_f hp ha).2.2.2.2.1
        have htt := hpre.2.1
        rw [k6 i hi hi2]
        unfold mj1 mj0
        rw [w1_ne hi, w1_ne (by omega), w1_ne (by omega)]
