

-- needs P<=45 80.th
theorem RS_w1 {p : Nat → Nat → Nat} {m : Nat → Nat} (h : RS p m) {i v : Nat} (h4 : i ≠ 4) (h5 : i ≠ 5) (hi : i < 10 ∨ 138 ≤ i) : RS p (w1 m i v) := by
  obtain ⟨a1, a2, a3, a4, a5⟩ := h
  refine ⟨fun r hr => ?_, fun r hr hz => ?_, fun r hr => ?_, ?_, ?_⟩
  · rw [w1_ne (by omega)]; exact a1 r hr
  · rw [w1_ne (by omega)]; exact a2 r hr hz
  · rw [w1_ne (by omega)]; exact a3 r hr
  · rw [w1_ne (by omega)]; exact a4
  · rw [w1_ne (by omega)]; exact a5
theorem RS_p {p q : Nat → Nat → Nat} {m : Nat → Nat} (h : RS p m) (h0 : ∀ i, q 0 i = p 0 i) (h1 : ∀ i, q 1 i = p 1 i) (h3 : q 10 3 = p 10 3) (h4 : q 10 4 = p 10 4) : RS q m := by
  obtain ⟨a1, a2, a3, a4, a5⟩ := h
  refine ⟨fun r hr => by rw [h0]; exact a1 r hr, fun r hr hz => by rw [h1]; rw [h0] at hz; exact a2 r hr hz, a3, by rw [h3]; exact a4, by rw [h4]; exact a5⟩
theorem Al_p {p q : Nat → Nat → Nat} (h : Al p) (h0 : ∀ i, q 0 i = p 0 i) (h1 : ∀ i, q 1 i = p 1 i) : Al q := by
  intro r hr
  rw [h0]
  refine ⟨(h r hr).1, fun i a b => ?_⟩
  rw [h0, h1, h1]
  exact (h r hr).2 i a b
theorem Nf_p {p q : Nat → Nat → Nat} (h : Nf p) (h0 : ∀ i, q 0 i = p 0 i) (h1 : ∀ i, q 1 i = p 1 i) : Nf q := by
  intro r hr hz
  rw [h1] at hz
  have := h r hr hz
  unfold jnb at this ⊢
  rw [h0, h0, h1]
  exact this
theorem sc_io (p : Nat → Nat → Nat) (j v g i : Nat) : sc p j v g i = if g = 10 ∧ i = j then v else p g i := rfl
theorem hv_0 {p : Nat → Nat → Nat} (hp : Al p) {f : Nat} (hf : f < 64) (h1 : p 0 f ≠ 1) (i : Nat) : hlv p f 0 i = if fst p f ≤ i ∧ i < fst p f + p 0 f then p 0 f / 2 else p 0 i := by
  have hh := (half_blk (hp f hf).1 h1 (Al_f hp hf).1 (Al_f hp hf).2.1 (Al_f hp hf).2.2.1).2.1
  unfold hlv
  rw [sc_io, if_neg (by omega), mkk_io, mkk_io]
  by_cases a : fst p f ≤ i ∧ i < fst p f + p 0 f
  · rw [if_pos a]
    by_cases b : fst p f + p 0 f / 2 ≤ i ∧ i < fst p f + p 0 f / 2 + p 0 f / 2
    · rw [if_pos b, if_pos rfl]
    · rw [if_neg b, if_pos (by omega), if_pos rfl]
  · rw [if_neg a, if_neg (by omega), if_neg (by omega)]
theorem hv_1 {p : Nat → Nat → Nat} (hp : Al p) {f : Nat} (hf : f < 64) (h1 : p 0 f ≠ 1) (hF : p 1 f = 1) (i : Nat) : hlv p f 1 i = p 1 i := by
  have hh := (half_blk (hp f hf).1 h1 (Al_f hp hf).1 (Al_f hp hf).2.1 (Al_f hp hf).2.2.1).2.1
  unfold hlv
  rw [sc_io, if_neg (by omega), mkk_io, mkk_io]
  by_cases b : fst p f + p 0 f / 2 ≤ i ∧ i < fst p f + p 0 f / 2 + p 0 f / 2
  · rw [if_pos b, if_neg (by omega), if_pos rfl]
    rw [(Al_s hp hf (show fst p f ≤ i by omega) (by omega)).2.1, hF]
  · rw [if_neg b]
    by_cases c : fst p f ≤ i ∧ i < fst p f + p 0 f / 2
    · rw [if_pos c, if_neg (by omega), if_pos rfl]
      rw [(Al_s hp hf (show fst p f ≤ i by omega) (by omega)).2.1, hF]
    · rw [if_neg c]
theorem hv_n {p : Nat → Nat → Nat} {f g i : Nat} (hg : 2 ≤ g) (h : ¬ (g = 10 ∧ i = 3)) : hlv p f g i = p g i := by
  unfold hlv
  rw [sc_io, if_neg h, gv_n _ hg, gv_n _ hg]
theorem hv_3 (p : Nat → Nat → Nat) (f : Nat) : hlv p f 10 3 = p 10 3 + 1 := by
  unfold hlv
  rw [sc_io, if_pos ⟨rfl, rfl⟩]
theorem hv_fst {p : Nat → Nat → Nat} (hp : Al p) {f : Nat} (hf : f < 64) (h1 : p 0 f ≠ 1) {r : Nat} : (fst p f ≤ r ∧ r < fst p f + p 0 f → fst (hlv p f) r = if r < fst p f + p 0 f / 2 then fst p f else fst p f + p 0 f / 2) ∧ (¬ (fst p f ≤ r ∧ r < fst p f + p 0 f) → fst (hlv p f) r = fst p r) := by
  constructor
  · intro a
    have hb := half_blk (hp f hf).1 h1 (Al_f hp hf).1 a.1 a.2
    show r - r % hlv p f 0 r = _
    rw [hv_0 hp hf h1, if_pos a]
    split
    · exact hb.2.2.2.2.1.mpr (by assumption)
    · exact hb.2.2.2.2.2.mpr (by omega)
  · intro a
    show r - r % hlv p f 0 r = _
    rw [hv_0 hp hf h1, if_neg a]
    rfl
theorem hv_Al {p : Nat → Nat → Nat} (hp : Al p) {f : Nat} (hf : f < 64) (h1 : p 0 f ≠ 1) (hF : p 1 f = 1) : Al (hlv p f) := by
  have ff := Al_f hp hf
  intro r hr
  have e := hv_fst hp hf h1 (r := r)
  by_cases a : fst p f ≤ r ∧ r < fst p f + p 0 f
  · have hb := half_blk (hp f hf).1 h1 ff.1 a.1 a.2
    have e0 : hlv p f 0 r = p 0 f / 2 := by rw [hv_0 hp hf h1, if_pos a]
    have e1 := e.1 a
    rw [e0]
    refine ⟨hb.1, fun i i1 i2 => ?_⟩
    have e1' : r - r % (p 0 f / 2) = if r < fst p f + p 0 f / 2 then fst p f else fst p f + p 0 f / 2 := by
      rw [← e1]
      show _ = r - r % hlv p f 0 r
      rw [e0]
    rw [e1'] at i1 i2
    have hin : fst p f ≤ i ∧ i < fst p f + p 0 f := by
      split at i1 <;> omega
    rw [hv_0 hp hf h1, if_pos hin, hv_1 hp hf h1 hF, hv_1 hp hf h1 hF, (Al_s hp hf hin.1 hin.2).2.1, (Al_s hp hf a.1 a.2).2.1]
    exact ⟨rfl, rfl⟩
  · have e0 : hlv p f 0 r = p 0 r := by rw [hv_0 hp hf h1, if_neg a]
    rw [e0]
    refine ⟨(hp r hr).1, fun i i1 i2 => ?_⟩
    have ho := Al_o hp hr hf a i1 i2
    rw [hv_0 hp hf h1, if_neg ho, hv_1 hp hf h1 hF, hv_1 hp hf h1 hF]
    exact (hp r hr).2 i i1 i2
theorem hv_RS {p : Nat → Nat → Nat} {m : Nat → Nat} (hp : Al p) (hr : RS p m) {f : Nat} (hf : f < 64) (h1 : p 0 f ≠ 1) (hF : p 1 f = 1) : RS (hlv p f) (hvm m (fst p f) (p 0 f / 2)) := by
  obtain ⟨a1, a2, a3, a4, a5⟩ := hr
  have ff := Al_f hp hf
  have hb := half_blk (hp f hf).1 h1 ff.1 ff.2.1 ff.2.2.1
  have hh := pow_le hb.1
  generalize hFF : fst p f = F at *
  generalize hH : p 0 f / 2 = H at *
  have c1 : ∀ r, r < 64 → hvm m F H (10 + r) = if r = F + H then H else if r = F then H else m (10 + r) := by
    intro r hr
    unfold hvm hv0 w1
    rw [if_neg (by omega), if_neg (by omega), if_neg (by omega)]
    by_cases e1 : r = F + H
    · rw [if_pos (by omega), if_pos e1]
    · rw [if_neg (by omega), if_neg e1]
      by_cases e2 : r = F
      · rw [if_pos (by omega), if_pos e2]
      · rw [if_neg (by omega), if_neg e2]
  have c2 : ∀ r, r < 64 → hvm m F H (74 + r) = if r = F + H then 0 else m (74 + r) := by
    intro r hr
    unfold hvm hv0 w1
    rw [if_neg (by omega), if_neg (by omega)]
    by_cases e1 : r = F + H
    · rw [if_pos (by omega), if_pos e1]
    · rw [if_neg (by omega), if_neg (by omega), if_neg (by omega), if_neg e1]
  have hz : ∀ r, r < 64 → (r % hlv p f 0 r = 0 ↔ (r = F ∨ r = F + H ∨ (¬ (F ≤ r ∧ r < F + p 0 f) ∧ r % p 0 r = 0))) := by
    intro r hr
    rw [hv_0 hp hf h1, hFF, hH]
    by_cases a : F ≤ r ∧ r < F + p 0 f
    · rw [if_pos a]
      have hbr := half_blk (hp f hf).1 h1 ff.1 a.1 a.2
      rw [hH] at hbr
      have hd := blk_of (i := r) hbr.1
      constructor
      · intro hz0
        rw [hz0] at hbr
        rcases Nat.lt_or_ge r (F + H) with z | z
        · have := hbr.2.2.2.2.1.mpr z
          omega
        · have := hbr.2.2.2.2.2.mpr z
          omega
      · rintro (z | z | z)
        · rw [z]; exact hb.2.2.1
        · rw [z]; exact hb.2.2.2.1
        · exact absurd a z.1
    · rw [if_neg a]
      constructor
      · intro z
        exact Or.inr (Or.inr ⟨a, z⟩)
      · rintro (z | z | z)
        · omega
        · omega
        · exact z.2
  refine ⟨fun r hr => ?_, fun r hr hzr => ?_, fun r hr => ?_, ?_, ?_⟩
  · rw [c1 r hr]
    by_cases a : F ≤ r ∧ r < F + p 0 f
    · have e0 : hlv p f 0 r = H := by rw [hv_0 hp hf h1, hFF, if_pos a, hH]
      by_cases e1 : r = F + H
      · rw [if_pos e1, if_pos ((hz r hr).mpr (Or.inr (Or.inl e1))), e0]
      · rw [if_neg e1]
        by_cases e2 : r = F
        · rw [if_pos e2, if_pos ((hz r hr).mpr (Or.inl e2)), e0]
        · rw [if_neg e2, if_neg (fun y => by have := (hz r hr).mp y; omega), a1 r hr]
          have as := Al_s hp hf (show fst p f ≤ r by omega) (by omega)
          rw [if_neg ?_]
          intro y
          have : fst p r = r := by unfold fst; rw [y]; rfl
          omega
    · rw [if_neg (by omega), if_neg (by omega), a1 r hr, hv_0 hp hf h1, hFF, if_neg a]
  · rw [c2 r hr, hv_1 hp hf h1 hF]
    rcases (hz r hr).mp hzr with z | z | z
    · rw [if_neg (by omega), z]
      have : F % p 0 F = 0 := by rw [ff.2.2.2.2.2.1]; exact ff.1
      exact a2 F (by omega) this
    · rw [if_pos z]
      have as := Al_s hp hf (show fst p f ≤ r by omega) (by omega)
      rw [as.2.1, hF]
      rfl
    · rw [if_neg (by omega)]
      exact a2 r hr z.2
  · rw [c2 r hr]
    split
    · omega
    · exact a3 r hr
  · rw [hv_3]
    unfold hvm
    rw [w1_at]
    have : hv0 m F H 4 = m 4 := by
      unfold hv0
      rw [w1_ne (by omega), w1_ne (by omega), w1_ne (by omega), w1_ne (by omega)]
    rw [this, a4]
  · rw [hv_n (by omega) (by omega)]
    unfold hvm hv0
    rw [w1_ne (by omega), w1_ne (by omega), w1_ne (by omega), w1_ne (by omega), w1_ne (by omega)]
    exact a5
