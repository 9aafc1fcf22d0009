

-- needs P<=45 95.th
theorem fstf_ne {q : Nat → Bool} {n : Nat} : ∀ k, k ≤ n → (fstf q n k = n ↔ ∀ i, n - k ≤ i → i < n → q i = false)
  | 0, _ => ⟨fun _ i h1 h2 => by omega, fun _ => rfl⟩
  | k + 1, hk => by
    cases hq : q (n - (k + 1)) with
    | true =>
      rw [fstT hq]
      constructor
      · intro h
        omega
      · intro h
        have := h (n - (k + 1)) (Nat.le_refl _) (by omega)
        rw [hq] at this
        cases this
    | false =>
      rw [fstF hq, fstf_ne k (by omega)]
      constructor
      · intro h i h1 h2
        rcases Nat.lt_or_ge i (n - k) with z | z
        · have : i = n - (k + 1) := by omega
          rw [this, hq]
        · exact h i z h2
      · intro h i h1 h2
        exact h i (by omega) h2
theorem frn_b {p : Nat → Nat → Nat} {n : Nat} (hn : 0 < n) : ∀ i, frn p n (i + 1) ≤ i % n + 1 ∧ (frn p n (i + 1) = i % n + 1 ↔ ∀ j, i - i % n ≤ j → j ≤ i → p 1 j = 1) := by
  intro i
  induction i with
  | zero =>
    rw [Nat.zero_mod]
    have e : frn p n 1 = if p 1 0 = 1 then (if 0 % n = 0 then 0 else frn p n 0) + 1 else (if 0 % n = 0 then 0 else frn p n 0) := by
      show (if 0 % n = 0 then 0 else frn p n 0) + (if p 1 0 = 1 then 1 else 0) = _
      by_cases c : p 1 0 = 1
      · rw [if_pos c, if_pos c]
      · rw [if_neg c, if_neg c]
        rfl
    rw [e, Nat.zero_mod, if_pos rfl]
    constructor
    · split <;> omega
    · constructor
      · intro h j h1 h2
        have : j = 0 := by omega
        rw [this]
        split at h
        · assumption
        · omega
      · intro h
        rw [if_pos (h 0 (by omega) (by omega))]
  | succ i ih =>
    have e : frn p n (i + 1 + 1) = if p 1 (i + 1) = 1 then (if (i + 1) % n = 0 then 0 else frn p n (i + 1)) + 1 else (if (i + 1) % n = 0 then 0 else frn p n (i + 1)) := by
      show (if (i + 1) % n = 0 then 0 else frn p n (i + 1)) + (if p 1 (i + 1) = 1 then 1 else 0) = _
      by_cases c : p 1 (i + 1) = 1
      · rw [if_pos c, if_pos c]
      · rw [if_neg c, if_neg c]
        rfl
    rw [e]
    by_cases c : (i + 1) % n = 0
    · rw [if_pos c, c]
      constructor
      · split <;> omega
      · constructor
        · intro h j h1 h2
          have : j = i + 1 := by omega
          rw [this]
          split at h
          · assumption
          · omega
        · intro h
          rw [if_pos (h (i + 1) (by omega) (by omega))]
    · rw [if_neg c]
      have hm : (i + 1) % n = i % n + 1 := by
        rcases Nat.lt_or_ge (i % n + 1) n with z | z
        · rw [Nat.add_mod, Nat.mod_eq_of_lt (show 1 < n by omega), Nat.mod_eq_of_lt z]
        · exfalso
          have h1 := Nat.mod_lt i hn
          have h2 : i % n + 1 = n := by omega
          apply c
          have : (i + 1) % n = (i % n + 1) % n := (Nat.mod_add_mod i n 1).symm
          rw [this, h2, Nat.mod_self]
      have hle := Nat.mod_le i n
      rw [hm]
      constructor
      · have := ih.1
        split <;> omega
      · constructor
        · intro h j h1 h2
          have i1 := ih.1
          rcases Nat.lt_or_ge j (i + 1) with z | z
          · refine ih.2.mp ?_ j (by omega) (by omega)
            split at h <;> omega
          · have : j = i + 1 := by omega
            rw [this]
            split at h
            · assumption
            · omega
        · intro h
          rw [if_pos (h (i + 1) (by omega) (by omega)), ih.2.mpr (fun j h1 h2 => h j (by omega) (by omega))]
theorem hfp_iff {p : Nat → Nat → Nat} (hp : Al p) (hn : Nf p) {s : Nat} (hs : Pw s) : hfp p s = true ↔ s ≤ gS p := by
  have hl := pow_le hs
  unfold hfp
  rw [decide_eq_true_eq]
  constructor
  · intro h
    rcases (Classical.em (∀ i, 64 - 64 ≤ i → i < 64 → decide (frn p s (i + 1) = s) = false)) with z | z
    · exact absurd ((fstf_ne (q := fun i => decide (frn p s (i + 1) = s)) 64 (Nat.le_refl _)).mpr z) h
    · have : ∃ i, i < 64 ∧ frn p s (i + 1) = s := by
        rcases Classical.em (∃ i, i < 64 ∧ frn p s (i + 1) = s) with y | y
        · exact y
        · exfalso
          apply z
          intro i _ hi
          rw [decide_eq_false_iff_not]
          exact fun w => y ⟨i, hi, w⟩
      obtain ⟨i, hi, he⟩ := this
      have fb := frn_b (p := p) hl.2 i
      have hm := Nat.mod_lt i hl.2
      have hle := Nat.mod_le i s
      have e : i % s + 1 = s := by omega
      have hall := fb.2.mp (by omega)
      have hb := blk_of (i := i) hs
      have h64 := blk_64 hs hb.1 (by omega)
      have := blk_one hp hn hs hb.1 h64 (fun j h1 h2 => hall j (by omega) (by omega)) _ i rfl (by omega) (by omega)
      have hg := gS_ge hp hi (hall i (by omega) (by omega))
      omega
  · intro h z
    have hz := (fstf_ne (q := fun i => decide (frn p s (i + 1) = s)) 64 (Nat.le_refl _)).mp z
    rcases gS_at hp with g | ⟨r, g1, g2, g3, g4⟩
    · omega
    · have hpr := (hp r g1).1
      have ff : fst p r = r := by unfold fst; rw [g3]; rfl
      have al := Al_f hp g1
      -- the first rooms of that suite
      have hrs : r % s = 0 ∧ r + s ≤ r + p 0 r := by
        have a1 := Pw_cases hpr
        have a2 := Pw_cases hs
        simp only [List.mem_cons, List.not_mem_nil, or_false] at a1 a2
        refine ⟨?_, by omega⟩
        rw [← g4] at h
        generalize p 0 r = u at *
        clear hz z hpr al ff hs hn hp
        rcases a1 with rfl | rfl | rfl | rfl | rfl | rfl | rfl <;> rcases a2 with rfl | rfl | rfl | rfl | rfl | rfl | rfl <;> omega
      have fb := frn_b (p := p) hl.2 (r + s - 1)
      have hm : (r + s - 1) % s = s - 1 := by
        have : r + s - 1 = r + (s - 1) := by omega
        rw [this, Nat.add_mod, hrs.1, Nat.zero_add, Nat.mod_mod, Nat.mod_eq_of_lt (by omega)]
      have := fb.2.mpr (fun j h1 h2 => by
        have as := Al_s hp g1 (show fst p r ≤ j by omega) (by omega)
        rw [as.2.1, g2])
      have hq := hz (r + s - 1) (by omega) (by omega)
      rw [decide_eq_false_iff_not] at hq
      apply hq
      rw [this, hm]
      omega
theorem gbr_eq {p : Nat → Nat → Nat} (hp : Al p) (hn : Nf p) : gbr p 7 = gS p := by
  have h : ∀ k, k < 7 → (hfp p (2 ^ k) = true ↔ 2 ^ k ≤ gS p) := fun k hk => hfp_iff hp hn (pw_2 k hk)
  have hg : gS p = 0 ∨ gS p ∈ [1, 2, 4, 8, 16, 32, 64] := by
    rcases gS_at hp with g | ⟨r, g1, g2, g3, g4⟩
    · exact Or.inl g
    · rw [← g4]
      exact Or.inr (Pw_cases (hp r g1).1)
  have e : ∀ k, gbr p (k + 1) = if hfp p (2 ^ k) = true then 2 ^ k else gbr p k := fun k => rfl
  have h6 := h 6 (by omega)
  have h5 := h 5 (by omega)
  have h4 := h 4 (by omega)
  have h3 := h 3 (by omega)
  have h2 := h 2 (by omega)
  have h1 := h 1 (by omega)
  have h0 := h 0 (by omega)
  rw [e 6, e 5, e 4, e 3, e 2, e 1, e 0, show gbr p 0 = 0 from rfl]
  simp only [h6, h5, h4, h3, h2, h1, h0]
  simp only [List.mem_cons, List.not_mem_nil, or_false] at hg
  rcases hg with g | g | g | g | g | g | g | g <;> rw [g] <;> rfl
