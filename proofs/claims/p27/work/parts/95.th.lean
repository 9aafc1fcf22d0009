

-- needs P<=45 91.th
theorem cnt_int {P : Nat → Bool} {a : Nat} : ∀ s, (∀ i, a ≤ i → i < a + s → P i = true) → cnt P (a + s) = cnt P a + s
  | 0, _ => rfl
  | s + 1, h => by
    show cnt P (a + s) + (if P (a + s) = true then 1 else 0) = _
    rw [cnt_int s (fun i h1 h2 => h i h1 (by omega)), if_pos (h (a + s) (by omega) (by omega))]
    rfl
theorem cnt_no {P : Nat → Bool} {a : Nat} : ∀ s, (∀ i, a ≤ i → i < a + s → P i = false) → cnt P (a + s) = cnt P a
  | 0, _ => rfl
  | s + 1, h => by
    show cnt P (a + s) + (if P (a + s) = true then 1 else 0) = _
    rw [cnt_no s (fun i h1 h2 => h i h1 (by omega)), if_neg (by rw [h (a + s) (by omega) (by omega)]; exact Bool.false_ne_true)]
    rfl
theorem cnt_mono (P : Nat → Bool) (a : Nat) : ∀ s, cnt P a ≤ cnt P (a + s)
  | 0 => Nat.le_refl _
  | s + 1 => by
    have := cnt_mono P a s
    show cnt P a ≤ cnt P (a + s) + (if P (a + s) = true then 1 else 0)
    omega
theorem mxf_at {q : Nat → Nat} : ∀ n, mxf q n = 0 ∨ ∃ i, i < n ∧ q i = mxf q n
  | 0 => Or.inl rfl
  | n + 1 => by
    have e : mxf q (n + 1) = if mxf q n < q n then q n else mxf q n := rfl
    rw [e]
    split
    · exact Or.inr ⟨n, by omega, rfl⟩
    · rcases mxf_at (q := q) n with h | ⟨i, h1, h2⟩
      · exact Or.inl h
      · exact Or.inr ⟨i, by omega, h2⟩
theorem mxf_ge {q : Nat → Nat} {n i : Nat} (hi : i < n) : q i ≤ mxf q n := by
  have h := (mxf_lt (q := q) (w := mxf q n + 1) (by omega) n).mp (by omega) i hi
  omega
/-- the greatest free suite, its place -/
theorem gS_at {p : Nat → Nat → Nat} (hp : Al p) : gS p = 0 ∨ ∃ r, r < 64 ∧ p 1 r = 1 ∧ r % p 0 r = 0 ∧ p 0 r = gS p := by
  rcases mxf_at (q := fun r => if bfr p r then p 0 r else 0) 64 with h | ⟨i, h1, h2⟩
  · exact Or.inl h
  · by_cases c : bfr p i = true
    · refine Or.inr ⟨i, h1, ?_⟩
      rw [if_pos c] at h2
      unfold bfr at c
      rw [Bool.and_eq_true, decide_eq_true_eq, decide_eq_true_eq] at c
      exact ⟨c.1, c.2, h2⟩
    · rw [if_neg c] at h2
      exact Or.inl h2.symm
theorem gS_ge {p : Nat → Nat → Nat} (hp : Al p) {r : Nat} (hr : r < 64) (h1 : p 1 r = 1) : p 0 r ≤ gS p := by
  have ff := Al_f hp hr
  have := mxf_ge (q := fun r => if bfr p r then p 0 r else 0) ff.2.2.2.2.1
  have hb : bfr p (fst p r) = true := by
    unfold bfr
    rw [ff.2.2.2.2.2.2.1, ff.2.2.2.2.2.1, decide_eq_true h1, decide_eq_true ff.1]
    rfl
  rw [if_pos hb, ff.2.2.2.2.2.1] at this
  exact this
theorem gS_cF {p : Nat → Nat → Nat} (hp : Al p) (hw : Wf p) : gS p ≤ cF p := by
  rcases gS_at hp with h | ⟨r, h1, h2, h3, h4⟩
  · omega
  · rw [← h4]
    have ff : fst p r = r := by unfold fst; rw [h3]; rfl
    have al := Al_f hp h1
    have e := cnt_int (P := fun r => decide (hoI (p 1 r) = -1)) (a := r) (p 0 r) (fun i i1 i2 => by
      have as := Al_s hp h1 (show fst p r ≤ i by omega) (by omega)
      rw [decide_eq_true_eq, ho_free (by rw [as.2.1, h2]; omega), as.2.1, h2])
    have m := cnt_mono (fun r => decide (hoI (p 1 r) = -1)) (r + p 0 r) (64 - (r + p 0 r))
    rw [show r + p 0 r + (64 - (r + p 0 r)) = 64 by omega] at m
    unfold cF
    omega
theorem RS_ic {p : Nat → Nat → Nat} {m : Nat → Nat} (hp : Al p) (hw : Wf p) (hr : RS p m) {n : Nat} (hn : n ≤ 64) : wsM m n = 0 ↔ sfm m (szf n) 64 ≠ 0 := by
  have hs := szf_le hn
  have hg := RS_gw hp hr hs.2
  have hc := gS_cF hp hw
  unfold wsM
  rw [RS_cF hp hw hr]
  constructor
  · intro h z
    rw [if_pos z] at h
    split at h <;> omega
  · intro h
    have : ¬ gS p < szf n := fun z => h (hg.mpr z)
    rw [if_neg (by omega), if_neg h]
/-- a block of free rooms lies in one suite -/
theorem blk_one {p : Nat → Nat → Nat} (hp : Al p) (hn : Nf p) {a s : Nat} (hs : Pw s) (ha : a % s = 0) (h64 : a + s ≤ 64) (hf : ∀ i, a ≤ i → i < a + s → p 1 i = 1) : ∀ v r, p 0 r = v → a ≤ r → r < a + s → s ≤ v := by
  intro v
  induction v using Nat.strongRecOn with
  | _ v ih =>
    intro r hv r1 r2
    rcases Nat.lt_or_ge v s with c | c
    · exfalso
      have hr : r < 64 := by omega
      have hpv := (hp r hr).1
      rw [hv] at hpv
      have hne : v ≠ 64 := by have := (pow_le hs).1; omega
      have tb := tw_blk hpv hne hr
      have jb := fun i => jn_blk (i := i) hpv hne hr
      have hd := Pw_dbl hpv hne
      have hdb := blk_of (i := r) hd
      -- the twin lies in the block, too
      have hin : a ≤ tw r v ∧ tw r v < a + s := by
        have hL : a ≤ r - r % (2 * v) ∧ r - r % (2 * v) + 2 * v ≤ a + s := by
          have a1 := Pw_cases hpv
          have a2 := Pw_cases hs
          simp only [List.mem_cons, List.not_mem_nil, or_false] at a1 a2
          clear hv hpv tb jb hd hdb hf ih hn hp
          rcases a2 with rfl | rfl | rfl | rfl | rfl | rfl | rfl <;> rcases a1 with rfl | rfl | rfl | rfl | rfl | rfl | rfl <;> omega
        have hl := pow_le hpv
        have := (jb (tw r v)).mpr (Or.inr ⟨by omega, by omega⟩)
        omega
      have ht := tb.2.1
      have hl := pow_le hpv
      have ht64 : tw r v < 64 := by omega
      have alt := Al_f hp ht64
      rcases (show p 0 (tw r v) < v ∨ p 0 (tw r v) = v ∨ v < p 0 (tw r v) by omega) with z | z | z
      · have := ih _ z (tw r v) rfl hin.1 hin.2
        omega
      · have := hn r hr (hf r r1 r2)
        have hj : jnb p r = true := by
          rw [jnb_iff, hv]
          exact ⟨hne, z, hf _ hin.1 hin.2⟩
        rw [hj] at this
        cases this
      · -- the twin's suite holds r
        have hsub : fst p (tw r v) ≤ r ∧ r < fst p (tw r v) + p 0 (tw r v) := by
          have hpt := (hp _ ht64).1
          have a1 := Pw_cases hpv
          have a2 := Pw_cases hpt
          simp only [List.mem_cons, List.not_mem_nil, or_false] at a1 a2
          unfold fst
          generalize p 0 (tw r v) = u at *
          have t1 := tb.1
          have t3 := (jb (tw r v)).mpr (Or.inr ⟨by omega, by omega⟩)
          generalize tw r v = t at *
          clear hv hpv tb jb hd hf ih hn hp hpt alt hin ht ht64
          rcases a1 with rfl | rfl | rfl | rfl | rfl | rfl | rfl <;> rcases a2 with rfl | rfl | rfl | rfl | rfl | rfl | rfl <;> omega
        have as := Al_s hp ht64 hsub.1 hsub.2
        omega
    · exact c
