

-- needs P<=45 66.mod
/-! THE SUITES of a palace: what holds of them always, and how the reference's row tells them -/
theorem Pw_cases {s : Nat} (h : Pw s) : s ∈ [1, 2, 4, 8, 16, 32, 64] := by
  unfold Pw at h
  rcases h with rfl | rfl | rfl | rfl | rfl | rfl | rfl <;> decide
theorem blk_in {s a i : Nat} (hs : Pw s) (ha : a % s = 0) (h1 : a ≤ i) (h2 : i < a + s) : i - i % s = a := by
  unfold Pw at hs
  rcases hs with rfl | rfl | rfl | rfl | rfl | rfl | rfl <;> omega
theorem blk_of {s i : Nat} (hs : Pw s) : (i - i % s) % s = 0 ∧ i - i % s ≤ i ∧ i < i - i % s + s := by
  unfold Pw at hs
  rcases hs with rfl | rfl | rfl | rfl | rfl | rfl | rfl <;> omega
theorem blk_64 {s a : Nat} (hs : Pw s) (ha : a % s = 0) (h : a < 64) : a + s ≤ 64 := by
  unfold Pw at hs
  rcases hs with rfl | rfl | rfl | rfl | rfl | rfl | rfl <;> omega
theorem tw_blk {s r : Nat} (hs : Pw s) (h64 : s ≠ 64) (hr : r < 64) : tw r s % s = 0 ∧ tw r s + s ≤ 64 ∧ tw (tw r s) s = r - r % s ∧ tw r s ≠ r - r % s ∧ (∀ i, i - i % s = r - r % s → tw i s = tw r s) := by
  unfold Pw at hs
  unfold tw
  rcases hs with rfl | rfl | rfl | rfl | rfl | rfl | rfl
  all_goals first | (exact absurd rfl h64) | skip
  all_goals refine ⟨?_, ?_, ?_, ?_, fun i hi => ?_⟩ <;> (try split) <;> (try split) <;> (try split) <;> omega
theorem jn_blk {s r i : Nat} (hs : Pw s) (h64 : s ≠ 64) (hr : r < 64) : (r - r % (2 * s) ≤ i ∧ i < r - r % (2 * s) + 2 * s) ↔ ((r - r % s ≤ i ∧ i < r - r % s + s) ∨ (tw r s ≤ i ∧ i < tw r s + s)) := by
  unfold Pw at hs
  unfold tw
  rcases hs with rfl | rfl | rfl | rfl | rfl | rfl | rfl
  all_goals first | (exact absurd rfl h64) | skip
  all_goals (split <;> omega)
theorem Pw_dbl {s : Nat} (hs : Pw s) (h64 : s ≠ 64) : Pw (2 * s) := by
  unfold Pw at hs ⊢
  omega
theorem half_blk {s a i : Nat} (hs : Pw s) (h1 : s ≠ 1) (ha : a % s = 0) (hi : a ≤ i) (hi2 : i < a + s) : Pw (s / 2) ∧ s / 2 + s / 2 = s ∧ a % (s / 2) = 0 ∧ (a + s / 2) % (s / 2) = 0 ∧ (i - i % (s / 2) = a ↔ i < a + s / 2) ∧ (i - i % (s / 2) = a + s / 2 ↔ a + s / 2 ≤ i) := by
  unfold Pw at hs ⊢
  rcases hs with rfl | rfl | rfl | rfl | rfl | rfl | rfl
  · exact absurd rfl h1
  all_goals simp only [Nat.reduceDiv, Nat.reduceAdd, Nat.reduceEqDiff, or_true, true_or, true_and]
  all_goals refine ⟨?_, ?_, ?_, ?_⟩ <;> omega
theorem tw_half {s a : Nat} (hs : Pw s) (h1 : s ≠ 1) (ha : a % s = 0) : tw a (s / 2) = a + s / 2 ∧ tw (a + s / 2) (s / 2) = a := by
  unfold Pw at hs
  unfold tw
  rcases hs with rfl | rfl | rfl | rfl | rfl | rfl | rfl
  · exact absurd rfl h1
  all_goals simp only [Nat.reduceDiv]
  all_goals refine ⟨?_, ?_⟩ <;> (split <;> omega)
/-- each room's suite begins at a multiple of its size, and all its rooms tell the same -/
def Al (p : Nat → Nat → Nat) : Prop := ∀ r, r < 64 → Pw (p 0 r) ∧ ∀ i, r - r % p 0 r ≤ i → i < r - r % p 0 r + p 0 r → p 0 i = p 0 r ∧ p 1 i = p 1 r
theorem Al_f {p : Nat → Nat → Nat} (h : Al p) {r : Nat} (hr : r < 64) : fst p r % p 0 r = 0 ∧ fst p r ≤ r ∧ r < fst p r + p 0 r ∧ fst p r + p 0 r ≤ 64 ∧ fst p r < 64 ∧ p 0 (fst p r) = p 0 r ∧ p 1 (fst p r) = p 1 r ∧ fst p (fst p r) = fst p r := by
  obtain ⟨h1, h2⟩ := h r hr
  have b := blk_of (i := r) h1
  have hl := pow_le h1
  have e := h2 (r - r % p 0 r) (Nat.le_refl _) (by omega)
  refine ⟨b.1, b.2.1, b.2.2, blk_64 h1 b.1 (show r - r % p 0 r < 64 by omega), by unfold fst; omega, e.1, e.2, ?_⟩
  unfold fst
  rw [e.1, b.1, Nat.sub_zero]
/-- two rooms of one suite -/
theorem Al_s {p : Nat → Nat → Nat} (h : Al p) {r i : Nat} (hr : r < 64) (h1 : fst p r ≤ i) (h2 : i < fst p r + p 0 r) : p 0 i = p 0 r ∧ p 1 i = p 1 r ∧ fst p i = fst p r ∧ i < 64 := by
  have e := (h r hr).2 i h1 h2
  have f := Al_f h hr
  refine ⟨e.1, e.2, ?_, by omega⟩
  show i - i % p 0 i = fst p r
  rw [e.1]
  exact blk_in (h r hr).1 f.1 h1 h2
/-- a room outside a suite: its whole suite is outside -/
theorem Al_o {p : Nat → Nat → Nat} (h : Al p) {r f i : Nat} (hr : r < 64) (hf : f < 64) (ho : ¬ (fst p f ≤ r ∧ r < fst p f + p 0 f)) (h1 : fst p r ≤ i) (h2 : i < fst p r + p 0 r) : ¬ (fst p f ≤ i ∧ i < fst p f + p 0 f) := by
  rintro ⟨h3, h4⟩
  have a := Al_s h hr h1 h2
  have b := Al_s h hf h3 h4
  have c := Al_f h hr
  have d := Al_f h hf
  apply ho
  have : fst p r = fst p f := by rw [← a.2.2.1, b.2.2.1]
  have e : p 0 r = p 0 f := by rw [← a.1, b.1]
  omega
def kd (n : Nat) : Nat := if n = 0 then 2 else if n = 1 then 0 else 1
/-- the reference's row tells the palace's suites -/
def RS (p : Nat → Nat → Nat) (m : Nat → Nat) : Prop := (∀ r, r < 64 → m (10 + r) = if r % p 0 r = 0 then p 0 r else 0) ∧ (∀ r, r < 64 → r % p 0 r = 0 → m (74 + r) = kd (p 1 r)) ∧ (∀ r, r < 64 → m (74 + r) ≤ 2) ∧ m 4 = p 10 3 ∧ m 5 = p 10 4
/-- no free suite has a free twin, but for pairs with the suite of room a -/
def NfX (p : Nat → Nat → Nat) (a : Nat) : Prop := ∀ r, r < 64 → p 1 r = 1 → jnb p r = true → fst p r = fst p a ∨ tw r (p 0 r) = fst p a
def Nf (p : Nat → Nat → Nat) : Prop := ∀ r, r < 64 → p 1 r = 1 → jnb p r = false
theorem jnb_iff {p : Nat → Nat → Nat} {a : Nat} : jnb p a = true ↔ p 0 a ≠ 64 ∧ p 0 (tw a (p 0 a)) = p 0 a ∧ p 1 (tw a (p 0 a)) = 1 := by
  unfold jnb
  simp only [Bool.and_eq_true, decide_eq_true_eq, ne_eq, and_assoc]
theorem mkk_io (p : Nat → Nat → Nat) (a k n h f i : Nat) : mkk p a k n h f i = if a ≤ i ∧ i < a + k then (if f = 0 then n else if f = 1 then h else p f i) else p f i := by
  unfold mkk
  by_cases h1 : a ≤ i ∧ i < a + k
  · rw [if_pos h1]
    by_cases h2 : f = 0
    · rw [if_pos ⟨h1.1, h1.2, h2⟩, if_pos h2]
    · rw [if_neg (fun z => h2 z.2.2), if_neg h2]
      by_cases h3 : f = 1
      · rw [if_pos ⟨h1.1, h1.2, h3⟩, if_pos h3]
      · rw [if_neg (fun z => h3 z.2.2), if_neg h3]
  · rw [if_neg h1, if_neg (fun z => h1 ⟨z.1, z.2.1⟩), if_neg (fun z => h1 ⟨z.1, z.2.1⟩)]
/-- the suite of a room f goes to another holder -/
theorem gv_Al {p : Nat → Nat → Nat} (hp : Al p) {f h : Nat} (hf : f < 64) (h0 : f % p 0 f = 0) : Al (mkk p f (p 0 f) (p 0 f) h) := by
  have ff : fst p f = f := by unfold fst; rw [h0]; rfl
  have hs0 : ∀ i, mkk p f (p 0 f) (p 0 f) h 0 i = p 0 i := by
    intro i
    rw [mkk_io]
    split
    · rename_i hi
      rw [if_pos rfl]
      exact (Al_s hp hf (by omega) (by omega)).1.symm
    · rfl
  intro r hr
  rw [hs0 r]
  refine ⟨(hp r hr).1, fun i h1 h2 => ?_⟩
  have e := Al_s hp hr h1 h2
  rw [hs0 i]
  refine ⟨e.1, ?_⟩
  rw [mkk_io, mkk_io]
  by_cases hin : f ≤ r ∧ r < f + p 0 f
  · have a := Al_s hp hf (show fst p f ≤ r by omega) (by omega)
    have hi : f ≤ i ∧ i < f + p 0 f := by
      have b : fst p r = f := by rw [a.2.2.1, ff]
      unfold fst at b
      rw [a.1] at b h1 h2
      omega
    rw [if_pos hin, if_pos hi]
    rfl
  · have ho := Al_o hp hr hf (by rw [ff]; exact hin) h1 h2
    rw [ff] at ho
    rw [if_neg hin, if_neg ho]
    exact e.2.1
theorem gv_0 {p : Nat → Nat → Nat} (hp : Al p) {f h : Nat} (hf : f < 64) (h0 : f % p 0 f = 0) (i : Nat) : mkk p f (p 0 f) (p 0 f) h 0 i = p 0 i := by
  have ff : fst p f = f := by unfold fst; rw [h0]; rfl
  rw [mkk_io]
  split
  · rename_i hi
    rw [if_pos rfl]
    exact (Al_s hp hf (by omega) (by omega)).1.symm
  · rfl
theorem gv_1 (p : Nat → Nat → Nat) (f n k h i : Nat) : mkk p f k n h 1 i = if f ≤ i ∧ i < f + k then h else p 1 i := by
  rw [mkk_io]
  split
  · rw [if_neg (by omega), if_pos rfl]
  · rfl
theorem gv_n (p : Nat → Nat → Nat) {f n k h g : Nat} (hg : 2 ≤ g) (i : Nat) : mkk p f k n h g i = p g i := by
  rw [mkk_io]
  split
  · rw [if_neg (by omega), if_neg (by omega)]
  · rfl
theorem gv_RS {p : Nat → Nat → Nat} {m : Nat → Nat} (hp : Al p) (hr : RS p m) {f h : Nat} (hf : f < 64) (h0 : f % p 0 f = 0) : RS (mkk p f (p 0 f) (p 0 f) h) (w1 m (74 + f) (kd h)) := by
  obtain ⟨a1, a2, a3, a4, a5⟩ := hr
  have ff : fst p f = f := by unfold fst; rw [h0]; rfl
  refine ⟨fun r hr => ?_, fun r hr hz => ?_, fun r hr => ?_, ?_, ?_⟩
  · rw [gv_0 hp hf h0, w1_ne (by omega)]
    exact a1 r hr
  · rw [gv_0 hp hf h0] at hz
    rw [gv_1]
    by_cases hrf : r = f
    · subst hrf
      have := pow_le (hp r hr).1
      rw [w1_at, if_pos (by omega)]
    · rw [w1_ne (by omega), a2 r hr hz, if_neg ?_]
      rintro ⟨z1, z2⟩
      have e := Al_s hp hf (show fst p f ≤ r by omega) (by omega)
      have e2 : fst p r = r := by unfold fst; rw [hz]; rfl
      omega
  · unfold w1
    split
    · unfold kd; split <;> (try split) <;> omega
    · exact a3 r hr
  · rw [w1_ne (by omega), gv_n p (by omega)]
    exact a4
  · rw [w1_ne (by omega), gv_n p (by omega)]
    exact a5
