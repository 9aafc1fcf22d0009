

-- needs P<=45 83.th
theorem mxf_congr {f g : Nat → Nat} : ∀ n, (∀ i, i < n → f i = g i) → mxf f n = mxf g n
  | 0, _ => rfl
  | n + 1, h => by
    show (if mxf f n < f n then f n else mxf f n) = (if mxf g n < g n then g n else mxf g n)
    rw [mxf_congr n (fun i hi => h i (by omega)), h n (by omega)]
theorem cnt_congr {f g : Nat → Bool} : ∀ n, (∀ i, i < n → f i = g i) → cnt f n = cnt g n
  | 0, _ => rfl
  | n + 1, h => by
    show cnt f n + (if f n = true then 1 else 0) = cnt g n + (if g n = true then 1 else 0)
    rw [cnt_congr n (fun i hi => h i (by omega)), h n (by omega)]
theorem smf_congr {f g : Nat → Nat} : ∀ n, (∀ i, i < n → f i = g i) → smf f n = smf g n
  | 0, _ => rfl
  | n + 1, h => by
    show smf f n + f n = smf g n + g n
    rw [smf_congr n (fun i hi => h i (by omega)), h n (by omega)]
theorem fstf_congr {f g : Nat → Bool} {n : Nat} (h : ∀ i, i < n → f i = g i) : ∀ k, k ≤ n → fstf f n k = fstf g n k
  | 0, _ => rfl
  | k + 1, hk => by
    show (if f (n - (k + 1)) = true then n - (k + 1) else fstf f n k) = (if g (n - (k + 1)) = true then n - (k + 1) else fstf g n k)
    rw [fstf_congr h k (by omega), h (n - (k + 1)) (by omega)]
theorem kd_0 (n : Nat) : kd n = 0 ↔ n = 1 := by
  unfold kd
  split
  · omega
  · split <;> omega
theorem kd_2 (n : Nat) : kd n = 2 ↔ n = 0 := by
  unfold kd
  split
  · omega
  · split <;> omega
theorem RS_fr {p : Nat → Nat → Nat} {m : Nat → Nat} (hp : Al p) (hr : RS p m) {r : Nat} (hr2 : r < 64) : mfr m r = bfr p r := by
  have hl := pow_le (hp r hr2).1
  unfold mfr bfr
  rw [hr.1 r hr2]
  by_cases h : r % p 0 r = 0
  · rw [if_pos h, hr.2.1 r hr2 h]
    have : decide (kd (p 1 r) = 0) = decide (p 1 r = 1) := decide_eq_decide.mpr (kd_0 _)
    rw [this, decide_eq_true hl.2, decide_eq_true h, Bool.true_and, Bool.and_true]
  · rw [if_neg h, decide_eq_false h, decide_eq_false (Nat.lt_irrefl 0), Bool.false_and, Bool.and_false]
theorem RS_sz {p : Nat → Nat → Nat} {m : Nat → Nat} (hr : RS p m) {r : Nat} (hr2 : r < 64) (hf : mfr m r = true) : m (10 + r) = p 0 r := by
  unfold mfr at hf
  rw [Bool.and_eq_true, decide_eq_true_eq] at hf
  have := hr.1 r hr2
  split at this
  · exact this
  · omega
theorem RS_gS {p : Nat → Nat → Nat} {m : Nat → Nat} (hp : Al p) (hr : RS p m) : gfM m = gS p := by
  unfold gfM gS
  refine mxf_congr 64 (fun i hi => ?_)
  rw [RS_fr hp hr hi]
  cases hb : bfr p i with
  | false => rfl
  | true =>
    have := RS_sz hr hi (by rw [RS_fr hp hr hi, hb])
    rw [if_pos rfl, if_pos rfl, this]
/-- a sum over the suites is a count of rooms -/
theorem tile {p : Nat → Nat → Nat} (hp : Al p) (P : Nat → Bool) (hP : ∀ r i, r < 64 → fst p r ≤ i → i < fst p r + p 0 r → P i = P r) : smf (fun r => if r % p 0 r = 0 ∧ P r = true then p 0 r else 0) 64 = cnt P 64 := by
  have step : ∀ a k s, a + s ≤ 64 → k + 1 ≤ s → (a < 64 → a % p 0 a = 0 ∧ p 0 a = s) → a < 64 → smf (fun r => if r % p 0 r = 0 ∧ P r = true then p 0 r else 0) (a + (k + 1)) = smf (fun r => if r % p 0 r = 0 ∧ P r = true then p 0 r else 0) a + (if P a = true then s else 0) ∧ cnt P (a + (k + 1)) = cnt P a + (if P a = true then k + 1 else 0) := by
    intro a k s hs hk ha h64
    have haa := ha h64
    have ff : fst p a = a := by unfold fst; rw [haa.1]; rfl
    induction k with
    | zero =>
      have hz := haa.1
      constructor
      · have e : smf (fun r => if r % p 0 r = 0 ∧ P r = true then p 0 r else 0) (a + (0 + 1)) = smf (fun r => if r % p 0 r = 0 ∧ P r = true then p 0 r else 0) a + (if a % p 0 a = 0 ∧ P a = true then p 0 a else 0) := rfl
        rw [e, haa.2]
        rw [haa.2] at hz
        by_cases hq : P a = true
        · rw [if_pos ⟨hz, hq⟩, if_pos hq]
        · rw [if_neg (fun y => hq y.2), if_neg hq]
      · rfl
    | succ k ih =>
      have ihk := ih (by omega)
      have as := Al_s hp h64 (show fst p a ≤ a + (k + 1) by omega) (by omega)
      have hPk := hP a (a + (k + 1)) h64 (by omega) (by omega)
      constructor
      · have e : smf (fun r => if r % p 0 r = 0 ∧ P r = true then p 0 r else 0) (a + (k + 1 + 1)) = smf (fun r => if r % p 0 r = 0 ∧ P r = true then p 0 r else 0) (a + (k + 1)) + (if (a + (k + 1)) % p 0 (a + (k + 1)) = 0 ∧ P (a + (k + 1)) = true then p 0 (a + (k + 1)) else 0) := rfl
        have hn : ¬ ((a + (k + 1)) % p 0 (a + (k + 1)) = 0 ∧ P (a + (k + 1)) = true) := by
          rintro ⟨y, -⟩
          have : fst p (a + (k + 1)) = a + (k + 1) := by
            unfold fst
            rw [y]
            rfl
          omega
        rw [e, ihk.1, if_neg hn]
        rfl
      · have e : cnt P (a + (k + 1 + 1)) = cnt P (a + (k + 1)) + (if P (a + (k + 1)) = true then 1 else 0) := rfl
        rw [e, ihk.2, hPk]
        split <;> omega
  have key : ∀ n a, a + n ≥ 64 → a ≤ 64 → (a < 64 → a % p 0 a = 0) → smf (fun r => if r % p 0 r = 0 ∧ P r = true then p 0 r else 0) a = cnt P a → smf (fun r => if r % p 0 r = 0 ∧ P r = true then p 0 r else 0) 64 = cnt P 64 := by
    intro n
    induction n with
    | zero =>
      intro a h1 h2 h3 h4
      have : a = 64 := by omega
      rw [this] at h4
      exact h4
    | succ n ih =>
      intro a h1 h2 h3 h4
      rcases Nat.lt_or_ge a 64 with h64 | h64
      · have hl := pow_le (hp a h64).1
        have ff := Al_f hp h64
        have haa := h3 h64
        have hfa : fst p a = a := by unfold fst; rw [haa]; rfl
        have st := step a (p 0 a - 1) (p 0 a) (by omega) (by omega) (fun _ => ⟨haa, rfl⟩) h64
        rw [show p 0 a - 1 + 1 = p 0 a by omega] at st
        refine ih (a + p 0 a) (by omega) (by omega) (fun hb => ?_) ?_
        · have ffb := Al_f hp hb
          rcases Nat.eq_zero_or_pos ((a + p 0 a) % p 0 (a + p 0 a)) with y | y
          · exact y
          · exfalso
            have hfb : fst p (a + p 0 a) < a + p 0 a := by
              unfold fst
              have := (blk_of (i := a + p 0 a) (hp _ hb).1)
              omega
            have as1 := Al_s hp hb (show fst p (a + p 0 a) ≤ a + p 0 a - 1 by omega) (by omega)
            have as2 := Al_s hp h64 (show fst p a ≤ a + p 0 a - 1 by omega) (by omega)
            omega
        · rw [st.1, st.2, h4]
      · exact ih a (by omega) h2 h3 h4
  exact key 64 0 (by omega) (by omega) (fun _ => by rw [Nat.zero_mod]) rfl
theorem RS_rt {p : Nat → Nat → Nat} {m : Nat → Nat} (hp : Al p) (hr : RS p m) (k : Nat) : rtM m k = cnt (fun r => decide (kd (p 1 r) = k)) 64 := by
  rw [← tile hp (fun r => decide (kd (p 1 r) = k)) (fun r i h1 h2 h3 => by rw [(Al_s hp h1 h2 h3).2.1])]
  unfold rtM
  refine smf_congr 64 (fun i hi => ?_)
  rw [hr.1 i hi]
  by_cases h : i % p 0 i = 0
  · rw [if_pos h, hr.2.1 i hi h]
    by_cases g : kd (p 1 i) = k
    · rw [if_pos g, if_pos ⟨h, decide_eq_true g⟩]
    · rw [if_neg g, if_neg (fun z => g (of_decide_eq_true z.2))]
  · rw [if_neg h, if_neg (show ¬ (i % p 0 i = 0 ∧ decide (kd (p 1 i) = k) = true) from fun z => h z.1)]
    split <;> rfl
theorem RS_cF {p : Nat → Nat → Nat} {m : Nat → Nat} (hp : Al p) (hw : Wf p) (hr : RS p m) : rtM m 0 = cF p := by
  rw [RS_rt hp hr 0]
  unfold cF
  refine cnt_congr 64 (fun i hi => ?_)
  rw [decide_eq_decide, kd_0]
  have := ho_free (hw i hi).2
  exact ⟨fun h => by rw [this]; exact h, fun h => by rw [this] at h; exact h⟩
theorem RS_cD {p : Nat → Nat → Nat} {m : Nat → Nat} (hp : Al p) (hw : Wf p) (hr : RS p m) : rtM m 2 = cD p := by
  rw [RS_rt hp hr 2]
  unfold cD
  refine cnt_congr 64 (fun i hi => ?_)
  rw [decide_eq_decide, kd_2]
  have := ho_dirty (hw i hi).2
  exact ⟨fun h => by rw [this]; exact h, fun h => by rw [this] at h; exact h⟩
theorem RS_su {p : Nat → Nat → Nat} {m : Nat → Nat} (hp : Al p) (hr : RS p m) : suM m = cSu p := by
  unfold suM cSu
  refine cnt_congr 64 (fun i hi => ?_)
  have hl := pow_le (hp i hi).1
  rw [hr.1 i hi, decide_eq_decide]
  split <;> omega
theorem RS_pl {p : Nat → Nat → Nat} {m : Nat → Nat} (hp : Al p) (hw : Wf p) (hr : RS p m) {w sd : Nat} (h0 : m 0 = sd) : ∀ n, n ≤ 64 → (plS p w sd n).1 = sfm m w n ∧ (sfm m w n ≠ 0 → (plS p w sd n).2 = m (10 + (sfm m w n - 1)) ∧ m (10 + (sfm m w n - 1)) = p 0 (sfm m w n - 1)) ∧ (sfm m w n = 0 → (plS p w sd n).2 = 65)
  | 0, _ => ⟨rfl, fun z => absurd rfl z, fun _ => rfl⟩
  | n + 1, hn => by
    obtain ⟨i1, i2, i3⟩ := RS_pl hp hw hr h0 n (by omega)
    have hfr := RS_fr hp hr (show n < 64 by omega)
    have hl := pow_le (hp n (by omega)).1
    have e1 : plS p w sd (n + 1) = if bfr p n = true ∧ w ≤ p 0 n ∧ (p 0 n < (plS p w sd n).2 ∨ (sd = 1 ∧ p 0 n = (plS p w sd n).2)) then (n + 1, p 0 n) else plS p w sd n := rfl
    have e2 : sfm m w (n + 1) = if mfr m n = true ∧ w ≤ m (10 + n) ∧ (sfm m w n = 0 ∨ m (10 + n) < m (10 + (sfm m w n - 1)) ∨ (m (10 + n) = m (10 + (sfm m w n - 1)) ∧ m 0 = 1)) then n + 1 else sfm m w n := rfl
    by_cases hb : bfr p n = true
    · have hm := RS_sz hr (show n < 64 by omega) (by rw [hfr, hb])
      have hc : (bfr p n = true ∧ w ≤ p 0 n ∧ (p 0 n < (plS p w sd n).2 ∨ (sd = 1 ∧ p 0 n = (plS p w sd n).2))) ↔ (mfr m n = true ∧ w ≤ m (10 + n) ∧ (sfm m w n = 0 ∨ m (10 + n) < m (10 + (sfm m w n - 1)) ∨ (m (10 + n) = m (10 + (sfm m w n - 1)) ∧ m 0 = 1))) := by
        rw [hfr, hm, h0]
        by_cases hz : sfm m w n = 0
        · have := i3 hz
          constructor
          · rintro ⟨a, b, -⟩
            exact ⟨a, b, Or.inl hz⟩
          · rintro ⟨a, b, -⟩
            exact ⟨a, b, Or.inl (by omega)⟩
        · have := (i2 hz).1
          constructor
          · rintro ⟨a, b, c | c⟩
            · exact ⟨a, b, Or.inr (Or.inl (by omega))⟩
            · exact ⟨a, b, Or.inr (Or.inr ⟨by omega, c.1⟩)⟩
          · rintro ⟨a, b, c | c | c⟩
            · exact absurd c hz
            · exact ⟨a, b, Or.inl (by omega)⟩
            · exact ⟨a, b, Or.inr ⟨c.2, by omega⟩⟩
      by_cases c : bfr p n = true ∧ w ≤ p 0 n ∧ (p 0 n < (plS p w sd n).2 ∨ (sd = 1 ∧ p 0 n = (plS p w sd n).2))
      · rw [e1, e2, if_pos c, if_pos (hc.mp c)]
        exact ⟨rfl, fun _ => ⟨hm.symm, hm⟩, fun z => by omega⟩
      · rw [e1, e2, if_neg c, if_neg (fun z => c (hc.mpr z))]
        exact ⟨i1, i2, i3⟩
    · rw [e1, e2, if_neg (fun z => hb z.1), if_neg (fun z => hb (by rw [← hfr]; exact z.1))]
      exact ⟨i1, i2, i3⟩
theorem RS_pc {p : Nat → Nat → Nat} {m : Nat → Nat} (hp : Al p) (hw : Wf p) (hr : RS p m) {w : Nat} (h0 : m 0 = p 9 0) : plc p w (p 9 0) = if sfm m w 64 = 0 then -5 else nI (if m 0 = 1 then sfm m w 64 - 1 + m (10 + (sfm m w 64 - 1)) - w else sfm m w 64 - 1) := by
  obtain ⟨i1, i2, i3⟩ := RS_pl hp hw hr (w := w) h0 64 (Nat.le_refl _)
  unfold plc
  rw [i1]
  by_cases hz : sfm m w 64 = 0
  · rw [if_neg (fun z => z.2 hz), hz, if_pos rfl]
    rfl
  · rw [if_neg hz, (i2 hz).1]
    by_cases c : p 9 0 = 1
    · rw [if_pos ⟨c, hz⟩, if_pos (by omega)]
    · rw [if_neg (fun z => c z.1), if_neg (by omega)]
      unfold fI
      rw [if_neg hz]
theorem sfm_b {m : Nat → Nat} {w : Nat} : ∀ n, sfm m w n ≠ 0 → sfm m w n ≤ n ∧ mfr m (sfm m w n - 1) = true ∧ w ≤ m (10 + (sfm m w n - 1))
  | 0, h => absurd rfl h
  | n + 1, h => by
    have e2 : sfm m w (n + 1) = if mfr m n = true ∧ w ≤ m (10 + n) ∧ (sfm m w n = 0 ∨ m (10 + n) < m (10 + (sfm m w n - 1)) ∨ (m (10 + n) = m (10 + (sfm m w n - 1)) ∧ m 0 = 1)) then n + 1 else sfm m w n := rfl
    rw [e2] at h ⊢
    split
    · rename_i c
      exact ⟨Nat.le_refl _, c.1, c.2.1⟩
    · rename_i c
      rw [if_neg c] at h
      have := sfm_b n h
      exact ⟨by omega, this.2⟩
theorem sfm_0 {m : Nat → Nat} {w : Nat} : ∀ n, sfm m w n = 0 ↔ ∀ i, i < n → ¬ (mfr m i = true ∧ w ≤ m (10 + i))
  | 0 => ⟨fun _ i hi => absurd hi (by omega), fun _ => rfl⟩
  | n + 1 => by
    have e2 : sfm m w (n + 1) = if mfr m n = true ∧ w ≤ m (10 + n) ∧ (sfm m w n = 0 ∨ m (10 + n) < m (10 + (sfm m w n - 1)) ∨ (m (10 + n) = m (10 + (sfm m w n - 1)) ∧ m 0 = 1)) then n + 1 else sfm m w n := rfl
    rw [e2]
    constructor
    · intro h i hi
      split at h
      · omega
      · rename_i c
        have ih := (sfm_0 n).mp h
        rcases Nat.lt_or_ge i n with z | z
        · exact ih i z
        · have : i = n := by omega
          subst this
          rintro ⟨y1, y2⟩
          exact c ⟨y1, y2, Or.inl h⟩
    · intro h
      rw [if_neg (fun z => h n (by omega) ⟨z.1, z.2.1⟩)]
      exact (sfm_0 n).mpr (fun i hi => h i (by omega))
theorem mxf_lt {q : Nat → Nat} {w : Nat} (hw : 0 < w) : ∀ n, mxf q n < w ↔ ∀ i, i < n → q i < w
  | 0 => ⟨fun _ i hi => absurd hi (by omega), fun _ => hw⟩
  | n + 1 => by
    have e : mxf q (n + 1) = if mxf q n < q n then q n else mxf q n := rfl
    have ih := mxf_lt hw (q := q) n
    rw [e]
    constructor
    · intro h i hi
      have h1 : mxf q n < w ∧ q n < w := by
        split at h <;> omega
      rcases Nat.lt_or_ge i n with z | z
      · exact ih.mp h1.1 i z
      · have : i = n := by omega
        rw [this]
        exact h1.2
    · intro h
      have h1 := ih.mpr (fun i hi => h i (by omega))
      have h2 := h n (by omega)
      split <;> omega
theorem RS_gw {p : Nat → Nat → Nat} {m : Nat → Nat} (hp : Al p) (hr : RS p m) {w : Nat} (hw : 0 < w) : sfm m w 64 = 0 ↔ gS p < w := by
  rw [← RS_gS hp hr, sfm_0]
  unfold gfM
  rw [mxf_lt hw]
  constructor
  · intro h i hi
    have := h i hi
    by_cases c : mfr m i = true
    · rw [if_pos c]
      rcases Nat.lt_or_ge (m (10 + i)) w with z | z
      · exact z
      · exact absurd ⟨c, z⟩ this
    · rw [if_neg c]
      exact hw
  · rintro h i hi ⟨c, d⟩
    have := h i hi
    rw [if_pos c] at this
    omega
theorem RS_lk {p : Nat → Nat → Nat} {m : Nat → Nat} (hp : Al p) (hw : Wf p) (hr : RS p m) {n : Nat} (hn : n ≤ 64) : wsM m n = lk p (szf n) := by
  have hs := szf_le hn
  unfold wsM lk
  rw [RS_cF hp hw hr]
  by_cases c : cF p < szf n
  · rw [if_pos c, if_pos c]
  · rw [if_neg c, if_neg c]
    by_cases g : gS p < szf n
    · rw [if_pos g, if_pos ((RS_gw hp hr hs.2).mpr g)]
    · rw [if_neg g, if_neg (fun z => g ((RS_gw hp hr hs.2).mp z))]
