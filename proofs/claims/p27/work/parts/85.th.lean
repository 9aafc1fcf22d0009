

-- needs P<=45 84.th
theorem pigeon : ∀ (n k : Nat) (f : Nat → Nat), (∀ i, i < k → f i < n) → (∀ i j, i < k → j < k → f i = f j → i = j) → k ≤ n
  | 0, k, f, h1, _ => by
    rcases Nat.eq_zero_or_pos k with z | z
    · omega
    · have := h1 0 z
      omega
  | n + 1, k, f, h1, h2 => by
    by_cases hx : ∃ i, i < k ∧ f i = n
    · obtain ⟨i0, hi0, hf0⟩ := hx
      have hk : 0 < k := by omega
      have := pigeon n (k - 1) (fun i => if i = i0 then f (k - 1) else f i) (fun i hi => by
        try dsimp only
        split
        · rename_i e
          have a := h1 (k - 1) (by omega)
          rcases Nat.lt_or_ge (f (k - 1)) n with z | z
          · exact z
          · have b := h2 (k - 1) i0 (by omega) hi0 (by omega)
            omega
        · rename_i e
          have a := h1 i (by omega)
          rcases Nat.lt_or_ge (f i) n with z | z
          · exact z
          · have b := h2 i i0 (by omega) hi0 (by omega)
            omega) (fun i j hi hj e => by
        try dsimp only at e
        split at e
        · split at e
          · omega
          · have := h2 (k - 1) j (by omega) (by omega) e
            omega
        · split at e
          · have := h2 i (k - 1) (by omega) (by omega) e
            omega
          · exact h2 i j (by omega) (by omega) e)
      omega
    · have := pigeon n k f (fun i hi => by
        have a := h1 i hi
        rcases Nat.lt_or_ge (f i) n with z | z
        · exact z
        · exact absurd ⟨i, hi, by omega⟩ hx) h2
      omega
/-- the guests: x is the one whose days may be used up -/
def Gs (p : Nat → Nat → Nat) (B x : Nat) : Prop := (∀ g, g < 12 → p 2 g ≤ 64 ∧ p 3 g < 64 ∧ p 4 g ≤ 99 ∧ p 5 g ≤ 1 ∧ p 6 g ≤ B ∧ p 7 g ≤ 9 ∧ (0 < p 2 g → p 3 g % p 0 (p 3 g) = 0 ∧ p 1 (p 3 g) = g + 2 ∧ p 0 (p 3 g) = szf (p 2 g) ∧ (g ≠ x → 1 ≤ p 4 g) ∧ p 7 g = 0)) ∧ ∀ r, r < 64 → p 1 r < 14 ∧ (2 ≤ p 1 r → 0 < p 2 (p 1 r - 2) ∧ p 3 (p 1 r - 2) = fst p r)
def Qu (p : Nat → Nat → Nat) : Prop := p 10 0 ≤ 64 ∧ (∀ j, j < p 10 0 → p 8 j < 64 ∧ p 8 j % p 0 (p 8 j) = 0 ∧ p 1 (p 8 j) = 0) ∧ (∀ i j, i < p 10 0 → j < p 10 0 → p 8 i = p 8 j → i = j) ∧ (0 < p 10 0 → p 10 1 < p 0 (p 8 0)) ∧ (p 10 0 = 0 → p 10 1 = 0)
def Sg (p : Nat → Nat → Nat) : Prop := p 9 0 ≤ 1 ∧ 1 ≤ p 9 1 ∧ p 9 1 ≤ 64 ∧ p 9 2 ≤ 9
def InX (p : Nat → Nat → Nat) (B x : Nat) : Prop := Al p ∧ Nf p ∧ Gs p B x ∧ Qu p ∧ Sg p ∧ Nm p
def Inv (p : Nat → Nat → Nat) (B : Nat) : Prop := InX p B 12
def RQ (p : Nat → Nat → Nat) (m : Nat → Nat) : Prop := m 9 = p 10 0 ∧ m 7 = p 10 7 ∧ ∀ j, j < p 10 0 → m (202 + j) = p 8 j ∧ m (138 + p 8 j) = if j = 0 then p 10 1 else 0
def RH (p : Nat → Nat → Nat) (m dl : Nat → Nat) : Prop := m 6 = p 10 5 ∧ m 8 = p 10 6 ∧ ∀ h, h < 12 → m (266 + 7 * h) = (if 0 < p 2 h then 1 else 0) ∧ m (266 + 7 * h + 6) = p 7 h + dl h ∧ m (266 + 7 * h + 4) ≤ 1 ∧ (0 < p 2 h → m (266 + 7 * h + 1) = p 2 h ∧ m (266 + 7 * h + 2) = p 3 h ∧ m (266 + 7 * h + 3) = p 4 h ∧ m (266 + 7 * h + 4) = p 5 h ∧ m (266 + 7 * h + 5) = p 6 h)
def RG (p : Nat → Nat → Nat) (m : Nat → Nat) : Prop := m 0 = p 9 0 ∧ m 1 = p 9 1 ∧ m 2 = p 9 2 ∧ m 3 = p 10 2
def Rl (p : Nat → Nat → Nat) (m dl : Nat → Nat) : Prop := RS p m ∧ RQ p m ∧ RH p m dl ∧ RG p m
def Rel (p : Nat → Nat → Nat) (m : Nat → Nat) : Prop := Rl p m (fun _ => 0)
theorem InX_wf {p : Nat → Nat → Nat} {B x : Nat} (h : InX p B x) : Wf p := fun r hr => ⟨(h.1 r hr).1, (h.2.2.1.2 r hr).1⟩
theorem InX_hb {p : Nat → Nat → Nat} {B x : Nat} (h : InX p B x) (hB : B < 1000000) : Hb p := fun g hg => by
  have := h.2.2.1.1 g hg
  omega
theorem InX_w {p : Nat → Nat → Nat} {B x : Nat} (h : InX p B 12) : InX p B x := by
  obtain ⟨a, b, c, d, e, f⟩ := h
  refine ⟨a, b, ⟨fun g hg => ?_, c.2⟩, d, e, f⟩
  have := c.1 g hg
  refine ⟨this.1, this.2.1, this.2.2.1, this.2.2.2.1, this.2.2.2.2.1, this.2.2.2.2.2.1, fun h0 => ?_⟩
  have := this.2.2.2.2.2.2 h0
  exact ⟨this.1, this.2.1, this.2.2.1, fun _ => this.2.2.2.1 (by omega), this.2.2.2.2⟩
theorem Rl_sb {p : Nat → Nat → Nat} {m dl : Nat → Nat} {B x : Nat} (hi : InX p B x) (hr : Rl p m dl) (hd : ∀ h, dl h ≤ 1) : SB m := by
  refine ⟨fun r h => ⟨?_, hr.1.2.2.1 r h⟩, fun i h => ?_, fun g h => ?_⟩
  · rw [hr.1.1 r h]
    have := pow_le (hi.1 r h).1
    split <;> omega
  · have := hi.2.2.2.2.1
    have := hr.2.2.2
    unfold Sg at *
    unfold RG at *
    rcases (show i = 0 ∨ i = 1 ∨ i = 2 by omega) with rfl | rfl | rfl <;> omega
  · have a := hr.2.2.1.2.2 g h
    have b := hi.2.2.1.1 g h
    have c := hd g
    refine ⟨?_, a.2.2.1, by omega⟩
    rw [a.1]
    split <;> omega
/-- a taken suite and the queue are less than 64 -/
theorem Qu_lt {p : Nat → Nat → Nat} (hq : Qu p) {a : Nat} (ha : a < 64) (h : p 1 a ≠ 0) : p 10 0 < 64 := by
  have := pigeon 64 (p 10 0 + 1) (fun i => if i < p 10 0 then p 8 i else a) (fun i hi => by
    try dsimp only
    split
    · exact (hq.2.1 i (by assumption)).1
    · exact ha) (fun i j hi hj e => by
    try dsimp only at e
    split at e
    · rename_i hi2
      split at e
      · exact hq.2.2.1 i j hi2 (by assumption) e
      · have := (hq.2.1 i hi2).2.2
        rw [e] at this
        exact absurd this h
    · split at e
      · rename_i hj2
        have := (hq.2.1 j hj2).2.2
        rw [← e] at this
        exact absurd this h
      · omega)
  omega
theorem so_0 {p : Nat → Nat → Nat} (hp : Al p) {a : Nat} (ha : a < 64) (h0 : a % p 0 a = 0) (i : Nat) : soilF p a 0 i = p 0 i := by
  unfold soilF
  rw [w2_ne (by omega), w2_ne (by omega), gv_0 hp ha h0]
theorem so_1 (p : Nat → Nat → Nat) (a i : Nat) : soilF p a 1 i = if a ≤ i ∧ i < a + p 0 a then 0 else p 1 i := by
  unfold soilF
  rw [w2_ne (by omega), w2_ne (by omega), gv_1]
theorem so_8 (p : Nat → Nat → Nat) (a i : Nat) : soilF p a 8 i = if i = p 10 0 then a else p 8 i := by
  unfold soilF
  rw [w2_ne (by omega), w2_sm, gv_n _ (by omega)]
theorem so_10 (p : Nat → Nat → Nat) (a i : Nat) : soilF p a 10 i = if i = 0 then p 10 0 + 1 else p 10 i := by
  unfold soilF
  rw [w2_sm, w2_ne (by omega), gv_n _ (by omega)]
theorem so_n (p : Nat → Nat → Nat) {a g : Nat} (h1 : 2 ≤ g) (h2 : g ≠ 8) (h3 : g ≠ 10) (i : Nat) : soilF p a g i = p g i := by
  unfold soilF
  rw [w2_ne h3, w2_ne h2, gv_n _ h1]
theorem so_Al {p : Nat → Nat → Nat} (hp : Al p) {a : Nat} (ha : a < 64) (h0 : a % p 0 a = 0) : Al (soilF p a) := by
  refine Al_p (gv_Al (h := 0) hp ha h0) (fun i => ?_) (fun i => ?_)
  · rw [so_0 hp ha h0, gv_0 hp ha h0]
  · rw [so_1, gv_1]
theorem so_Nf {p : Nat → Nat → Nat} (hp : Al p) (hn : Nf p) {a : Nat} (ha : a < 64) (h0 : a % p 0 a = 0) : Nf (soilF p a) := by
  refine Nf_p (gv_Nf (h := 0) hp (fun r hr h1 hj => ?_) ha h0 (by omega)) (fun i => ?_) (fun i => ?_)
  · rw [hn r hr h1] at hj
    cases hj
  · rw [so_0 hp ha h0, gv_0 hp ha h0]
  · rw [so_1, gv_1]
theorem so_Qu {p : Nat → Nat → Nat} (hp : Al p) (hq : Qu p) {a : Nat} (ha : a < 64) (h0 : a % p 0 a = 0) (h1 : p 1 a ≠ 0) : Qu (soilF p a) := by
  have hl := Qu_lt hq ha h1
  have hpa := pow_le (hp a ha).1
  obtain ⟨q1, q2, q3, q4, q5⟩ := hq
  have ff : fst p a = a := by unfold fst; rw [h0]; rfl
  have e0 : soilF p a 10 0 = p 10 0 + 1 := by rw [so_10, if_pos rfl]
  have e1 : soilF p a 10 1 = p 10 1 := by rw [so_10, if_neg (by omega)]
  refine ⟨by omega, fun j hj => ?_, fun i j hi hj e => ?_, fun _ => ?_, fun z => by omega⟩
  · rw [so_8, so_0 hp ha h0, so_1]
    by_cases c : j = p 10 0
    · rw [if_pos c, if_pos (by omega)]
      exact ⟨ha, h0, rfl⟩
    · rw [if_neg c]
      have := q2 j (by omega)
      refine ⟨this.1, this.2.1, ?_⟩
      split
      · rfl
      · exact this.2.2
  · rw [so_8, so_8] at e
    by_cases c : i = p 10 0
    · rw [if_pos c] at e
      by_cases d : j = p 10 0
      · omega
      · rw [if_neg d] at e
        have := (q2 j (by omega)).2.2
        rw [← e] at this
        exact absurd this h1
    · rw [if_neg c] at e
      by_cases d : j = p 10 0
      · rw [if_pos d] at e
        have := (q2 i (by omega)).2.2
        rw [e] at this
        exact absurd this h1
      · rw [if_neg d] at e
        exact q3 i j (by omega) (by omega) e
  · rw [e1, so_8, so_0 hp ha h0]
    by_cases c : 0 = p 10 0
    · rw [if_pos c, q5 c.symm]
      exact hpa.2
    · rw [if_neg c]
      exact q4 (by omega)
theorem so_RS {p : Nat → Nat → Nat} {m : Nat → Nat} (hp : Al p) (hr : RS p m) {a : Nat} (ha : a < 64) (h0 : a % p 0 a = 0) (h9 : m 9 < 64) : RS (soilF p a) (mdF m a) := by
  have := gv_RS (h := 0) hp hr ha h0
  have e : kd 0 = 2 := rfl
  rw [e] at this
  unfold mdF
  refine RS_p (RS_w1 (RS_w1 (RS_w1 this (by omega) (by omega) (by omega)) (by omega) (by omega) (by omega)) (by omega) (by omega) (by omega)) (fun i => ?_) (fun i => ?_) ?_ ?_
  · rw [so_0 hp ha h0, gv_0 hp ha h0]
  · rw [so_1, gv_1]
  · rw [so_10, if_neg (by omega), gv_n _ (by omega)]
  · rw [so_10, if_neg (by omega), gv_n _ (by omega)]
theorem so_RQ {p : Nat → Nat → Nat} {m : Nat → Nat} (hq : Qu p) (hr : RQ p m) {a : Nat} (ha : a < 64) (h1 : p 1 a ≠ 0) : RQ (soilF p a) (mdF m a) := by
  have hl := Qu_lt hq ha h1
  obtain ⟨r1, r2, r3⟩ := hr
  have e0 : soilF p a 10 0 = p 10 0 + 1 := by rw [so_10, if_pos rfl]
  have e1 : soilF p a 10 1 = p 10 1 := by rw [so_10, if_neg (by omega)]
  refine ⟨?_, ?_, fun j hj => ?_⟩
  · unfold mdF
    rw [w1_at, e0, r1]
  · unfold mdF
    rw [w1_ne (by omega), w1_ne (by omega), w1_ne (by omega), w1_ne (by omega), r2, so_10, if_neg (by omega)]
  · rw [so_8, e1]
    unfold mdF
    rw [w1_ne (by omega)]
    by_cases c : j = p 10 0
    · rw [if_pos c, r1, c, w1_at, w1_ne (by omega), w1_ne (by omega), w1_at]
      refine ⟨rfl, ?_⟩
      by_cases d : p 10 0 = 0
      · rw [if_pos d, hq.2.2.2.2 d]
      · rw [if_neg d]
    · rw [if_neg c, r1]
      have q2 := hq.2.1 j (by omega)
      have hne : p 8 j ≠ a := fun z => h1 (by rw [← z]; exact q2.2.2)
      rw [w1_ne (by omega), w1_ne (by omega), w1_ne (by omega), w1_ne (by omega), w1_ne (by omega), w1_ne (by omega), w1_ne (by omega)]
      exact r3 j (by omega)
theorem md_n (m : Nat → Nat) {a i : Nat} (h : m 9 < 64) (ha : a < 64) (hi : i < 7 ∨ i = 8 ∨ 266 ≤ i) : mdF m a i = m i := by
  unfold mdF
  rw [w1_ne (by omega), w1_ne (by omega), w1_ne (by omega), w1_ne (by omega)]
