

-- needs P<=45 90.th
/-- a row that tells a palace -/
def row (p : Nat → Nat → Nat) : Nat → Nat := fun i => if i < 3 then p 9 i else if i = 3 then p 10 2 else if i = 4 then p 10 3 else if i = 5 then p 10 4 else if i = 6 then p 10 5 else if i = 7 then p 10 7 else if i = 8 then p 10 6 else if i = 9 then p 10 0
  else if i < 74 then (if (i - 10) % p 0 (i - 10) = 0 then p 0 (i - 10) else 0) else if i < 138 then kd (p 1 (i - 74)) else if i < 202 then (if i - 138 = p 8 0 then p 10 1 else 0) else if i < 266 then p 8 (i - 202)
  else if (i - 266) % 7 = 0 then (if 0 < p 2 ((i - 266) / 7) then 1 else 0) else if (i - 266) % 7 = 1 then p 2 ((i - 266) / 7) else if (i - 266) % 7 = 2 then p 3 ((i - 266) / 7) else if (i - 266) % 7 = 3 then p 4 ((i - 266) / 7) else if (i - 266) % 7 = 4 then p 5 ((i - 266) / 7) else if (i - 266) % 7 = 5 then p 6 ((i - 266) / 7) else p 7 ((i - 266) / 7)
theorem row_h (p : Nat → Nat → Nat) (h v : Nat) (hv : v < 7) : row p (266 + 7 * h + v) = if v = 0 then (if 0 < p 2 h then 1 else 0) else if v = 1 then p 2 h else if v = 2 then p 3 h else if v = 3 then p 4 h else if v = 4 then p 5 h else if v = 5 then p 6 h else p 7 h := by
  unfold row
  have e1 : (266 + 7 * h + v - 266) % 7 = v := by omega
  have e2 : (266 + 7 * h + v - 266) / 7 = h := by omega
  rw [if_neg (by omega), if_neg (by omega), if_neg (by omega), if_neg (by omega), if_neg (by omega), if_neg (by omega), if_neg (by omega), if_neg (by omega), if_neg (by omega), if_neg (by omega), if_neg (by omega), if_neg (by omega), e1, e2]
theorem row_rel {p : Nat → Nat → Nat} {B x : Nat} (h : InX p B x) : Rel p (row p) := by
  obtain ⟨al, nf, gs, qu, sg, nm⟩ := h
  refine ⟨⟨fun r hr => ?_, fun r hr hz => ?_, fun r hr => ?_, rfl, rfl⟩, ⟨rfl, rfl, fun j hj => ?_⟩, ⟨rfl, rfl, fun g hg => ?_⟩, rfl, rfl, rfl, rfl⟩
  · unfold row
    rw [if_neg (by omega), if_neg (by omega), if_neg (by omega), if_neg (by omega), if_neg (by omega), if_neg (by omega), if_neg (by omega), if_neg (by omega), if_pos (by omega), show 10 + r - 10 = r by omega]
  · unfold row
    rw [if_neg (by omega), if_neg (by omega), if_neg (by omega), if_neg (by omega), if_neg (by omega), if_neg (by omega), if_neg (by omega), if_neg (by omega), if_neg (by omega), if_pos (by omega), show 74 + r - 74 = r by omega]
  · unfold row
    rw [if_neg (by omega), if_neg (by omega), if_neg (by omega), if_neg (by omega), if_neg (by omega), if_neg (by omega), if_neg (by omega), if_neg (by omega), if_neg (by omega), if_pos (by omega)]
    unfold kd
    split
    · omega
    · split <;> omega
  · have q1 := qu.1
    have qj := qu.2.1 j hj
    constructor
    · unfold row
      rw [if_neg (by omega), if_neg (by omega), if_neg (by omega), if_neg (by omega), if_neg (by omega), if_neg (by omega), if_neg (by omega), if_neg (by omega), if_neg (by omega), if_neg (by omega), if_neg (by omega), if_pos (by omega), show 202 + j - 202 = j by omega]
    · unfold row
      rw [if_neg (by omega), if_neg (by omega), if_neg (by omega), if_neg (by omega), if_neg (by omega), if_neg (by omega), if_neg (by omega), if_neg (by omega), if_neg (by omega), if_neg (by omega), if_pos (by omega), show 138 + p 8 j - 138 = p 8 j by omega]
      by_cases c : j = 0
      · rw [if_pos (by rw [c]), if_pos c]
      · rw [if_neg (fun z => c (qu.2.2.1 j 0 hj (by omega) z)), if_neg c]
  · have h0 := row_h p g 0 (by omega)
    have g5 := (gs.1 g hg).2.2.2.1
    rw [Nat.add_zero] at h0
    rw [h0, row_h p g 1 (by omega), row_h p g 2 (by omega), row_h p g 3 (by omega), row_h p g 4 (by omega), row_h p g 5 (by omega), row_h p g 6 (by omega)]
    exact ⟨rfl, rfl, g5, fun _ => ⟨rfl, rfl, rfl, rfl, rfl⟩⟩
theorem clS_inv {p : Nat → Nat → Nat} {B x : Nat} (h : InX p B x) : InX (clS p) B x := by
  unfold clS
  by_cases h0 : p 10 0 = 0
  · rw [if_pos h0]; exact h
  · rw [if_neg h0]
    split
    · rename_i c
      have := clk_inv (k := 1) h h0 c
      rw [show clk p 1 = clA (clk p 0) from (clA_clk p 0).symm, clk_0] at this
      exact this
    · exact (clC_all h (row_rel h) h0 rfl).1
theorem clF_inv : ∀ (n : Nat) {p : Nat → Nat → Nat} {B x : Nat}, InX p B x → InX (clF n p) B x
  | 0, _, _, _, h => h
  | n + 1, _, _, _, h => clF_inv n (clS_inv h)
theorem clF_s : ∀ (n : Nat) (p : Nat → Nat → Nat), clF (n + 1) p = clS (clF n p)
  | 0, _ => rfl
  | n + 1, p => clF_s n (clS p)
theorem clS_2 (p : Nat → Nat → Nat) : clS p 10 2 = p 10 2 ∧ ∀ i, clS p 9 i = p 9 i := by
  unfold clS
  by_cases h0 : p 10 0 = 0
  · rw [if_pos h0]
    exact ⟨rfl, fun _ => rfl⟩
  · rw [if_neg h0]
    split
    · have e : clA p = clk p 1 := by rw [← clA_clk, clk_0]
      rw [e]
      exact ⟨by rw [clk_10, if_neg (by omega), if_neg (by omega)], fun i => clk_n p 1 (by omega) i⟩
    · have hrn : ∀ (a : Nat) (n : Nat) (q : Nat → Nat → Nat) (F i : Nat), 2 ≤ F → ¬ (F = 10 ∧ i = 4) → rel a n q F i = q F i := by
        intro a n
        induction n with
        | zero => intro q F i _ _; rfl
        | succ n ih =>
          intro q F i hF hc
          unfold rel
          split
          · rw [ih _ F i hF hc, jn_n hF hc]
          · rfl
      unfold clC
      refine ⟨?_, fun i => ?_⟩
      · rw [clB_10, if_neg (by omega), if_neg (by omega), if_neg (by omega), hrn _ _ _ _ _ (by omega) (by omega), gv_n _ (by omega)]
      · rw [clB_n _ (by omega) (by omega), hrn _ _ _ _ _ (by omega) (by omega), gv_n _ (by omega)]
theorem clF_2 : ∀ (n : Nat) (p : Nat → Nat → Nat), clF n p 10 2 = p 10 2 ∧ ∀ i, clF n p 9 i = p 9 i
  | 0, _ => ⟨rfl, fun _ => rfl⟩
  | n + 1, p => by
    have a := clF_2 n (clS p)
    have b := clS_2 p
    exact ⟨a.1.trans b.1, fun i => (a.2 i).trans (b.2 i)⟩
theorem ck_n (p : Nat → Nat → Nat) (n : Nat) {F : Nat} (h : F ≠ 7) (i : Nat) : ck p n F i = p F i := if_neg (fun z => h z.1)
theorem ck_inv {p : Nat → Nat → Nat} {B : Nat} (h : Inv p B) : Inv (ck p 12) B := by
  obtain ⟨al, nf, gs, qu, sg, nm⟩ := h
  have d : ∀ F, F ≠ 7 → ∀ i, ck p 12 F i = p F i := fun F hF i => ck_n p 12 hF i
  have d7 : ∀ i, ck p 12 7 i = if i < 12 then p 7 i - 1 else p 7 i := fun i => by
    unfold ck
    by_cases c : i < 12
    · rw [if_pos ⟨rfl, c⟩, if_pos c]
    · rw [if_neg (fun z => c z.2), if_neg c]
  refine ⟨Al_p al (d 0 (by omega)) (d 1 (by omega)), Nf_p nf (d 0 (by omega)) (d 1 (by omega)), ⟨fun g hg => ?_, fun r hr => ?_⟩, Qu_p qu (d 0 (by omega)) (d 1 (by omega)) (d 8 (by omega)) (d 10 (by omega) 0) (d 10 (by omega) 1), Sg_p sg (d 9 (by omega)), ⟨fun i hi => ?_, fun i hi => ?_, fun i hi => ?_⟩⟩
  · have := gs.1 g hg
    rw [d 2 (by omega), d 3 (by omega), d 4 (by omega), d 5 (by omega), d 6 (by omega), d7, if_pos hg, d 0 (by omega), d 1 (by omega)]
    refine ⟨this.1, this.2.1, this.2.2.1, this.2.2.2.1, this.2.2.2.2.1, by omega, fun z => ?_⟩
    have := this.2.2.2.2.2.2 z
    exact ⟨this.1, this.2.1, this.2.2.1, this.2.2.2.1, by omega⟩
  · rw [d 1 (by omega), d 2 (by omega), d 3 (by omega)]
    have := gs.2 r hr
    refine ⟨this.1, fun z => ?_⟩
    have := this.2 z
    unfold fst at this ⊢
    rw [d 0 (by omega)]
    exact this
  · rw [d 0 (by omega), d 1 (by omega), d 8 (by omega)]
    exact nm.1 i hi
  · rw [d 2 (by omega), d 3 (by omega), d 4 (by omega), d 5 (by omega), d 6 (by omega), d7, if_neg (by omega)]
    exact nm.2.1 i hi
  · rw [d 9 (by omega)]
    exact nm.2.2 i hi
/-- a guest's days -/
theorem w4_inv {p : Nat → Nat → Nat} {B g v x : Nat} (h : Inv p B) (hg : g < 12) (hv : v ≤ 99) (hx : x = g ∨ 1 ≤ v) : InX (w2 p 4 g v) B x := by
  obtain ⟨al, nf, gs, qu, sg, nm⟩ := h
  have d : ∀ F, F ≠ 4 → ∀ i, w2 p 4 g v F i = p F i := fun F hF i => w2_ne hF i
  refine ⟨Al_p al (d 0 (by omega)) (d 1 (by omega)), Nf_p nf (d 0 (by omega)) (d 1 (by omega)), ⟨fun k hk => ?_, fun r hr => ?_⟩, Qu_p qu (d 0 (by omega)) (d 1 (by omega)) (d 8 (by omega)) (d 10 (by omega) 0) (d 10 (by omega) 1), Sg_p sg (d 9 (by omega)), Nm_w2 nm (by omega) (fun _ => hg) (by omega)⟩
  · have := gs.1 k hk
    rw [d 2 (by omega), d 3 (by omega), d 5 (by omega), d 6 (by omega), d 7 (by omega), d 0 (by omega), d 1 (by omega), w2_sm]
    refine ⟨this.1, this.2.1, ?_, this.2.2.2.1, this.2.2.2.2.1, this.2.2.2.2.2.1, fun z => ?_⟩
    · split
      · exact hv
      · exact this.2.2.1
    · have := this.2.2.2.2.2.2 z
      refine ⟨this.1, this.2.1, this.2.2.1, fun y => ?_, this.2.2.2.2⟩
      split
      · omega
      · exact this.2.2.2.1 (by omega)
  · rw [d 1 (by omega), d 2 (by omega), d 3 (by omega)]
    have := gs.2 r hr
    refine ⟨this.1, fun z => ?_⟩
    have := this.2 z
    unfold fst at this ⊢
    rw [d 0 (by omega)]
    exact this
theorem day_inv {p : Nat → Nat → Nat} {B g : Nat} (h : Inv p B) (hg : g < 12) : Inv (dayG p g) B := by
  have g4 := (h.2.2.1.1 g hg)
  unfold dayG
  split
  · exact h
  · split
    · exact w4_inv h hg (by omega) (Or.inr (by omega))
    · exact dis_inv (w4_inv (x := g) h hg (by omega) (Or.inl rfl)) (Or.inl rfl) hg (by rw [w2_ne (by omega)]; omega)
theorem lv_inv {p : Nat → Nat → Nat} {B : Nat} (h : Inv p B) : ∀ n, n ≤ 12 → Inv (lvN p n) B
  | 0, _ => h
  | n + 1, hn => day_inv (lv_inv h n (by omega)) (by omega)
theorem day_n (p : Nat → Nat → Nat) {g : Nat} : (∀ i, dayG p g 9 i = p 9 i) ∧ dayG p g 10 2 = p 10 2 ∧ ∀ i, i ≠ g → dayG p g 7 i = p 7 i := by
  unfold dayG
  split
  · exact ⟨fun _ => rfl, rfl, fun _ _ => rfl⟩
  · split
    · exact ⟨fun i => w2_ne (by omega) i, w2_ne (by omega) 2, fun i _ => w2_ne (by omega) i⟩
    · refine ⟨fun i => ?_, ?_, fun i hi => ?_⟩
      · rw [di_n _ (by omega) (by omega), so_n _ (by omega) (by omega) (by omega), w2_ne (by omega)]
      · rw [di_n _ (by omega) (by omega), so_10, if_neg (by omega), w2_ne (by omega)]
      · rw [di_7, if_neg hi, w2_ne (by omega)]
theorem lv_n (p : Nat → Nat → Nat) : ∀ n, (∀ i, lvN p n 9 i = p 9 i) ∧ lvN p n 10 2 = p 10 2 ∧ ∀ i, n ≤ i → lvN p n 7 i = p 7 i
  | 0 => ⟨fun _ => rfl, rfl, fun _ _ => rfl⟩
  | n + 1 => by
    have a := lv_n p n
    have b := day_n (lvN p n) (g := n)
    exact ⟨fun i => (b.1 i).trans (a.1 i), b.2.1.trans a.2.1, fun i hi => (b.2.2 i (by omega)).trans (a.2.2 i (by omega))⟩
theorem passF_inv {p : Nat → Nat → Nat} {B : Nat} (h : Inv p B) : Inv (passF p) B := by
  have h1 := clF_inv (p 9 1) (lv_inv (ck_inv h) 12 (by omega))
  obtain ⟨al, nf, gs, qu, sg, nm⟩ := h1
  have d : ∀ F, F ≠ 10 → ∀ i, passF p F i = clF (p 9 1) (lvN (ck p 12) 12) F i := fun F hF i => w2_ne hF i
  refine ⟨Al_p al (d 0 (by omega)) (d 1 (by omega)), Nf_p nf (d 0 (by omega)) (d 1 (by omega)), ⟨fun k hk => ?_, fun r hr => ?_⟩, Qu_p qu (d 0 (by omega)) (d 1 (by omega)) (d 8 (by omega)) (w2_ni (by omega)) (w2_ni (by omega)), Sg_p sg (d 9 (by omega)), Nm_w2 nm (by omega) (by omega) (by omega)⟩
  · rw [d 2 (by omega), d 3 (by omega), d 4 (by omega), d 5 (by omega), d 6 (by omega), d 7 (by omega), d 0 (by omega), d 1 (by omega)]
    exact gs.1 k hk
  · rw [d 1 (by omega), d 2 (by omega), d 3 (by omega)]
    have := gs.2 r hr
    refine ⟨this.1, fun z => ?_⟩
    have := this.2 z
    unfold fst at this ⊢
    rw [d 0 (by omega)]
    exact this
theorem inv_pok {p : Nat → Nat → Nat} {B : Nat} (h : Inv p B) (hB : B < 1000000) : pok1 p := by
  have hc := ck_inv h
  have hb := InX_hb h hB
  refine ⟨fun k hk => by have := h.2.2.1.1 k hk; omega, h.2.2.2.2.1.2.2.1, fun n => ?_, ?_, fun n hn => ?_, fun k hk => ?_⟩
  · rw [(lv_n _ n).1, ck_n p 12 (by omega)]
  · rw [(clF_2 _ _).1, (lv_n _ 12).2.1, ck_n p 12 (by omega)]
  · have hi := lv_inv hc n (by omega)
    refine ⟨InX_hb hi hB, fun z => ?_⟩
    have gg := hi.2.2.1.1 n hn
    have g2 := gg.2.2.2.2.2.2 z
    have al := Al_f hi.1 gg.2.1
    have hl := pow_le (hi.1 _ gg.2.1).1
    have hz : fst (lvN (ck p 12) n) (lvN (ck p 12) n 3 n) = lvN (ck p 12) n 3 n := by unfold fst; rw [g2.1]; rfl
    exact ⟨g2.2.2.2.1 (by omega), by omega, hl.2, Qu_lt hi.2.2.2.1 gg.2.1 (by omega)⟩
  · have hi := clF_inv k (lv_inv hc 12 (by omega))
    have hq := hi.2.2.2.1
    refine ⟨InX_wf hi, hq.1, ?_, fun z => ?_⟩
    · rcases Nat.eq_zero_or_pos (clF k (lvN (ck p 12) 12) 10 0) with y | y
      · have := hq.2.2.2.2 y
        omega
      · have := hq.2.2.2.1 y
        have q0 := hq.2.1 0 y
        have := pow_le (hi.1 _ q0.1).1
        omega
    · have q0 := hq.2.1 0 z
      exact ⟨q0.1, blk_64 (hi.1 _ q0.1).1 q0.2.1 q0.1⟩
theorem psN_inv {p : Nat → Nat → Nat} {B : Nat} (h : Inv p B) : ∀ n, Inv (psN p n) B
  | 0 => h
  | n + 1 => passF_inv (psN_inv h n)
