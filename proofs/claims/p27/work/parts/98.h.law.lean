

theorem los_inv {p : Nat → Nat → Nat} {B j : Nat} (h : Inv p B) (hj : j < 12) : Inv (losF p j) B := by
  obtain ⟨al, nf, gs, qu, sg, nm⟩ := h
  have d : ∀ F, F ≠ 5 → F ≠ 10 → ∀ i, losF p j F i = p F i := fun F a b i => by unfold losF; rw [w2_ne b, w2_ne a]
  have d5 : ∀ i, losF p j 5 i = if i = j then 1 else p 5 i := fun i => by unfold losF; rw [w2_ne (by omega), w2_sm]
  have d10 : ∀ i, i ≠ 6 → losF p j 10 i = p 10 i := fun i a => by unfold losF; rw [w2_ni a, w2_ne (by omega)]
  refine ⟨Al_p al (d 0 (by omega) (by omega)) (d 1 (by omega) (by omega)), Nf_p nf (d 0 (by omega) (by omega)) (d 1 (by omega) (by omega)), ⟨fun g hg => ?_, fun r hr => ?_⟩, Qu_p qu (d 0 (by omega) (by omega)) (d 1 (by omega) (by omega)) (d 8 (by omega) (by omega)) (d10 0 (by omega)) (d10 1 (by omega)), Sg_p sg (d 9 (by omega) (by omega)), Nm_w2 (Nm_w2 nm (by omega) (fun _ => hj) (by omega)) (by omega) (by omega) (by omega)⟩
  · have := gs.1 g hg
    rw [d 2 (by omega) (by omega), d 3 (by omega) (by omega), d 4 (by omega) (by omega), d5, d 6 (by omega) (by omega), d 7 (by omega) (by omega), d 0 (by omega) (by omega), d 1 (by omega) (by omega)]
    refine ⟨this.1, this.2.1, this.2.2.1, ?_, this.2.2.2.2⟩
    split
    · omega
    · exact this.2.2.2.1
  · rw [d 1 (by omega) (by omega), d 2 (by omega) (by omega), d 3 (by omega) (by omega)]
    have := gs.2 r hr
    refine ⟨this.1, fun y => ?_⟩
    have := this.2 y
    unfold fst at this ⊢
    rw [d 0 (by omega) (by omega)]
    exact this
theorem set_inv {p : Nat → Nat → Nat} {B j y : Nat} (h : Inv p B) (hj : j ≤ 2) (hy : (if j = 1 then 1 else 0) ≤ y ∧ y ≤ (if j = 0 then 1 else if j = 1 then 64 else 9)) : Inv (w2 p 9 j y) B := by
  obtain ⟨al, nf, gs, qu, sg, nm⟩ := h
  have d : ∀ F, F ≠ 9 → ∀ i, w2 p 9 j y F i = p F i := fun F a i => w2_ne a i
  refine ⟨Al_p al (d 0 (by omega)) (d 1 (by omega)), Nf_p nf (d 0 (by omega)) (d 1 (by omega)), ⟨fun g hg => ?_, fun r hr => ?_⟩, Qu_p qu (d 0 (by omega)) (d 1 (by omega)) (d 8 (by omega)) (d 10 (by omega) 0) (d 10 (by omega) 1), ?_, Nm_w2 nm (by omega) (by omega) (by omega)⟩
  · have := gs.1 g hg
    rw [d 2 (by omega), d 3 (by omega), d 4 (by omega), d 5 (by omega), d 6 (by omega), d 7 (by omega), d 0 (by omega), d 1 (by omega)]
    exact this
  · rw [d 1 (by omega), d 2 (by omega), d 3 (by omega)]
    have := gs.2 r hr
    refine ⟨this.1, fun z => ?_⟩
    have := this.2 z
    unfold fst at this ⊢
    rw [d 0 (by omega)]
    exact this
  · unfold Sg at *
    rw [w2_sm, w2_sm, w2_sm]
    rcases (show j = 0 ∨ j = 1 ∨ j = 2 by omega) with rfl | rfl | rfl
    · rw [if_pos rfl, if_neg (by omega), if_neg (by omega)]
      rw [if_neg (by omega), if_pos rfl] at hy
      omega
    · rw [if_neg (by omega), if_pos rfl, if_neg (by omega)]
      rw [if_pos rfl, if_neg (by omega), if_pos rfl] at hy
      omega
    · rw [if_neg (by omega), if_neg (by omega), if_pos rfl]
      rw [if_neg (by omega), if_neg (by omega), if_neg (by omega)] at hy
      omega
/-! THE LAW's arrays follow each change of the palace -/
theorem rl_T {p : Nat → Nat → Nat} {B n : Nat} {q f g e d : Nat → Nat} (h : Inv p B) (hr : RL p q f g e d (fun _ => 0)) (hn : n ≤ 64) (hc : chs p (szf n) 64 ≠ 0) : ∃ r k, (r < 64 ∧ r % p 0 r = 0 ∧ szf n ≤ p 0 r ∧ chs p (szf n) 64 = r + 100 * p 0 r ∧ szf n * 2 ^ k = p 0 r) ∧ (tkf p (szf n) r < 64 ∧ plc p (szf n) (p 9 0) = nI (tkf p (szf n) r)) ∧ ∀ G, Al (tkQ p (tkf p (szf n) r) (szf n) G) ∧ (∀ i, tkQ p (tkf p (szf n) r) (szf n) G 1 i = if tkf p (szf n) r ≤ i ∧ i < tkf p (szf n) r + szf n then G + 2 else p 1 i) ∧ (∀ i, tkf p (szf n) r ≤ i → i < tkf p (szf n) r + szf n → tkQ p (tkf p (szf n) r) (szf n) G 0 i = szf n) ∧ (∀ F i, 2 ≤ F → ¬ (F = 10 ∧ i = 3) → tkQ p (tkf p (szf n) r) (szf n) G F i = p F i) ∧ (∀ i, i < 64 → p 1 i ≠ 1 → tkQ p (tkf p (szf n) r) (szf n) G 0 i = p 0 i) ∧ (∀ i, tkf p (szf n) r ≤ i → i < tkf p (szf n) r + szf n → p 1 i = 1) ∧ RL (tkQ p (tkf p (szf n) r) (szf n) G) (w1 q 4 (q 4 + k)) (trn f (tkf p (szf n) r) (szf n)) g e d (fun _ => 0) := by
  have hw := InX_wf h
  have hz := szf_b hn
  obtain ⟨r, r1, r2, r3, r4, r5, r6⟩ := tk_at hw hc
  obtain ⟨k, hk6, hk⟩ := pw_k (hw r r1).1 (szf_pw n hn) r4
  have hrow := row_rel h
  have L := (RS_pl (w := szf n) (sd := p 9 0) h.1 hw hrow.1 hrow.2.2.2.1 64 (Nat.le_refl _)).1
  have hs : sfm (row p) (szf n) 64 ≠ 0 := fun y => hc (if_pos (L.trans y))
  obtain ⟨r', f', -, -, -, -, u5, u6, -, -, -, -, -, u12, u13⟩ := tk_use h hrow.1 hrow.2.2.2.1 hn hs
  have hal := Al_f h.1 r1
  have f0 : fst p r = r := by unfold fst; rw [r3]; rfl
  rw [f0] at hal
  have hF : tkf p (szf n) r < 64 ∧ r ≤ tkf p (szf n) r ∧ tkf p (szf n) r < r + p 0 r := by unfold tkf; split <;> omega
  have hff : f' = tkf p (szf n) r := by
    rw [r6] at u6
    exact ((nI_eq (by omega) (by omega)).mp u6).symm
  subst hff
  have hs2 := Al_s h.1 r1 (i := tkf p (szf n) r) (by omega) (by omega)
  refine ⟨r, k, ⟨r1, r3, r4, r5, hk⟩, ⟨hF.1, r6⟩, fun G => ?_⟩
  obtain ⟨v1, v2, -, v4, v5, v6, v7, v8, -⟩ := u13 G
  have t3 : tkQ p (tkf p (szf n) r) (szf n) G 10 3 = p 10 3 + k := by
    unfold tkQ
    rw [gv_n _ (by omega)]
    exact tkN_3 hF.1 (by omega) 6 p k h.1 (by rw [hs2.2.1]; exact r2) (by rw [hs2.1]; exact hk) hk6
  refine ⟨v1, v5, v7, v8, v6, u12, ?_⟩
  obtain ⟨⟨rf1, rf2⟩, ⟨⟨q0, q1, q2, q3⟩, q4, q5, q6, q7, q8, q9⟩, re, rd⟩ := hr
  generalize tkQ p (tkf p (szf n) r) (szf n) G = T at *
  generalize tkf p (szf n) r = F at *
  have n9 : ∀ i, T 9 i = p 9 i := fun i => v8 9 i (by omega) (by omega)
  have n10 : ∀ i, i ≠ 3 → T 10 i = p 10 i := fun i hi => v8 10 i (by omega) (by omega)
  refine ⟨⟨trn_fo rf1 _ _, fun i hi => ?_⟩, ⟨⟨?_, ?_, ?_, ?_⟩, ?_, ?_, ?_, ?_, ?_, ?_⟩, fun j hj => ?_, fun j hj => ?_⟩
  · rw [trn_fr, v5, rf2 i hi]
    by_cases c : F ≤ i ∧ i < F + szf n
    · rw [if_pos c, if_pos c, decide_eq_true (u12 i c.1 c.2), decide_eq_false (by omega)]
      rfl
    · rw [if_neg c, if_neg c]
  · rw [w1_ne (by omega), n9]; exact q0
  · rw [w1_ne (by omega), n9]; exact q1
  · rw [w1_ne (by omega), n9]; exact q2
  · rw [w1_ne (by omega), n10 _ (by omega)]; exact q3
  · rw [w1_at, t3, q4]
  · rw [w1_ne (by omega), n10 _ (by omega)]; exact q5
  · rw [w1_ne (by omega), n10 _ (by omega)]; exact q6
  · rw [w1_ne (by omega), n10 _ (by omega)]; exact q7
  · rw [w1_ne (by omega), n10 _ (by omega)]; exact q8
  · rw [w1_ne (by omega), n10 _ (by omega)]; exact q9
  · have hj2 := re j hj
    rw [v8 2 _ (by omega) (by omega), v8 3 _ (by omega) (by omega), v8 4 _ (by omega) (by omega), v8 5 _ (by omega) (by omega), v8 6 _ (by omega) (by omega), v8 7 _ (by omega) (by omega)]
    refine ⟨hj2.1, hj2.2.1, fun z => ?_⟩
    have gg := h.2.2.1.1 j hj
    rw [v6 (p 3 j) gg.2.1 (by have := (gg.2.2.2.2.2.2 z).2.1; omega)]
    exact hj2.2.2 z
  · rw [n10 _ (by omega)] at hj
    have uj := h.2.2.2.1.2.1 j hj
    rw [v8 8 _ (by omega) (by omega), n10 1 (by omega), v6 (p 8 j) uj.1 (by omega)]
    exact rd j hj
theorem rl_adm {p : Nat → Nat → Nat} {n y F K : Nat} {q f g e d : Nat → Nat} (hK : K < 12) (hn : 0 < n) (h7 : p 7 K = 0) (hT0 : tkQ p F (szf n) K 0 F = szf n) (hTn : ∀ G i, 2 ≤ G → ¬ (G = 10 ∧ i = 3) → tkQ p F (szf n) K G i = p G i) (hr : RL (tkQ p F (szf n) K) q f g e d (fun _ => 0)) : RL (admF p n y F K) (w1 q 6 (q 6 + 1)) f (w1 (w1 (w1 (w1 g (4 * K) 1) (4 * K + 1) n) (4 * K + 2) F) (4 * K + 3) y) (w1 (w1 (w1 e (4 * K) (szf n)) (4 * K + 1) 0) (4 * K + 2) 0) d (fun _ => 0) := by
  obtain ⟨⟨rf1, rf2⟩, ⟨⟨q0, q1, q2, q3⟩, q4, q5, q6, q7, q8, q9⟩, re, rd⟩ := hr
  have a0 := ad_lo p n y F K (F := 0) (by omega)
  have a1 := ad_lo p n y F K (F := 1) (by omega)
  have a7 := ad_lo p n y F K (F := 7) (by omega)
  have a8 := ad_lo p n y F K (F := 8) (by omega)
  have a9 := ad_lo p n y F K (F := 9) (by omega)
  have a10 := ad_10 p n y F K
  have h105 : tkQ p F (szf n) K 10 5 = p 10 5 := hTn 10 5 (by omega) (by omega)
  refine ⟨⟨rf1, fun r hr => by rw [a1]; exact rf2 r hr⟩, ⟨⟨?_, ?_, ?_, ?_⟩, ?_, ?_, ?_, ?_, ?_, ?_⟩, fun j hj => ?_, fun j hj => ?_⟩
  · rw [w1_ne (by omega), a9]; exact q0
  · rw [w1_ne (by omega), a9]; exact q1
  · rw [w1_ne (by omega), a9]; exact q2
  · rw [w1_ne (by omega), a10, if_neg (by omega)]; exact q3
  · rw [w1_ne (by omega), a10, if_neg (by omega)]; exact q4
  · rw [w1_ne (by omega), a10, if_neg (by omega)]; exact q5
  · rw [w1_at, a10, if_pos rfl, q6, h105]
  · rw [w1_ne (by omega), a10, if_neg (by omega)]; exact q7
  · rw [w1_ne (by omega), a10, if_neg (by omega)]; exact q8
  · rw [w1_ne (by omega), a10, if_neg (by omega)]; exact q9
  · rw [ad_2, ad_3, ad_4, ad_5, ad_6, a7, a0]
    have hj2 := re j hj
    by_cases c : j = K
    · subst c
      rw [if_pos rfl, if_pos rfl, if_pos rfl, if_pos rfl, if_pos rfl, if_pos hn]
      refine ⟨?_, ?_, fun _ => ⟨?_, ?_, ?_, ?_, ?_, ?_⟩⟩
      · rw [w1_ne (by omega), w1_ne (by omega), w1_ne (by omega), w1_at]
      · rw [w1_ne (by omega), w1_ne (by omega), w1_ne (by omega)]; exact hj2.2.1
      · rw [w1_ne (by omega), w1_ne (by omega), w1_at]
      · rw [w1_ne (by omega), w1_at]
      · rw [w1_at]
      · rw [w1_ne (by omega), w1_ne (by omega), w1_at, hT0]
      · rw [w1_ne (by omega), w1_at]
      · rw [w1_at]
    · rw [if_neg c, if_neg c, if_neg c, if_neg c, if_neg c]
      have en : ∀ i, 4 * j ≤ i → i < 4 * j + 4 → w1 (w1 (w1 (w1 g (4 * K) 1) (4 * K + 1) n) (4 * K + 2) F) (4 * K + 3) y i = g i ∧ w1 (w1 (w1 e (4 * K) (szf n)) (4 * K + 1) 0) (4 * K + 2) 0 i = e i := fun i i1 i2 => by
        rw [w1_ne (by omega), w1_ne (by omega), w1_ne (by omega), w1_ne (by omega), w1_ne (by omega), w1_ne (by omega), w1_ne (by omega)]
        exact ⟨rfl, rfl⟩
      rw [(en (4 * j) (by omega) (by omega)).1, (en (4 * j + 1) (by omega) (by omega)).1, (en (4 * j + 2) (by omega) (by omega)).1, (en (4 * j + 3) (by omega) (by omega)).1, (en (4 * j) (by omega) (by omega)).2, (en (4 * j + 1) (by omega) (by omega)).2, (en (4 * j + 2) (by omega) (by omega)).2, (en (4 * j + 3) (by omega) (by omega)).2]
      exact hj2
  · have a101 : admF p n y F K 10 1 = tkQ p F (szf n) K 10 1 := by rw [a10, if_neg (by omega)]
    rw [a10, if_neg (by omega)] at hj
    rw [a8, a0, a101]
    exact rd j hj
theorem rl_soil {T : Nat → Nat → Nat} {a : Nat} {q f g e d dl : Nat → Nat} (hA : Al T) (ha : a < 64) (h0 : a % T 0 a = 0) (h1 : T 1 a ≠ 1) (hz : T 10 0 = 0 → T 10 1 = 0) (hr : RL T q f g e d dl) : RL (soilF T a) (w1 q 9 (q 9 + 1)) f g e (w1 d (q 9) (a + T 0 a * 64)) dl := by
  obtain ⟨⟨rf1, rf2⟩, ⟨⟨q0, q1, q2, q3⟩, q4, q5, q6, q7, q8, q9⟩, re, rd⟩ := hr
  have f0 : fst T a = a := by unfold fst; rw [h0]; rfl
  have n0 : ∀ i, soilF T a 0 i = T 0 i := so_0 hA ha h0
  have nn : ∀ G, 2 ≤ G → G ≠ 8 → G ≠ 10 → ∀ i, soilF T a G i = T G i := fun G a1 a2 a3 i => so_n T a1 a2 a3 i
  have n10 : ∀ i, soilF T a 10 i = if i = 0 then T 10 0 + 1 else T 10 i := so_10 T a
  refine ⟨⟨rf1, fun r hr => ?_⟩, ⟨⟨?_, ?_, ?_, ?_⟩, ?_, ?_, ?_, ?_, ?_, ?_⟩, fun j hj => ?_, fun j hj => ?_⟩
  · rw [rf2 r hr, so_1]
    by_cases c : a ≤ r ∧ r < a + T 0 a
    · rw [if_pos c]
      have := (Al_s hA ha (i := r) (by omega) (by omega)).2.1
      rw [this]
      exact decide_eq_decide.mpr (by omega)
    · rw [if_neg c]
  · rw [w1_ne (by omega), nn 9 (by omega) (by omega) (by omega)]; exact q0
  · rw [w1_ne (by omega), nn 9 (by omega) (by omega) (by omega)]; exact q1
  · rw [w1_ne (by omega), nn 9 (by omega) (by omega) (by omega)]; exact q2
  · rw [w1_ne (by omega), n10, if_neg (by omega)]; exact q3
  · rw [w1_ne (by omega), n10, if_neg (by omega)]; exact q4
  · rw [w1_ne (by omega), n10, if_neg (by omega)]; exact q5
  · rw [w1_ne (by omega), n10, if_neg (by omega)]; exact q6
  · rw [w1_ne (by omega), n10, if_neg (by omega)]; exact q7
  · rw [w1_ne (by omega), n10, if_neg (by omega)]; exact q8
  · rw [w1_at, n10, if_pos rfl, q9]
  · rw [nn 2 (by omega) (by omega) (by omega), nn 3 (by omega) (by omega) (by omega), nn 4 (by omega) (by omega) (by omega), nn 5 (by omega) (by omega) (by omega), nn 6 (by omega) (by omega) (by omega), nn 7 (by omega) (by omega) (by omega), n0]
    exact re j hj
  · have n101 : soilF T a 10 1 = T 10 1 := by rw [n10]; exact if_neg (by omega)
    rw [n10, if_pos rfl] at hj
    rw [n101, n0, so_8]
    by_cases c : j = T 10 0
    · have : (if j = 0 then T 10 1 else 0) = 0 := by
        by_cases c2 : j = 0
        · rw [if_pos c2]
          exact hz (by omega)
        · exact if_neg c2
      rw [this, if_pos c, c, ← q9, w1_at, Nat.zero_mul, Nat.add_zero]
    · rw [if_neg c, w1_ne (by omega)]
      exact rd j (by omega)
theorem rl_reh {p : Nat → Nat → Nat} {B F x : Nat} {q f g e d : Nat → Nat} (h : Inv p B) (hx : x < 12) (h2 : 0 < p 2 x) (hA : Al (tkQ p F (szf (p 2 x)) x)) (hT1 : ∀ i, tkQ p F (szf (p 2 x)) x 1 i = if F ≤ i ∧ i < F + szf (p 2 x) then x + 2 else p 1 i) (hTF : ∀ i, F ≤ i → i < F + szf (p 2 x) → tkQ p F (szf (p 2 x)) x 0 i = szf (p 2 x)) (hFr : ∀ i, F ≤ i → i < F + szf (p 2 x) → p 1 i = 1) (hT0 : ∀ i, i < 64 → p 1 i ≠ 1 → tkQ p F (szf (p 2 x)) x 0 i = p 0 i) (hTn : ∀ G i, 2 ≤ G → ¬ (G = 10 ∧ i = 3) → tkQ p F (szf (p 2 x)) x G i = p G i) (hr : RL (tkQ p F (szf (p 2 x)) x) q f g e d (fun _ => 0)) : RL (rehF p F x) (w1 q 9 (q 9 + 1)) f (w1 g (4 * x + 2) F) (w1 e (4 * x + 2) (e (4 * x + 2) + 1)) (w1 d (q 9) (p 3 x + szf (p 2 x) * 64)) (fun _ => 0) := by
  have gg := h.2.2.1.1 x hx
  have g2 := gg.2.2.2.2.2.2 h2
  have hz := szf_b gg.1
  have t0 := hT0 (p 3 x) gg.2.1 (by omega)
  have t1 : tkQ p F (szf (p 2 x)) x 1 (p 3 x) = x + 2 := by
    rw [hT1]
    split
    · rfl
    · exact g2.2.1
  have hso := rl_soil (a := p 3 x) hA gg.2.1 (by rw [t0]; exact g2.1) (by rw [t1]; omega) (fun y => by rw [hTn 10 1 (by omega) (by omega)]; rw [hTn 10 0 (by omega) (by omega)] at y; exact h.2.2.2.1.2.2.2.2 y) hr
  rw [t0, g2.2.2.1] at hso
  have hsn : ∀ i, soilF (tkQ p F (szf (p 2 x)) x) (p 3 x) 0 i = tkQ p F (szf (p 2 x)) x 0 i := so_0 hA gg.2.1 (by rw [t0]; exact g2.1)
  have hT6 : soilF (tkQ p F (szf (p 2 x)) x) (p 3 x) 6 x = p 6 x := by rw [so_n _ (by omega) (by omega) (by omega), hTn 6 x (by omega) (by omega)]
  obtain ⟨⟨rf1, rf2⟩, rq, re, rd⟩ := hso
  have hn : ∀ G, G ≠ 3 → G ≠ 6 → ∀ i, rehF p F x G i = soilF (tkQ p F (szf (p 2 x)) x) (p 3 x) G i := fun G a b i => re_n p F x a b i
  refine ⟨⟨rf1, fun r hr => by rw [hn 1 (by omega) (by omega)]; exact rf2 r hr⟩, ?_, fun j hj => ?_, fun j hj => ?_⟩
  · unfold RQ0
    simp only [hn 9 (by omega) (by omega), hn 10 (by omega) (by omega)]
    exact rq
  · have hj2 := re j hj
    rw [hn 2 (by omega) (by omega), hn 4 (by omega) (by omega), hn 5 (by omega) (by omega), hn 7 (by omega) (by omega), re_3, re_6, hn 0 (by omega) (by omega)]
    by_cases c : j = x
    · subst c
      rw [if_pos rfl, if_pos rfl]
      refine ⟨by rw [w1_ne (by omega)]; exact hj2.1, by rw [w1_ne (by omega)]; exact hj2.2.1, fun z => ?_⟩
      have h3 := hj2.2.2 z
      refine ⟨by rw [w1_ne (by omega)]; exact h3.1, w1_at _ _ _, by rw [w1_ne (by omega)]; exact h3.2.2.1, ?_, by rw [w1_ne (by omega)]; exact h3.2.2.2.2.1, ?_⟩
      · rw [w1_ne (by omega), hsn, hTF F (by omega) (by omega), h3.2.2.2.1]
        have e3 : soilF (tkQ p F (szf (p 2 j)) j) (p 3 j) 3 j = p 3 j := by rw [so_n _ (by omega) (by omega) (by omega), hTn 3 j (by omega) (by omega)]
        rw [e3, hsn, t0]
        exact g2.2.2.1
      · rw [w1_at, h3.2.2.2.2.2, hT6]
    · rw [if_neg c, if_neg c]
      have en : ∀ i, 4 * j ≤ i → i < 4 * j + 4 → w1 g (4 * x + 2) F i = g i ∧ w1 e (4 * x + 2) (e (4 * x + 2) + 1) i = e i := fun i i1 i2 => by
        rw [w1_ne (by omega), w1_ne (by omega)]
        exact ⟨rfl, rfl⟩
      rw [(en (4 * j) (by omega) (by omega)).1, (en (4 * j + 1) (by omega) (by omega)).1, (en (4 * j + 2) (by omega) (by omega)).1, (en (4 * j + 3) (by omega) (by omega)).1, (en (4 * j) (by omega) (by omega)).2, (en (4 * j + 1) (by omega) (by omega)).2, (en (4 * j + 2) (by omega) (by omega)).2, (en (4 * j + 3) (by omega) (by omega)).2]
      have e3 : tkQ p F (szf (p 2 x)) x 3 j = soilF (tkQ p F (szf (p 2 x)) x) (p 3 x) 3 j := (so_n _ (by omega) (by omega) (by omega) j).symm
      have e6 : tkQ p F (szf (p 2 x)) x 6 j = soilF (tkQ p F (szf (p 2 x)) x) (p 3 x) 6 j := (so_n _ (by omega) (by omega) (by omega) j).symm
      rw [e3, e6]
      exact hj2
  · rw [hn 10 (by omega) (by omega)] at hj
    rw [hn 8 (by omega) (by omega), hn 0 (by omega) (by omega), hn 10 (by omega) (by omega)]
    exact rd j hj
theorem rl_lose {p : Nat → Nat → Nat} {x : Nat} {q f g e d : Nat → Nat} (hx : x < 12) (hr : RL p q f g e d (fun _ => 0)) : RL (losF p x) (w1 q 8 (q 8 + 1)) f g (w1 e (4 * x + 1) 1) d (fun _ => 0) := by
  obtain ⟨rf, ⟨⟨q0, q1, q2, q3⟩, q4, q5, q6, q7, q8, q9⟩, re, rd⟩ := hr
  have nn : ∀ G, G ≠ 5 → G ≠ 10 → ∀ i, losF p x G i = p G i := fun G a b i => by unfold losF; rw [w2_ne b, w2_ne a]
  have n10 : ∀ i, losF p x 10 i = if i = 6 then p 10 6 + 1 else p 10 i := fun i => by unfold losF; rw [w2_sm, w2_ne (by omega)]
  have n5 : ∀ i, losF p x 5 i = if i = x then 1 else p 5 i := fun i => by unfold losF; rw [w2_ne (by omega), w2_sm]
  refine ⟨⟨rf.1, fun r hr => by rw [nn 1 (by omega) (by omega)]; exact rf.2 r hr⟩, ⟨⟨?_, ?_, ?_, ?_⟩, ?_, ?_, ?_, ?_, ?_, ?_⟩, fun j hj => ?_, fun j hj => ?_⟩
  · rw [w1_ne (by omega), nn 9 (by omega) (by omega)]; exact q0
  · rw [w1_ne (by omega), nn 9 (by omega) (by omega)]; exact q1
  · rw [w1_ne (by omega), nn 9 (by omega) (by omega)]; exact q2
  · rw [w1_ne (by omega), n10, if_neg (by omega)]; exact q3
  · rw [w1_ne (by omega), n10, if_neg (by omega)]; exact q4
  · rw [w1_ne (by omega), n10, if_neg (by omega)]; exact q5
  · rw [w1_ne (by omega), n10, if_neg (by omega)]; exact q6
  · rw [w1_ne (by omega), n10, if_neg (by omega)]; exact q7
  · rw [w1_at, n10, if_pos rfl, q8]
  · rw [w1_ne (by omega), n10, if_neg (by omega)]; exact q9
  · have hj2 := re j hj
    have en : ∀ i, i ≠ 4 * x + 1 → w1 e (4 * x + 1) 1 i = e i := fun i h => w1_ne h
    rw [nn 2 (by omega) (by omega), nn 7 (by omega) (by omega), nn 3 (by omega) (by omega), nn 4 (by omega) (by omega), nn 0 (by omega) (by omega), nn 6 (by omega) (by omega), n5, en (4 * j) (by omega), en (4 * j + 2) (by omega), en (4 * j + 3) (by omega)]
    refine ⟨hj2.1, hj2.2.1, fun z => ?_⟩
    have h3 := hj2.2.2 z
    refine ⟨h3.1, h3.2.1, h3.2.2.1, h3.2.2.2.1, ?_, h3.2.2.2.2.2⟩
    by_cases c : j = x
    · subst c
      rw [w1_at, if_pos rfl]
    · rw [en _ (by omega), if_neg c]
      exact h3.2.2.2.2.1
  · have n101 : losF p x 10 1 = p 10 1 := by rw [n10, if_neg (by omega)]
    rw [n10, if_neg (by omega)] at hj
    rw [nn 8 (by omega) (by omega), nn 0 (by omega) (by omega), n101]
    exact rd j hj
theorem rl_set {p : Nat → Nat → Nat} {k v : Nat} {q f g e d : Nat → Nat} (hk : k < 3) (hr : RL p q f g e d (fun _ => 0)) : RL (w2 p 9 k v) (w1 q k v) f g e d (fun _ => 0) := by
  obtain ⟨rf, ⟨⟨q0, q1, q2, q3⟩, q4, q5, q6, q7, q8, q9⟩, re, rd⟩ := hr
  have nn : ∀ G, G ≠ 9 → ∀ i, w2 p 9 k v G i = p G i := fun G a i => w2_ne a i
  have n9 : ∀ i, w2 p 9 k v 9 i = if i = k then v else p 9 i := fun i => w2_sm _ _ _ _ _
  have e3 : ∀ i, i < 3 → q i = p 9 i → w1 q k v i = w2 p 9 k v 9 i := fun i hi hq => by
    rw [n9]
    unfold w1
    rw [hq]
  refine ⟨⟨rf.1, fun r hr => by rw [nn 1 (by omega)]; exact rf.2 r hr⟩, ⟨⟨e3 0 (by omega) q0, e3 1 (by omega) q1, e3 2 (by omega) q2, ?_⟩, ?_, ?_, ?_, ?_, ?_, ?_⟩, fun j hj => ?_, fun j hj => ?_⟩
  · rw [w1_ne (by omega), nn 10 (by omega)]; exact q3
  · rw [w1_ne (by omega), nn 10 (by omega)]; exact q4
  · rw [w1_ne (by omega), nn 10 (by omega)]; exact q5
  · rw [w1_ne (by omega), nn 10 (by omega)]; exact q6
  · rw [w1_ne (by omega), nn 10 (by omega)]; exact q7
  · rw [w1_ne (by omega), nn 10 (by omega)]; exact q8
  · rw [w1_ne (by omega), nn 10 (by omega)]; exact q9
  · rw [nn 2 (by omega), nn 7 (by omega), nn 3 (by omega), nn 4 (by omega), nn 0 (by omega), nn 5 (by omega), nn 6 (by omega)]
    exact re j hj
  · rw [nn 10 (by omega)] at hj
    rw [nn 8 (by omega), nn 0 (by omega), nn 10 (by omega)]
    exact rd j hj
theorem lose_n {p : Nat → Nat → Nat} {g e dl : Nat → Nat} (hr : RE p g e dl) (h5 : ∀ k, k < 12 → p 5 k ≤ 1) : ∀ n, n ≤ 12 → smf (fun k => g (4 * k) * e (4 * k + 1)) n = cnt (fun h => decide (0 < p 2 h) && decide (p 5 h = 1)) n
  | 0, _ => rfl
  | n + 1, hn => by
    rw [smfS, lose_n hr h5 n (by omega)]
    have hj := hr n (by omega)
    have h5n := h5 n (by omega)
    by_cases c : 0 < p 2 n
    · rw [hj.1, if_pos c, (hj.2.2 c).2.2.2.2.1, Nat.one_mul]
      by_cases c2 : p 5 n = 1
      · rw [cntT (by rw [decide_eq_true c, decide_eq_true c2]; rfl), c2]
      · rw [cntF (by rw [decide_eq_false c2, Bool.and_false])]
        omega
    · rw [hj.1, if_neg c, Nat.zero_mul, cntF (by rw [decide_eq_false c, Bool.false_and])]
      rfl
