

/-! Each dirty suite stands in the queue -/
def DQ (p : Nat → Nat → Nat) : Prop := ∀ r, r < 64 → p 1 r = 0 → ∃ j, j < p 10 0 ∧ p 8 j = fst p r
theorem dq_same {p p' : Nat → Nat → Nat} (h : DQ p) (h0 : ∀ r, p' 0 r = p 0 r) (h1 : ∀ r, p' 1 r = p 1 r) (h8 : ∀ j, p' 8 j = p 8 j) (h10 : p' 10 0 = p 10 0) : DQ p' := by
  intro r hr z
  rw [h1] at z
  obtain ⟨j, j1, j2⟩ := h r hr z
  refine ⟨j, by rw [h10]; exact j1, ?_⟩
  rw [h8, j2]
  unfold fst
  rw [h0]
theorem dq_soil {T : Nat → Nat → Nat} {a : Nat} (hA : Al T) (ha : a < 64) (h0 : a % T 0 a = 0) (h : DQ T) : DQ (soilF T a) := by
  intro r hr z
  have f0 : fst T a = a := by unfold fst; rw [h0]; rfl
  have e : fst (soilF T a) r = fst T r := by unfold fst; rw [so_0 hA ha h0]
  rw [so_1] at z
  rw [e, so_10, if_pos rfl]
  by_cases c : a ≤ r ∧ r < a + T 0 a
  · have := (Al_s hA ha (i := r) (by omega) (by omega)).2.2.1
    exact ⟨T 10 0, by omega, by rw [so_8, if_pos rfl]; omega⟩
  · rw [if_neg c] at z
    obtain ⟨j, j1, j2⟩ := h r hr z
    exact ⟨j, by omega, by rw [so_8, if_neg (by omega)]; exact j2⟩
theorem dq_dis {p : Nat → Nat → Nat} {B x k : Nat} (h : InX p B x) (hk : k < 12) (h0 : 0 < p 2 k) (hd : DQ p) : DQ (disF p k) := by
  have gg := h.2.2.1.1 k hk
  have g2 := gg.2.2.2.2.2.2 h0
  refine dq_same (dq_soil h.1 gg.2.1 g2.1 hd) (fun r => di_n p (by omega) (by omega) r) (fun r => di_n p (by omega) (by omega) r) (fun r => di_n p (by omega) (by omega) r) (di_n p (by omega) (by omega) 0)
theorem dq_T {p T : Nat → Nat → Nat} {F w G : Nat} (h : DQ p) (hT1 : ∀ i, T 1 i = if F ≤ i ∧ i < F + w then G + 2 else p 1 i) (hT0 : ∀ i, i < 64 → p 1 i ≠ 1 → T 0 i = p 0 i) (hTn : ∀ F i, 2 ≤ F → ¬ (F = 10 ∧ i = 3) → T F i = p F i) : DQ T := by
  intro r hr z
  rw [hT1] at z
  split at z
  · omega
  · obtain ⟨j, j1, j2⟩ := h r hr z
    refine ⟨j, by rw [hTn 10 0 (by omega) (by omega)]; exact j1, ?_⟩
    rw [hTn 8 j (by omega) (by omega), j2]
    unfold fst
    rw [hT0 r hr (by omega)]
theorem dq_clC {p : Nat → Nat → Nat} {B x : Nat} (h : InX p B x) (h0 : 0 < p 10 0) (hd : DQ p) : DQ (clC p (p 8 0)) := by
  have ha := h.1
  have qu := h.2.2.2.1
  have u0 := qu.2.1 0 h0
  have hpl := pow_le (ha (p 8 0) u0.1).1
  have f0 : fst p (p 8 0) = p 8 0 := by unfold fst; rw [u0.2.1]; rfl
  have h8 := fun j => qu.2.2.1 j 0
  generalize hA : p 8 0 = a at *
  have gal := gv_Al (h := 1) ha u0.1 u0.2.1
  have g1 := gv_1 p a (p 0 a) (p 0 a) 1
  have g0 := gv_0 (h := 1) ha u0.1 u0.2.1
  have ga1 : mkk p a (p 0 a) (p 0 a) 1 1 a = 1 := by rw [g1, if_pos ⟨by omega, by omega⟩]
  obtain ⟨r1, r2⟩ := rel_f u0.1 6 _ gal ga1
  obtain ⟨o1, -⟩ := rel_o u0.1 6 _ gal ga1
  have hq64 := qu.1
  intro r hr z
  have z1 : clC p a 1 r = if a ≤ r ∧ r < a + p 0 a then 1 else p 1 r := by
    unfold clC
    rw [clB_n _ (by omega) (by omega), r1, g1]
  rw [z1] at z
  split at z
  · omega
  · rename_i hno
    obtain ⟨j, j1, j2⟩ := hd r hr z
    have e0 : clC p a 0 r = p 0 r := by
      unfold clC
      rw [clB_n _ (by omega) (by omega), o1 r hr (by rw [g1, if_neg hno]; omega), g0]
    have hj0 : j ≠ 0 := by
      intro y
      subst y
      have al := Al_f ha hr
      have e1 := (Al_s ha hr (i := fst p r) (Nat.le_refl _) (by omega)).1
      rw [hA] at j2
      rw [← j2] at e1 al
      omega
    have e10 : clC p a 10 0 = p 10 0 - 1 := by
      unfold clC
      rw [clB_10, if_neg (by omega), if_pos rfl, r2 10 0 (by omega) (by omega), gv_n _ (by omega)]
    have e8 : clC p a 8 (j - 1) = p 8 j := by
      unfold clC
      rw [clB_8, if_pos (by omega), r2 8 _ (by omega) (by omega), gv_n _ (by omega)]
      congr 1
      omega
    refine ⟨j - 1, by rw [e10]; omega, ?_⟩
    rw [e8, j2]
    unfold fst
    rw [e0]
theorem dq_clF : ∀ (n : Nat) {p : Nat → Nat → Nat} {B x : Nat}, InX p B x → DQ p → DQ (clF n p)
  | 0, _, _, _, _, hd => hd
  | n + 1, p, B, x, h, hd => by
    refine dq_clF n (p := clS p) (clS_inv h) ?_
    unfold clS
    split
    · exact hd
    · rename_i c
      split
      · exact dq_same hd (fun r => by unfold clA; rw [w2_ne (by omega), w2_ne (by omega)]) (fun r => by unfold clA; rw [w2_ne (by omega), w2_ne (by omega)]) (fun r => by unfold clA; rw [w2_ne (by omega), w2_ne (by omega)]) (by unfold clA; rw [w2_sm, w2_sm, if_neg (by omega), if_neg (by omega)])
      · exact dq_clC h (by omega) hd
theorem dq_w2 {p : Nat → Nat → Nat} {F i v : Nat} (hd : DQ p) (hF : 2 ≤ F) (h8 : F ≠ 8) (h10 : F = 10 → i ≠ 0) : DQ (w2 p F i v) := by
  refine dq_same hd (fun r => w2_ne (by omega) r) (fun r => w2_ne (by omega) r) (fun r => w2_ne (by omega) r) ?_
  by_cases c : F = 10
  · subst c
    exact w2_ni (fun y => h10 rfl y.symm)
  · exact w2_ne (by omega) 0
theorem dq_lv {p : Nat → Nat → Nat} {B : Nat} (h : Inv p B) (hd : DQ p) : ∀ n, n ≤ 12 → DQ (lvN p n)
  | 0, _ => hd
  | n + 1, hn => by
    have ih := dq_lv h hd n (by omega)
    have hi := lv_inv h n (by omega)
    show DQ (dayG (lvN p n) n)
    unfold dayG
    split
    · exact ih
    · rename_i c
      split
      · exact dq_w2 ih (by omega) (by omega) (by omega)
      · have g4 := (hi.2.2.1.1 n (by omega)).2.2.1
        exact dq_dis (w4_inv (x := n) hi (by omega) (by omega) (Or.inl rfl)) (by omega) (by rw [w2_ne (by omega)]; omega) (dq_w2 ih (by omega) (by omega) (by omega))
theorem dq_pass {p : Nat → Nat → Nat} {B : Nat} (h : Inv p B) (hd : DQ p) : DQ (passF p) := by
  unfold passF
  refine dq_w2 (dq_clF _ (lv_inv (ck_inv h) 12 (Nat.le_refl _)) (dq_lv (ck_inv h) ?_ 12 (Nat.le_refl _))) (by omega) (by omega) (by omega)
  exact dq_same hd (fun r => ck_n p 12 (by omega) r) (fun r => ck_n p 12 (by omega) r) (fun r => ck_n p 12 (by omega) r) (ck_n p 12 (by omega) 0)
theorem dq_psN {p : Nat → Nat → Nat} {B : Nat} (h : Inv p B) (hd : DQ p) : ∀ n, DQ (psN p n)
  | 0 => hd
  | n + 1 => dq_pass (psN_inv h n) (dq_psN h hd n)
theorem dq_adm {p : Nat → Nat → Nat} {n y F K : Nat} (hd : DQ (tkQ p F (szf n) K)) (h10 : tkQ p F (szf n) K 10 0 = p 10 0) : DQ (admF p n y F K) := by
  refine dq_same hd (fun r => ad_lo p n y F K (by omega) r) (fun r => ad_lo p n y F K (by omega) r) (fun r => ad_lo p n y F K (by omega) r) ?_
  rw [ad_10, if_neg (by omega)]
theorem dq_reh {p : Nat → Nat → Nat} {F x : Nat} (hA : Al (tkQ p F (szf (p 2 x)) x)) (ha : p 3 x < 64) (h0 : p 3 x % tkQ p F (szf (p 2 x)) x 0 (p 3 x) = 0) (hd : DQ (tkQ p F (szf (p 2 x)) x)) : DQ (rehF p F x) := by
  refine dq_same (dq_soil hA ha h0 hd) (fun r => re_n p F x (by omega) (by omega) r) (fun r => re_n p F x (by omega) (by omega) r) (fun r => re_n p F x (by omega) (by omega) r) (re_n p F x (by omega) (by omega) 0)
