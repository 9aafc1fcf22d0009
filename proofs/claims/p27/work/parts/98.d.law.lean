

/-! THE LAW's day: how its arrays follow the palace -/
theorem rl_dis {p : Nat → Nat → Nat} {B x k : Nat} {q f g e d dl : Nat → Nat} (h : InX p B x) (hk : k < 12) (h0 : 0 < p 2 k) (hr : RL p q f g e d dl) (hd : dl k = 0) : RL (disF p k) (w1 q 9 (q 9 + 1)) f (w1 g (4 * k) 0) (w1 e (4 * k + 3) (if e (4 * k + 1) = 1 then q 2 else 0)) (w1 d (q 9) (g (4 * k + 2) + e (4 * k) * 64)) dl := by
  obtain ⟨⟨rf1, rf2⟩, ⟨⟨q0, q1, q2, q3⟩, q4, q5, q6, q7, q8, q9⟩, re, rd⟩ := hr
  have gg := h.2.2.1.1 k hk
  have g2 := gg.2.2.2.2.2.2 h0
  have ha := h.1
  have hs := re k hk
  have hs2 := hs.2.2 h0
  have f0 : fst p (p 3 k) = p 3 k := by unfold fst; rw [g2.1]; rfl
  have n9 : ∀ i, disF p k 9 i = p 9 i := fun i => by rw [di_n p (by omega) (by omega), so_n p (by omega) (by omega) (by omega)]
  have n10 : ∀ i, disF p k 10 i = if i = 0 then p 10 0 + 1 else p 10 i := fun i => by rw [di_n p (by omega) (by omega), so_10]
  have n0 : ∀ i, disF p k 0 i = p 0 i := fun i => by rw [di_n p (by omega) (by omega), so_0 ha gg.2.1 g2.1]
  have n1 : ∀ i, disF p k 1 i = if p 3 k ≤ i ∧ i < p 3 k + p 0 (p 3 k) then 0 else p 1 i := fun i => by rw [di_n p (by omega) (by omega), so_1]
  have nn : ∀ G, 3 ≤ G → G ≤ 6 → ∀ i, disF p k G i = p G i := fun G a b i => by rw [di_n p (by omega) (by omega), so_n p (by omega) (by omega) (by omega)]
  refine ⟨⟨rf1, fun r hr => ?_⟩, ⟨⟨?_, ?_, ?_, ?_⟩, ?_, ?_, ?_, ?_, ?_, ?_⟩, fun j hj => ?_, fun j hj => ?_⟩
  · rw [rf2 r hr, n1]
    by_cases c : p 3 k ≤ r ∧ r < p 3 k + p 0 (p 3 k)
    · rw [if_pos c]
      have := (Al_s ha gg.2.1 (i := r) (by omega) (by omega)).2.1
      rw [this, g2.2.1]
      exact decide_eq_decide.mpr (by omega)
    · rw [if_neg c]
  · rw [w1_ne (by omega), n9]; exact q0
  · rw [w1_ne (by omega), n9]; exact q1
  · rw [w1_ne (by omega), n9]; exact q2
  · rw [w1_ne (by omega), n10, if_neg (by omega)]; exact q3
  · rw [w1_ne (by omega), n10, if_neg (by omega)]; exact q4
  · rw [w1_ne (by omega), n10, if_neg (by omega)]; exact q5
  · rw [w1_ne (by omega), n10, if_neg (by omega)]; exact q6
  · rw [w1_ne (by omega), n10, if_neg (by omega)]; exact q7
  · rw [w1_ne (by omega), n10, if_neg (by omega)]; exact q8
  · rw [w1_at, n10, if_pos rfl, q9]
  · by_cases c : j = k
    · subst c
      refine ⟨?_, ?_, fun z => ?_⟩
      · rw [w1_at, di_2, if_pos rfl]; rfl
      · rw [w1_at, di_7, if_pos rfl, hd, hs2.2.2.2.2.1, q2]; rfl
      · rw [di_2, if_pos rfl] at z
        omega
    · have hj2 := re j hj
      rw [w1_ne (by omega), w1_ne (by omega), w1_ne (by omega), w1_ne (by omega), w1_ne (by omega), w1_ne (by omega), w1_ne (by omega), w1_ne (by omega), di_2, if_neg c, di_7, if_neg c, nn 3 (by omega) (by omega), nn 4 (by omega) (by omega), nn 5 (by omega) (by omega), nn 6 (by omega) (by omega), n0]
      exact hj2
  · rw [n10, if_pos rfl] at hj
    have n101 : disF p k 10 1 = p 10 1 := by rw [n10]; exact if_neg (by omega)
    rw [n101, n0, di_n p (by omega) (by omega), so_8]
    by_cases c : j = p 10 0
    · have : (if j = 0 then p 10 1 else 0) = 0 := by
        by_cases c2 : j = 0
        · rw [if_pos c2]
          exact h.2.2.2.1.2.2.2.2 (by omega)
        · exact if_neg c2
      rw [this, if_pos c, c, ← q9, w1_at, hs2.2.1, hs2.2.2.2.1, Nat.zero_mul, Nat.add_zero]
    · rw [if_neg c, w1_ne (by omega)]
      exact rd j (by omega)
theorem rl_w4 {p : Nat → Nat → Nat} {k v : Nat} {q f g e d dl : Nat → Nat} (hk : k < 12) (hr : RL p q f g e d dl) : RL (w2 p 4 k v) q f (w1 g (4 * k + 3) v) e d dl := by
  obtain ⟨rf, rq, re, rd⟩ := hr
  have nn : ∀ G, G ≠ 4 → ∀ i, w2 p 4 k v G i = p G i := fun G hG i => w2_ne hG i
  refine ⟨⟨rf.1, fun r hr => by rw [nn 1 (by omega)]; exact rf.2 r hr⟩, ?_, fun j hj => ?_, fun j hj => ?_⟩
  · unfold RQ0
    simp only [nn 9 (by omega), nn 10 (by omega)]
    exact rq
  · have hj2 := re j hj
    rw [w1_ne (by omega), w1_ne (by omega), w1_ne (by omega), nn 2 (by omega), nn 7 (by omega), nn 3 (by omega), nn 0 (by omega), nn 5 (by omega), nn 6 (by omega), w2_sm]
    refine ⟨hj2.1, hj2.2.1, fun z => ?_⟩
    have h3 := hj2.2.2 z
    refine ⟨h3.1, h3.2.1, ?_, h3.2.2.2⟩
    by_cases c : j = k
    · subst c
      rw [w1_at, if_pos rfl]
    · rw [w1_ne (by omega), if_neg c]
      exact h3.2.2.1
  · rw [nn 10 (by omega)] at hj
    rw [nn 8 (by omega), nn 0 (by omega), nn 10 (by omega)]
    exact rd j hj
def dlc (p : Nat → Nat → Nat) (k : Nat) : Nat := if 0 < p 7 k then 1 else 0
theorem rl_ck {p : Nat → Nat → Nat} {q f g e d : Nat → Nat} (hr : RL p q f g e d (fun _ => 0)) : RL (ck p 12) q f g e d (dlc p) := by
  obtain ⟨rf, rq, re, rd⟩ := hr
  have nn : ∀ G, G ≠ 7 → ∀ i, ck p 12 G i = p G i := fun G hG i => ck_n p 12 hG i
  refine ⟨⟨rf.1, fun r hr => by rw [nn 1 (by omega)]; exact rf.2 r hr⟩, ?_, fun j hj => ?_, fun j hj => ?_⟩
  · unfold RQ0
    simp only [nn 9 (by omega), nn 10 (by omega)]
    exact rq
  · have hj2 := re j hj
    rw [nn 2 (by omega), nn 3 (by omega), nn 4 (by omega), nn 0 (by omega), nn 5 (by omega), nn 6 (by omega)]
    refine ⟨hj2.1, ?_, hj2.2.2⟩
    have h7 : ck p 12 7 j = p 7 j - 1 := if_pos ⟨rfl, hj⟩
    have h8 : e (4 * j + 3) = p 7 j := hj2.2.1
    rw [h7, h8]
    unfold dlc
    split <;> omega
  · rw [nn 10 (by omega)] at hj
    rw [nn 8 (by omega), nn 0 (by omega), nn 10 (by omega)]
    exact rd j hj
theorem rl_clA {p : Nat → Nat → Nat} {q f g e d dl : Nat → Nat} (h0 : 0 < p 10 0) (hr : RL p q f g e d dl) : RL (clA p) (w1 q 7 (q 7 + 1)) f g e (w1 d 0 (d 0 + 16384)) dl := by
  obtain ⟨rf, ⟨⟨q0, q1, q2, q3⟩, q4, q5, q6, q7, q8, q9⟩, re, rd⟩ := hr
  have nn : ∀ G, G ≠ 10 → ∀ i, clA p G i = p G i := fun G hG i => by unfold clA; rw [w2_ne hG, w2_ne hG]
  have n10 : ∀ i, clA p 10 i = if i = 7 then p 10 7 + 1 else if i = 1 then p 10 1 + 1 else p 10 i := fun i => by unfold clA; rw [w2_sm, w2_sm]
  refine ⟨⟨rf.1, fun r hr => by rw [nn 1 (by omega)]; exact rf.2 r hr⟩, ⟨⟨?_, ?_, ?_, ?_⟩, ?_, ?_, ?_, ?_, ?_, ?_⟩, fun j hj => ?_, fun j hj => ?_⟩
  · rw [w1_ne (by omega), nn 9 (by omega)]; exact q0
  · rw [w1_ne (by omega), nn 9 (by omega)]; exact q1
  · rw [w1_ne (by omega), nn 9 (by omega)]; exact q2
  · rw [w1_ne (by omega), n10, if_neg (by omega), if_neg (by omega)]; exact q3
  · rw [w1_ne (by omega), n10, if_neg (by omega), if_neg (by omega)]; exact q4
  · rw [w1_ne (by omega), n10, if_neg (by omega), if_neg (by omega)]; exact q5
  · rw [w1_ne (by omega), n10, if_neg (by omega), if_neg (by omega)]; exact q6
  · rw [w1_at, n10, if_pos rfl, q7]
  · rw [w1_ne (by omega), n10, if_neg (by omega), if_neg (by omega)]; exact q8
  · rw [w1_ne (by omega), n10, if_neg (by omega), if_neg (by omega)]; exact q9
  · have := re j hj
    rw [nn 2 (by omega), nn 7 (by omega), nn 3 (by omega), nn 4 (by omega), nn 0 (by omega), nn 5 (by omega), nn 6 (by omega)]
    exact this
  · rw [n10, if_neg (by omega), if_neg (by omega)] at hj
    have n101 : clA p 10 1 = p 10 1 + 1 := by rw [n10, if_neg (by omega), if_pos rfl]
    rw [nn 8 (by omega), nn 0 (by omega), n101]
    have := rd j hj
    by_cases c : j = 0
    · subst c
      rw [w1_at, this, if_pos rfl, if_pos rfl]
      omega
    · rw [w1_ne c, this, if_neg c, if_neg c]
theorem rel_f {a : Nat} (ha : a < 64) : ∀ (n : Nat) (p : Nat → Nat → Nat), Al p → p 1 a = 1 → (∀ i, rel a n p 1 i = p 1 i) ∧ ∀ G i, 2 ≤ G → ¬ (G = 10 ∧ i = 4) → rel a n p G i = p G i
  | 0, p, _, _ => ⟨fun _ => rfl, fun _ _ _ _ => rfl⟩
  | n + 1, p, hp, h1 => by
    unfold rel
    by_cases hj : jnb p a = true
    · rw [if_pos hj]
      obtain ⟨k1, k2⟩ := rel_f ha n (jn1 p a) (jn_Al hp ha h1 hj) (by rw [jn_1 hp ha h1 hj]; exact h1)
      exact ⟨fun i => by rw [k1, jn_1 hp ha h1 hj], fun G i g1 g2 => by rw [k2 G i g1 g2, jn_n g1 g2]⟩
    · rw [if_neg hj]
      exact ⟨fun _ => rfl, fun _ _ _ _ => rfl⟩
def sh1 (d : Nat → Nat) (n : Nat) : Nat → Nat := fun j => if j < n then d (j + 1) else d j
theorem sh1_0 (d : Nat → Nat) : sh1 d 0 = d := by
  funext j
  exact if_neg (by omega)
theorem sh1_at (d : Nat → Nat) (n : Nat) : sh1 d n (n + 1) = d (n + 1) := if_neg (by omega)
theorem sh1_s (d : Nat → Nat) (n : Nat) : w1 (sh1 d n) n (d (n + 1)) = sh1 d (n + 1) := by
  funext j
  unfold w1 sh1
  by_cases c : j = n
  · rw [if_pos c, if_pos (by omega), c]
  · rw [if_neg c]
    by_cases c2 : j < n
    · rw [if_pos c2, if_pos (by omega)]
    · rw [if_neg c2, if_neg (by omega)]
theorem rl_clC {p : Nat → Nat → Nat} {B x s : Nat} {q f g e d dl : Nat → Nat} (h : InX p B x) (h0 : 0 < p 10 0) (hr : RL p q f g e d dl) (hs : p 0 (p 8 0) = s) (v : Nat) : p 8 0 < 64 ∧ p 8 0 + s ≤ 64 ∧ InX (clC p (p 8 0)) B x ∧ clC p (p 8 0) 1 (p 8 0) = 1 ∧ RF (clC p (p 8 0)) (trn f (p 8 0) s) ∧ ∃ k, s * 2 ^ k = clC p (p 8 0) 0 (p 8 0) ∧ RL (clC p (p 8 0)) (w1 (w1 (w1 q 7 (q 7 + 1)) 5 (q 5 + k)) 9 (q 9 - 1)) (trn f (p 8 0) s) g e (sh1 (w1 d 0 v) (q 9 - 1)) dl := by
  subst hs
  obtain ⟨⟨rf1, rf2⟩, ⟨⟨q0, q1, q2, q3⟩, q4, q5, q6, q7, q8, q9⟩, re, rd⟩ := hr
  have ha := h.1
  have qu := h.2.2.2.1
  have u0 := qu.2.1 0 h0
  have hw := (ha (p 8 0) u0.1).1
  have hpl := pow_le hw
  have hle : p 8 0 + p 0 (p 8 0) ≤ 64 := blk_64 hw u0.2.1 u0.1
  have f0 : fst p (p 8 0) = p 8 0 := by unfold fst; rw [u0.2.1]; rfl
  have hin : InX (clC p (p 8 0)) B x := (clC_all h (row_rel h) (by omega) rfl).1
  generalize hA : p 8 0 = a at *
  have gal := gv_Al (h := 1) ha u0.1 u0.2.1
  have g1 := gv_1 p a (p 0 a) (p 0 a) 1
  have g0 := gv_0 (h := 1) ha u0.1 u0.2.1
  have ga1 : mkk p a (p 0 a) (p 0 a) 1 1 a = 1 := by rw [g1, if_pos ⟨by omega, by omega⟩]
  obtain ⟨r1, r2⟩ := rel_f u0.1 6 _ gal ga1
  obtain ⟨k, k1, k2⟩ := rel_k u0.1 6 _ gal ga1
  obtain ⟨o1, -⟩ := rel_o u0.1 6 _ gal ga1
  rw [g0] at k1
  have c1 : ∀ i, clC p a 1 i = if a ≤ i ∧ i < a + p 0 a then 1 else p 1 i := fun i => by
    unfold clC
    rw [clB_n _ (by omega) (by omega), r1, g1]
  have cn : ∀ G, 2 ≤ G → G ≠ 8 → G ≠ 10 → ∀ i, clC p a G i = p G i := fun G a1 a2 a3 i => by
    unfold clC
    rw [clB_n _ a2 a3, r2 G i a1 (by omega), gv_n _ a1]
  have c0 : clC p a 0 a = p 0 a * 2 ^ k := by
    unfold clC
    rw [clB_n _ (by omega) (by omega)]
    exact k1
  have c0o : ∀ i, i < 64 → p 1 i ≠ 1 → ¬ (a ≤ i ∧ i < a + p 0 a) → clC p a 0 i = p 0 i := fun i h1 h2 h3 => by
    unfold clC
    rw [clB_n _ (by omega) (by omega), o1 i h1 (by rw [g1, if_neg h3]; exact h2), g0]
  have c10 : ∀ i, i ≠ 4 → clC p a 10 i = if i = 1 then 0 else if i = 0 then p 10 0 - 1 else if i = 7 then p 10 7 + 1 else p 10 i := fun i h4 => by
    unfold clC
    rw [clB_10, r2 10 0 (by omega) (by omega), r2 10 7 (by omega) (by omega), r2 10 i (by omega) (by omega), gv_n _ (by omega), gv_n _ (by omega), gv_n _ (by omega)]
  have c104 : clC p a 10 4 = p 10 4 + k := by
    unfold clC
    rw [clB_10, if_neg (by omega), if_neg (by omega), if_neg (by omega), k2, gv_n _ (by omega)]
  have c8 : ∀ j, j < 63 → clC p a 8 j = p 8 (j + 1) := fun j hj => by
    unfold clC
    rw [clB_8, if_pos hj, r2 8 _ (by omega) (by omega), gv_n _ (by omega)]
  have hRF : RF (clC p a) (trn f a (p 0 a)) := by
    refine ⟨trn_fo rf1 _ _, fun r hr => ?_⟩
    rw [trn_fr, c1, rf2 r hr]
    by_cases c : a ≤ r ∧ r < a + p 0 a
    · rw [if_pos c, if_pos c, (Al_s ha u0.1 (i := r) (by omega) (by omega)).2.1, u0.2.2]
      rfl
    · rw [if_neg c, if_neg c]
  refine ⟨u0.1, hle, hin, by rw [c1, if_pos ⟨by omega, by omega⟩], hRF, k, c0.symm, hRF, ⟨⟨?_, ?_, ?_, ?_⟩, ?_, ?_, ?_, ?_, ?_, ?_⟩, fun j hj => ?_, fun j hj => ?_⟩
  · rw [w1_ne (by omega), w1_ne (by omega), w1_ne (by omega), cn 9 (by omega) (by omega) (by omega)]; exact q0
  · rw [w1_ne (by omega), w1_ne (by omega), w1_ne (by omega), cn 9 (by omega) (by omega) (by omega)]; exact q1
  · rw [w1_ne (by omega), w1_ne (by omega), w1_ne (by omega), cn 9 (by omega) (by omega) (by omega)]; exact q2
  · rw [w1_ne (by omega), w1_ne (by omega), w1_ne (by omega), c10 _ (by omega), if_neg (by omega), if_neg (by omega), if_neg (by omega)]; exact q3
  · rw [w1_ne (by omega), w1_ne (by omega), w1_ne (by omega), c10 _ (by omega), if_neg (by omega), if_neg (by omega), if_neg (by omega)]; exact q4
  · rw [w1_ne (by omega), w1_at, c104, q5]
  · rw [w1_ne (by omega), w1_ne (by omega), w1_ne (by omega), c10 _ (by omega), if_neg (by omega), if_neg (by omega), if_neg (by omega)]; exact q6
  · rw [w1_ne (by omega), w1_ne (by omega), w1_at, c10 _ (by omega), if_neg (by omega), if_neg (by omega), if_pos rfl, q7]
  · rw [w1_ne (by omega), w1_ne (by omega), w1_ne (by omega), c10 _ (by omega), if_neg (by omega), if_neg (by omega), if_neg (by omega)]; exact q8
  · rw [w1_at, c10 _ (by omega), if_neg (by omega), if_pos rfl, q9]
  · have hj2 := re j hj
    rw [cn 2 (by omega) (by omega) (by omega), cn 7 (by omega) (by omega) (by omega), cn 3 (by omega) (by omega) (by omega), cn 4 (by omega) (by omega) (by omega), cn 5 (by omega) (by omega) (by omega), cn 6 (by omega) (by omega) (by omega)]
    refine ⟨hj2.1, hj2.2.1, fun z => ?_⟩
    have h3 := hj2.2.2 z
    have gg := h.2.2.1.1 j hj
    have gj := gg.2.2.2.2.2.2 z
    rw [c0o (p 3 j) gg.2.1 (by omega) (fun y => by
      have := (Al_s ha u0.1 (i := p 3 j) (by omega) (by omega)).2.1
      omega)]
    exact h3
  · rw [c10 _ (by omega), if_neg (by omega), if_pos rfl] at hj
    have hq64 := qu.1
    have uj := qu.2.1 (j + 1) (by omega)
    have hdj := rd (j + 1) (by omega)
    rw [c8 j (by omega), c10 _ (by omega), if_pos rfl, c0o (p 8 (j + 1)) uj.1 (by omega) (fun y => by
      have al := Al_s ha u0.1 (i := p 8 (j + 1)) (by omega) (by omega)
      have : fst p (p 8 (j + 1)) = p 8 (j + 1) := by unfold fst; rw [uj.2.1]; rfl
      have := qu.2.2.1 (j + 1) 0 (by omega) h0 (by omega)
      omega)]
    unfold sh1
    rw [if_pos (by omega), w1_ne (by omega), hdj, if_neg (by omega), ite_self]
