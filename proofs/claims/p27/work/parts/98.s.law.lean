

/-! THE LAW's world: the class, its accounts, the copies -/
def YZ (q f g e d q2 f2 g2 e2 d2 : Nat → Nat) : List AE := [.inl (0, 10, nf q), .inl (0, 4, nf f), .inl (0, 48, nf g), .inl (0, 48, nf e), .inl (0, 64, nf d), .inl (0, 10, nf q2), .inl (0, 4, nf f2), .inl (0, 48, nf g2), .inl (0, 48, nf e2), .inl (0, 64, nf d2)]
theorem gapp {A L : List AE} (hA : A.length = 106) (k : Nat) : (A ++ L)[106 + k]? = L[k]? := by
  rw [List.getElem?_append_right (by omega), hA, Nat.add_sub_cancel_left]
theorem sapp {A L : List AE} (hA : A.length = 106) (k : Nat) (v : AE) : (A ++ L).set (106 + k) v = A ++ L.set k v := by
  rw [List.set_append_right _ _ (by omega), hA, Nat.add_sub_cancel_left]
theorem yz_len {A : List AE} (hA : A.length = 106) (q f g e d q2 f2 g2 e2 d2 : Nat → Nat) : (A ++ YZ q f g e d q2 f2 g2 e2 d2).length = 116 := by
  rw [List.length_append, hA]
  rfl
theorem yz_c1 {A : List AE} (hA : A.length = 106) (q2 f2 g2 e2 d2 : Nat → Nat) : Cx (fun q f g e d => A ++ YZ q f g e d q2 f2 g2 e2 d2) 116 106 107 108 109 110 :=
  ⟨fun q f g e d => ⟨yz_len hA q f g e d q2 f2 g2 e2 d2, gapp hA 0, gapp hA 1, gapp hA 2, gapp hA 3, gapp hA 4⟩, fun q f g e d v => ⟨sapp hA 0 _, sapp hA 1 _, sapp hA 2 _, sapp hA 3 _, sapp hA 4 _⟩, by decide, by decide⟩
theorem yz_c2 {A : List AE} (hA : A.length = 106) (q f g e d : Nat → Nat) : Cx (fun q2 f2 g2 e2 d2 => A ++ YZ q f g e d q2 f2 g2 e2 d2) 116 111 112 113 114 115 :=
  ⟨fun q2 f2 g2 e2 d2 => ⟨yz_len hA q f g e d q2 f2 g2 e2 d2, gapp hA 5, gapp hA 6, gapp hA 7, gapp hA 8, gapp hA 9⟩, fun q2 f2 g2 e2 d2 v => ⟨sapp hA 5 _, sapp hA 6 _, sapp hA 7 _, sapp hA 8 _, sapp hA 9 _⟩, by decide, by decide⟩
theorem yz_x (q f g e d q2 g2 e2 d2 : Nat → Nat) : YX (fun f2 => YZ q f g e d q2 f2 g2 e2 d2) q f g e d :=
  fun A f2 hA => ⟨yz_len hA q f g e d q2 f2 g2 e2 d2, gapp hA 0, gapp hA 1, gapp hA 2, gapp hA 3, gapp hA 4, gapp hA 6, fun v => sapp hA 6 _⟩
theorem cpm (f f2 : Nat → Nat) {n : Nat} (k : Nat) (hn : 0 < n) : w1 (cp4 f f2 (min k n)) (k % n) (f (k % n)) = cp4 f f2 (min (k + 1) n) := by
  by_cases c : k < n
  · rw [Nat.mod_eq_of_lt c, show min k n = k by omega, show min (k + 1) n = k + 1 by omega]
    exact cp4_s f f2 k
  · rw [show min k n = n by omega, show min (k + 1) n = n by omega]
    have := Nat.mod_lt k hn
    funext j
    unfold w1 cp4
    by_cases c2 : j = k % n
    · rw [if_pos c2, if_pos (by omega), c2]
    · rw [if_neg c2]
theorem cp_at (f f2 : Nat → Nat) {n j : Nat} (h : j < n) : cp4 f f2 n j = f j := if_pos h
theorem cp_rl {p : Nat → Nat → Nat} {q f g e d q2 f2 g2 e2 d2 dl : Nat → Nat} (hr : RL p q f g e d dl) (h64 : p 10 0 ≤ 64) (h2 : fo f2) : RL p (cp4 q q2 10) (cp4 f f2 4) (cp4 g g2 48) (cp4 e e2 48) (cp4 d d2 64) dl := by
  obtain ⟨rf, ⟨⟨q0, q1, q2, q3⟩, q4, q5, q6, q7, q8, q9⟩, re, rd⟩ := hr
  refine ⟨cp4_RF rf h2, ⟨⟨?_, ?_, ?_, ?_⟩, ?_, ?_, ?_, ?_, ?_, ?_⟩, fun k hk => ?_, fun j hj => ?_⟩
  · rw [cp_at _ _ (by omega)]; exact q0
  · rw [cp_at _ _ (by omega)]; exact q1
  · rw [cp_at _ _ (by omega)]; exact q2
  · rw [cp_at _ _ (by omega)]; exact q3
  · rw [cp_at _ _ (by omega)]; exact q4
  · rw [cp_at _ _ (by omega)]; exact q5
  · rw [cp_at _ _ (by omega)]; exact q6
  · rw [cp_at _ _ (by omega)]; exact q7
  · rw [cp_at _ _ (by omega)]; exact q8
  · rw [cp_at _ _ (by omega)]; exact q9
  · rw [cp_at _ _ (show 4 * k < 48 by omega), cp_at _ _ (show 4 * k + 3 < 48 by omega), cp_at _ _ (show 4 * k + 1 < 48 by omega), cp_at _ _ (show 4 * k + 2 < 48 by omega), cp_at _ _ (show 4 * k + 3 < 48 by omega), cp_at _ _ (show 4 * k < 48 by omega), cp_at _ _ (show 4 * k + 1 < 48 by omega), cp_at _ _ (show 4 * k + 2 < 48 by omega)]
    exact re k hk
  · rw [cp_at _ _ (show j < 64 by omega)]
    exact rd j hj
theorem plc_iff {p : Nat → Nat → Nat} {B w : Nat} (h : Inv p B) (hw1 : 1 ≤ w) : plc p w (p 9 0) = -5 ↔ gS p < w := by
  have hw := InX_wf h
  rw [← chs_0 h hw1]
  constructor
  · intro y
    apply Classical.byContradiction
    intro c
    obtain ⟨r, a1, a2, a3, a4, a5, a6⟩ := tk_at hw c
    rw [a6] at y
    have hpl := pow_le (hw r a1).1
    have : tkf p w r < 2147483648 := by unfold tkf; split <;> omega
    have h2 : (nI (tkf p w r) < (0 : Int32)) = False := by rw [nb_neg this]
    rw [y] at h2
    exact absurd h2 (by decide)
  · exact plc_0 hw hw1
/-- what `until` holds when n days have been looked at -/
def IU (p : Nat → Nat → Nat) (w n : Nat) (u : Int32) : Prop := (u = -5 ∧ utF p w 301 0 = utF p w (300 - n) (n + 1)) ∨ ∃ m, m ≤ 300 ∧ u = nI m ∧ utF p w 301 0 = nI m
theorem iu_0 {p : Nat → Nat → Nat} {B w : Nat} (h : Inv p B) (hw1 : 1 ≤ w) : IU p w 0 (if w ≤ gS p then nI 0 else -5) := by
  have e : utF p w 301 0 = if plc p w (p 9 0) ≠ -5 then nI 0 else utF p w 300 1 := rfl
  have hc := plc_iff h hw1
  by_cases c : w ≤ gS p
  · rw [if_pos c]
    rw [if_pos (fun y => by have := hc.mp y; omega)] at e
    exact Or.inr ⟨0, by omega, rfl, e⟩
  · rw [if_neg c]
    rw [if_neg (fun y => y (hc.mpr (by omega)))] at e
    exact Or.inl ⟨rfl, e⟩
theorem iu_s {p : Nat → Nat → Nat} {B w n : Nat} (h : Inv p B) (hw1 : 1 ≤ w) (hn : n < 300) (hu : IU p w n (-5)) (hl : ∀ m, m ≤ 300 → (-5 : Int32) ≠ nI m) : IU p w (n + 1) (if w ≤ gS (psN p (n + 1)) then nI (n + 1) else -5) := by
  rcases hu with ⟨-, hu⟩ | ⟨m, m1, m2, -⟩
  · obtain ⟨k, hk⟩ : ∃ k, 300 - n = k + 1 := ⟨299 - n, by omega⟩
    have e : utF p w (k + 1) (n + 1) = if plc (psN p (n + 1)) w (psN p (n + 1) 9 0) ≠ -5 then nI (n + 1) else utF p w k (n + 1 + 1) := rfl
    have hc := plc_iff (psN_inv h (n + 1)) hw1
    rw [hk, e] at hu
    by_cases c : w ≤ gS (psN p (n + 1))
    · rw [if_pos c]
      rw [if_pos (fun y => by have := hc.mp y; omega)] at hu
      exact Or.inr ⟨n + 1, by omega, rfl, hu⟩
    · rw [if_neg c]
      rw [if_neg (fun y => y (hc.mpr (by omega)))] at hu
      rw [show k = 300 - (n + 1) by omega] at hu
      exact Or.inl ⟨rfl, hu⟩
  · exact absurd m2 (hl m m1)
theorem iu_e {p : Nat → Nat → Nat} {w : Nat} {u : Int32} (hu : IU p w 300 u) : utF p w 301 0 = u := by
  rcases hu with ⟨h1, h2⟩ | ⟨m, -, h1, h2⟩
  · rw [h1, h2]
    rfl
  · rw [h1, h2]
theorem m5_ne {m : Nat} (h : m ≤ 300) : (-5 : Int32) ≠ nI m := fun y => by
  have h2 : (nI m < (0 : Int32)) = False := by rw [nb_neg (by omega)]
  rw [← y] at h2
  exact absurd h2 (by decide)
