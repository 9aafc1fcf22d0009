
def rdN (l : Nat) (x : Nat → Int32) (w m a : Nat) : Option (Nat × Nat) := if dig l a x = -5 ∨ dgv l a x < w then none else some (rnum l x m 60 (dgv l a x) (a + 1))
theorem m5_lt {w : Nat} (h : w < 100) : (-5 : Int32) < nI w := by
  rw [Int32.lt_iff_toInt_lt, nI_toInt (by omega), show ((-5 : Int32)).toInt = -5 from by decide]
  omega
theorem dig_lt {l a : Nat} {x : Nat → Int32} (h : dig l a x ≠ -5) : a < l := by
  apply Classical.byContradiction
  intro g
  apply h
  unfold dig hr
  rw [if_neg g]
  exact if_pos (Or.inl (by decide))
theorem rnum_b {l m : Nat} {x : Nat → Int32} : ∀ (s v a : Nat), a ≤ l → v ≤ m → (rnum l x m s v a).1 ≤ m ∧ a ≤ (rnum l x m s v a).2 ∧ (rnum l x m s v a).2 ≤ l ∧ (0 < v → 0 < (rnum l x m s v a).1)
  | 0, v, a, h, hv => ⟨hv, Nat.le_refl _, h, fun z => z⟩
  | s + 1, v, a, h, hv => by
    unfold rnum
    split
    · exact ⟨hv, Nat.le_refl _, h, fun z => z⟩
    · rename_i g
      simp only [not_or] at g
      have h1 := dig_lt g.1
      have := rnum_b (l := l) (m := m) (x := x) s (10 * v + dgv l a x) (a + 1) (by omega) (by omega)
      omega
theorem rdN_b {l w m a v b : Nat} {x : Nat → Int32} (hm : 9 ≤ m) (h : rdN l x w m a = some (v, b)) : v ≤ m ∧ a < b ∧ b ≤ l ∧ (0 < w → 0 < v) := by
  unfold rdN at h
  split at h
  · cases h
  · rename_i g
    simp only [not_or] at g
    have h1 := dig_lt g.1
    have h2 := ((dig_c l a x).resolve_left g.1).2
    have := rnum_b (l := l) (m := m) (x := x) 60 (dgv l a x) (a + 1) (by omega) (by omega)
    rw [Option.some.inj h] at this
    refine ⟨this.1, by omega, this.2.2.1, fun hw => this.2.2.2 (by omega)⟩
section ORD7
variable (ro : RO) (d l n : Nat) (x kk uu vv : Nat → Int32)
theorem o_rdN {a w m : Nat} (hl : l ≤ 60) (ha : a < 500) (hm : m ≤ 64) (hw : w ≤ 1) : exec ro (d + 4) 49 [.ref 0, .int (nI w), .int (nI m)] (ordW l n a x kk uu vv) = match rdN l x w m a with
    | none => some (some (.int (-5)), ordW l n a x kk uu vv)
    | some (v, b) => some (some (.int (nI v)), ordW l n b x kk uu vv) := by
  unfold rdN
  by_cases h : dig l a x = -5
  · rw [if_pos (Or.inl h)]
    exact o_num0 ro d l n x kk uu vv hl (by omega) hw (by rw [h]; exact m5_lt (by omega))
  · obtain ⟨g1, g2⟩ := (dig_c l a x).resolve_left h
    by_cases h2 : dgv l a x < w
    · rw [if_pos (Or.inr h2)]
      exact o_num0 ro d l n x kk uu vv hl (by omega) hw (by rw [g1]; exact nI_lt h2 (by omega))
    · rw [if_neg (fun z => z.elim h h2)]
      exact o_num ro d l n x kk uu vv hl ha hm hw g1 g2 (by omega)
end ORD7
