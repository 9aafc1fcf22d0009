
def dgv (l a : Nat) (x : Nat → Int32) : Nat := (dig l a x).toInt.toNat
theorem dig_c (l a : Nat) (x : Nat → Int32) : dig l a x = -5 ∨ (dig l a x = nI (dgv l a x) ∧ dgv l a x ≤ 9) := by
  by_cases h : hr l a x < nI 48 ∨ nI 57 < hr l a x
  · exact Or.inl (if_pos h)
  · refine Or.inr ?_
    have e : dig l a x = hr l a x - nI 48 := if_neg h
    unfold dgv
    rw [e]
    generalize hr l a x = y at *
    simp only [not_or, Int32.lt_iff_toInt_lt] at h
    rw [show (nI 48).toInt = 48 from by decide, show (nI 57).toInt = 57 from by decide] at h
    have hy : y = nI y.toInt.toNat := by
      apply Int32.toInt.inj
      rw [nI_toInt (by omega)]
      omega
    rw [hy, pk_sub (by rw [← hy]; omega), nI_toInt (by omega)]
    refine ⟨by rw [Int.toNat_natCast], by omega⟩
def rnum (l : Nat) (x : Nat → Int32) (m : Nat) : Nat → Nat → Nat → Nat × Nat
  | 0, v, a => (v, a)
  | s + 1, v, a => if dig l a x = -5 ∨ v = 0 ∨ m < 10 * v + dgv l a x then (v, a) else rnum l x m s (10 * v + dgv l a x) (a + 1)
