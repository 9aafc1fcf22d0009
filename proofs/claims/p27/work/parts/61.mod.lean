

-- needs P<=23 60.mod
theorem sb_pos {a b : Nat} (ha : a < 1000) (hb : b < 1000) : ((0 : Int32) < nI a - nI b) = (b < a) := by
  have := pk_sub_toInt (show a < 2 ^ 30 by omega) (show b < 2 ^ 30 by omega)
  rw [Int32.lt_iff_toInt_lt, this]
  exact propext ⟨fun h => by have : (0 : Int32).toInt = 0 := rfl; omega, fun h => by have : (0 : Int32).toInt = 0 := rfl; omega⟩
theorem sb_zero {a b : Nat} (ha : a < 1000) (hb : b < 1000) : (nI a - nI b = (0 : Int32)) = (a = b) := by
  have := pk_sub_toInt (show a < 2 ^ 30 by omega) (show b < 2 ^ 30 by omega)
  rw [← Int32.toInt_inj, this]
  exact propext ⟨fun h => by have : (0 : Int32).toInt = 0 := rfl; omega, fun h => by have : (0 : Int32).toInt = 0 := rfl; omega⟩
theorem fstT {q : Nat → Bool} {n k : Nat} (h : q (n - (k + 1)) = true) : fstf q n (k + 1) = n - (k + 1) := if_pos h
theorem fstF {q : Nat → Bool} {n k : Nat} (h : q (n - (k + 1)) = false) : fstf q n (k + 1) = fstf q n k := if_neg (by rw [h]; exact Bool.false_ne_true)
def sfm (m : Nat → Nat) (w : Nat) : Nat → Nat
  | 0 => 0
  | n + 1 => if mfr m n = true ∧ w ≤ m (10 + n) ∧ (sfm m w n = 0 ∨ m (10 + n) < m (10 + (sfm m w n - 1)) ∨ (m (10 + n) = m (10 + (sfm m w n - 1)) ∧ m 0 = 1)) then n + 1 else sfm m w n
theorem sfm_le (m : Nat → Nat) (w : Nat) : ∀ n, sfm m w n ≤ n
  | 0 => Nat.le_refl _
  | n + 1 => by
    have := sfm_le m w n
    unfold sfm
    split <;> omega
def kyM (m : Nat → Nat) (h : Nat) : Bool := decide (m (266 + 7 * h) = 0) && decide (m (266 + 7 * h + 6) = 0)
section MOD
variable (ro : RO) (d : Nat) (m : Nat → Nat) (b s hy g : Nat → Nat) (x : Nat → Int32) (st hs l a : Nat) (sg f1 f2 : Int32)
end MOD
