

-- needs P<=23
def w1 (m : Nat → Nat) (i v : Nat) : Nat → Nat := fun j => if j = i then v else m j
theorem upd_w1 (m : Nat → Nat) (k v : Nat) : upd (fun i => nI (m i)) k (nI v) = fun i => nI (w1 m k v i) := by
  funext i
  unfold upd w1
  split <;> rfl
def SB (m : Nat → Nat) : Prop := (∀ r, r < 64 → m (10 + r) ≤ 64 ∧ m (74 + r) ≤ 2) ∧ (∀ i, i < 3 → m i ≤ 64) ∧ (∀ h, h < 12 → m (266 + 7 * h) ≤ 1 ∧ m (266 + 7 * h + 4) ≤ 1 ∧ m (266 + 7 * h + 6) < 100)
def mfr (m : Nat → Nat) (r : Nat) : Bool := decide (0 < m (10 + r)) && decide (m (74 + r) = 0)
theorem pk_rm (a d : Nat) : nI a - nI (a / d * d) = nI (a % d) := by
  rw [pk_sub (Nat.div_mul_le_self a d), Nat.mod_def, Nat.mul_comm]
section MOD
variable (ro : RO) (d : Nat) (m : Nat → Nat) (b s hy g : Nat → Nat) (x : Nat → Int32) (st hs l a : Nat) (sg f1 f2 : Int32)
end MOD
