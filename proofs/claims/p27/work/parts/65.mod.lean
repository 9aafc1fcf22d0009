

-- needs P<=28 60.mod 61.mod 62.mod 63.mod 64.mod
def twM (m : Nat → Nat) (r : Nat) : Int32 := if m (10 + r) = 64 then -5 else nI (tw r (m (10 + r)))
def trM (m : Nat → Nat) (r w : Nat) : Int32 := if w = 0 then nI r else if w = 1 then nI (m (10 + r)) else if w = 2 then nI (m (74 + r)) else if w = 3 then (if goM m r = 12 then -5 else nI (goM m r)) else if w = 4 then twM m r else nI (if m (10 + r) ≠ 64 ∧ m (10 + tw r (m (10 + r))) = m (10 + r) then 1 else 0)
def ggM (m : Nat → Nat) (k w : Nat) : Int32 := if w = 0 then nI (m (266 + 7 * k + 1)) else if w = 1 then nI (m (10 + m (266 + 7 * k + 2))) else if w ≤ 5 then nI (m (266 + 7 * k + w)) else -2
def hoM (m : Nat → Nat) (k : Nat) : Int32 := if m (266 + 7 * k) = 1 then nI (1 + m (266 + 7 * k + 2)) else if 0 < m (266 + 7 * k + 6) then -10 - nI (m (266 + 7 * k + 6)) else nI 0
def frM (m : Nat → Nat) (w r : Nat) : Bool := mfr m r && decide (m (10 + r) = w)
theorem m_rng {k n : Nat} (h : k ≤ n) (hn : n < 1000) : ¬ (nI k < nI 0 ∨ nI n < nI k) := by
  rw [nb_ltI (by omega) (by omega), nb_ltI (by omega) (by omega)]
  omega
theorem m_rn1 {k n : Nat} (h : 1 ≤ k) (h2 : k ≤ n) (hn : n < 1000) : ¬ (nI k < nI 1 ∨ nI n < nI k) := by
  rw [nb_ltI (by omega) (by omega), nb_ltI (by omega) (by omega)]
  omega
section MOD
variable (ro : RO) (d : Nat) (m : Nat → Nat) (b s hy g : Nat → Nat) (x : Nat → Int32) (st hs l a : Nat) (sg f1 f2 : Int32)
end MOD
