

-- needs P<=23 60.mod
def cpl (n o : Nat) (u v : Nat → Nat) : Nat → Nat := fun i => if o ≤ i ∧ i < o + n then u (i - o) else v i
theorem cpl_0 (o : Nat) (u v : Nat → Nat) : cpl 0 o u v = v := by
  funext i
  exact if_neg (by omega)
theorem cpl_u (n o : Nat) (u v : Nat → Nat) : upd (fun i => nI (cpl n o u v i)) (o + n) (nI (u n)) = fun i => nI (cpl (n + 1) o u v i) := by
  rw [upd_w1]
  funext i
  unfold w1 cpl
  by_cases h : i = o + n
  · subst h
    rw [if_pos rfl, if_pos (by omega), show o + n - o = n by omega]
  · rw [if_neg h]
    by_cases h2 : o ≤ i ∧ i < o + n
    · rw [if_pos h2, if_pos (by omega)]
    · rw [if_neg h2, if_neg (by omega)]
theorem cpl_u0 (n : Nat) (u v : Nat → Nat) : upd (fun i => nI (cpl n 0 u v i)) n (nI (u n)) = fun i => nI (cpl (n + 1) 0 u v i) := by
  have := cpl_u n 0 u v
  rw [Nat.zero_add] at this
  exact this
def sh3 (n : Nat) (hy : Nat → Nat) : Nat → Nat := fun i => if i < n then hy (i + 350) else hy i
theorem sh3_0 (hy : Nat → Nat) : sh3 0 hy = hy := by
  funext i
  exact if_neg (by omega)
theorem sh3_u (n : Nat) (hy : Nat → Nat) : upd (fun i => nI (sh3 n hy i)) n (nI (hy (n + 350))) = fun i => nI (sh3 (n + 1) hy i) := by
  rw [upd_w1]
  funext i
  unfold w1 sh3
  by_cases h : i = n
  · subst h
    rw [if_pos rfl, if_pos (by omega)]
  · rw [if_neg h]
    by_cases h2 : i < n
    · rw [if_pos h2, if_pos (by omega)]
    · rw [if_neg h2, if_neg (by omega)]
theorem sh3_hi (n k : Nat) (hy : Nat → Nat) : sh3 n hy (n + k) = hy (n + k) := if_neg (by omega)
/-- the rows of the history when a state is put behind them -/
def psM (b hy : Nat → Nat) (st : Nat) : Nat → Nat := if st = 4 then cpl 350 1050 b (sh3 1050 hy) else cpl 350 (st * 350) b hy
def psS (st : Nat) : Nat := if st = 4 then 4 else st + 1
section MOD
variable (ro : RO) (d : Nat) (m : Nat → Nat) (b s hy g : Nat → Nat) (x : Nat → Int32) (st hs l a : Nat) (sg f1 f2 : Int32)
end MOD
