

-- needs P<=28 60.mod 61.mod 62.mod
theorem tks_nl {ts : List Nat} {j : Nat} : ∀ {lo k : Nat}, lo + k < 100000 → tks (lo : Int) ts j (nI (lo + k)) = ts.getD k j := by
  induction ts with
  | nil => intro lo k _; rfl
  | cons t ts ih =>
    intro lo k h
    unfold tks
    have e : Int32.ofInt (lo : Int) = nI lo := rfl
    cases k with
    | zero =>
      rw [e, if_pos (by rw [Nat.add_zero])]
      rfl
    | succ k =>
      rw [e, if_neg (by rw [nI_eq (by omega) (by omega)]; omega)]
      have := ih (lo := lo + 1) (k := k) (by omega)
      rw [show lo + 1 + k = lo + (k + 1) by omega] at this
      exact this
theorem tks_n {ts : List Nat} {j k : Nat} (h : k < 100000) : tks 0 ts j (nI k) = ts.getD k j := by
  have := tks_nl (ts := ts) (j := j) (lo := 0) (k := k) (by omega)
  rw [Nat.zero_add] at this
  exact this
theorem gd_0 (t : Nat) (ts : List Nat) (j : Nat) : (t :: ts).getD 0 j = t := rfl
theorem gd_s (t : Nat) (ts : List Nat) (j k : Nat) : (t :: ts).getD (k + 1) j = ts.getD k j := rfl
theorem gd_n (k j : Nat) : ([] : List Nat).getD k j = j := rfl
theorem smf_le {q : Nat → Nat} {c : Nat} : ∀ n, (∀ i, i < n → q i ≤ c) → smf q n ≤ n * c
  | 0, _ => Nat.zero_le _
  | n + 1, h => by
    have := smf_le n (fun i hi => h i (by omega))
    have h1 := h n (by omega)
    show smf q n + q n ≤ _
    rw [Nat.succ_mul]
    omega
def rtM (m : Nat → Nat) (k : Nat) : Nat := smf (fun r => if m (74 + r) = k then m (10 + r) else 0) 64
def gfM (m : Nat → Nat) : Nat := mxf (fun r => if mfr m r then m (10 + r) else 0) 64
def lhM (m : Nat → Nat) : Nat := fstf (kyM m) 12 12
def wsM (m : Nat → Nat) (n : Nat) : Nat := if rtM m 0 < szf n then 2 else if sfm m (szf n) 64 = 0 then 3 else 0
def wnM (m : Nat → Nat) (n : Nat) : Nat := if lhM m = 12 then 1 else wsM m n
def gtM (m : Nat → Nat) (w : Nat) : Nat := cnt (fun h => decide (m (266 + 7 * h) = 1) && decide (m (266 + 7 * h + w) = 1)) 12
def goM (m : Nat → Nat) (r : Nat) : Nat := fstf (fun h => decide (m (266 + 7 * h) = 1) && decide (m (266 + 7 * h + 2) = r)) 12 12
def suM (m : Nat → Nat) : Nat := cnt (fun r => decide (0 < m (10 + r))) 64
def kcM (m : Nat → Nat) : Nat := cnt (fun h => decide (0 < m (266 + 7 * h + 6))) 12
def rbM (m : Nat → Nat) : Nat := smf (fun h => if m (266 + 7 * h) = 1 then m (10 + m (266 + 7 * h + 2)) - m (266 + 7 * h + 1) else 0) 12
theorem rtM_le {m : Nat → Nat} (hb : SB m) (k : Nat) : rtM m k ≤ 4096 := smf_le (c := 64) 64 (fun i hi => by
  have := (hb.1 i hi).1
  split <;> omega)
theorem lhM_le (m : Nat → Nat) : lhM m ≤ 12 := fstf_le _ 12 12 (Nat.le_refl _)
section MOD
variable (ro : RO) (d : Nat) (m : Nat → Nat) (b s hy g : Nat → Nat) (x : Nat → Int32) (st hs l a : Nat) (sg f1 f2 : Int32)
end MOD
