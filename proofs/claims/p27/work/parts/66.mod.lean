

-- needs P<=28 60.mod 61.mod 62.mod 63.mod 64.mod 65.mod
def dl0 (m : Nat → Nat) (k : Nat) : Nat → Nat := w1 (mdF m (m (266 + 7 * k + 2))) (266 + 7 * k) 0
def dlM (m : Nat → Nat) (k : Nat) : Nat → Nat := w1 (dl0 m k) (266 + 7 * k + 6) (if dl0 m k (266 + 7 * k + 4) = 1 then dl0 m k 2 else 0)
def cm1 (m : Nat → Nat) (k n : Nat) : Nat → Nat := w1 (w1 m (266 + 7 * k) 1) (266 + 7 * k + 1) n
def tkR (m : Nat → Nat) (r w : Nat) : Nat := (tkm w 7 m r).2
def tkS (m : Nat → Nat) (r w : Nat) : Nat → Nat := w1 (tkm w 7 m r).1 (74 + tkR m r w) 1
def cm2 (m : Nat → Nat) (k n r y : Nat) : Nat → Nat := w1 (w1 (w1 (w1 (tkS (cm1 m k n) r (szf n)) (266 + 7 * k + 2) (tkR (cm1 m k n) r (szf n))) (266 + 7 * k + 3) y) (266 + 7 * k + 4) 0) (266 + 7 * k + 5) 0
def cmM (m : Nat → Nat) (k n r y : Nat) : Nat → Nat := w1 (cm2 m k n r y) 6 (cm2 m k n r y 6 + 1)
def mv1 (m : Nat → Nat) (k r : Nat) : Nat → Nat := w1 (tkS m r (szf (m (266 + 7 * k + 1)))) (266 + 7 * k + 2) (tkR m r (szf (m (266 + 7 * k + 1))))
def mv2 (m : Nat → Nat) (k r : Nat) : Nat → Nat := w1 (mv1 m k r) (266 + 7 * k + 5) (mv1 m k r (266 + 7 * k + 5) + 1)
def mvM (m : Nat → Nat) (k r : Nat) : Nat → Nat := mdF (mv2 m k r) (m (266 + 7 * k + 2))
def lsM (m : Nat → Nat) (k : Nat) : Nat → Nat := w1 (w1 m (266 + 7 * k + 4) 1) 8 (w1 m (266 + 7 * k + 4) 1 8 + 1)
theorem w1_ne {m : Nat → Nat} {i j v : Nat} (h : j ≠ i) : w1 m i v j = m j := if_neg h
theorem w1_at (m : Nat → Nat) (i v : Nat) : w1 m i v i = v := if_pos rfl
theorem w1_sm (m : Nat → Nat) (i : Nat) : w1 m i (m i) = m := by
  funext j
  unfold w1
  split
  · rename_i h; rw [h]
  · rfl
section MOD
variable (ro : RO) (d : Nat) (m : Nat → Nat) (b s hy g : Nat → Nat) (x : Nat → Int32) (st hs l a : Nat) (sg f1 f2 : Int32)
def ttM (m : Nat → Nat) (st l k : Nat) : Int32 := if k ≤ 3 then nI (m k) else if k = 4 then nI (gtM m 0) else if k ≤ 7 then nI (rtM m (k - 5)) else if k = 8 then nI (rbM m) else if k = 9 then nI (suM m) else if k ≤ 14 then nI (m (k - 6)) else if k = 15 then nI (kcM m) else if k = 16 then nI st else nI l
end MOD
