

-- needs P<=23 60.mod 61.mod
def mdF (m : Nat → Nat) (r : Nat) : Nat → Nat := w1 (w1 (w1 (w1 m (74 + r) 2) (138 + r) 0) (202 + m 9) r) 9 (m 9 + 1)
def mtw (m : Nat → Nat) (a : Nat) : Nat := tw a (m (10 + a))
def mjb (m : Nat → Nat) (a : Nat) : Bool := decide (m (10 + a) ≠ 64) && (mfr m (mtw m a) && decide (m (10 + mtw m a) = m (10 + a)))
def mj0 (m : Nat → Nat) (lo up : Nat) : Nat → Nat := w1 (w1 m (10 + lo) (2 * m (10 + lo))) (10 + up) 0
def mj1 (m : Nat → Nat) (lo up : Nat) : Nat → Nat := w1 (mj0 m lo up) 5 (mj0 m lo up 5 + 1)
def mrl : Nat → (Nat → Nat) → Nat → Nat → Nat
  | 0, m, _ => m
  | n + 1, m, a => if mjb m a = true then mrl n (mj1 m (min a (mtw m a)) (max a (mtw m a))) (min a (mtw m a)) else m
def hv0 (m : Nat → Nat) (f h : Nat) : Nat → Nat := w1 (w1 (w1 (w1 m (10 + f) h) (10 + f + h) h) (74 + f + h) 0) (138 + f + h) 0
def hvm (m : Nat → Nat) (f h : Nat) : Nat → Nat := w1 (hv0 m f h) 4 (hv0 m f h 4 + 1)
def tkm (w : Nat) : Nat → (Nat → Nat) → Nat → (Nat → Nat) × Nat
  | 0, m, f => (m, f)
  | n + 1, m, f => if w < m (10 + f) then tkm w n (hvm m f (m (10 + f) / 2)) (if m 0 = 1 then f + m (10 + f) / 2 else f) else (m, f)
def shm (m : Nat → Nat) (n : Nat) : Nat → Nat := fun j => if 202 ≤ j ∧ j < 202 + n then m (j + 1) else m j
theorem shm_u (m : Nat → Nat) (n : Nat) : upd (fun i => nI (shm m n i)) (202 + n) (nI (m (202 + (n + 1)))) = fun i => nI (shm m (n + 1) i) := by
  rw [upd_w1]
  funext i
  unfold w1 shm
  by_cases h : i = 202 + n
  · subst h
    rw [if_pos rfl, if_pos (by omega)]
    rfl
  · rw [if_neg h]
    by_cases h2 : 202 ≤ i ∧ i < 202 + n
    · rw [if_pos h2, if_pos (by omega)]
    · rw [if_neg h2, if_neg (by omega)]
theorem shm_0 (m : Nat → Nat) : shm m 0 = m := by
  funext i
  exact if_neg (by omega)
theorem shm_hi (m : Nat → Nat) (n k : Nat) : shm m n (202 + (n + k)) = m (202 + (n + k)) := if_neg (by omega)
theorem shm_9 (m : Nat → Nat) (n : Nat) : shm m n 9 = m 9 := if_neg (by omega)
theorem hv0_0 (m : Nat → Nat) (f h : Nat) : hvm m f h 0 = m 0 := by
  unfold hvm hv0 w1
  rw [if_neg (by omega), if_neg (by omega), if_neg (by omega), if_neg (by omega), if_neg (by omega)]
theorem hv0_f (m : Nat → Nat) (f h : Nat) (h0 : 0 < h) (hh : f + h ≤ 64) : hvm m f h (10 + f) = h ∧ hvm m f h (10 + (f + h)) = h := by
  unfold hvm hv0 w1
  rw [if_neg (by omega), if_neg (by omega), if_neg (by omega), if_neg (by omega), if_pos rfl, if_neg (by omega), if_neg (by omega), if_neg (by omega), if_pos (by omega)]
  exact ⟨rfl, rfl⟩
theorem tw_ne {r v : Nat} (h : r < 64) (hs : Pw v) (ha : r % v = 0) : r ≠ tw r v := by
  unfold Pw at hs
  unfold tw
  rcases hs with rfl | rfl | rfl | rfl | rfl | rfl | rfl <;> (split <;> omega)
section MOD
variable (ro : RO) (d : Nat) (m : Nat → Nat) (b s hy g : Nat → Nat) (x : Nat → Int32) (st hs l a : Nat) (sg f1 f2 : Int32)
end MOD
