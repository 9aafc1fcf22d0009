
/-! NUMBERS, for the walks of the small machine -/
theorem e_10 : ((1 : Int32) = 0) = False := by decide
theorem e_01 : ((0 : Int32) = 1) = False := by decide
theorem nb_neg {i : Nat} (h : i < 2147483648) : (nI i < 0) = False := eq_false (nI_pos h)
theorem nb_cl {i : Nat} (h : i < 2147483648) : (nI i).toNatClampNeg = i := nI_clamp h
theorem nb_ltT {i j : Nat} (h : i < j) (hj : j < 2147483648) : (nI i < nI j) = True := eq_true (nI_lt h hj)
theorem nb_ltF {i j : Nat} (h : j ≤ i) (hi : i < 2147483648) : (nI i < nI j) = False := eq_false (nI_nlt h hi)
theorem nb_eqT {i n : Nat} (h : i = n) : (nI i = nI n) = True := eq_true (by rw [h])
theorem nb_eqF {i n : Nat} (h : i ≠ n) (hi : i < 2147483648) (hn : n < 2147483648) : (nI i = nI n) = False := eq_false (fun z => h ((nI_eq hi hn).mp z))
theorem nb_z {i : Nat} (h : i = 0) : (nI i = 0) = True := eq_true (by rw [h]; rfl)
theorem nb_zF {i : Nat} (h : 0 < i) (hi : i < 2147483648) : (nI i = 0) = False := eq_false (nI_ne0 h hi)
theorem nb_zz : ((0 : Int32) < 0) = False := by decide
theorem nb_01 : (nI 0 = 1) = False := by decide
theorem nb_11 : (nI 1 = 1) = True := by decide
theorem nb_00 : (nI 0 = 0) = True := by decide
theorem nb_pos {i : Nat} (h : 0 < i) (hi : i < 2147483648) : ((0 : Int32) < nI i) = True := eq_true (by rw [← nI_0]; exact nI_lt h hi)
theorem nb_posF {i : Nat} (h : i = 0) : ((0 : Int32) < nI i) = False := eq_false (by rw [h]; decide)
theorem nb_leT {i n : Nat} (h : n ≤ i) : (n ≤ i) = True := eq_true h
theorem nb_leF {i n : Nat} (h : i < n) : (n ≤ i) = False := eq_false (by omega)
theorem nb_m {n : Nat} (h : n < 2147483648) : (nI n = -5) = False := eq_false (fun z => by have := congrArg Int32.toInt z; rw [nI_toInt h] at this; have e : ((-5 : Int32)).toInt = -5 := by decide; omega)
-- a palace's cells: p 0 sizes, p 1 holders (+2), p 2 wanted, p 3 first, p 4 days left, p 5 lost, p 6 moves, p 7 cutting, p 8 waiting, p 9 settings, p 10: count, cleaned of the foremost, days, halvings, joins, guests, lost so far, cleaned so far
def hoI (n : Nat) : Int32 := nI n - 2
abbrev suiW (p : Nat → Nat → Nat) : List AE := [.inr (5, [.ref 1, .ref 2, .int (nI (p 10 3)), .int (nI (p 10 4))]), .inl (0, 64, fun r => nI (p 0 r)), .inl (0, 64, fun r => hoI (p 1 r))]
abbrev hooW (p : Nat → Nat → Nat) : List AE := [.inr (1, [.ref 1, .ref 2, .ref 3, .ref 4, .ref 5, .ref 6, .int (nI (p 10 5)), .int (nI (p 10 6))]), .inl (0, 12, fun h => nI (p 2 h)), .inl (0, 12, fun h => nI (p 3 h)), .inl (0, 12, fun h => nI (p 4 h)), .inl (0, 12, fun h => nI (p 5 h)), .inl (0, 12, fun h => nI (p 6 h)), .inl (0, 12, fun h => nI (p 7 h))]
abbrev lauW (p : Nat → Nat → Nat) : List AE := [.inr (2, [.ref 1, .int (nI (p 10 0)), .int (nI (p 10 1)), .int (nI (p 10 7))]), .inl (0, 64, fun i => nI (p 8 i))]
abbrev palW (p : Nat → Nat → Nat) : List AE := [.inr (4, [.ref 1, .ref 4, .ref 11, .ref 13, .int (nI (p 10 2))]),
  .inr (5, [.ref 2, .ref 3, .int (nI (p 10 3)), .int (nI (p 10 4))]), .inl (0, 64, fun r => nI (p 0 r)), .inl (0, 64, fun r => hoI (p 1 r)),
  .inr (1, [.ref 5, .ref 6, .ref 7, .ref 8, .ref 9, .ref 10, .int (nI (p 10 5)), .int (nI (p 10 6))]), .inl (0, 12, fun h => nI (p 2 h)), .inl (0, 12, fun h => nI (p 3 h)), .inl (0, 12, fun h => nI (p 4 h)), .inl (0, 12, fun h => nI (p 5 h)), .inl (0, 12, fun h => nI (p 6 h)), .inl (0, 12, fun h => nI (p 7 h)),
  .inr (2, [.ref 12, .int (nI (p 10 0)), .int (nI (p 10 1)), .int (nI (p 10 7))]), .inl (0, 64, fun i => nI (p 8 i)), .inl (0, 3, fun i => nI (p 9 i))]
def w2 (p : Nat → Nat → Nat) (f i v : Nat) : Nat → Nat → Nat := fun f' i' => if f' = f ∧ i' = i then v else p f' i'
def cnt (q : Nat → Bool) : Nat → Nat
  | 0 => 0
  | n + 1 => cnt q n + (if q n then 1 else 0)
