

/-! NUMBERS, for the walks of the small machine -/
theorem e_10 : ((1 : Int32) = 0) = False := by decide
theorem e_01 : ((0 : Int32) = 1) = False := by decide
theorem nb_neg {i : Nat} (h : i < 2147483648) : (nI i < 0) = False := eq_false (nI_pos h)
theorem nb_cl {i : Nat} (h : i < 2147483648) : (nI i).toNatClampNeg = i := nI_clamp h
theorem nb_ltT {i j : Nat} (h : i < j) (hj : j < 2147483648) : (nI i < nI j) = True := eq_true (nI_lt h hj)
theorem nb_ltF {i j : Nat} (h : j ≤ i) (hi : i < 2147483648) : (nI i < nI j) = False := eq_false (nI_nlt h hi)
theorem nb_eqT {i n : Nat} (h : i = n) : (nI i = nI n) = True := eq_true (by rw [h])
theorem nb_eqF {i n : Nat} (h : i ≠ n) (hi : i < 2147483648) (hn : n < 2147483648) : (nI i = nI n) = False := eq_false (fun z => h ((nI_eq hi hn).mp z))
theorem nb_z {i : Nat} (h : i = 0) : (nI i = 0) = True := eq_true (by rw [h]; rfl)
theorem nb_zF {i : Nat} (h : 0 < i) (hi : i < 2147483648) : (nI i = 0) = False := eq_false (nI_ne0 h hi)
theorem nb_zz : ((0 : Int32) < 0) = False := by decide
theorem nb_01 : (nI 0 = 1) = False := by decide
theorem nb_11 : (nI 1 = 1) = True := by decide
theorem nb_00 : (nI 0 = 0) = True := by decide
theorem nb_pos {i : Nat} (h : 0 < i) (hi : i < 2147483648) : ((0 : Int32) < nI i) = True := eq_true (by rw [← nI_0]; exact nI_lt h hi)
theorem nb_posF {i : Nat} (h : i = 0) : ((0 : Int32) < nI i) = False := eq_false (by rw [h]; decide)
theorem nb_leT {i n : Nat} (h : n ≤ i) : (n ≤ i) = True := eq_true h
theorem nb_leF {i n : Nat} (h : i < n) : (n ≤ i) = False := eq_false (by omega)
theorem nb_m {n : Nat} (h : n < 2147483648) : (nI n = -5) = False := eq_false (fun z => by
  have h1 := congrArg Int32.toInt z
  rw [nI_toInt h, show ((-5 : Int32)).toInt = -5 from by decide] at h1
  omega)
theorem pok_i (x : Int32) : pok 0 (.int x) = true := rfl
theorem pok_r (x : Nat) : pok 2 (.ref x) = true := rfl
theorem pok_0 : pok 1 (.int (nI 0)) = true := by decide
theorem pok_1 : pok 1 (.int (nI 1)) = true := by decide
theorem nb_ltI {i j : Nat} (hi : i < 2147483648) (hj : j < 2147483648) : (nI i < nI j) = (i < j) := propext (nI_ltI hi hj)
theorem nb_eqI {i j : Nat} (hi : i < 2147483648) (hj : j < 2147483648) : (nI i = nI j) = (i = j) := propext (nI_eq hi hj)
theorem nb_zI {i : Nat} (hi : i < 2147483648) : (nI i = 0) = (i = 0) := by rw [← nI_0]; exact propext (nI_eq hi (by omega))
theorem nb_posI {i : Nat} (hi : i < 2147483648) : ((0 : Int32) < nI i) = (0 < i) := by rw [← nI_0]; exact propext (nI_ltI (by omega) hi)
-- a palace's cells: p 0 sizes, p 1 holders (+2), p 2 wanted, p 3 first, p 4 days left, p 5 lost, p 6 moves, p 7 cutting, p 8 waiting, p 9 settings, p 10: count, cleaned of the foremost, days, halvings, joins, guests, lost so far, cleaned so far
def hoI (n : Nat) : Int32 := nI n - 2
abbrev suiW (p : Nat → Nat → Nat) : List AE := [.inr (5, [.ref 1, .ref 2, .int (nI (p 10 3)), .int (nI (p 10 4))]), .inl (0, 64, fun r => nI (p 0 r)), .inl (0, 64, fun r => hoI (p 1 r))]
abbrev hooW (p : Nat → Nat → Nat) : List AE := [.inr (1, [.ref 1, .ref 2, .ref 3, .ref 4, .ref 5, .ref 6, .int (nI (p 10 5)), .int (nI (p 10 6))]), .inl (0, 12, fun h => nI (p 2 h)), .inl (0, 12, fun h => nI (p 3 h)), .inl (0, 12, fun h => nI (p 4 h)), .inl (0, 12, fun h => nI (p 5 h)), .inl (0, 12, fun h => nI (p 6 h)), .inl (0, 12, fun h => nI (p 7 h))]
abbrev lauW (p : Nat → Nat → Nat) : List AE := [.inr (2, [.ref 1, .int (nI (p 10 0)), .int (nI (p 10 1)), .int (nI (p 10 7))]), .inl (0, 64, fun i => nI (p 8 i))]
abbrev palW (p : Nat → Nat → Nat) : List AE := [.inr (4, [.ref 1, .ref 4, .ref 11, .ref 13, .int (nI (p 10 2))]),
  .inr (5, [.ref 2, .ref 3, .int (nI (p 10 3)), .int (nI (p 10 4))]), .inl (0, 64, fun r => nI (p 0 r)), .inl (0, 64, fun r => hoI (p 1 r)),
  .inr (1, [.ref 5, .ref 6, .ref 7, .ref 8, .ref 9, .ref 10, .int (nI (p 10 5)), .int (nI (p 10 6))]), .inl (0, 12, fun h => nI (p 2 h)), .inl (0, 12, fun h => nI (p 3 h)), .inl (0, 12, fun h => nI (p 4 h)), .inl (0, 12, fun h => nI (p 5 h)), .inl (0, 12, fun h => nI (p 6 h)), .inl (0, 12, fun h => nI (p 7 h)),
  .inr (2, [.ref 12, .int (nI (p 10 0)), .int (nI (p 10 1)), .int (nI (p 10 7))]), .inl (0, 64, fun i => nI (p 8 i)), .inl (0, 3, fun i => nI (p 9 i))]
def w2 (p : Nat → Nat → Nat) (f i v : Nat) : Nat → Nat → Nat := fun f' i' => if f' = f ∧ i' = i then v else p f' i'
def cnt (q : Nat → Bool) : Nat → Nat
  | 0 => 0
  | n + 1 => cnt q n + (if q n then 1 else 0)
def Pw (s : Nat) : Prop := s = 1 ∨ s = 2 ∨ s = 4 ∨ s = 8 ∨ s = 16 ∨ s = 32 ∨ s = 64
def Wf (p : Nat → Nat → Nat) : Prop := ∀ r, r < 64 → Pw (p 0 r) ∧ p 1 r < 14
theorem pow_le {s : Nat} (h : Pw s) : s ≤ 64 ∧ 0 < s := by unfold Pw at h; omega
def fst (p : Nat → Nat → Nat) (r : Nat) : Nat := r - r % p 0 r
def tw (r s : Nat) : Nat := if r / s % 2 = 0 then r - r % s + s else r - r % s - s
def twI (p : Nat → Nat → Nat) (r : Nat) : Int32 := if p 0 r = 64 then -5 else nI (tw r (p 0 r))
def bfr (p : Nat → Nat → Nat) (r : Nat) : Bool := decide (p 1 r = 1) && decide (r % p 0 r = 0)
theorem bit_f : ∀ r, r < 64 → ∀ s ∈ [1, 2, 4, 8, 16, 32, 64], nI r &&& -nI s = nI (r - r % s) := by decide +kernel
theorem bit_t : ∀ r, r < 64 → ∀ s ∈ [1, 2, 4, 8, 16, 32], (nI (r - r % s)) ^^^ nI s = nI (tw r s) := by decide +kernel
theorem bit_first {r s : Nat} (h : r < 64) (hs : Pw s) : nI r &&& -nI s = nI (r - r % s) := bit_f r h s (by unfold Pw at hs; simp only [List.mem_cons, List.not_mem_nil, or_false]; exact hs)
theorem bit_twin {r s : Nat} (h : r < 64) (hs : Pw s) (h64 : s ≠ 64) : (nI r &&& -nI s) ^^^ nI s = nI (tw r s) := by
  rw [bit_first h hs]
  exact bit_t r h s (by unfold Pw at hs; simp only [List.mem_cons, List.not_mem_nil, or_false]; omega)
theorem ho_free {n : Nat} (h : n < 14) : (hoI n = -1) = (n = 1) := by
  have : ∀ n, n < 14 → (hoI n = -1 ↔ n = 1) := by decide +kernel
  exact propext (this n h)
theorem ho_dirty {n : Nat} (h : n < 14) : (hoI n = -2) = (n = 0) := by
  have : ∀ n, n < 14 → (hoI n = -2 ↔ n = 0) := by decide +kernel
  exact propext (this n h)
def mkk (p : Nat → Nat → Nat) (a k n h : Nat) : Nat → Nat → Nat := fun f i => if a ≤ i ∧ i < a + k ∧ f = 0 then n else if a ≤ i ∧ i < a + k ∧ f = 1 then h else p f i
theorem mkk_z (p : Nat → Nat → Nat) (a n h : Nat) : mkk p a 0 n h = p := by
  funext f i
  unfold mkk
  rw [if_neg (by omega), if_neg (by omega)]
theorem mkk_0 (p : Nat → Nat → Nat) (a k n h : Nat) : upd (fun r => nI (mkk p a k n h 0 r)) (a + k) (nI n) = fun r => nI (mkk p a (k + 1) n h 0 r) := by
  funext r
  unfold upd mkk
  by_cases h1 : r = a + k
  · rw [if_pos h1, if_pos (by omega)]
  · rw [if_neg h1]
    dsimp only
    by_cases h2 : a ≤ r ∧ r < a + k
    · rw [if_pos (by omega), if_pos (by omega)]
    · rw [if_neg (by omega), if_neg (by omega), if_neg (by omega), if_neg (by omega)]
theorem mkk_1 (p : Nat → Nat → Nat) (a k n h : Nat) : upd (fun r => hoI (mkk p a k n h 1 r)) (a + k) (hoI h) = fun r => hoI (mkk p a (k + 1) n h 1 r) := by
  funext r
  unfold upd mkk
  by_cases h1 : r = a + k
  · rw [if_pos h1, if_neg (by omega), if_pos (by omega)]
  · rw [if_neg h1]
    dsimp only
    by_cases h2 : a ≤ r ∧ r < a + k
    · rw [if_neg (by omega), if_pos (by omega), if_neg (by omega), if_pos (by omega)]
    · rw [if_neg (by omega), if_neg (by omega), if_neg (by omega), if_neg (by omega)]
theorem mkk_s (p : Nat → Nat → Nat) (a k n h i : Nat) : mkk p a k n h 10 i = p 10 i := by
  unfold mkk
  rw [if_neg (by omega), if_neg (by omega)]
theorem hoI_F : (-1 : Int32) = hoI 1 := by decide
theorem hoI_D : (-2 : Int32) = hoI 0 := by decide
theorem hoI_G (g : Nat) : nI g = hoI (g + 2) := by
  unfold hoI
  rw [show (2 : Int32) = nI 2 from rfl, pk_sub (by omega)]
  rfl
theorem fst_le {r s : Nat} (h : r < 64) (hs : Pw s) : r - r % s + s ≤ 64 ∧ (r - r % s) % s = 0 ∧ r - r % s ≤ r ∧ r < r - r % s + s := by
  unfold Pw at hs
  rcases hs with rfl | rfl | rfl | rfl | rfl | rfl | rfl <;> omega
theorem tw_le {r s : Nat} (h : r < 64) (hs : Pw s) (h64 : s ≠ 64) : tw r s + s ≤ 64 ∧ tw r s % s = 0 ∧ (min (r - r % s) (tw r s) = r - r % (2 * s) ∧ Pw (2 * s)) := by
  unfold Pw at hs
  unfold tw Pw
  rcases hs with rfl | rfl | rfl | rfl | rfl | rfl | rfl <;> (split <;> omega)
def sc (p : Nat → Nat → Nat) (i v : Nat) : Nat → Nat → Nat := w2 p 10 i v
theorem sc_0 (p : Nat → Nat → Nat) (i v r : Nat) : sc p i v 0 r = p 0 r := by simp [sc, w2]
theorem sc_1 (p : Nat → Nat → Nat) (i v r : Nat) : sc p i v 1 r = p 1 r := by simp [sc, w2]
theorem sc_s (p : Nat → Nat → Nat) (i v : Nat) : sc p i v 10 i = v := by simp [sc, w2]
theorem sc_34 (p : Nat → Nat → Nat) (v : Nat) : sc p 3 v 10 4 = p 10 4 := by simp [sc, w2]
theorem sc_43 (p : Nat → Nat → Nat) (v : Nat) : sc p 4 v 10 3 = p 10 3 := by simp [sc, w2]
/-- a suite is halved -/
def hlv (p : Nat → Nat → Nat) (r : Nat) : Nat → Nat → Nat := sc (mkk (mkk p (fst p r) (p 0 r / 2) (p 0 r / 2) 1) (fst p r + p 0 r / 2) (p 0 r / 2) (p 0 r / 2) 1) 3 (p 10 3 + 1)
def jnb (p : Nat → Nat → Nat) (a : Nat) : Bool := decide (p 0 a ≠ 64) && decide (p 0 (tw a (p 0 a)) = p 0 a) && decide (p 1 (tw a (p 0 a)) = 1)
def jn1 (p : Nat → Nat → Nat) (a : Nat) : Nat → Nat → Nat := sc (mkk p (a - a % (2 * p 0 a)) (2 * p 0 a) (2 * p 0 a) 1) 4 (p 10 4 + 1)
def rel (a : Nat) : Nat → (Nat → Nat → Nat) → Nat → Nat → Nat
  | 0, p => p
  | n + 1, p => if jnb p a then rel a n (jn1 p a) else p
def fI (n : Nat) : Int32 := if n = 0 then -5 else nI (n - 1)
def plS (p : Nat → Nat → Nat) (w sd : Nat) : Nat → Nat × Nat
  | 0 => (0, 65)
  | n + 1 => if bfr p n = true ∧ w ≤ p 0 n ∧ (p 0 n < (plS p w sd n).2 ∨ (sd = 1 ∧ p 0 n = (plS p w sd n).2)) then (n + 1, p 0 n) else plS p w sd n
def plc (p : Nat → Nat → Nat) (w sd : Nat) : Int32 := if sd = 1 ∧ (plS p w sd 64).1 ≠ 0 then nI ((plS p w sd 64).1 - 1 + (plS p w sd 64).2 - w) else fI (plS p w sd 64).1
def mxf (q : Nat → Nat) : Nat → Nat
  | 0 => 0
  | n + 1 => if mxf q n < q n then q n else mxf q n
def fstf (q : Nat → Bool) (n : Nat) : Nat → Nat  -- the first i from n - k on with q, n if none
  | 0 => n
  | k + 1 => if q (n - (k + 1)) then n - (k + 1) else fstf q n k
theorem mkk_wf {p : Nat → Nat → Nat} {a k n h : Nat} (hw : Wf p) (hn : Pw n) (hh : h < 14) : Wf (mkk p a k n h) := by
  intro r hr
  unfold mkk
  refine ⟨?_, ?_⟩
  · split
    · exact hn
    · rw [if_neg (by omega)]; exact (hw r hr).1
  · rw [if_neg (by omega)]
    split
    · exact hh
    · exact (hw r hr).2
theorem sc_wf {p : Nat → Nat → Nat} {i v : Nat} (hw : Wf p) : Wf (sc p i v) := by
  intro r hr
  rw [sc_0, sc_1]
  exact hw r hr
theorem jn1_wf {p : Nat → Nat → Nat} {a : Nat} (ha : a < 64) (hw : Wf p) (h64 : p 0 a ≠ 64) : Wf (jn1 p a) := sc_wf (mkk_wf hw (tw_le ha (hw a ha).1 h64).2.2.2 (by omega))
theorem Pw_half {s : Nat} (h : Pw s) (h1 : s ≠ 1) : Pw (s / 2) ∧ s / 2 + s / 2 = s := by
  unfold Pw at h ⊢
  omega
theorem hlv_wf {p : Nat → Nat → Nat} {r : Nat} (hr : r < 64) (hw : Wf p) (h1 : p 0 r ≠ 1) : Wf (hlv p r) := sc_wf (mkk_wf (mkk_wf hw (Pw_half (hw r hr).1 h1).1 (by omega)) (Pw_half (hw r hr).1 h1).1 (by omega))
theorem rel_wf {a : Nat} (ha : a < 64) : ∀ (n : Nat) (p : Nat → Nat → Nat), Wf p → Wf (rel a n p)
  | 0, p, hw => hw
  | n + 1, p, hw => by
    unfold rel
    split
    · rename_i hj
      simp only [jnb, Bool.and_eq_true, decide_eq_true_eq] at hj
      exact rel_wf ha n _ (jn1_wf ha hw hj.1.1)
    · exact hw
def tkN (f w : Nat) : Nat → (Nat → Nat → Nat) → Nat → Nat → Nat
  | 0, p => p
  | n + 1, p => if w < p 0 f then tkN f w n (hlv p f) else p
theorem cntT {q : Nat → Bool} {i : Nat} (h : q i = true) : cnt q (i + 1) = cnt q i + 1 := by
  show cnt q i + (if q i = true then 1 else 0) = _
  rw [if_pos h]
theorem cntF {q : Nat → Bool} {i : Nat} (h : q i = false) : cnt q (i + 1) = cnt q i := by
  show cnt q i + (if q i = true then 1 else 0) = _
  rw [if_neg (by rw [h]; exact Bool.false_ne_true)]
  rfl
theorem mxfT {q : Nat → Nat} {i : Nat} (h : mxf q i < q i) : mxf q (i + 1) = q i := if_pos h
theorem mxfF {q : Nat → Nat} {i : Nat} (h : ¬ mxf q i < q i) : mxf q (i + 1) = mxf q i := if_neg h
theorem cnt_le (q : Nat → Bool) : ∀ n, cnt q n ≤ n
  | 0 => Nat.le_refl _
  | n + 1 => by
    have := cnt_le q n
    show cnt q n + (if q n = true then 1 else 0) ≤ _
    split <;> omega
theorem mxf_le {q : Nat → Nat} {c : Nat} : ∀ n, (∀ i, i < n → q i ≤ c) → mxf q n ≤ c
  | 0, _ => Nat.zero_le _
  | n + 1, h => by
    have := mxf_le n (fun i hi => h i (by omega))
    have h1 := h n (by omega)
    show (if mxf q n < q n then q n else mxf q n) ≤ _
    split <;> omega
def Nm (p : Nat → Nat → Nat) : Prop := (∀ i, 64 ≤ i → p 0 i = 0 ∧ p 1 i = 2 ∧ p 8 i = 0) ∧ (∀ i, 12 ≤ i → p 2 i = 0 ∧ p 3 i = 0 ∧ p 4 i = 0 ∧ p 5 i = 0 ∧ p 6 i = 0 ∧ p 7 i = 0) ∧ ∀ i, 3 ≤ i → p 9 i = 0
theorem cpn {f g : Nat → Int32} {n : Nat} (h : ∀ i, n ≤ i → g i = f i) : va_cpy f g 0 0 n = f := by
  funext k
  unfold va_cpy
  by_cases hk : k < n
  · rw [if_pos (by omega), Nat.zero_add, Nat.sub_zero]
  · rw [if_neg (by omega)]
    exact h k (by omega)
theorem upd_w2 (p : Nat → Nat → Nat) (f k v : Nat) : upd (fun i => nI (p f i)) k (nI v) = fun i => nI (w2 p f k v f i) := by
  funext i
  unfold upd w2
  by_cases h : i = k
  · rw [if_pos h, if_pos ⟨rfl, h⟩]
  · rw [if_neg h, if_neg (fun z => h z.2)]
theorem w2_ne {p : Nat → Nat → Nat} {f k v g : Nat} (h : g ≠ f) (i : Nat) : w2 p f k v g i = p g i := if_neg (fun z => h z.1)
theorem w2_at (p : Nat → Nat → Nat) (f k v : Nat) : w2 p f k v f k = v := if_pos ⟨rfl, rfl⟩
theorem w2_ni {p : Nat → Nat → Nat} {f k v i : Nat} (h : i ≠ k) : w2 p f k v f i = p f i := if_neg (fun z => h z.2)
theorem nb_m1 {n : Nat} (h : 0 < n) : nI n + (-1) = nI (n - 1) := sb_m1 h
theorem iff_or0 {x : Int32} (h : x < 0 ∨ ¬ x < nI 12) : (if x < 0 then (0 : Nat) else if x < nI 12 then 1 else 0) = 0 := by
  split
  · rfl
  · rw [if_neg (h.resolve_left ‹_›)]
def smf (q : Nat → Nat) : Nat → Nat
  | 0 => 0
  | n + 1 => smf q n + q n
theorem w2_sm (p : Nat → Nat → Nat) (f k v i : Nat) : w2 p f k v f i = if i = k then v else p f i := by
  unfold w2
  by_cases h : i = k
  · rw [if_pos ⟨rfl, h⟩, if_pos h]
  · rw [if_neg (fun z => h z.2), if_neg h]
