
-- needs P<=45 98.mod
theorem in_rng (x : Int32) {a b : Nat} (ha : a < 1000) (hb : b < 1000) : (x < nI a ∨ nI b < x) ∨ ∃ k, a ≤ k ∧ k ≤ b ∧ x = nI k := by
  by_cases h : x < nI a ∨ nI b < x
  · exact Or.inl h
  · refine Or.inr ⟨x.toInt.toNat, ?_⟩
    simp only [not_or, Int32.lt_iff_toInt_lt] at h
    rw [nI_toInt (by omega), nI_toInt (by omega)] at h
    have e : x = nI x.toInt.toNat := by
      apply Int32.toInt.inj
      rw [nI_toInt (by omega)]
      omega
    exact ⟨by omega, by omega, e⟩
theorem hk_rng (x : Int32) : ((x < nI 0 ∨ nI 11 < x) ∧ (x < 0 ∨ ¬ x < nI 12)) ∨ ∃ k, k < 12 ∧ x = nI k := by
  rcases in_rng x (a := 0) (b := 11) (by omega) (by omega) with h | ⟨k, _, h2, h3⟩
  · refine Or.inl ⟨h, ?_⟩
    rcases h with h | h
    · exact Or.inl h
    · refine Or.inr ?_
      rw [Int32.lt_iff_toInt_lt, nI_toInt (by omega)] at h ⊢
      omega
  · exact Or.inr ⟨k, by omega, h3⟩
theorem Inv_up {p : Nat → Nat → Nat} {B C : Nat} (h : Inv p B) (hc : B ≤ C) : Inv p C := by
  obtain ⟨a, b, c, d, e, f⟩ := h
  refine ⟨a, b, ⟨fun g hg => ?_, c.2⟩, d, e, f⟩
  have := c.1 g hg
  exact ⟨this.1, this.2.1, this.2.2.1, this.2.2.2.1, by omega, this.2.2.2.2.2.1, this.2.2.2.2.2.2⟩
theorem psN_2 (p : Nat → Nat → Nat) : ∀ n, psN p n 10 2 = p 10 2 + n
  | 0 => rfl
  | n + 1 => by
    show passF (psN p n) 10 2 = _
    have : passF (psN p n) 10 2 = psN p n 10 2 + 1 := w2_at _ _ _ _
    rw [this, psN_2 p n]
    omega
theorem rfs_3 (p : Nat → Nat → Nat) (w : Nat) : rfs p w ≤ 3 := by
  unfold rfs lk
  split
  · omega
  · split
    · omega
    · split <;> omega
theorem neg_r {k : Nat} (h : k ≤ 3) : (-10 - nI k : Int32) < 0 := by
  have : ∀ k, k ≤ 3 → (-10 - nI k : Int32) < 0 := by decide
  exact this k h
/-- how an attempt ends in both -/
def Bo (p q : Nat → Nat → Nat) (m' : Nat → Nat) (w : Int32) (B : Nat) : Prop := (w < 0 ∧ Rel p m' ∧ Nm q) ∨ ((∃ t, t < 100000 ∧ w = nI t) ∧ Inv q B ∧ Rel q m' ∧ q 10 2 ≤ 9999)
theorem Bo_w {p q : Nat → Nat → Nat} {m' : Nat → Nat} {w : Int32} {B : Nat} (h : Bo p q m' w B) : w < 0 ∨ ∃ t, t < 100000 ∧ w = nI t := by
  rcases h with h | h
  · exact Or.inl h.1
  · exact Or.inr h.1
section BOTH
variable (ro : RO) (d d2 : Nat) (b s hy g : Nat → Nat) (x : Nat → Int32) (st hs l a : Nat) (sg f1 f2 : Int32)
theorem b_come {B : Nat} {p : Nat → Nat → Nat} {m : Nat → Nat} (u v : Int32) (h : Inv p B) (hB : B < 1000000) (hr : Rel p m) (hd : p 10 2 ≤ 9999) : ∃ w q m', exec ro (d + 6) 56 [.ref 0, .int u, .int v] (palW p) = some (some (.int w), palW q) ∧ exec ro (d2 + 5) 160 [.ref 0, .int u, .int v] (modW m b s hy g x st hs l a sg f1 f2) = some (some (.int w), modW m' b s hy g x st hs l a sg f1 f2) ∧ Bo p q m' w B := by
  have hwf := InX_wf h
  have hb := InX_hb h hB
  have hsb := Rl_sb h hr (fun _ => by omega)
  have nm := h.2.2.2.2.2
  rcases in_rng u (a := 1) (b := 64) (by omega) (by omega) with h1 | ⟨n, n1, n2, rfl⟩
  · exact ⟨-2, p, m, p_admitO ro (d + 4) p (Or.inl h1), m_doComeO ro (d2 + 3) m b s hy g x st hs l a sg f1 f2 h1, Or.inl ⟨by decide, hr, nm⟩⟩
  · rcases in_rng v (a := 1) (b := 30) (by omega) (by omega) with h2 | ⟨y, y1, y2, rfl⟩
    · exact ⟨-2, p, m, p_admitO ro (d + 4) p (Or.inr h2), m_doComeD ro (d2 + 3) m b s hy g x st hs l a sg f1 f2 n1 n2 h2, Or.inl ⟨by decide, hr, nm⟩⟩
    · have hwn := RH_wn h.1 hwf hr n2
      by_cases hz : rfs p (szf n) = 0
      · obtain ⟨r, f, e1, e2, e3, e4, e5, e6, e7, e8, e9, e10, e11⟩ := adm_all h hr n1 n2 y1 y2 hz
        refine ⟨nI (gK p), _, _, p_admitY ro d p n1 n2 y1 y2 hwf hb hz h.2.2.2.2.1.1 e7 e8 e9, ?_, Or.inr ⟨⟨gK p, by omega, rfl⟩, e10, e11, ?_⟩⟩
        · exact m_doCome ro d2 m b s hy g x st hs l a sg f1 f2 n1 n2 y1 y2 hsb e2 e3 e4 e5 e6
        · rw [ad_10, if_neg (by omega)]
          unfold tkQ
          rw [gv_n _ (by omega)]
          have ht : ∀ k q, tkN f (szf n) k q 10 2 = q 10 2 := by
            intro k
            induction k with
            | zero => intro q; rfl
            | succ k ih =>
              intro q
              unfold tkN
              split
              · rw [ih, hv_n (by omega) (by omega)]
              · rfl
          rw [ht]
          exact hd
      · refine ⟨-10 - nI (rfs p (szf n)), p, m, p_admitR ro d p n1 n2 y1 y2 hwf hb hz, ?_, Or.inl ⟨neg_r (rfs_3 p _), hr, nm⟩⟩
        have := m_doComeR ro d2 m b s hy g x st hs l a sg f1 f2 n1 n2 y1 y2 hsb (by rw [hwn]; exact hz)
        rw [hwn] at this
        exact this
theorem b_leave {B : Nat} {p : Nat → Nat → Nat} {m : Nat → Nat} (u : Int32) (h : Inv p B) (hB : B < 1000000) (hr : Rel p m) (hd : p 10 2 ≤ 9999) : ∃ w q m', exec ro (d + 5) 57 [.ref 0, .int u] (palW p) = some (some (.int w), palW q) ∧ exec ro (d2 + 3) 161 [.ref 0, .int u] (modW m b s hy g x st hs l a sg f1 f2) = some (some (.int w), modW m' b s hy g x st hs l a sg f1 f2) ∧ Bo p q m' w B := by
  have hb := InX_hb h hB
  have nm := h.2.2.2.2.2
  rcases hk_rng u with ⟨h1, h2⟩ | ⟨k, hk, rfl⟩
  · exact ⟨-1, p, m, p_dismissN ro (d + 2) p h2, m_doLeaveO ro d2 m b s hy g x st hs l a sg f1 f2 h1, Or.inl ⟨by decide, hr, nm⟩⟩
  · have hh := hr.2.2.1.2.2 k hk
    by_cases h0 : p 2 k = 0
    · exact ⟨-1, p, m, p_dismiss0 ro (d + 2) p hk h0, m_doLeave0 ro d2 m b s hy g x st hs l a sg f1 f2 hk (by rw [hh.1, if_neg (by omega)]), Or.inl ⟨by decide, hr, nm⟩⟩
    · have hp : 0 < p 2 k := by omega
      obtain ⟨k1, k2, k3, k4, k5, k6⟩ := dis_rel h hr rfl hk hp
      have gg := h.2.2.1.1 k hk
      have g2 := gg.2.2.2.2.2.2 hp
      have al := h.1 _ gg.2.1
      have hl := pow_le al.1
      have e := m_doLeave ro d2 m b s hy g x st hs l a sg f1 f2 hk k3 (by rw [k4]; exact gg.2.1) k5 k6
      rw [k2] at e
      refine ⟨nI (p 0 (p 3 k)), disF p k, dlM m k, p_dismiss ro d p hk hb hp (blk_64 al.1 g2.1 gg.2.1) hl.2 (Qu_lt h.2.2.2.1 gg.2.1 (by omega)), e, Or.inr ⟨⟨_, by omega, rfl⟩, dis_inv h (Or.inr rfl) hk hp, k1, ?_⟩⟩
      rw [di_n p (by omega) (by omega), so_10, if_neg (by omega)]
      exact hd
theorem b_pass {B : Nat} {p : Nat → Nat → Nat} {m : Nat → Nat} (u : Int32) (h : Inv p B) (hB : B < 1000000) (hr : Rel p m) (hd : p 10 2 ≤ 9999) : ∃ w q m', exec ro (d + 7) 62 [.ref 0, .int u] (palW p) = some (some (.int w), palW q) ∧ exec ro (d2 + 7) 167 [.ref 0, .int u] (modW m b s hy g x st hs l a sg f1 f2) = some (some (.int w), modW m' b s hy g x st hs l a sg f1 f2) ∧ Bo p q m' w B := by
  have nm := h.2.2.2.2.2
  have h3 : m 3 = p 10 2 := hr.2.2.2.2.2.2
  rcases in_rng u (a := 1) (b := 50) (by omega) (by omega) with h1 | ⟨n, n1, n2, rfl⟩
  · exact ⟨-2, p, m, p_passDaysO ro (d + 5) p h1, m_doPassO ro (d2 + 5) b s hy g x st hs l a sg f1 f2 h1, Or.inl ⟨by decide, hr, nm⟩⟩
  · by_cases c : 9999 < p 10 2 + n
    · exact ⟨-4, p, m, p_passDaysL ro (d + 5) p n1 n2 (by omega) c, m_doPassL ro (d2 + 5) b s hy g x st hs l a sg f1 f2 n1 n2 (by omega) (by omega), Or.inl ⟨by decide, hr, nm⟩⟩
    · obtain ⟨m', e, r⟩ := m_doPass ro d2 b s hy g x st hs l a sg f1 f2 n1 n2 h hr (by omega)
      have hl := cF_le (psN p n)
      refine ⟨nI (cF (psN p n)), psN p n, m', p_passDays ro d p n1 n2 (by omega) (fun k _ => inv_pok (psN_inv h k) hB), e, Or.inr ⟨⟨_, by omega, rfl⟩, psN_inv h n, r, ?_⟩⟩
      rw [psN_2]
      omega
end BOTH
def hq (h0 h1 h2 h3 : Nat → Nat → Nat) (i : Nat) : Nat → Nat → Nat := if i = 0 then h0 else if i = 1 then h1 else if i = 2 then h2 else h3
/-- the two worlds tell the same -/
def SimC (B z : Nat) (p t s : Nat → Nat → Nat) (R c : Nat) (h0 h1 h2 h3 : Nat → Nat → Nat) (l : Nat) (x : Nat → Int32) (m hy g : Nat → Nat) : Prop :=
  (z ≤ 1 ∧ Inv p B ∧ Rel p m ∧ p 10 2 ≤ 9999 ∧ Nm t ∧ Nm s ∧ (z = 1 → Inv s B ∧ Rel s g ∧ s 10 2 ≤ 9999)) ∧ (R < 4 ∧ c ≤ 4 ∧ Nm h0 ∧ Nm h1 ∧ Nm h2 ∧ Nm h3 ∧ ∀ i, i < c → Inv (hq h0 h1 h2 h3 i) B ∧ Rel (hq h0 h1 h2 h3 i) (fun j => hy (350 * i + j)) ∧ hq h0 h1 h2 h3 i 10 2 ≤ 9999) ∧ l ≤ 60 ∧ XC x
def Sim (B : Nat) (A M : List AE) : Prop := ∃ z p t s R c h0 h1 h2 h3 l n a x k u v m b sp hy g a' sg f1 f2, A = topT z p t s (hisR R c h0 h1 h2 h3 ++ ordT l n a x k u v) ∧ M = modW m b sp hy g x c z l a' sg f1 f2 ∧ SimC B z p t s R c h0 h1 h2 h3 l x m hy g
theorem push_all {B : Nat} {p : Nat → Nat → Nat} {b m hy : Nat → Nat} {R c : Nat} {h0 h1 h2 h3 : Nat → Nat → Nat} (hb : ∀ i, i < 350 → b i = m i) (hp : Inv p B) (hr : Rel p m) (hd : p 10 2 ≤ 9999) (h : R < 4 ∧ c ≤ 4 ∧ Nm h0 ∧ Nm h1 ∧ Nm h2 ∧ Nm h3 ∧ ∀ i, i < c → Inv (hq h0 h1 h2 h3 i) B ∧ Rel (hq h0 h1 h2 h3 i) (fun j => hy (350 * i + j)) ∧ hq h0 h1 h2 h3 i 10 2 ≤ 9999) : rcR R c < 4 ∧ rcC c ≤ 4 ∧ rcC c = psS c ∧ Nm (rc0 c p h0 h1) ∧ Nm (rc1 c p h1 h2) ∧ Nm (rc2 c p h2 h3) ∧ Nm (rc3 c p h3) ∧ ∀ i, i < rcC c → Inv (hq (rc0 c p h0 h1) (rc1 c p h1 h2) (rc2 c p h2 h3) (rc3 c p h3) i) B ∧ Rel (hq (rc0 c p h0 h1) (rc1 c p h1 h2) (rc2 c p h2 h3) (rc3 c p h3) i) (fun j => psM b hy c (350 * i + j)) ∧ hq (rc0 c p h0 h1) (rc1 c p h1 h2) (rc2 c p h2 h3) (rc3 c p h3) i 10 2 ≤ 9999 := by
  obtain ⟨a1, a2, a3, a4, a5, a6, a7⟩ := h
  have nm := hp.2.2.2.2.2
  refine ⟨?_, ?_, rfl, ?_, ?_, ?_, ?_, fun i hi => ?_⟩
  · unfold rcR
    split <;> omega
  · unfold rcC
    split <;> omega
  · unfold rc0
    split
    · exact a4
    · split
      · exact nm
      · exact a3
  · unfold rc1
    split
    · exact a5
    · split
      · exact nm
      · exact a4
  · unfold rc2
    split
    · exact a6
    · split
      · exact nm
      · exact a5
  · unfold rc3
    split
    · exact nm
    · exact a6
  · by_cases hc : c = 4
    · subst hc
      have hi4 : i < 4 := hi
      by_cases hi3 : i = 3
      · subst hi3
        have e : hq (rc0 4 p h0 h1) (rc1 4 p h1 h2) (rc2 4 p h2 h3) (rc3 4 p h3) 3 = p := rfl
        rw [e]
        refine ⟨hp, Rel_ext hp hr (fun j hj => ?_), hd⟩
        show cpl 350 1050 b (sh3 1050 hy) (1050 + j) = m j
        rw [cpl_at hj, hb j hj]
      · have e : hq (rc0 4 p h0 h1) (rc1 4 p h1 h2) (rc2 4 p h2 h3) (rc3 4 p h3) i = hq h0 h1 h2 h3 (i + 1) := by
          rcases (show i = 0 ∨ i = 1 ∨ i = 2 by omega) with rfl | rfl | rfl <;> rfl
        rw [e]
        have := a7 (i + 1) (by omega)
        refine ⟨this.1, Rel_ext this.1 this.2.1 (fun j hj => ?_), this.2.2⟩
        show cpl 350 1050 b (sh3 1050 hy) (350 * i + j) = hy (350 * (i + 1) + j)
        unfold cpl sh3
        rw [if_neg (by omega), if_pos (by omega)]
        congr 1
        omega
    · have hps : psM b hy c = cpl 350 (c * 350) b hy := if_neg hc
      have hrc : rcC c = c + 1 := if_neg hc
      rw [hrc] at hi
      by_cases hic : i = c
      · subst hic
        have e : hq (rc0 i p h0 h1) (rc1 i p h1 h2) (rc2 i p h2 h3) (rc3 i p h3) i = p := by
          rcases (show i = 0 ∨ i = 1 ∨ i = 2 ∨ i = 3 by omega) with rfl | rfl | rfl | rfl <;> rfl
        rw [e, hps]
        refine ⟨hp, Rel_ext hp hr (fun j hj => ?_), hd⟩
        rw [show 350 * i + j = i * 350 + j by omega, cpl_at hj, hb j hj]
      · have e : hq (rc0 c p h0 h1) (rc1 c p h1 h2) (rc2 c p h2 h3) (rc3 c p h3) i = hq h0 h1 h2 h3 i := by
          rcases (show c = 0 ∨ c = 1 ∨ c = 2 ∨ c = 3 by omega) with rfl | rfl | rfl | rfl
          · omega
          · rcases (show i = 0 by omega) with rfl; rfl
          · rcases (show i = 0 ∨ i = 1 by omega) with rfl | rfl <;> rfl
          · rcases (show i = 0 ∨ i = 1 ∨ i = 2 by omega) with rfl | rfl | rfl <;> rfl
        rw [e, hps]
        have := a7 i (by omega)
        refine ⟨this.1, Rel_ext this.1 this.2.1 (fun j hj => ?_), this.2.2⟩
        unfold cpl
        rw [if_neg (by omega)]
