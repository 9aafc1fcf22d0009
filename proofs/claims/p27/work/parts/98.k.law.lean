

/-! THE CLASS's world in the law: the palace it holds, what it answers, changes and what is undone -/
theorem tf_all {R : Nat} (hR : R < 4) (h c : Nat) (h0 h1 h2 h3 : Nat → Nat → Nat) (l n a : Nat) (x k u v : Nat → Int32) : (hisR R c h0 h1 h2 h3 ++ ordT l n a x k u v).map (glE 0 106 0 0 h) = hisR R c h0 h1 h2 h3 ++ ordT l n a x k u v := by
  rcases (show R = 0 ∨ R = 1 ∨ R = 2 ∨ R = 3 by omega) with rfl | rfl | rfl | rfl <;> rfl
def ST (p : Nat → Nat → Nat) (A : List AE) : Prop := ∃ z t s R c h0 h1 h2 h3 l n a x k u v, A = topT z p t s (hisR R c h0 h1 h2 h3 ++ ordT l n a x k u v) ∧ Nm p ∧ Nm t ∧ Nm s ∧ R < 4 ∧ c ≤ 4 ∧ Nm h0 ∧ Nm h1 ∧ Nm h2 ∧ Nm h3
theorem ST_cl {p : Nat → Nat → Nat} {A : List AE} (hs : ST p A) : A.length = 106 ∧ unH 0 106 0 0 A = some A ∧ A.all (clE 106) = true ∧ (∀ h, A.map (glE 0 106 0 0 h) = A) ∧ ∀ X, hasC 6 (A ++ X) 0 = true := by
  obtain ⟨z, t, s, R, c, h0, h1, h2, h3, l, n, a, x, k, u, v, rfl, m1, m2, m3, hR, hc, m4⟩ := hs
  have tf := tf_ok hR c h0 h1 h2 h3 l n a x k u v
  have cl := top_cl (z := z) (p := p) (t := t) (s := s) tf
  refine ⟨cl.1, cl.2.1, cl.2.2.1, fun h => ?_, fun X => rfl⟩
  have e : topT z p t s (hisR R c h0 h1 h2 h3 ++ ordT l n a x k u v) = topT z p t s [] ++ (hisR R c h0 h1 h2 h3 ++ ordT l n a x k u v) := by
    simp only [List.cons_append, List.nil_append, List.append_nil]
    rfl
  rw [e, List.map_append, tf_all hR]
  rfl
theorem cal_s {p p' : Nat → Nat → Nat} {A A' X : List AE} {oth as : List Value} {call : CL} {mid : Nat} {w : Int32} (hs : ST p A) (hs' : ST p' A') (h1 : rf0 as = 0) (ha : unL 0 106 0 0 as = some as) (hc : call mid (.ref 0 :: as) A = some (some (.int w), A')) : cal call mid 106 0 (.ref 0 :: as) oth (A ++ X) = some (some (.int w), A' ++ X) := by
  have c := ST_cl hs
  have c' := ST_cl hs'
  have := cal_blk (A := []) (B := A) (C := X) (oth := oth) (k := 0) rfl c.1 (by omega) h1 ha c.2.1 hc c'.1 c'.2.2.1 c'.2.2.2.1
  exact this
section LAWK
variable (ro : RO) (d : Nat) {p : Nat → Nat → Nat} {A : List AE}
theorem k_room (hs : ST p A) (hw : Wf p) {r : Nat} (hr : r < 64) (w : Int32) : exec ro (d + 9) 98 [.ref 0, .int (nI r), .int w] A = some (some (.int (ofR p r w)), A) := by
  obtain ⟨z, t, s, R, c, h0, h1, h2, h3, l, n, a, x, k, u, v, rfl, m1, m2, m3, hR, hc, m4, m5, m6, m7⟩ := hs; have tf := tf_ok hR c h0 h1 h2 h3 l n a x k u v
  exact top_room ro (d + 3) z p t s _ tf (p_ofRoom ro (d + 4) p hr hw)
theorem k_total (hs : ST p A) (hw : Wf p) (hb : Hb p) {k : Nat} (hk : k ≤ 15) : exec ro (d + 9) 103 [.ref 0, .int (nI k)] A = some (some (.int (ofW p k)), A) := by
  obtain ⟨z, t, s, R, c, h0, h1, h2, h3, l, n, a, x, k', u, v, rfl, m1, m2, m3, hR, hc, m4, m5, m6, m7⟩ := hs
  exact top_total ro (d + 4) z p t s _ (fun y => by have := (nI_eq (by omega) (by omega)).mp y; omega) (fun y => by have := (nI_eq (by omega) (by omega)).mp y; omega) (p_ofWhole ro (d + 4) p hk hw hb)
def guA (p : Nat → Nat → Nat) (g : Nat) (w : Int32) : Int32 := if p 2 g = 0 then -1 else ofG p g w
theorem k_guest (hs : ST p A) (hb : Hb p) {g : Nat} (hg : g < 12) (w : Int32) : exec ro (d + 9) 99 [.ref 0, .int (nI g), .int w] A = some (some (.int (guA p g w)), A) := by
  obtain ⟨z, t, s, R, c, h0, h1, h2, h3, l, n, a, x, k, u, v, rfl, m1, m2, m3, hR, hc, m4, m5, m6, m7⟩ := hs; have tf := tf_ok hR c h0 h1 h2 h3 l n a x k u v
  refine top_guest ro (d + 3) z p t s _ tf ?_
  unfold guA
  by_cases c : p 2 g = 0
  · rw [if_pos c]
    exact p_ofGuest0 ro (d + 5) p hg c
  · rw [if_neg c]
    exact p_ofGuest ro (d + 5) p hg (by omega) hb
def hkA (p : Nat → Nat → Nat) (g : Nat) : Int32 := if 0 < p 2 g then nI (1 + p 3 g) else if 0 < p 7 g then -10 - nI (p 7 g) else nI 0
theorem k_hook (hs : ST p A) (hb : Hb p) {g : Nat} (hg : g < 12) : exec ro (d + 9) 100 [.ref 0, .int (nI g)] A = some (some (.int (hkA p g)), A) := by
  obtain ⟨z, t, s, R, c, h0, h1, h2, h3, l, n, a, x, k, u, v, rfl, m1, m2, m3, hR, hc, m4, m5, m6, m7⟩ := hs; have tf := tf_ok hR c h0 h1 h2 h3 l n a x k u v
  exact top_hook ro (d + 3) z p t s _ tf (p_ofHook ro (d + 5) p hg hb)
theorem k_free (hs : ST p A) (hw : Wf p) {w k : Nat} (h1 : 1 ≤ w) (h2 : w ≤ 64) (h3 : szf w = w) (hk : k ≤ 1) : exec ro (d + 9) 101 [.ref 0, .int (nI w), .int (nI k)] A = some (some (.int (if k = 0 then nI (hsz p w) else if hlo p w = 64 then -5 else nI (hlo p w))), A) := by
  obtain ⟨z, t, s, R, c, h0, h1', h2', h3', l, n, a, x, k', u, v, rfl, m1, m2, m3, hR, hc, m4, m5, m6, m7⟩ := hs
  exact top_free ro (d + 3) z p t s _ (tf_ok hR c h0 h1' h2' h3' l n a x k' u v) (p_ofFree ro (d + 4) p h1 h2 h3 hk hw)
theorem k_greatest (hs : ST p A) (hw : Wf p) (w : Int32) : exec ro (d + 9) 102 [.ref 0, .int w] A = some (some (.int (if w = nI 0 then nI (gS p) else if w = nI 1 then nI (gbr p 7) else -2)), A) := by
  obtain ⟨z, t, s, R, c, h0, h1, h2, h3, l, n, a, x, k, u, v, rfl, m1, m2, m3, hR, hc, m4, m5, m6, m7⟩ := hs; have tf := tf_ok hR c h0 h1 h2 h3 l n a x k u v
  exact top_greatest ro (d + 3) z p t s _ tf (p_greatestFree ro (d + 4) p hw)
theorem k_why (hs : ST p A) (hw : Wf p) (hb : Hb p) {n : Nat} (h1 : 1 ≤ n) (h2 : n ≤ 64) : exec ro (d + 9) 104 [.ref 0, .int (nI n)] A = some (some (.int (nI (rfs p (szf n)))), A) := by
  obtain ⟨z, t, s, R, c, h0, h1', h2', h3, l, n', a, x, k, u, v, rfl, m1, m2, m3, hR, hc, m4, m5, m6, m7⟩ := hs
  exact top_why ro (d + 3) z p t s _ h1 h2 (tf_ok hR c h0 h1' h2' h3 l n' a x k u v) hw hb
theorem k_ifCome (hs : ST p A) (hw : Wf p) (h9 : p 9 0 ≤ 1) {n : Nat} (h1 : 1 ≤ n) (h2 : n ≤ 64) : exec ro (d + 9) 105 [.ref 0, .int (nI n)] A = some (some (.int (plc p (szf n) (p 9 0))), A) := by
  obtain ⟨z, t, s, R, c, h0, h1', h2', h3, l, n', a, x, k, u, v, rfl, m1, m2, m3, hR, hc, m4, m5, m6, m7⟩ := hs
  exact top_ifCome ro (d + 4) z p t s _ h1 h2 (tf_ok hR c h0 h1' h2' h3 l n' a x k u v) hw h9
theorem k_best (hs : ST p A) (hb : Hb p) (hw : Wf p) (ha : ∀ g, g < 12 → 0 < p 2 g → p 3 g + p 0 (p 3 g) ≤ 64) (hn : ∀ g, g < 12 → Nm (wtF p g) ∧ Wf (wtF p g)) : ∃ A', ST p A' ∧ exec ro (d + 9) 107 [.ref 0] A = some (some (.int (fI (blF p 12).1)), A') := by
  obtain ⟨z, t, s, R, c, h0, h1, h2, h3, l, n, a, x, k, u, v, rfl, m1, m2, m3, hR, hc, m4, m5, m6, m7⟩ := hs; have tf := tf_ok hR c h0 h1 h2 h3 l n a x k u v
  obtain ⟨t', n1, e⟩ := top_bestLeave ro (d + 3) z p t s _ tf m1 m2 hb hw ha hn
  exact ⟨_, ⟨z, t', s, R, c, h0, h1, h2, h3, l, n, a, x, k, u, v, rfl, m1, n1, m3, hR, hc, m4, m5, m6, m7⟩, e⟩
theorem k_until (hs : ST p A) {n : Nat} (h1 : 1 ≤ n) (h2 : n ≤ 64) (hk : ∀ k, Nm (psN p k) ∧ pok1 (psN p k) ∧ Wf (psN p k) ∧ psN p k 9 0 ≤ 1) : ∃ A', ST p A' ∧ exec ro (d + 9) 106 [.ref 0, .int (nI n)] A = some (some (.int (utF p (szf n) 301 0)), A') := by
  obtain ⟨z, t, s, R, c, h0, h1', h2', h3, l, n', a, x, k, u, v, rfl, m1, m2, m3, hR, hc, m4, m5, m6, m7⟩ := hs
  obtain ⟨k', -, e⟩ := top_until ro (d + 2) z p t s _ h1 h2 (tf_ok hR c h0 h1' h2' h3 l n' a x k u v) m1 m2 (fun k _ => (hk k).2)
  exact ⟨_, ⟨z, psN p k', s, R, c, h0, h1', h2', h3, l, n', a, x, k, u, v, rfl, m1, (hk k').1, m3, hR, hc, m4, m5, m6, m7⟩, e⟩
theorem k_ifp (hs : ST p A) {n w : Nat} (h1 : 1 ≤ n) (h2 : n ≤ 300) (hw2 : w ≤ 2) (hk : ∀ k, Nm (psN p k) ∧ pok1 (psN p k) ∧ Wf (psN p k) ∧ Hb (psN p k)) : ∃ A', ST p A' ∧ exec ro (d + 9) 108 [.ref 0, .int (nI n), .int (nI w)] A = some (some (.int (nI (if w = 0 then cF (psN p n) else if w = 1 then gS (psN p n) else cG (psN p n)))), A') := by
  obtain ⟨z, t, s, R, c, h0, h1', h2', h3, l, n', a, x, k, u, v, rfl, m1, m2, m3, hR, hc, m4, m5, m6, m7⟩ := hs
  have e := top_ifPassed ro (d + 2) z p t s _ h1 h2 hw2 (tf_ok hR c h0 h1' h2' h3 l n' a x k u v) m1 m2 (fun k _ => (hk k).2.1) (hk n).2.2.1 (hk n).2.2.2
  exact ⟨_, ⟨z, psN p n, s, R, c, h0, h1', h2', h3, l, n', a, x, k, u, v, rfl, m1, (hk n).1, m3, hR, hc, m4, m5, m6, m7⟩, e⟩
/-- what undoing brings back -/
def UN (ro : RO) (d : Nat) (p : Nat → Nat → Nat) (A : List AE) : Prop := ∃ c A2, c ≤ 4 ∧ exec ro (d + 9) 97 [.ref 0] A = some (some (.int (nI c)), A2) ∧ ST p A2
theorem st_set {p' : Nat → Nat → Nat} {B z R c l n a : Nat} {t s h0 h1 h2 h3 : Nat → Nat → Nat} {x k u v : Nat → Int32} {w : Int32} (hb : Eb p p' w B) (m1 : Nm p) (m3 : Nm s) (hR : R < 4) (hc : c ≤ 4) (m4 : Nm h0) (m5 : Nm h1) (m6 : Nm h2) (m7 : Nm h3) : ∃ p2 T', TF T' ∧ (∀ e, exec ro (e + 4) 96 [.ref 0, .int w] (topT z p p' s (hisR R c h0 h1 h2 h3 ++ ordT l n a x k u v)) = some (some (.int w), topT z p2 p' s T')) ∧ ST p' (topT z p2 p' s T') ∧ (¬ w < 0 → UN ro d p (topT z p2 p' s T')) := by
  obtain ⟨b1, b2, b3, b4, -⟩ := hb
  have n1 := b1.2.2.2.2.2
  by_cases hw : w < 0
  · have e := b2 hw
    subst e
    exact ⟨p', _, tf_ok hR c h0 h1 h2 h3 l n a x k u v, fun e => top_settleN ro (e + 3) hw, ⟨z, p', s, R, c, h0, h1, h2, h3, l, n, a, x, k, u, v, rfl, m1, n1, m3, hR, hc, m4, m5, m6, m7⟩, fun y => absurd hw y⟩
  · obtain ⟨y, hy, rfl⟩ := b3 hw
    have hpr : rcR R c < 4 := by unfold rcR; split <;> omega
    have hpc : rcC c ≤ 4 := by unfold rcC; split <;> omega
    have k0 : Nm (rc0 c p h0 h1) := by
      unfold rc0
      split
      · exact m5
      · split
        · exact m1
        · exact m4
    have k1 : Nm (rc1 c p h1 h2) := by
      unfold rc1
      split
      · exact m6
      · split
        · exact m1
        · exact m5
    have k2 : Nm (rc2 c p h2 h3) := by
      unfold rc2
      split
      · exact m7
      · split
        · exact m1
        · exact m6
    have k3 : Nm (rc3 c p h3) := by
      unfold rc3
      split
      · exact m1
      · exact m7
    refine ⟨p', hisR (rcR R c) (rcC c) (rc0 c p h0 h1) (rc1 c p h1 h2) (rc2 c p h2 h3) (rc3 c p h3) ++ ordT l n a x k u v, tf_ok hpr _ _ _ _ _ _ _ _ _ _ _ _, fun e => top_settle ro e hR hc (by omega) m1 n1 m4 m5 m6 m7, ⟨z, p', s, rcR R c, rcC c, _, _, _, _, l, n, a, x, k, u, v, rfl, n1, n1, m3, hpr, hpc, k0, k1, k2, k3⟩, fun _ => ?_⟩
    have hcc : ∃ c', c' < 4 ∧ rcC c = c' + 1 ∧ tkb (c' + 1) (rc0 c p h0 h1) (rc1 c p h1 h2) (rc2 c p h2 h3) (rc3 c p h3) = p := by
      rcases (show c = 0 ∨ c = 1 ∨ c = 2 ∨ c = 3 ∨ c = 4 by omega) with rfl | rfl | rfl | rfl | rfl
      · exact ⟨0, by omega, rfl, rfl⟩
      · exact ⟨1, by omega, rfl, rfl⟩
      · exact ⟨2, by omega, rfl, rfl⟩
      · exact ⟨3, by omega, rfl, rfl⟩
      · exact ⟨3, by omega, rfl, rfl⟩
    obtain ⟨c', c1, c2, c3⟩ := hcc
    have e := top_undo ro (d + 5) (R := rcR R c) (c := c') (z := z) (p := p') (t := p') (s := s) (h0 := rc0 c p h0 h1) (h1 := rc1 c p h1 h2) (h2 := rc2 c p h2 h3) (h3 := rc3 c p h3) (l := l) (n := n) (a := a) (x := x) (k := k) (u := u) (v := v) hpr c1 n1 k0 k1 k2 k3
    rw [c3] at e
    rw [c2]
    exact ⟨c', _, by omega, e, ⟨z, p', s, rcR R c, c', _, _, _, _, l, n, a, x, k, u, v, rfl, m1, n1, m3, hpr, by omega, k0, k1, k2, k3⟩⟩
theorem ch_come {p' : Nat → Nat → Nat} {w u v : Int32} {B : Nat} (hs : ST p A) (he : exec ro (d + 8) 40 [.ref 0, .int u, .int v] (palW p) = some (some (.int w), palW p')) (hb : Eb p p' w B) : ∃ A', exec ro (d + 9) 89 [.ref 0, .int u, .int v] A = some (some (.int w), A') ∧ ST p' A' ∧ (¬ w < 0 → UN ro (d + 1) p A') := by
  obtain ⟨z, t, s, R, c, h0, h1, h2, h3, l, n, a, x', k, u', v', rfl, m1, m2, m3, hR, hc, m4, m5, m6, m7⟩ := hs; obtain ⟨p2, T', t1, t2, t3, t4⟩ := st_set ro (d + 1) (z := z) (t := t) (l := l) (n := n) (a := a) (x := x') (k := k) (u := u') (v := v') hb m1 m3 hR hc m4 m5 m6 m7
  exact ⟨_, top_come ro (d + 2) z p t s _ T' (tf_ok hR c h0 h1 h2 h3 l n a x' k u' v') t1 m1 m2 he (t2 (d + 4)), t3, t4⟩
theorem ch_leave {p' : Nat → Nat → Nat} {w u : Int32} {B : Nat} (hs : ST p A) (he : exec ro (d + 8) 41 [.ref 0, .int u] (palW p) = some (some (.int w), palW p')) (hb : Eb p p' w B) : ∃ A', exec ro (d + 9) 90 [.ref 0, .int u] A = some (some (.int w), A') ∧ ST p' A' ∧ (¬ w < 0 → UN ro (d + 1) p A') := by
  obtain ⟨z, t, s, R, c, h0, h1, h2, h3, l, n, a, x', k, u', v', rfl, m1, m2, m3, hR, hc, m4, m5, m6, m7⟩ := hs; obtain ⟨p2, T', t1, t2, t3, t4⟩ := st_set ro (d + 1) (z := z) (t := t) (l := l) (n := n) (a := a) (x := x') (k := k) (u := u') (v := v') hb m1 m3 hR hc m4 m5 m6 m7
  exact ⟨_, top_leave ro (d + 3) z p t s _ T' (tf_ok hR c h0 h1 h2 h3 l n a x' k u' v') t1 m1 m2 he (t2 (d + 4)), t3, t4⟩
theorem ch_move {p' : Nat → Nat → Nat} {w u : Int32} {B : Nat} (hs : ST p A) (he : exec ro (d + 8) 42 [.ref 0, .int u] (palW p) = some (some (.int w), palW p')) (hb : Eb p p' w B) : ∃ A', exec ro (d + 9) 91 [.ref 0, .int u] A = some (some (.int w), A') ∧ ST p' A' ∧ (¬ w < 0 → UN ro (d + 1) p A') := by
  obtain ⟨z, t, s, R, c, h0, h1, h2, h3, l, n, a, x', k, u', v', rfl, m1, m2, m3, hR, hc, m4, m5, m6, m7⟩ := hs; obtain ⟨p2, T', t1, t2, t3, t4⟩ := st_set ro (d + 1) (z := z) (t := t) (l := l) (n := n) (a := a) (x := x') (k := k) (u := u') (v := v') hb m1 m3 hR hc m4 m5 m6 m7
  exact ⟨_, top_move ro (d + 2) z p t s _ T' (tf_ok hR c h0 h1 h2 h3 l n a x' k u' v') t1 m1 m2 he (t2 (d + 4)), t3, t4⟩
theorem ch_stay {p' : Nat → Nat → Nat} {w u v : Int32} {B : Nat} (hs : ST p A) (he : exec ro (d + 8) 44 [.ref 0, .int u, .int v] (palW p) = some (some (.int w), palW p')) (hb : Eb p p' w B) : ∃ A', exec ro (d + 9) 92 [.ref 0, .int u, .int v] A = some (some (.int w), A') ∧ ST p' A' ∧ (¬ w < 0 → UN ro (d + 1) p A') := by
  obtain ⟨z, t, s, R, c, h0, h1, h2, h3, l, n, a, x', k, u', v', rfl, m1, m2, m3, hR, hc, m4, m5, m6, m7⟩ := hs; obtain ⟨p2, T', t1, t2, t3, t4⟩ := st_set ro (d + 1) (z := z) (t := t) (l := l) (n := n) (a := a) (x := x') (k := k) (u := u') (v := v') hb m1 m3 hR hc m4 m5 m6 m7
  exact ⟨_, top_stay ro (d + 3) z p t s _ T' (tf_ok hR c h0 h1 h2 h3 l n a x' k u' v') t1 m1 m2 he (t2 (d + 4)), t3, t4⟩
theorem ch_lose {p' : Nat → Nat → Nat} {w u : Int32} {B : Nat} (hs : ST p A) (he : exec ro (d + 8) 45 [.ref 0, .int u] (palW p) = some (some (.int w), palW p')) (hb : Eb p p' w B) : ∃ A', exec ro (d + 9) 93 [.ref 0, .int u] A = some (some (.int w), A') ∧ ST p' A' ∧ (¬ w < 0 → UN ro (d + 1) p A') := by
  obtain ⟨z, t, s, R, c, h0, h1, h2, h3, l, n, a, x', k, u', v', rfl, m1, m2, m3, hR, hc, m4, m5, m6, m7⟩ := hs; obtain ⟨p2, T', t1, t2, t3, t4⟩ := st_set ro (d + 1) (z := z) (t := t) (l := l) (n := n) (a := a) (x := x') (k := k) (u := u') (v := v') hb m1 m3 hR hc m4 m5 m6 m7
  exact ⟨_, top_lose ro (d + 3) z p t s _ T' (tf_ok hR c h0 h1 h2 h3 l n a x' k u' v') t1 m1 m2 he (t2 (d + 4)), t3, t4⟩
theorem ch_pass {p' : Nat → Nat → Nat} {w u : Int32} {B : Nat} (hs : ST p A) (he : exec ro (d + 8) 46 [.ref 0, .int u] (palW p) = some (some (.int w), palW p')) (hb : Eb p p' w B) : ∃ A', exec ro (d + 9) 94 [.ref 0, .int u] A = some (some (.int w), A') ∧ ST p' A' ∧ (¬ w < 0 → UN ro (d + 1) p A') := by
  obtain ⟨z, t, s, R, c, h0, h1, h2, h3, l, n, a, x', k, u', v', rfl, m1, m2, m3, hR, hc, m4, m5, m6, m7⟩ := hs; obtain ⟨p2, T', t1, t2, t3, t4⟩ := st_set ro (d + 1) (z := z) (t := t) (l := l) (n := n) (a := a) (x := x') (k := k) (u := u') (v := v') hb m1 m3 hR hc m4 m5 m6 m7
  exact ⟨_, top_pass ro (d + 1) z p t s _ T' (tf_ok hR c h0 h1 h2 h3 l n a x' k u' v') t1 m1 m2 he (t2 (d + 4)), t3, t4⟩
theorem ch_set {p' : Nat → Nat → Nat} {w u v : Int32} {B : Nat} (hs : ST p A) (he : exec ro (d + 8) 49 [.ref 0, .int u, .int v] (palW p) = some (some (.int w), palW p')) (hb : Eb p p' w B) : ∃ A', exec ro (d + 9) 95 [.ref 0, .int u, .int v] A = some (some (.int w), A') ∧ ST p' A' ∧ (¬ w < 0 → UN ro (d + 1) p A') := by
  obtain ⟨z, t, s, R, c, h0, h1, h2, h3, l, n, a, x', k, u', v', rfl, m1, m2, m3, hR, hc, m4, m5, m6, m7⟩ := hs; obtain ⟨p2, T', t1, t2, t3, t4⟩ := st_set ro (d + 1) (z := z) (t := t) (l := l) (n := n) (a := a) (x := x') (k := k) (u := u') (v := v') hb m1 m3 hR hc m4 m5 m6 m7
  exact ⟨_, top_setV ro (d + 3) z p t s _ T' (tf_ok hR c h0 h1 h2 h3 l n a x' k u' v') t1 m1 m2 he (t2 (d + 4)), t3, t4⟩
end LAWK
