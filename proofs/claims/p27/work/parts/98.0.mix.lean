

-- needs P<=45 92.mod
def bt (dl : Nat → Nat) : Nat → Nat
  | 0 => 0
  | n + 1 => bt dl n + dl n * 2 ^ n
theorem bt_lt {dl : Nat → Nat} (h : ∀ i, dl i ≤ 1) : ∀ n, bt dl n < 2 ^ n
  | 0 => by
    show 0 < 1
    decide
  | n + 1 => by
    have := bt_lt h n
    have h1 := h n
    have : dl n * 2 ^ n ≤ 1 * 2 ^ n := Nat.mul_le_mul_right _ h1
    show bt dl n + dl n * 2 ^ n < 2 ^ (n + 1)
    rw [Nat.pow_succ]
    omega
theorem bt_at {dl : Nat → Nat} (h : ∀ i, dl i ≤ 1) {k : Nat} : ∀ n, k < n → bt dl n / 2 ^ k % 2 = dl k
  | 0, hk => by omega
  | n + 1, hk => by
    show (bt dl n + dl n * 2 ^ n) / 2 ^ k % 2 = dl k
    have hp : 0 < 2 ^ k := Nat.pow_pos (by omega)
    rcases Nat.lt_or_ge k n with z | z
    · have e : dl n * 2 ^ n = 2 ^ k * (dl n * 2 ^ (n - k)) := by
        rw [Nat.mul_left_comm, ← Nat.pow_add, show k + (n - k) = n by omega]
      rw [e, Nat.add_mul_div_left _ _ hp, show n - k = (n - k - 1) + 1 by omega, Nat.pow_succ, ← Nat.mul_assoc, Nat.add_mul_mod_self_right]
      exact bt_at h n z
    · have e : k = n := by omega
      subst e
      have := bt_lt h k
      have h1 := h k
      rw [Nat.mul_comm, Nat.add_mul_div_left _ _ hp, Nat.div_eq_of_lt this, Nat.zero_add]
      omega
theorem or_b : ∀ h, h < 12 → ∀ c, c < 2 ^ h → nI c ||| nI (2 ^ h) = nI (c + 2 ^ h) := by decide +kernel
theorem or_0 (c : Nat) : nI c ||| nI 0 = nI c := by
  rw [show nI 0 = (0 : Int32) from rfl]
  exact Int32.or_zero
theorem sh_b : ∀ k, k < 12 → nI 1 <<< (nI k &&& 31) = nI (2 ^ k) := by decide +kernel
theorem sr_s : ∀ k, k < 12 → ((nI k &&& 31).toBitVec.smod 32).toNat = k := by decide +kernel
theorem sr_b {c k : Nat} (hc : c < 4096) (hk : k < 12) : (nI c >>> (nI k &&& 31)) &&& nI 1 = nI (c / 2 ^ k % 2) := by
  have hd : c / 2 ^ k ≤ c := Nat.div_le_self _ _
  rw [pk_shrN (by omega) _ k (sr_s k hk), pk_andN (by omega) 1 (by decide)]
theorem w4_rel {p : Nat → Nat → Nat} {m dl : Nat → Nat} {g v : Nat} {B x : Nat} (hi : InX p B x) (hr : Rl p m dl) (hg : g < 12) : Rl (w2 p 4 g v) (w1 m (266 + 7 * g + 3) v) dl := by
  obtain ⟨rs, rq, rh, rg⟩ := hr
  have d : ∀ F, F ≠ 4 → ∀ i, w2 p 4 g v F i = p F i := fun F hF i => w2_ne hF i
  refine ⟨RS_p (RS_w1 rs (by omega) (by omega) (by omega)) (d 0 (by omega)) (d 1 (by omega)) (d 10 (by omega) 3) (d 10 (by omega) 4), RQ_p (RQ_w1 hi.2.2.2.1 rq (by omega) (by omega) (by omega)) (d 10 (by omega) 0) (d 10 (by omega) 1) (d 10 (by omega) 7) (d 8 (by omega)), ⟨?_, ?_, fun k hk => ?_⟩, RG_p (RG_w1 rg (by omega)) (d 9 (by omega)) (d 10 (by omega) 2)⟩
  · rw [w1_ne (by omega), d 10 (by omega)]; exact rh.1
  · rw [w1_ne (by omega), d 10 (by omega)]; exact rh.2.1
  · have := rh.2.2 k hk
    rw [d 2 (by omega), d 3 (by omega), d 5 (by omega), d 6 (by omega), d 7 (by omega), w2_sm]
    have e : ∀ i, i ≠ 266 + 7 * g + 3 → w1 m (266 + 7 * g + 3) v i = m i := fun i hi => w1_ne hi
    rw [e (266 + 7 * k) (by omega), e (266 + 7 * k + 6) (by omega), e (266 + 7 * k + 4) (by omega), e (266 + 7 * k + 1) (by omega), e (266 + 7 * k + 2) (by omega), e (266 + 7 * k + 5) (by omega)]
    by_cases c : k = g
    · subst c
      rw [if_pos rfl, w1_at]
      exact ⟨this.1, this.2.1, this.2.2.1, fun z => ⟨(this.2.2.2 z).1, (this.2.2.2 z).2.1, rfl, (this.2.2.2 z).2.2.2⟩⟩
    · rw [if_neg c, w1_ne (by omega)]
      exact this
theorem in_rng (x : Int32) {a b : Nat} (ha : a < 1000) (hb : b < 1000) : (x < nI a ∨ nI b < x) ∨ ∃ k, a ≤ k ∧ k ≤ b ∧ x = nI k := by
  by_cases h : x < nI a ∨ nI b < x
  · exact Or.inl h
  · refine Or.inr ⟨x.toInt.toNat, ?_⟩
    simp only [not_or, Int32.lt_iff_toInt_lt] at h
    rw [nI_toInt (by omega), nI_toInt (by omega)] at h
    have e : x = nI x.toInt.toNat := by
      apply Int32.toInt.inj
      rw [nI_toInt (by omega)]
      omega
    exact ⟨by omega, by omega, e⟩
theorem hk_rng (x : Int32) : ((x < nI 0 ∨ nI 11 < x) ∧ (x < 0 ∨ ¬ x < nI 12)) ∨ ∃ k, k < 12 ∧ x = nI k := by
  rcases in_rng x (a := 0) (b := 11) (by omega) (by omega) with h | ⟨k, _, h2, h3⟩
  · refine Or.inl ⟨h, ?_⟩
    rcases h with h | h
    · exact Or.inl h
    · refine Or.inr ?_
      rw [Int32.lt_iff_toInt_lt, nI_toInt (by omega)] at h ⊢
      omega
  · exact Or.inr ⟨k, by omega, h3⟩
theorem Inv_up {p : Nat → Nat → Nat} {B C : Nat} (h : Inv p B) (hc : B ≤ C) : Inv p C := by
  obtain ⟨a, b, c, d, e, f⟩ := h
  refine ⟨a, b, ⟨fun g hg => ?_, c.2⟩, d, e, f⟩
  have := c.1 g hg
  exact ⟨this.1, this.2.1, this.2.2.1, this.2.2.2.1, by omega, this.2.2.2.2.2.1, this.2.2.2.2.2.2⟩
theorem psN_2 (p : Nat → Nat → Nat) : ∀ n, psN p n 10 2 = p 10 2 + n
  | 0 => rfl
  | n + 1 => by
    show passF (psN p n) 10 2 = _
    have : passF (psN p n) 10 2 = psN p n 10 2 + 1 := w2_at _ _ _ _
    rw [this, psN_2 p n]
    omega
theorem rfs_3 (p : Nat → Nat → Nat) (w : Nat) : rfs p w ≤ 3 := by
  unfold rfs lk
  split
  · omega
  · split
    · omega
    · split <;> omega
theorem neg_r {k : Nat} (h : k ≤ 3) : (-10 - nI k : Int32) < 0 := by
  have : ∀ k, k ≤ 3 → (-10 - nI k : Int32) < 0 := by decide
  exact this k h
section INI3
variable (ro : RO) (d : Nat)
theorem dfl0 : dfl 0 = [.null, .int 0] := rfl
theorem dfl3 : dfl 3 = [.null, .int 0, .null, .null, .null, .int 0, .int 0] := rfl
theorem dfl6 : dfl 6 = [.null, .null, .null, .null, .null, .int 0] := rfl
theorem ord_init : exec ro (d + 1) 36 [.ref 0] [.inr (3, [.null, .int 0, .null, .null, .null, .int 0, .int 0])] = some (none, ordW 0 0 0 (fun _ => 0) (fun _ => 0) (fun _ => 0) (fun _ => 0)) := by
  rw [ex36, ev_eq]; simp (maxSteps := 1000000) (disch := omega) only [bk36_0, rn_end, rn_iconst, rn_iconstN, rn_bipush, rn_bipushN, rn_sipush, rn_sipushN, rn_iload0, rn_iload1, rn_iload2, rn_iload3, rn_iload4, rn_iload5, rn_iload6, rn_iload7, rn_iload_n0, rn_iload_n1, rn_iload_n2, rn_iload_n3, rn_iload_n4, rn_iload_n5, rn_iload_n6, rn_iload_n7, rn_aload_n0, rn_aload_nL0, rn_aload_n1, rn_aload_nL1, rn_aload_n2, rn_aload_nL2, rn_aload_n3, rn_aload_nL3, rn_istore0, rn_istore1, rn_istore2, rn_istore3, rn_istore4, rn_istore5, rn_istore6, rn_istore7, rn_istore_n0, rn_istore_n1, rn_istore_n2, rn_istore_n3, rn_astore_n0, rn_astore_n1, rn_astore_n2, rn_astore_n3, rn_iincK0, rn_iincK1, rn_iincK2, rn_iincK3, rn_iincK4, rn_iincK5, rn_iincK6, rn_iincK7, rn_iinc0, rn_iinc1, rn_iinc2, rn_iinc3, rn_iinc4, rn_iinc5, rn_iinc6, rn_iinc7, rn_iadd, rn_isub, rn_imul, rn_idiv, rn_irem, rn_ineg, rn_ishl, rn_ishr, rn_iand, rn_ior, rn_ixor, rn_i2c, rn_dup, rn_dupr, rn_dup2, rn_pop, rn_ifeq, rn_ifne, rn_iflt, rn_ifge, rn_ifgt, rn_ifle, rn_iceq, rn_icne, rn_iclt, rn_icge, rn_icgt, rn_icle, rn_nonnull, rn_goto, rn_table, rn_lookup, rn_getf, rn_putf, rn_gets0, rn_gets1, rn_iald, rn_ialr, rn_iast, rn_cald, rn_cast, rn_aald, rn_aast, rn_alen, rn_v0, rn_v1, rn_v2, rn_v3, rn_v4, rn_s1, rn_s2, rn_s3, rn_max, rn_min, rn_copy, rn_iret, rn_ret, hgf_o, hgv_s, hpf_o, hil_a, his_a, hal_o, has_o, hcl_n, hcl_i, hcl_ite, hci_n, hcp_a, gr_r, fin_jump, fin_ret, fin_none, fin_ite, sw_0, sw_i, sw_r, sw_l, sw_n, sw_d, List.getElem?_cons_zero, List.getElem?_cons_succ, List.length_cons, List.length_nil, List.drop_succ_cons, List.drop_zero, List.take_succ_cons, List.take_zero, List.nil_append, List.cons_append, List.set_cons_zero, List.set_cons_succ, Nat.reduceAdd, Nat.reduceSub, Nat.reduceMul, Nat.reduceLT, Nat.reduceLeDiff, Nat.reduceEqDiff, Nat.reduceBEq, Int32.reduceOfInt, Int32.reduceLT, Int32.reduceAdd, Int32.reduceSub, Int32.reduceMul, Int32.reduceToNatClampNeg, ↓reduceIte, or_true, true_or, false_or, or_false, and_true, true_and, and_false, false_and, not_true_eq_false, not_false_eq_true, ne_eq, Bool.false_eq_true, Bool.true_eq_false, reduceCtorEq, Nat.zero_add, Nat.add_zero, Nat.sub_zero, Nat.sub_self, NCl, e_10, e_01, pok_i, pok_r, pok_0, pok_1, cal, rf0, rf1, unL, unV, lc, unH, unE, spl, glE, glV, gl, hasC, List.map_cons, List.map_nil, List.append_nil, List.reverse_cons, List.reverse_nil, List.drop_nil, List.take_nil, List.all_cons, List.all_nil, clE, clV, decide_true, Bool.and_true, beq_self_eq_true, BEq.rfl, nb_neg, nb_cl, nI_add, pk_mul, nb_ltT, nb_ltF, nb_eqT, nb_eqF, nb_z, nb_zF, nb_zz, nb_01, nb_11, nb_00, nb_leT, nb_leF, nb_pos, nb_posF, nb_m, rn_oinit, rn_newa, rn_new, rn_anew, rn_init, clo, Nat.zero_le, dfl0, dfl1, dfl2, dfl3, dfl4, dfl5, dfl6]
theorem his_init : exec ro (d + 3) 0 [.ref 0] [.inr (0, [.null, .int 0])] = some (none, .inr (0, [.ref 1, .int (nI 0)]) :: .inr (7, [.ref 2, .ref 16, .ref 30, .ref 44]) :: (pal2 pI ++ pal16 pI ++ pal30 pI ++ pal44 pI)) := by
  have e := p_init ro d
  rw [ex0, ev_eq]; simp (maxSteps := 1000000) (disch := omega) only [bk0_0, bk0_19, bk0_43, rn_end, rn_iconst, rn_iconstN, rn_bipush, rn_bipushN, rn_sipush, rn_sipushN, rn_iload0, rn_iload1, rn_iload2, rn_iload3, rn_iload4, rn_iload5, rn_iload6, rn_iload7, rn_iload_n0, rn_iload_n1, rn_iload_n2, rn_iload_n3, rn_iload_n4, rn_iload_n5, rn_iload_n6, rn_iload_n7, rn_aload_n0, rn_aload_nL0, rn_aload_n1, rn_aload_nL1, rn_aload_n2, rn_aload_nL2, rn_aload_n3, rn_aload_nL3, rn_istore0, rn_istore1, rn_istore2, rn_istore3, rn_istore4, rn_istore5, rn_istore6, rn_istore7, rn_istore_n0, rn_istore_n1, rn_istore_n2, rn_istore_n3, rn_astore_n0, rn_astore_n1, rn_astore_n2, rn_astore_n3, rn_iincK0, rn_iincK1, rn_iincK2, rn_iincK3, rn_iincK4, rn_iincK5, rn_iincK6, rn_iincK7, rn_iinc0, rn_iinc1, rn_iinc2, rn_iinc3, rn_iinc4, rn_iinc5, rn_iinc6, rn_iinc7, rn_iadd, rn_isub, rn_imul, rn_idiv, rn_irem, rn_ineg, rn_ishl, rn_ishr, rn_iand, rn_ior, rn_ixor, rn_i2c, rn_dup, rn_dupr, rn_dup2, rn_pop, rn_ifeq, rn_ifne, rn_iflt, rn_ifge, rn_ifgt, rn_ifle, rn_iceq, rn_icne, rn_iclt, rn_icge, rn_icgt, rn_icle, rn_nonnull, rn_goto, rn_table, rn_lookup, rn_getf, rn_putf, rn_gets0, rn_gets1, rn_iald, rn_ialr, rn_iast, rn_cald, rn_cast, rn_aald, rn_aast, rn_alen, rn_v0, rn_v1, rn_v2, rn_v3, rn_v4, rn_s1, rn_s2, rn_s3, rn_max, rn_min, rn_copy, rn_iret, rn_ret, hgf_o, hgv_s, hpf_o, hil_a, his_a, hal_o, has_o, hcl_n, hcl_i, hcl_ite, hci_n, hcp_a, gr_r, fin_jump, fin_ret, fin_none, fin_ite, sw_0, sw_i, sw_r, sw_l, sw_n, sw_d, List.getElem?_cons_zero, List.getElem?_cons_succ, List.length_cons, List.length_nil, List.drop_succ_cons, List.drop_zero, List.take_succ_cons, List.take_zero, List.nil_append, List.cons_append, List.set_cons_zero, List.set_cons_succ, Nat.reduceAdd, Nat.reduceSub, Nat.reduceMul, Nat.reduceLT, Nat.reduceLeDiff, Nat.reduceEqDiff, Nat.reduceBEq, Int32.reduceOfInt, Int32.reduceLT, Int32.reduceAdd, Int32.reduceSub, Int32.reduceMul, Int32.reduceToNatClampNeg, ↓reduceIte, or_true, true_or, false_or, or_false, and_true, true_and, and_false, false_and, not_true_eq_false, not_false_eq_true, ne_eq, Bool.false_eq_true, Bool.true_eq_false, reduceCtorEq, Nat.zero_add, Nat.add_zero, Nat.sub_zero, Nat.sub_self, NCl, e_10, e_01, pok_i, pok_r, pok_0, pok_1, cal, rf0, rf1, unL, unV, lc, unH, unE, spl, glE, glV, gl, hasC, List.map_cons, List.map_nil, List.append_nil, List.reverse_cons, List.reverse_nil, List.drop_nil, List.take_nil, List.all_cons, List.all_nil, clE, clV, decide_true, Bool.and_true, beq_self_eq_true, BEq.rfl, nb_neg, nb_cl, nI_add, pk_mul, nb_ltT, nb_ltF, nb_eqT, nb_eqF, nb_z, nb_zF, nb_zz, nb_01, nb_11, nb_00, nb_leT, nb_leF, nb_pos, nb_posF, nb_m, rn_oinit, rn_newa, rn_new, rn_anew, rn_init, clo, Nat.zero_le, dfl0, dfl1, dfl2, dfl3, dfl4, dfl5, dfl6, List.replicate, e]
  rw [ev_eq]; simp (maxSteps := 1000000) (disch := omega) only [bk0_0, bk0_19, bk0_43, rn_end, rn_iconst, rn_iconstN, rn_bipush, rn_bipushN, rn_sipush, rn_sipushN, rn_iload0, rn_iload1, rn_iload2, rn_iload3, rn_iload4, rn_iload5, rn_iload6, rn_iload7, rn_iload_n0, rn_iload_n1, rn_iload_n2, rn_iload_n3, rn_iload_n4, rn_iload_n5, rn_iload_n6, rn_iload_n7, rn_aload_n0, rn_aload_nL0, rn_aload_n1, rn_aload_nL1, rn_aload_n2, rn_aload_nL2, rn_aload_n3, rn_aload_nL3, rn_istore0, rn_istore1, rn_istore2, rn_istore3, rn_istore4, rn_istore5, rn_istore6, rn_istore7, rn_istore_n0, rn_istore_n1, rn_istore_n2, rn_istore_n3, rn_astore_n0, rn_astore_n1, rn_astore_n2, rn_astore_n3, rn_iincK0, rn_iincK1, rn_iincK2, rn_iincK3, rn_iincK4, rn_iincK5, rn_iincK6, rn_iincK7, rn_iinc0, rn_iinc1, rn_iinc2, rn_iinc3, rn_iinc4, rn_iinc5, rn_iinc6, rn_iinc7, rn_iadd, rn_isub, rn_imul, rn_idiv, rn_irem, rn_ineg, rn_ishl, rn_ishr, rn_iand, rn_ior, rn_ixor, rn_i2c, rn_dup, rn_dupr, rn_dup2, rn_pop, rn_ifeq, rn_ifne, rn_iflt, rn_ifge, rn_ifgt, rn_ifle, rn_iceq, rn_icne, rn_iclt, rn_icge, rn_icgt, rn_icle, rn_nonnull, rn_goto, rn_table, rn_lookup, rn_getf, rn_putf, rn_gets0, rn_gets1, rn_iald, rn_ialr, rn_iast, rn_cald, rn_cast, rn_aald, rn_aast, rn_alen, rn_v0, rn_v1, rn_v2, rn_v3, rn_v4, rn_s1, rn_s2, rn_s3, rn_max, rn_min, rn_copy, rn_iret, rn_ret, hgf_o, hgv_s, hpf_o, hil_a, his_a, hal_o, has_o, hcl_n, hcl_i, hcl_ite, hci_n, hcp_a, gr_r, fin_jump, fin_ret, fin_none, fin_ite, sw_0, sw_i, sw_r, sw_l, sw_n, sw_d, List.getElem?_cons_zero, List.getElem?_cons_succ, List.length_cons, List.length_nil, List.drop_succ_cons, List.drop_zero, List.take_succ_cons, List.take_zero, List.nil_append, List.cons_append, List.set_cons_zero, List.set_cons_succ, Nat.reduceAdd, Nat.reduceSub, Nat.reduceMul, Nat.reduceLT, Nat.reduceLeDiff, Nat.reduceEqDiff, Nat.reduceBEq, Int32.reduceOfInt, Int32.reduceLT, Int32.reduceAdd, Int32.reduceSub, Int32.reduceMul, Int32.reduceToNatClampNeg, ↓reduceIte, or_true, true_or, false_or, or_false, and_true, true_and, and_false, false_and, not_true_eq_false, not_false_eq_true, ne_eq, Bool.false_eq_true, Bool.true_eq_false, reduceCtorEq, Nat.zero_add, Nat.add_zero, Nat.sub_zero, Nat.sub_self, NCl, e_10, e_01, pok_i, pok_r, pok_0, pok_1, cal, rf0, rf1, unL, unV, lc, unH, unE, spl, glE, glV, gl, hasC, List.map_cons, List.map_nil, List.append_nil, List.reverse_cons, List.reverse_nil, List.drop_nil, List.take_nil, List.all_cons, List.all_nil, clE, clV, decide_true, Bool.and_true, beq_self_eq_true, BEq.rfl, nb_neg, nb_cl, nI_add, pk_mul, nb_ltT, nb_ltF, nb_eqT, nb_eqF, nb_z, nb_zF, nb_zz, nb_01, nb_11, nb_00, nb_leT, nb_leF, nb_pos, nb_posF, nb_m, rn_oinit, rn_newa, rn_new, rn_anew, rn_init, clo, Nat.zero_le, dfl0, dfl1, dfl2, dfl3, dfl4, dfl5, dfl6, e]
  rw [ev_eq]; simp (maxSteps := 1000000) (disch := omega) only [bk0_0, bk0_19, bk0_43, rn_end, rn_iconst, rn_iconstN, rn_bipush, rn_bipushN, rn_sipush, rn_sipushN, rn_iload0, rn_iload1, rn_iload2, rn_iload3, rn_iload4, rn_iload5, rn_iload6, rn_iload7, rn_iload_n0, rn_iload_n1, rn_iload_n2, rn_iload_n3, rn_iload_n4, rn_iload_n5, rn_iload_n6, rn_iload_n7, rn_aload_n0, rn_aload_nL0, rn_aload_n1, rn_aload_nL1, rn_aload_n2, rn_aload_nL2, rn_aload_n3, rn_aload_nL3, rn_istore0, rn_istore1, rn_istore2, rn_istore3, rn_istore4, rn_istore5, rn_istore6, rn_istore7, rn_istore_n0, rn_istore_n1, rn_istore_n2, rn_istore_n3, rn_astore_n0, rn_astore_n1, rn_astore_n2, rn_astore_n3, rn_iincK0, rn_iincK1, rn_iincK2, rn_iincK3, rn_iincK4, rn_iincK5, rn_iincK6, rn_iincK7, rn_iinc0, rn_iinc1, rn_iinc2, rn_iinc3, rn_iinc4, rn_iinc5, rn_iinc6, rn_iinc7, rn_iadd, rn_isub, rn_imul, rn_idiv, rn_irem, rn_ineg, rn_ishl, rn_ishr, rn_iand, rn_ior, rn_ixor, rn_i2c, rn_dup, rn_dupr, rn_dup2, rn_pop, rn_ifeq, rn_ifne, rn_iflt, rn_ifge, rn_ifgt, rn_ifle, rn_iceq, rn_icne, rn_iclt, rn_icge, rn_icgt, rn_icle, rn_nonnull, rn_goto, rn_table, rn_lookup, rn_getf, rn_putf, rn_gets0, rn_gets1, rn_iald, rn_ialr, rn_iast, rn_cald, rn_cast, rn_aald, rn_aast, rn_alen, rn_v0, rn_v1, rn_v2, rn_v3, rn_v4, rn_s1, rn_s2, rn_s3, rn_max, rn_min, rn_copy, rn_iret, rn_ret, hgf_o, hgv_s, hpf_o, hil_a, his_a, hal_o, has_o, hcl_n, hcl_i, hcl_ite, hci_n, hcp_a, gr_r, fin_jump, fin_ret, fin_none, fin_ite, sw_0, sw_i, sw_r, sw_l, sw_n, sw_d, List.getElem?_cons_zero, List.getElem?_cons_succ, List.length_cons, List.length_nil, List.drop_succ_cons, List.drop_zero, List.take_succ_cons, List.take_zero, List.nil_append, List.cons_append, List.set_cons_zero, List.set_cons_succ, Nat.reduceAdd, Nat.reduceSub, Nat.reduceMul, Nat.reduceLT, Nat.reduceLeDiff, Nat.reduceEqDiff, Nat.reduceBEq, Int32.reduceOfInt, Int32.reduceLT, Int32.reduceAdd, Int32.reduceSub, Int32.reduceMul, Int32.reduceToNatClampNeg, ↓reduceIte, or_true, true_or, false_or, or_false, and_true, true_and, and_false, false_and, not_true_eq_false, not_false_eq_true, ne_eq, Bool.false_eq_true, Bool.true_eq_false, reduceCtorEq, Nat.zero_add, Nat.add_zero, Nat.sub_zero, Nat.sub_self, NCl, e_10, e_01, pok_i, pok_r, pok_0, pok_1, cal, rf0, rf1, unL, unV, lc, unH, unE, spl, glE, glV, gl, hasC, List.map_cons, List.map_nil, List.append_nil, List.reverse_cons, List.reverse_nil, List.drop_nil, List.take_nil, List.all_cons, List.all_nil, clE, clV, decide_true, Bool.and_true, beq_self_eq_true, BEq.rfl, nb_neg, nb_cl, nI_add, pk_mul, nb_ltT, nb_ltF, nb_eqT, nb_eqF, nb_z, nb_zF, nb_zz, nb_01, nb_11, nb_00, nb_leT, nb_leF, nb_pos, nb_posF, nb_m, rn_oinit, rn_newa, rn_new, rn_anew, rn_init, clo, Nat.zero_le, dfl0, dfl1, dfl2, dfl3, dfl4, dfl5, dfl6, e]
  rw [ev_eq]; simp (maxSteps := 1000000) (disch := omega) only [bk0_0, bk0_19, bk0_43, rn_end, rn_iconst, rn_iconstN, rn_bipush, rn_bipushN, rn_sipush, rn_sipushN, rn_iload0, rn_iload1, rn_iload2, rn_iload3, rn_iload4, rn_iload5, rn_iload6, rn_iload7, rn_iload_n0, rn_iload_n1, rn_iload_n2, rn_iload_n3, rn_iload_n4, rn_iload_n5, rn_iload_n6, rn_iload_n7, rn_aload_n0, rn_aload_nL0, rn_aload_n1, rn_aload_nL1, rn_aload_n2, rn_aload_nL2, rn_aload_n3, rn_aload_nL3, rn_istore0, rn_istore1, rn_istore2, rn_istore3, rn_istore4, rn_istore5, rn_istore6, rn_istore7, rn_istore_n0, rn_istore_n1, rn_istore_n2, rn_istore_n3, rn_astore_n0, rn_astore_n1, rn_astore_n2, rn_astore_n3, rn_iincK0, rn_iincK1, rn_iincK2, rn_iincK3, rn_iincK4, rn_iincK5, rn_iincK6, rn_iincK7, rn_iinc0, rn_iinc1, rn_iinc2, rn_iinc3, rn_iinc4, rn_iinc5, rn_iinc6, rn_iinc7, rn_iadd, rn_isub, rn_imul, rn_idiv, rn_irem, rn_ineg, rn_ishl, rn_ishr, rn_iand, rn_ior, rn_ixor, rn_i2c, rn_dup, rn_dupr, rn_dup2, rn_pop, rn_ifeq, rn_ifne, rn_iflt, rn_ifge, rn_ifgt, rn_ifle, rn_iceq, rn_icne, rn_iclt, rn_icge, rn_icgt, rn_icle, rn_nonnull, rn_goto, rn_table, rn_lookup, rn_getf, rn_putf, rn_gets0, rn_gets1, rn_iald, rn_ialr, rn_iast, rn_cald, rn_cast, rn_aald, rn_aast, rn_alen, rn_v0, rn_v1, rn_v2, rn_v3, rn_v4, rn_s1, rn_s2, rn_s3, rn_max, rn_min, rn_copy, rn_iret, rn_ret, hgf_o, hgv_s, hpf_o, hil_a, his_a, hal_o, has_o, hcl_n, hcl_i, hcl_ite, hci_n, hcp_a, gr_r, fin_jump, fin_ret, fin_none, fin_ite, sw_0, sw_i, sw_r, sw_l, sw_n, sw_d, List.getElem?_cons_zero, List.getElem?_cons_succ, List.length_cons, List.length_nil, List.drop_succ_cons, List.drop_zero, List.take_succ_cons, List.take_zero, List.nil_append, List.cons_append, List.set_cons_zero, List.set_cons_succ, Nat.reduceAdd, Nat.reduceSub, Nat.reduceMul, Nat.reduceLT, Nat.reduceLeDiff, Nat.reduceEqDiff, Nat.reduceBEq, Int32.reduceOfInt, Int32.reduceLT, Int32.reduceAdd, Int32.reduceSub, Int32.reduceMul, Int32.reduceToNatClampNeg, ↓reduceIte, or_true, true_or, false_or, or_false, and_true, true_and, and_false, false_and, not_true_eq_false, not_false_eq_true, ne_eq, Bool.false_eq_true, Bool.true_eq_false, reduceCtorEq, Nat.zero_add, Nat.add_zero, Nat.sub_zero, Nat.sub_self, NCl, e_10, e_01, pok_i, pok_r, pok_0, pok_1, cal, rf0, rf1, unL, unV, lc, unH, unE, spl, glE, glV, gl, hasC, List.map_cons, List.map_nil, List.append_nil, List.reverse_cons, List.reverse_nil, List.drop_nil, List.take_nil, List.all_cons, List.all_nil, clE, clV, decide_true, Bool.and_true, beq_self_eq_true, BEq.rfl, nb_neg, nb_cl, nI_add, pk_mul, nb_ltT, nb_ltF, nb_eqT, nb_eqF, nb_z, nb_zF, nb_zz, nb_01, nb_11, nb_00, nb_leT, nb_leF, nb_pos, nb_posF, nb_m, rn_oinit, rn_newa, rn_new, rn_anew, rn_init, clo, Nat.zero_le, dfl0, dfl1, dfl2, dfl3, dfl4, dfl5, dfl6, e]
  rw [ev_eq]; simp (maxSteps := 1000000) (disch := omega) only [bk0_0, bk0_19, bk0_43, rn_end, rn_iconst, rn_iconstN, rn_bipush, rn_bipushN, rn_sipush, rn_sipushN, rn_iload0, rn_iload1, rn_iload2, rn_iload3, rn_iload4, rn_iload5, rn_iload6, rn_iload7, rn_iload_n0, rn_iload_n1, rn_iload_n2, rn_iload_n3, rn_iload_n4, rn_iload_n5, rn_iload_n6, rn_iload_n7, rn_aload_n0, rn_aload_nL0, rn_aload_n1, rn_aload_nL1, rn_aload_n2, rn_aload_nL2, rn_aload_n3, rn_aload_nL3, rn_istore0, rn_istore1, rn_istore2, rn_istore3, rn_istore4, rn_istore5, rn_istore6, rn_istore7, rn_istore_n0, rn_istore_n1, rn_istore_n2, rn_istore_n3, rn_astore_n0, rn_astore_n1, rn_astore_n2, rn_astore_n3, rn_iincK0, rn_iincK1, rn_iincK2, rn_iincK3, rn_iincK4, rn_iincK5, rn_iincK6, rn_iincK7, rn_iinc0, rn_iinc1, rn_iinc2, rn_iinc3, rn_iinc4, rn_iinc5, rn_iinc6, rn_iinc7, rn_iadd, rn_isub, rn_imul, rn_idiv, rn_irem, rn_ineg, rn_ishl, rn_ishr, rn_iand, rn_ior, rn_ixor, rn_i2c, rn_dup, rn_dupr, rn_dup2, rn_pop, rn_ifeq, rn_ifne, rn_iflt, rn_ifge, rn_ifgt, rn_ifle, rn_iceq, rn_icne, rn_iclt, rn_icge, rn_icgt, rn_icle, rn_nonnull, rn_goto, rn_table, rn_lookup, rn_getf, rn_putf, rn_gets0, rn_gets1, rn_iald, rn_ialr, rn_iast, rn_cald, rn_cast, rn_aald, rn_aast, rn_alen, rn_v0, rn_v1, rn_v2, rn_v3, rn_v4, rn_s1, rn_s2, rn_s3, rn_max, rn_min, rn_copy, rn_iret, rn_ret, hgf_o, hgv_s, hpf_o, hil_a, his_a, hal_o, has_o, hcl_n, hcl_i, hcl_ite, hci_n, hcp_a, gr_r, fin_jump, fin_ret, fin_none, fin_ite, sw_0, sw_i, sw_r, sw_l, sw_n, sw_d, List.getElem?_cons_zero, List.getElem?_cons_succ, List.length_cons, List.length_nil, List.drop_succ_cons, List.drop_zero, List.take_succ_cons, List.take_zero, List.nil_append, List.cons_append, List.set_cons_zero, List.set_cons_succ, Nat.reduceAdd, Nat.reduceSub, Nat.reduceMul, Nat.reduceLT, Nat.reduceLeDiff, Nat.reduceEqDiff, Nat.reduceBEq, Int32.reduceOfInt, Int32.reduceLT, Int32.reduceAdd, Int32.reduceSub, Int32.reduceMul, Int32.reduceToNatClampNeg, ↓reduceIte, or_true, true_or, false_or, or_false, and_true, true_and, and_false, false_and, not_true_eq_false, not_false_eq_true, ne_eq, Bool.false_eq_true, Bool.true_eq_false, reduceCtorEq, Nat.zero_add, Nat.add_zero, Nat.sub_zero, Nat.sub_self, NCl, e_10, e_01, pok_i, pok_r, pok_0, pok_1, cal, rf0, rf1, unL, unV, lc, unH, unE, spl, glE, glV, gl, hasC, List.map_cons, List.map_nil, List.append_nil, List.reverse_cons, List.reverse_nil, List.drop_nil, List.take_nil, List.all_cons, List.all_nil, clE, clV, decide_true, Bool.and_true, beq_self_eq_true, BEq.rfl, nb_neg, nb_cl, nI_add, pk_mul, nb_ltT, nb_ltF, nb_eqT, nb_eqF, nb_z, nb_zF, nb_zz, nb_01, nb_11, nb_00, nb_leT, nb_leF, nb_pos, nb_posF, nb_m, rn_oinit, rn_newa, rn_new, rn_anew, rn_init, clo, Nat.zero_le, dfl0, dfl1, dfl2, dfl3, dfl4, dfl5, dfl6, e]
  rw [ev_eq]; simp (maxSteps := 1000000) (disch := omega) only [bk0_0, bk0_19, bk0_43, rn_end, rn_iconst, rn_iconstN, rn_bipush, rn_bipushN, rn_sipush, rn_sipushN, rn_iload0, rn_iload1, rn_iload2, rn_iload3, rn_iload4, rn_iload5, rn_iload6, rn_iload7, rn_iload_n0, rn_iload_n1, rn_iload_n2, rn_iload_n3, rn_iload_n4, rn_iload_n5, rn_iload_n6, rn_iload_n7, rn_aload_n0, rn_aload_nL0, rn_aload_n1, rn_aload_nL1, rn_aload_n2, rn_aload_nL2, rn_aload_n3, rn_aload_nL3, rn_istore0, rn_istore1, rn_istore2, rn_istore3, rn_istore4, rn_istore5, rn_istore6, rn_istore7, rn_istore_n0, rn_istore_n1, rn_istore_n2, rn_istore_n3, rn_astore_n0, rn_astore_n1, rn_astore_n2, rn_astore_n3, rn_iincK0, rn_iincK1, rn_iincK2, rn_iincK3, rn_iincK4, rn_iincK5, rn_iincK6, rn_iincK7, rn_iinc0, rn_iinc1, rn_iinc2, rn_iinc3, rn_iinc4, rn_iinc5, rn_iinc6, rn_iinc7, rn_iadd, rn_isub, rn_imul, rn_idiv, rn_irem, rn_ineg, rn_ishl, rn_ishr, rn_iand, rn_ior, rn_ixor, rn_i2c, rn_dup, rn_dupr, rn_dup2, rn_pop, rn_ifeq, rn_ifne, rn_iflt, rn_ifge, rn_ifgt, rn_ifle, rn_iceq, rn_icne, rn_iclt, rn_icge, rn_icgt, rn_icle, rn_nonnull, rn_goto, rn_table, rn_lookup, rn_getf, rn_putf, rn_gets0, rn_gets1, rn_iald, rn_ialr, rn_iast, rn_cald, rn_cast, rn_aald, rn_aast, rn_alen, rn_v0, rn_v1, rn_v2, rn_v3, rn_v4, rn_s1, rn_s2, rn_s3, rn_max, rn_min, rn_copy, rn_iret, rn_ret, hgf_o, hgv_s, hpf_o, hil_a, his_a, hal_o, has_o, hcl_n, hcl_i, hcl_ite, hci_n, hcp_a, gr_r, fin_jump, fin_ret, fin_none, fin_ite, sw_0, sw_i, sw_r, sw_l, sw_n, sw_d, List.getElem?_cons_zero, List.getElem?_cons_succ, List.length_cons, List.length_nil, List.drop_succ_cons, List.drop_zero, List.take_succ_cons, List.take_zero, List.nil_append, List.cons_append, List.set_cons_zero, List.set_cons_succ, Nat.reduceAdd, Nat.reduceSub, Nat.reduceMul, Nat.reduceLT, Nat.reduceLeDiff, Nat.reduceEqDiff, Nat.reduceBEq, Int32.reduceOfInt, Int32.reduceLT, Int32.reduceAdd, Int32.reduceSub, Int32.reduceMul, Int32.reduceToNatClampNeg, ↓reduceIte, or_true, true_or, false_or, or_false, and_true, true_and, and_false, false_and, not_true_eq_false, not_false_eq_true, ne_eq, Bool.false_eq_true, Bool.true_eq_false, reduceCtorEq, Nat.zero_add, Nat.add_zero, Nat.sub_zero, Nat.sub_self, NCl, e_10, e_01, pok_i, pok_r, pok_0, pok_1, cal, rf0, rf1, unL, unV, lc, unH, unE, spl, glE, glV, gl, hasC, List.map_cons, List.map_nil, List.append_nil, List.reverse_cons, List.reverse_nil, List.drop_nil, List.take_nil, List.all_cons, List.all_nil, clE, clV, decide_true, Bool.and_true, beq_self_eq_true, BEq.rfl, nb_neg, nb_cl, nI_add, pk_mul, nb_ltT, nb_ltF, nb_eqT, nb_eqF, nb_z, nb_zF, nb_zz, nb_01, nb_11, nb_00, nb_leT, nb_leF, nb_pos, nb_posF, nb_m, rn_oinit, rn_newa, rn_new, rn_anew, rn_init, clo, Nat.zero_le, dfl0, dfl1, dfl2, dfl3, dfl4, dfl5, dfl6, e]
  try (rw [ev_eq]; simp (maxSteps := 1000000) (disch := omega) only [bk0_0, bk0_19, bk0_43, rn_end, rn_iconst, rn_iconstN, rn_bipush, rn_bipushN, rn_sipush, rn_sipushN, rn_iload0, rn_iload1, rn_iload2, rn_iload3, rn_iload4, rn_iload5, rn_iload6, rn_iload7, rn_iload_n0, rn_iload_n1, rn_iload_n2, rn_iload_n3, rn_iload_n4, rn_iload_n5, rn_iload_n6, rn_iload_n7, rn_aload_n0, rn_aload_nL0, rn_aload_n1, rn_aload_nL1, rn_aload_n2, rn_aload_nL2, rn_aload_n3, rn_aload_nL3, rn_istore0, rn_istore1, rn_istore2, rn_istore3, rn_istore4, rn_istore5, rn_istore6, rn_istore7, rn_istore_n0, rn_istore_n1, rn_istore_n2, rn_istore_n3, rn_astore_n0, rn_astore_n1, rn_astore_n2, rn_astore_n3, rn_iincK0, rn_iincK1, rn_iincK2, rn_iincK3, rn_iincK4, rn_iincK5, rn_iincK6, rn_iincK7, rn_iinc0, rn_iinc1, rn_iinc2, rn_iinc3, rn_iinc4, rn_iinc5, rn_iinc6, rn_iinc7, rn_iadd, rn_isub, rn_imul, rn_idiv, rn_irem, rn_ineg, rn_ishl, rn_ishr, rn_iand, rn_ior, rn_ixor, rn_i2c, rn_dup, rn_dupr, rn_dup2, rn_pop, rn_ifeq, rn_ifne, rn_iflt, rn_ifge, rn_ifgt, rn_ifle, rn_iceq, rn_icne, rn_iclt, rn_icge, rn_icgt, rn_icle, rn_nonnull, rn_goto, rn_table, rn_lookup, rn_getf, rn_putf, rn_gets0, rn_gets1, rn_iald, rn_ialr, rn_iast, rn_cald, rn_cast, rn_aald, rn_aast, rn_alen, rn_v0, rn_v1, rn_v2, rn_v3, rn_v4, rn_s1, rn_s2, rn_s3, rn_max, rn_min, rn_copy, rn_iret, rn_ret, hgf_o, hgv_s, hpf_o, hil_a, his_a, hal_o, has_o, hcl_n, hcl_i, hcl_ite, hci_n, hcp_a, gr_r, fin_jump, fin_ret, fin_none, fin_ite, sw_0, sw_i, sw_r, sw_l, sw_n, sw_d, List.getElem?_cons_zero, List.getElem?_cons_succ, List.length_cons, List.length_nil, List.drop_succ_cons, List.drop_zero, List.take_succ_cons, List.take_zero, List.nil_append, List.cons_append, List.set_cons_zero, List.set_cons_succ, Nat.reduceAdd, Nat.reduceSub, Nat.reduceMul, Nat.reduceLT, Nat.reduceLeDiff, Nat.reduceEqDiff, Nat.reduceBEq, Int32.reduceOfInt, Int32.reduceLT, Int32.reduceAdd, Int32.reduceSub, Int32.reduceMul, Int32.reduceToNatClampNeg, ↓reduceIte, or_true, true_or, false_or, or_false, and_true, true_and, and_false, false_and, not_true_eq_false, not_false_eq_true, ne_eq, Bool.false_eq_true, Bool.true_eq_false, reduceCtorEq, Nat.zero_add, Nat.add_zero, Nat.sub_zero, Nat.sub_self, NCl, e_10, e_01, pok_i, pok_r, pok_0, pok_1, cal, rf0, rf1, unL, unV, lc, unH, unE, spl, glE, glV, gl, hasC, List.map_cons, List.map_nil, List.append_nil, List.reverse_cons, List.reverse_nil, List.drop_nil, List.take_nil, List.all_cons, List.all_nil, clE, clV, decide_true, Bool.and_true, beq_self_eq_true, BEq.rfl, nb_neg, nb_cl, nI_add, pk_mul, nb_ltT, nb_ltF, nb_eqT, nb_eqF, nb_z, nb_zF, nb_zz, nb_01, nb_11, nb_00, nb_leT, nb_leF, nb_pos, nb_posF, nb_m, rn_oinit, rn_newa, rn_new, rn_anew, rn_init, clo, Nat.zero_le, dfl0, dfl1, dfl2, dfl3, dfl4, dfl5, dfl6, e])
  try rfl
def zI : Nat → Int32 := fun _ => 0
theorem top_init : exec ro (d + 5) 88 [.ref 0] [.inr (6, [.null, .null, .null, .null, .null, .int 0])] = some (none, topT 0 pI pI pI (hisR 0 0 pI pI pI pI ++ ordT 0 0 0 zI zI zI zI)) := by
  have e1 := p_init ro (d + 2)
  have e2 := his_init ro (d + 1)
  have e3 := ord_init ro (d + 3)
  simp only [List.cons_append, List.nil_append] at e1 e2 e3
  rw [ex88, ev_eq]; simp (maxSteps := 1000000) (disch := omega) only [bk88_0, rn_end, rn_iconst, rn_iconstN, rn_bipush, rn_bipushN, rn_sipush, rn_sipushN, rn_iload0, rn_iload1, rn_iload2, rn_iload3, rn_iload4, rn_iload5, rn_iload6, rn_iload7, rn_iload_n0, rn_iload_n1, rn_iload_n2, rn_iload_n3, rn_iload_n4, rn_iload_n5, rn_iload_n6, rn_iload_n7, rn_aload_n0, rn_aload_nL0, rn_aload_n1, rn_aload_nL1, rn_aload_n2, rn_aload_nL2, rn_aload_n3, rn_aload_nL3, rn_istore0, rn_istore1, rn_istore2, rn_istore3, rn_istore4, rn_istore5, rn_istore6, rn_istore7, rn_istore_n0, rn_istore_n1, rn_istore_n2, rn_istore_n3, rn_astore_n0, rn_astore_n1, rn_astore_n2, rn_astore_n3, rn_iincK0, rn_iincK1, rn_iincK2, rn_iincK3, rn_iincK4, rn_iincK5, rn_iincK6, rn_iincK7, rn_iinc0, rn_iinc1, rn_iinc2, rn_iinc3, rn_iinc4, rn_iinc5, rn_iinc6, rn_iinc7, rn_iadd, rn_isub, rn_imul, rn_idiv, rn_irem, rn_ineg, rn_ishl, rn_ishr, rn_iand, rn_ior, rn_ixor, rn_i2c, rn_dup, rn_dupr, rn_dup2, rn_pop, rn_ifeq, rn_ifne, rn_iflt, rn_ifge, rn_ifgt, rn_ifle, rn_iceq, rn_icne, rn_iclt, rn_icge, rn_icgt, rn_icle, rn_nonnull, rn_goto, rn_table, rn_lookup, rn_getf, rn_putf, rn_gets0, rn_gets1, rn_iald, rn_ialr, rn_iast, rn_cald, rn_cast, rn_aald, rn_aast, rn_alen, rn_v0, rn_v1, rn_v2, rn_v3, rn_v4, rn_s1, rn_s2, rn_s3, rn_max, rn_min, rn_copy, rn_iret, rn_ret, hgf_o, hgv_s, hpf_o, hil_a, his_a, hal_o, has_o, hcl_n, hcl_i, hcl_ite, hci_n, hcp_a, gr_r, fin_jump, fin_ret, fin_none, fin_ite, sw_0, sw_i, sw_r, sw_l, sw_n, sw_d, List.getElem?_cons_zero, List.getElem?_cons_succ, List.length_cons, List.length_nil, List.drop_succ_cons, List.drop_zero, List.take_succ_cons, List.take_zero, List.nil_append, List.cons_append, List.set_cons_zero, List.set_cons_succ, Nat.reduceAdd, Nat.reduceSub, Nat.reduceMul, Nat.reduceLT, Nat.reduceLeDiff, Nat.reduceEqDiff, Nat.reduceBEq, Int32.reduceOfInt, Int32.reduceLT, Int32.reduceAdd, Int32.reduceSub, Int32.reduceMul, Int32.reduceToNatClampNeg, ↓reduceIte, or_true, true_or, false_or, or_false, and_true, true_and, and_false, false_and, not_true_eq_false, not_false_eq_true, ne_eq, Bool.false_eq_true, Bool.true_eq_false, reduceCtorEq, Nat.zero_add, Nat.add_zero, Nat.sub_zero, Nat.sub_self, NCl, e_10, e_01, pok_i, pok_r, pok_0, pok_1, cal, rf0, rf1, unL, unV, lc, unH, unE, spl, glE, glV, gl, hasC, List.map_cons, List.map_nil, List.append_nil, List.reverse_cons, List.reverse_nil, List.drop_nil, List.take_nil, List.all_cons, List.all_nil, clE, clV, decide_true, Bool.and_true, beq_self_eq_true, BEq.rfl, nb_neg, nb_cl, nI_add, pk_mul, nb_ltT, nb_ltF, nb_eqT, nb_eqF, nb_z, nb_zF, nb_zz, nb_01, nb_11, nb_00, nb_leT, nb_leF, nb_pos, nb_posF, nb_m, rn_oinit, rn_newa, rn_new, rn_anew, rn_init, clo, Nat.zero_le, dfl0, dfl1, dfl2, dfl3, dfl4, dfl5, dfl6, e1, e2, e3]
  rfl
end INI3
theorem pI_0v {r : Nat} (h : r < 64) : pI 0 r = 64 := by
  rw [pI_0]
  exact if_pos ⟨by omega, by omega, rfl⟩
theorem pI_1v {r : Nat} (h : r < 64) : pI 1 r = 1 := by
  rw [pI_1]
  unfold mkk
  rw [if_neg (by omega), if_pos ⟨by omega, by omega, rfl⟩]
theorem pI_inv : Inv pI 0 := by
  have z : ∀ f, f ≠ 0 → f ≠ 1 → f ≠ 9 → ∀ i, pI f i = 0 := fun f a b c i => pI_z a b c i
  have h9 : ∀ i, pI 9 i = if i = 2 then 2 else if i = 1 then 8 else 0 := fun i => by
    unfold pI
    rw [w2_sm, w2_sm, gv_n _ (by omega)]
    rfl
  refine ⟨fun r hr => ?_, fun r hr _ => ?_, ⟨fun g hg => ?_, fun r hr => ?_⟩, ⟨?_, fun j hj => ?_, fun i j hi => ?_, fun hz => ?_, fun _ => z 10 (by omega) (by omega) (by omega) 1⟩, ?_, ⟨fun i hi => ?_, fun i hi => ?_, fun i hi => ?_⟩⟩
  · rw [pI_0v hr]
    refine ⟨by unfold Pw; omega, fun i h1 h2 => ?_⟩
    rw [pI_0v (by omega), pI_1v hr, pI_1v (by omega)]
    exact ⟨rfl, rfl⟩
  · unfold jnb
    rw [pI_0v hr]
    rfl
  · rw [z 2 (by omega) (by omega) (by omega), z 3 (by omega) (by omega) (by omega), z 4 (by omega) (by omega) (by omega), z 5 (by omega) (by omega) (by omega), z 6 (by omega) (by omega) (by omega), z 7 (by omega) (by omega) (by omega)]
    exact ⟨by omega, by omega, by omega, by omega, by omega, by omega, fun y => by omega⟩
  · rw [pI_1v hr]
    exact ⟨by omega, fun y => by omega⟩
  · rw [z 10 (by omega) (by omega) (by omega)]
    omega
  · rw [z 10 (by omega) (by omega) (by omega)] at hj
    omega
  · rw [z 10 (by omega) (by omega) (by omega)] at hi
    omega
  · rw [z 10 (by omega) (by omega) (by omega)] at hz
    omega
  · unfold Sg
    rw [h9, h9, h9]
    exact ⟨by decide, by decide, by decide, by decide⟩
  · rw [pI_0, pI_1, z 8 (by omega) (by omega) (by omega)]
    unfold mkk
    rw [if_neg (by omega), if_neg (by omega), if_neg (by omega), if_neg (by omega)]
    exact ⟨rfl, rfl, rfl⟩
  · exact ⟨z 2 (by omega) (by omega) (by omega) i, z 3 (by omega) (by omega) (by omega) i, z 4 (by omega) (by omega) (by omega) i, z 5 (by omega) (by omega) (by omega) i, z 6 (by omega) (by omega) (by omega) i, z 7 (by omega) (by omega) (by omega) i⟩
  · rw [h9, if_neg (by omega), if_neg (by omega)]
