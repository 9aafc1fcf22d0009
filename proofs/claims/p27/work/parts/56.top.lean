

-- needs P<=45 52.top 53.top 54.top 55.top
abbrev topT (z : Nat) (p t s : Nat → Nat → Nat) (T : List AE) : List AE := .inr (6, [.ref 1, .ref 15, .ref 29, .ref 43, .ref 101, .int (nI z)]) :: (pal1 p ++ pal15 t ++ pal29 s ++ T)
def hisR (R c : Nat) (h0 h1 h2 h3 : Nat → Nat → Nat) : List AE := if R = 0 then hisT c 45 59 73 87 h0 h1 h2 h3 else if R = 1 then hisT c 59 73 87 45 h3 h0 h1 h2 else if R = 2 then hisT c 73 87 45 59 h2 h3 h0 h1 else hisT c 87 45 59 73 h1 h2 h3 h0
/-- the states before the latest changes: R the place of the oldest, c how many, then the states, the oldest first -/
def rcR (R c : Nat) : Nat := if c = 4 then (R + 1) % 4 else R
def rcC (c : Nat) : Nat := if c = 4 then 4 else c + 1
def rc0 (c : Nat) (p h0 h1 : Nat → Nat → Nat) : Nat → Nat → Nat := if c = 4 then h1 else if c = 0 then p else h0
def rc1 (c : Nat) (p h1 h2 : Nat → Nat → Nat) : Nat → Nat → Nat := if c = 4 then h2 else if c = 1 then p else h1
def rc2 (c : Nat) (p h2 h3 : Nat → Nat → Nat) : Nat → Nat → Nat := if c = 4 then h3 else if c = 2 then p else h2
def rc3 (c : Nat) (p h3 : Nat → Nat → Nat) : Nat → Nat → Nat := if c = 4 ∨ c = 3 then p else h3
def tkb (c : Nat) (h0 h1 h2 h3 : Nat → Nat → Nat) : Nat → Nat → Nat := if c = 1 then h0 else if c = 2 then h1 else if c = 3 then h2 else h3
def TF (T : List AE) : Prop := T.length = 63 ∧ unH 0 106 0 0 T = some T ∧ T.all (clE 106) = true ∧ T.map (glE 0 106 0 0 106) = T ∧ (∀ n, 63 ≤ n → T.take n = T) ∧ (∀ n, 63 ≤ n → T.drop n = [])
abbrev ordL (l n a : Nat) (x k u v : Nat → Int32) : List AE := ordT l n a x k u v
theorem hisR_len (R c : Nat) (h0 h1 h2 h3 : Nat → Nat → Nat) : (hisR R c h0 h1 h2 h3).length = 58 := by
  unfold hisR
  split
  · rfl
  · split
    · rfl
    · split <;> rfl
theorem tf_ok {R : Nat} (hR : R < 4) (c : Nat) (h0 h1 h2 h3 : Nat → Nat → Nat) (l n a : Nat) (x k u v : Nat → Int32) : TF (hisR R c h0 h1 h2 h3 ++ ordT l n a x k u v) := by
  rcases (show R = 0 ∨ R = 1 ∨ R = 2 ∨ R = 3 by omega) with rfl | rfl | rfl | rfl <;> exact ⟨rfl, rfl, rfl, rfl, fun n hn => List.take_of_length_le (by exact hn), fun n hn => List.drop_of_length_le (by exact hn)⟩
section TOP2
variable (ro : RO) (d : Nat)
theorem top_settle {R c z y : Nat} {p t s h0 h1 h2 h3 : Nat → Nat → Nat} {l n a : Nat} {x k u v : Nat → Int32} (hR : R < 4) (hc : c ≤ 4) (hy : y < 2147483648) (hp : Nm p) (ht : Nm t) (n0 : Nm h0) (n1 : Nm h1) (n2 : Nm h2) (n3 : Nm h3) : exec ro (d + 4) 96 [.ref 0, .int (nI y)] (topT z p t s (hisR R c h0 h1 h2 h3 ++ ordT l n a x k u v)) = some (some (.int (nI y)), topT z t t s (hisR (rcR R c) (rcC c) (rc0 c p h0 h1) (rc1 c p h1 h2) (rc2 c p h2 h3) (rc3 c p h3) ++ ordT l n a x k u v)) := by
  rcases (show R = 0 ∨ R = 1 ∨ R = 2 ∨ R = 3 by omega) with rfl | rfl | rfl | rfl
  · rcases (show c = 0 ∨ c = 1 ∨ c = 2 ∨ c = 3 ∨ c = 4 by omega) with rfl | rfl | rfl | rfl | rfl
    · exact st_0_0 ro d z l n a p t s h0 h1 h2 h3 x k u v hy hp ht n0
    · exact st_0_1 ro d z l n a p t s h0 h1 h2 h3 x k u v hy hp ht n1
    · exact st_0_2 ro d z l n a p t s h0 h1 h2 h3 x k u v hy hp ht n2
    · exact st_0_3 ro d z l n a p t s h0 h1 h2 h3 x k u v hy hp ht n3
    · exact st_0_4 ro d z l n a p t s h0 h1 h2 h3 x k u v hy hp ht n0
  · rcases (show c = 0 ∨ c = 1 ∨ c = 2 ∨ c = 3 ∨ c = 4 by omega) with rfl | rfl | rfl | rfl | rfl
    · exact st_1_0 ro d z l n a p t s h0 h1 h2 h3 x k u v hy hp ht n0
    · exact st_1_1 ro d z l n a p t s h0 h1 h2 h3 x k u v hy hp ht n1
    · exact st_1_2 ro d z l n a p t s h0 h1 h2 h3 x k u v hy hp ht n2
    · exact st_1_3 ro d z l n a p t s h0 h1 h2 h3 x k u v hy hp ht n3
    · exact st_1_4 ro d z l n a p t s h0 h1 h2 h3 x k u v hy hp ht n0
  · rcases (show c = 0 ∨ c = 1 ∨ c = 2 ∨ c = 3 ∨ c = 4 by omega) with rfl | rfl | rfl | rfl | rfl
    · exact st_2_0 ro d z l n a p t s h0 h1 h2 h3 x k u v hy hp ht n0
    · exact st_2_1 ro d z l n a p t s h0 h1 h2 h3 x k u v hy hp ht n1
    · exact st_2_2 ro d z l n a p t s h0 h1 h2 h3 x k u v hy hp ht n2
    · exact st_2_3 ro d z l n a p t s h0 h1 h2 h3 x k u v hy hp ht n3
    · exact st_2_4 ro d z l n a p t s h0 h1 h2 h3 x k u v hy hp ht n0
  · rcases (show c = 0 ∨ c = 1 ∨ c = 2 ∨ c = 3 ∨ c = 4 by omega) with rfl | rfl | rfl | rfl | rfl
    · exact st_3_0 ro d z l n a p t s h0 h1 h2 h3 x k u v hy hp ht n0
    · exact st_3_1 ro d z l n a p t s h0 h1 h2 h3 x k u v hy hp ht n1
    · exact st_3_2 ro d z l n a p t s h0 h1 h2 h3 x k u v hy hp ht n2
    · exact st_3_3 ro d z l n a p t s h0 h1 h2 h3 x k u v hy hp ht n3
    · exact st_3_4 ro d z l n a p t s h0 h1 h2 h3 x k u v hy hp ht n0
theorem top_undo0 {R z : Nat} {p t s h0 h1 h2 h3 : Nat → Nat → Nat} {l n a : Nat} {x k u v : Nat → Int32} (hR : R < 4) : exec ro (d + 4) 97 [.ref 0] (topT z p t s (hisR R 0 h0 h1 h2 h3 ++ ordT l n a x k u v)) = some (some (.int (-5)), topT z p t s (hisR R 0 h0 h1 h2 h3 ++ ordT l n a x k u v)) := by
  rcases (show R = 0 ∨ R = 1 ∨ R = 2 ∨ R = 3 by omega) with rfl | rfl | rfl | rfl
  · exact un_0_0 ro d z l n a p t s h0 h1 h2 h3 x k u v
  · exact un_1_0 ro d z l n a p t s h0 h1 h2 h3 x k u v
  · exact un_2_0 ro d z l n a p t s h0 h1 h2 h3 x k u v
  · exact un_3_0 ro d z l n a p t s h0 h1 h2 h3 x k u v
theorem top_undo {R c z : Nat} {p t s h0 h1 h2 h3 : Nat → Nat → Nat} {l n a : Nat} {x k u v : Nat → Int32} (hR : R < 4) (hc : c < 4) (hp : Nm p) (n0 : Nm h0) (n1 : Nm h1) (n2 : Nm h2) (n3 : Nm h3) : exec ro (d + 4) 97 [.ref 0] (topT z p t s (hisR R (c + 1) h0 h1 h2 h3 ++ ordT l n a x k u v)) = some (some (.int (nI c)), topT z (tkb (c + 1) h0 h1 h2 h3) t s (hisR R c h0 h1 h2 h3 ++ ordT l n a x k u v)) := by
  rcases (show R = 0 ∨ R = 1 ∨ R = 2 ∨ R = 3 by omega) with rfl | rfl | rfl | rfl
  · rcases (show c = 0 ∨ c = 1 ∨ c = 2 ∨ c = 3 by omega) with rfl | rfl | rfl | rfl
    · exact un_0_1 ro d z l n a p t s h0 h1 h2 h3 x k u v hp n0
    · exact un_0_2 ro d z l n a p t s h0 h1 h2 h3 x k u v hp n1
    · exact un_0_3 ro d z l n a p t s h0 h1 h2 h3 x k u v hp n2
    · exact un_0_4 ro d z l n a p t s h0 h1 h2 h3 x k u v hp n3
  · rcases (show c = 0 ∨ c = 1 ∨ c = 2 ∨ c = 3 by omega) with rfl | rfl | rfl | rfl
    · exact un_1_1 ro d z l n a p t s h0 h1 h2 h3 x k u v hp n0
    · exact un_1_2 ro d z l n a p t s h0 h1 h2 h3 x k u v hp n1
    · exact un_1_3 ro d z l n a p t s h0 h1 h2 h3 x k u v hp n2
    · exact un_1_4 ro d z l n a p t s h0 h1 h2 h3 x k u v hp n3
  · rcases (show c = 0 ∨ c = 1 ∨ c = 2 ∨ c = 3 by omega) with rfl | rfl | rfl | rfl
    · exact un_2_1 ro d z l n a p t s h0 h1 h2 h3 x k u v hp n0
    · exact un_2_2 ro d z l n a p t s h0 h1 h2 h3 x k u v hp n1
    · exact un_2_3 ro d z l n a p t s h0 h1 h2 h3 x k u v hp n2
    · exact un_2_4 ro d z l n a p t s h0 h1 h2 h3 x k u v hp n3
  · rcases (show c = 0 ∨ c = 1 ∨ c = 2 ∨ c = 3 by omega) with rfl | rfl | rfl | rfl
    · exact un_3_1 ro d z l n a p t s h0 h1 h2 h3 x k u v hp n0
    · exact un_3_2 ro d z l n a p t s h0 h1 h2 h3 x k u v hp n1
    · exact un_3_3 ro d z l n a p t s h0 h1 h2 h3 x k u v hp n2
    · exact un_3_4 ro d z l n a p t s h0 h1 h2 h3 x k u v hp n3
theorem top_settleN {z : Nat} {w : Int32} {p t s : Nat → Nat → Nat} {T : List AE} (hw : w < 0) : exec ro (d + 1) 96 [.ref 0, .int w] (topT z p t s T) = some (some (.int w), topT z p t s T) := by
  rw [ex96, ev_eq]; simp (maxSteps := 1000000) (disch := omega) only [bk96_0, bk96_26, rn_end, rn_iconst, rn_iconstN, rn_bipush, rn_bipushN, rn_sipush, rn_sipushN, rn_iload0, rn_iload1, rn_iload2, rn_iload3, rn_iload4, rn_iload5, rn_iload6, rn_iload7, rn_iload_n0, rn_iload_n1, rn_iload_n2, rn_iload_n3, rn_iload_n4, rn_iload_n5, rn_iload_n6, rn_iload_n7, rn_aload_n0, rn_aload_nL0, rn_aload_n1, rn_aload_nL1, rn_aload_n2, rn_aload_nL2, rn_aload_n3, rn_aload_nL3, rn_istore0, rn_istore1, rn_istore2, rn_istore3, rn_istore4, rn_istore5, rn_istore6, rn_istore7, rn_istore_n0, rn_istore_n1, rn_istore_n2, rn_istore_n3, rn_astore_n0, rn_astore_n1, rn_astore_n2, rn_astore_n3, rn_iincK0, rn_iincK1, rn_iincK2, rn_iincK3, rn_iincK4, rn_iincK5, rn_iincK6, rn_iincK7, rn_iinc0, rn_iinc1, rn_iinc2, rn_iinc3, rn_iinc4, rn_iinc5, rn_iinc6, rn_iinc7, rn_iadd, rn_isub, rn_imul, rn_idiv, rn_irem, rn_ineg, rn_ishl, rn_ishr, rn_iand, rn_ior, rn_ixor, rn_i2c, rn_dup, rn_dupr, rn_dup2, rn_pop, rn_ifeq, rn_ifne, rn_iflt, rn_ifge, rn_ifgt, rn_ifle, rn_iceq, rn_icne, rn_iclt, rn_icge, rn_icgt, rn_icle, rn_nonnull, rn_goto, rn_table, rn_lookup, rn_getf, rn_putf, rn_gets0, rn_gets1, rn_iald, rn_ialr, rn_iast, rn_cald, rn_cast, rn_aald, rn_aast, rn_alen, rn_v0, rn_v1, rn_v2, rn_v3, rn_v4, rn_s1, rn_s2, rn_s3, rn_max, rn_min, rn_copy, rn_iret, rn_ret, hgf_o, hgv_s, hpf_o, hil_a, his_a, hal_o, has_o, hcl_n, hcl_i, hcl_ite, hci_n, hcp_a, gr_r, fin_jump, fin_ret, fin_none, fin_ite, sw_0, sw_i, sw_r, sw_l, sw_n, sw_d, List.getElem?_cons_zero, List.getElem?_cons_succ, List.length_cons, List.length_nil, List.drop_succ_cons, List.drop_zero, List.take_succ_cons, List.take_zero, List.nil_append, List.cons_append, List.set_cons_zero, List.set_cons_succ, Nat.reduceAdd, Nat.reduceSub, Nat.reduceMul, Nat.reduceLT, Nat.reduceLeDiff, Nat.reduceEqDiff, Nat.reduceBEq, Int32.reduceOfInt, Int32.reduceLT, Int32.reduceAdd, Int32.reduceSub, Int32.reduceMul, Int32.reduceToNatClampNeg, ↓reduceIte, or_true, true_or, false_or, or_false, and_true, true_and, and_false, false_and, not_true_eq_false, not_false_eq_true, ne_eq, Bool.false_eq_true, Bool.true_eq_false, reduceCtorEq, Nat.zero_add, Nat.add_zero, Nat.sub_zero, Nat.sub_self, NCl, e_10, e_01, pok_i, pok_r, pok_0, pok_1, cal, rf0, rf1, unL, unV, lc, unH, unE, spl, glE, glV, gl, hasC, List.map_cons, List.map_nil, List.append_nil, List.reverse_cons, List.reverse_nil, List.drop_nil, List.take_nil, List.all_cons, List.all_nil, clE, clV, decide_true, Bool.and_true, beq_self_eq_true, BEq.rfl, nb_neg, nb_cl, nI_add, pk_mul, nb_ltT, nb_ltF, nb_eqT, nb_eqF, nb_z, nb_zF, nb_zz, nb_01, nb_11, nb_00, nb_leT, nb_leF, nb_pos, nb_posF, nb_m, hw]
  try (rw [ev_eq]; simp (maxSteps := 1000000) (disch := omega) only [bk96_0, bk96_26, rn_end, rn_iconst, rn_iconstN, rn_bipush, rn_bipushN, rn_sipush, rn_sipushN, rn_iload0, rn_iload1, rn_iload2, rn_iload3, rn_iload4, rn_iload5, rn_iload6, rn_iload7, rn_iload_n0, rn_iload_n1, rn_iload_n2, rn_iload_n3, rn_iload_n4, rn_iload_n5, rn_iload_n6, rn_iload_n7, rn_aload_n0, rn_aload_nL0, rn_aload_n1, rn_aload_nL1, rn_aload_n2, rn_aload_nL2, rn_aload_n3, rn_aload_nL3, rn_istore0, rn_istore1, rn_istore2, rn_istore3, rn_istore4, rn_istore5, rn_istore6, rn_istore7, rn_istore_n0, rn_istore_n1, rn_istore_n2, rn_istore_n3, rn_astore_n0, rn_astore_n1, rn_astore_n2, rn_astore_n3, rn_iincK0, rn_iincK1, rn_iincK2, rn_iincK3, rn_iincK4, rn_iincK5, rn_iincK6, rn_iincK7, rn_iinc0, rn_iinc1, rn_iinc2, rn_iinc3, rn_iinc4, rn_iinc5, rn_iinc6, rn_iinc7, rn_iadd, rn_isub, rn_imul, rn_idiv, rn_irem, rn_ineg, rn_ishl, rn_ishr, rn_iand, rn_ior, rn_ixor, rn_i2c, rn_dup, rn_dupr, rn_dup2, rn_pop, rn_ifeq, rn_ifne, rn_iflt, rn_ifge, rn_ifgt, rn_ifle, rn_iceq, rn_icne, rn_iclt, rn_icge, rn_icgt, rn_icle, rn_nonnull, rn_goto, rn_table, rn_lookup, rn_getf, rn_putf, rn_gets0, rn_gets1, rn_iald, rn_ialr, rn_iast, rn_cald, rn_cast, rn_aald, rn_aast, rn_alen, rn_v0, rn_v1, rn_v2, rn_v3, rn_v4, rn_s1, rn_s2, rn_s3, rn_max, rn_min, rn_copy, rn_iret, rn_ret, hgf_o, hgv_s, hpf_o, hil_a, his_a, hal_o, has_o, hcl_n, hcl_i, hcl_ite, hci_n, hcp_a, gr_r, fin_jump, fin_ret, fin_none, fin_ite, sw_0, sw_i, sw_r, sw_l, sw_n, sw_d, List.getElem?_cons_zero, List.getElem?_cons_succ, List.length_cons, List.length_nil, List.drop_succ_cons, List.drop_zero, List.take_succ_cons, List.take_zero, List.nil_append, List.cons_append, List.set_cons_zero, List.set_cons_succ, Nat.reduceAdd, Nat.reduceSub, Nat.reduceMul, Nat.reduceLT, Nat.reduceLeDiff, Nat.reduceEqDiff, Nat.reduceBEq, Int32.reduceOfInt, Int32.reduceLT, Int32.reduceAdd, Int32.reduceSub, Int32.reduceMul, Int32.reduceToNatClampNeg, ↓reduceIte, or_true, true_or, false_or, or_false, and_true, true_and, and_false, false_and, not_true_eq_false, not_false_eq_true, ne_eq, Bool.false_eq_true, Bool.true_eq_false, reduceCtorEq, Nat.zero_add, Nat.add_zero, Nat.sub_zero, Nat.sub_self, NCl, e_10, e_01, pok_i, pok_r, pok_0, pok_1, cal, rf0, rf1, unL, unV, lc, unH, unE, spl, glE, glV, gl, hasC, List.map_cons, List.map_nil, List.append_nil, List.reverse_cons, List.reverse_nil, List.drop_nil, List.take_nil, List.all_cons, List.all_nil, clE, clV, decide_true, Bool.and_true, beq_self_eq_true, BEq.rfl, nb_neg, nb_cl, nI_add, pk_mul, nb_ltT, nb_ltF, nb_eqT, nb_eqF, nb_z, nb_zF, nb_zz, nb_01, nb_11, nb_00, nb_leT, nb_leF, nb_pos, nb_posF, nb_m, hw])
end TOP2
