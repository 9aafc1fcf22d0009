

/-! THE LAW's entry -/
theorem clV_up {m n : Nat} (h : m ≤ n) (v : Value) (hv : clV m v = true) : clV n v = true := by
  cases v with
  | ref j => exact decide_eq_true (Nat.lt_of_lt_of_le (of_decide_eq_true hv) h)
  | _ => rfl
theorem clE_up {m n : Nat} (h : m ≤ n) (v : AE) (hv : clE m v = true) : clE n v = true := by
  rcases v with v | ⟨c, vs⟩
  · rfl
  · have hv : vs.all (clV m) = true := hv
    show vs.all (clV n) = true
    rw [List.all_eq_true] at hv ⊢
    exact fun x hx => clV_up h x (hv x hx)
theorem all_up {A : List AE} {m n : Nat} (h : m ≤ n) (hA : A.all (clE m) = true) : A.all (clE n) = true := by
  rw [List.all_eq_true] at hA ⊢
  exact fun x hx => clE_up h x (hA x hx)
theorem clo_A {A L : List AE} {vs : List Value} {n : Nat} (hA : A.all (clE 106) = true) (hn : 106 ≤ n) : clo n vs (A ++ L) = (cll n vs && L.all (clE n)) := by
  unfold clo cll
  rw [List.all_append, all_up hn hA, Bool.true_and]
theorem clo_B {A : List AE} {vs : List Value} {n : Nat} (hA : A.all (clE 106) = true) (hn : 106 ≤ n) : clo n vs A = cll n vs := by
  unfold clo cll
  rw [all_up hn hA, Bool.and_true]
theorem clo_N (n : Nat) (vs : List Value) : clo n vs [] = cll n vs := by
  unfold clo cll
  rw [List.all_nil, Bool.and_true]
theorem all_inl (x : Nat × Nat × (Nat → Int32)) (L : List AE) (n : Nat) : List.all (.inl x :: L) (clE n) = L.all (clE n) := by
  rw [List.all_cons, show clE n (.inl x) = true from rfl, Bool.true_and]
theorem all_nl (n : Nat) : List.all [] (clE n) = true := Eq.trans rfl rfl
theorem map_same {α : Type} {f : α → α} (h : ∀ x, f x = x) : ∀ l : List α, l.map f = l
  | [] => rfl
  | x :: r => by rw [List.map_cons, h, map_same h r]
theorem gl1 (k : Nat) : gl 0 1 0 0 1 k = k := by
  unfold gl
  by_cases c : k < 1
  · rw [if_pos c]
    omega
  · rw [if_neg c, if_neg (by omega)]
    omega
theorem glV1 (v : Value) : glV 0 1 0 0 1 v = v := by
  cases v with
  | ref k =>
    show Value.ref (gl 0 1 0 0 1 k) = _
    rw [gl1]
  | _ => rfl
theorem glE1 (v : AE) : glE 0 1 0 0 1 v = v := by
  rcases v with v | ⟨c, vs⟩
  · rfl
  · show Sum.inr (c, vs.map (glV 0 1 0 0 1)) = _
    rw [map_same glV1]
theorem cal_init {call : CL} {mid : Nat} {oth : List Value} {A : List AE} {c0 : AE} (hA : A.length = 106) (hcl : A.all (clE 106) = true) (hu : unH 0 1 0 0 [c0] = some [c0]) (hc : call mid [.ref 0] [c0] = some (none, A)) (ho : clo 1 oth [c0] = true) : cal call mid 1 0 [.ref 0] oth [c0] = some (none, A) := by
  have hm : A.map (glE 0 1 0 0 1) = A := map_same glE1 A
  have e0 : rf0 [Value.ref 0] = 0 := rfl
  have e1 : rf1 [Value.ref 0] = 0 := rfl
  have eu : unL 0 1 0 0 [Value.ref 0] = some [.ref 0] := rfl
  have ed : List.take 1 (List.drop 0 [c0]) = [c0] := rfl
  have el : [c0].length = 1 := rfl
  unfold cal
  rw [e0, e1, eu, ed, List.take_zero, List.append_nil, hu, el, if_pos ⟨by omega, by omega, Or.inr (Or.inr rfl)⟩]
  dsimp only
  rw [hc]
  dsimp only
  rw [hA, if_pos ⟨by omega, hcl, Or.inr ho⟩, hm]
  cases A with
  | nil => cases hA
  | cons x r => rfl
def zN : Nat → Nat := fun _ => 0
theorem rn_newaF (ro : RO) (call : CL) (pc : Nat) (ty : ArrayType) (t mcL msL : Nat) (r : List Op) (e : Nat) (ls st : List Value) (hp : List AE) (c s n : Nat) (hn : n < 2147483648) : run ro call ((pc, .newarray ty, [t, mcL, msL]) :: r) e ls (.int (nI n) :: st) hp c s = if 100000 < n ∨ mcL < c + 1 ∨ msL < s + n ∨ clo hp.length (ls ++ st) hp = false then none else run ro call r e ls (.ref hp.length :: st) (hp ++ [.inl (t, n, nf zN)]) (c + 1) (s + n) := by
  rw [rn_newa]
  simp (disch := omega) only [nb_cl, nb_neg, false_or]
  rfl
theorem yz_l (q f g e d q2 f2 g2 e2 d2 : Nat → Nat) : (YZ q f g e d q2 f2 g2 e2 d2).length = 10 := Eq.trans rfl rfl
theorem law_in (ro : RO) : ∃ A q f g e d, ST pI A ∧ RL pI q f g e d (fun _ => 0) ∧ ∀ R, ev ro (exec ro 12) 135 83 [.long 2, .ref 0, .ref 106, .ref 107, .ref 108, .ref 109, .ref 110, .ref 111, .ref 112, .ref 113, .ref 114, .ref 115, .int (nI 0), .null, .null, .null, .null, .null, .null, .null, .null, .null] [] (A ++ YZ q f g e d zN zN zN zN zN) 116 2623 = R → ev ro (exec ro 12) 135 0 [.long 2, .null, .null, .null, .null, .null, .null, .null, .null, .null, .null, .null, .null, .null, .null, .null, .null, .null, .null, .null, .null, .null] [] [] 0 0 = R := by
  have nm : Nm pI := pI_inv.2.2.2.2.2
  obtain ⟨A, hAe⟩ : ∃ A, A = topT 0 pI pI pI (hisR 0 0 pI pI pI pI ++ ordT 0 0 0 zI zI zI zI) := ⟨_, rfl⟩
  have e1 : exec ro 12 88 [.ref 0] [.inr (6, dfl 6)] = some (none, A) := by
    rw [hAe, dfl6]
    exact top_init ro 7
  have hs : ST pI A := ⟨0, pI, pI, 0, 0, pI, pI, pI, pI, 0, 0, 0, zI, zI, zI, zI, hAe, nm, nm, nm, by omega, by omega, nm, nm, nm, nm⟩
  clear hAe
  have hA := (ST_cl hs).1
  have hcl := (ST_cl hs).2.2.1
  have h9 : ∀ i, pI 9 i = if i = 2 then 2 else if i = 1 then 8 else 0 := fun i => by
    unfold pI
    rw [w2_sm, w2_sm, gv_n _ (by omega)]
    rfl
  have z : ∀ f, f ≠ 0 → f ≠ 1 → f ≠ 9 → ∀ i, pI f i = 0 := fun f a b c i => pI_z a b c i
  have z10 : ∀ i, pI 10 i = 0 := pI_s
  refine ⟨A, w1 (w1 zN 1 8) 2 2, trn zN 0 64, zN, zN, zN, hs, ⟨⟨trn_fo (fun _ => by show 0 < 65536; decide) 0 64, fun r hr => ?_⟩, ⟨⟨?_, ?_, ?_, ?_⟩, ?_, ?_, ?_, ?_, ?_, ?_⟩, fun k hk => ⟨?_, ?_, fun y => ?_⟩, fun j hj => ?_⟩, fun R hR => ?_⟩
  · rw [trn_fr, if_pos ⟨by omega, by omega⟩, pI_1v hr, show fr zN r = false from by unfold fr; exact Nat.zero_testBit _]
    rfl
  · rw [h9]; rfl
  · rw [h9]; rfl
  · rw [h9]; rfl
  · rw [z10]; rfl
  · rw [z10]; rfl
  · rw [z10]; rfl
  · rw [z10]; rfl
  · rw [z10]; rfl
  · rw [z10]; rfl
  · rw [z10]; rfl
  · rw [z 2 (by omega) (by omega) (by omega)]; rfl
  · rw [z 7 (by omega) (by omega) (by omega)]; rfl
  · rw [z 2 (by omega) (by omega) (by omega)] at y
    omega
  · rw [z10] at hj
    omega
  · have ec := cal_init (oth := [.long 2, .null, .null, .null, .null, .null, .null, .null, .null, .null, .null, .null, .null, .null, .null, .null, .null, .null, .null, .null, .null, .null, .ref 0]) hA hcl (by rw [dfl6]; rfl) e1 (by rw [dfl6]; rfl)
    have et0 := l_turn ro 11 (A ++ YZ (w1 (w1 zN 1 8) 2 2) zN zN zN zN zN zN zN zN zN) (k := 107) (a := 0) (n := 64) (f := zN) (gapp hA 1) (by omega)
    have et : exec ro 12 114 [.int (nI 0), .int (nI 64), .ref 107] (A ++ [.inl (0, 10, nf (w1 (w1 zN 1 8) 2 2)), .inl (0, 4, nf zN), .inl (0, 48, nf zN), .inl (0, 48, nf zN), .inl (0, 64, nf zN), .inl (0, 10, nf zN), .inl (0, 4, nf zN), .inl (0, 48, nf zN), .inl (0, 48, nf zN), .inl (0, 64, nf zN)]) = some (none, A ++ YZ (w1 (w1 zN 1 8) 2 2) (trn zN 0 64) zN zN zN zN zN zN zN zN) := by
      refine et0.trans ?_
      rw [show (A ++ YZ (w1 (w1 zN 1 8) 2 2) zN zN zN zN zN zN zN zN zN).set 107 _ = _ from sapp hA 1 _]
      rfl
    clear et0
    have g0 : ∀ L : List AE, (A ++ L)[106]? = L[0]? := fun L => gapp hA 0
    have s0 : ∀ (L : List AE) (v : AE), (A ++ L).set 106 v = A ++ L.set 0 v := fun L v => sapp hA 0 v
    rw [ev_eq]; simp (maxSteps := 1000000) (disch := omega) only [bl135_0, bl135_83, bl135_132, bl135_143, bl135_154, bl135_165, bl135_176, bl135_187, bl135_189, bl135_216, bl135_236, bl135_238, bl135_242, bl135_268, bl135_289, bl135_301, bl135_321, bl135_333, bl135_373, bl135_417, bl135_419, bl135_464, bl135_466, bl135_508, bl135_514, rn_end_q, rn_iconst_q, rn_iconstN_q, rn_bipush_q, rn_bipushN_q, rn_sipush_q, rn_sipushN_q, rn_iload0_q, rn_iload1_q, rn_iload2_q, rn_iload3_q, rn_iload4_q, rn_iload5_q, rn_iload6_q, rn_iload7_q, rn_iload_n0_q, rn_iload_n1_q, rn_iload_n2_q, rn_iload_n3_q, rn_iload_n4_q, rn_iload_n5_q, rn_iload_n6_q, rn_iload_n7_q, rn_aload_n0_q, rn_aload_nL0_q, rn_aload_n1_q, rn_aload_nL1_q, rn_aload_n2_q, rn_aload_nL2_q, rn_aload_n3_q, rn_aload_nL3_q, rn_istore0, rn_istore1, rn_istore2, rn_istore3, rn_istore4, rn_istore5, rn_istore6, rn_istore7, rn_istore_n0, rn_istore_n1, rn_istore_n2, rn_istore_n3, rn_astore_n0, rn_astore_n1, rn_astore_n2, rn_astore_n3, rn_iincK0_q, rn_iincK1_q, rn_iincK2_q, rn_iincK3_q, rn_iincK4_q, rn_iincK5_q, rn_iincK6_q, rn_iincK7_q, rn_iinc0_q, rn_iinc1_q, rn_iinc2_q, rn_iinc3_q, rn_iinc4_q, rn_iinc5_q, rn_iinc6_q, rn_iinc7_q, rn_iadd_q, rn_isub_q, rn_imul_q, rn_idiv_q, rn_irem_q, rn_ineg_q, rn_ishl_q, rn_ishr_q, rn_iand_q, rn_ior_q, rn_ixor_q, rn_i2c_q, rn_dup_q, rn_dupr_q, rn_dup2_q, rn_pop_q, rn_ifeq_q, rn_ifne_q, rn_iflt_q, rn_ifge_q, rn_ifgt_q, rn_ifle_q, rn_iceq_q, rn_icne_q, rn_iclt_q, rn_icge_q, rn_icgt_q, rn_icle_q, rn_nonnull_q, rn_goto_q, rn_table_q, rn_lookup_q, rn_getf_q, rn_putf_q, rn_gets0_q, rn_gets1_q, rn_iald_q, rn_ialr_q, rn_iast_q, rn_cald_q, rn_cast_q, rn_aald_q, rn_aast_q, rn_alen_q, rn_v0, rn_v1, rn_v2, rn_v3, rn_v4, rn_s1, rn_s2, rn_s3, rn_max_q, rn_min_q, rn_copy, rn_iret_q, rn_ret_q, hgf_o_q, hgv_s_q, hpf_o_q, hil_a_q, his_a_q, hal_o_q, has_o_q, hcl_n_q, hcl_i_q, hcl_ite, hci_n_q, hcp_a_q, gr_r_q, fin_jump_q, fin_ret_q, fin_none_q, fin_ite, sw_0_q, sw_i_q, sw_r_q, sw_l_q, sw_n_q, sw_d_q, List.getElem?_cons_zero, List.getElem?_cons_succ, List.length_cons, List.length_nil, List.drop_succ_cons, List.drop_zero, List.take_succ_cons, List.take_zero, List.nil_append, List.cons_append, List.set_cons_zero, List.set_cons_succ, Nat.reduceAdd, Nat.reduceSub, Nat.reduceMul, Nat.reduceLT, Nat.reduceLeDiff, Nat.reduceEqDiff, Nat.reduceBEq, Int32.reduceOfInt, Int32.reduceLT, Int32.reduceAdd, Int32.reduceSub, Int32.reduceMul, Int32.reduceToNatClampNeg, ↓reduceIte, or_true, true_or, false_or, or_false, and_true, true_and, and_false, false_and, not_true_eq_false, not_false_eq_true, ne_eq, Bool.false_eq_true, Bool.true_eq_false, reduceCtorEq, Nat.zero_add, Nat.add_zero, Nat.sub_zero, Nat.sub_self, NCl, e_10, e_01, rn_i2l_q, rn_ladd_q, rn_lmul_q, rn_lcmp, rn_ldc_q, rn_ldc2_q, rn_lret_q, rn_iload8_q, rn_istore8, rn_iincK8_q, rn_iinc8_q, rn_iload9_q, rn_istore9, rn_iincK9_q, rn_iinc9_q, rn_iload10_q, rn_istore10, rn_iincK10_q, rn_iinc10_q, rn_iload11_q, rn_istore11, rn_iincK11_q, rn_iinc11_q, rn_iload12_q, rn_istore12, rn_iincK12_q, rn_iinc12_q, rn_iload13_q, rn_istore13, rn_iincK13_q, rn_iinc13_q, rn_iload14_q, rn_istore14, rn_iincK14_q, rn_iinc14_q, rn_iload15_q, rn_istore15, rn_iincK15_q, rn_iinc15_q, rn_iload16_q, rn_istore16, rn_iincK16_q, rn_iinc16_q, rn_iload17_q, rn_istore17, rn_iincK17_q, rn_iinc17_q, rn_iload18_q, rn_istore18, rn_iincK18_q, rn_iinc18_q, rn_iload19_q, rn_istore19, rn_iincK19_q, rn_iinc19_q, rn_iload20_q, rn_istore20, rn_iincK20_q, rn_iinc20_q, rn_iload21_q, rn_istore21, rn_iincK21_q, rn_iinc21_q, rn_iload22_q, rn_istore22, rn_iincK22_q, rn_iinc22_q, rn_iload23_q, rn_istore23, rn_iincK23_q, rn_iinc23_q, rn_iload24_q, rn_istore24, rn_iincK24_q, rn_iinc24_q, rn_aload4_q, rn_astore4, rn_aload5_q, rn_astore5, rn_aload6_q, rn_astore6, rn_aload7_q, rn_astore7, rn_aload8_q, rn_astore8, rn_aload9_q, rn_astore9, rn_aload10_q, rn_astore10, rn_aload11_q, rn_astore11, rn_aload12_q, rn_astore12, rn_lload_n1_q, rn_lload19_q, rn_lstore_n1, rn_lstore19, rn_a1, rn_a2, rn_a3, rn_a4, rn_a5, rn_a6, rn_a7, rn_a8, rn_a9, rn_a10, rn_a11, rn_a12, hca_n_q, hca_i_q, hca_d_q, hca_ite, ndl_0_q, ndl_i_q, ndl_r_q, ndl_l_q, cll_0_q, cll_i_q, cll_n_q, cll_l_q, cll_d_q, cll_r, nb_neg, nb_cl, nI_add, pk_mul, nb_ltT, nb_ltF, nb_eqT, nb_eqF, nb_z, nb_zF, nb_zz, nb_01, nb_11, nb_00, nb_leT, nb_leF, nb_pos, nb_posF, nb_m, pk_div, pk_rm, pk_mul, nI_add, nf_at, nf_up, w1_at, w_shr, w_and1, w_and63, w_and127, w_shl1, w_shl6, w_xor, w_or, nb_ge1, nb_01, nb_11, nb_00, Nat.lt_irrefl, List.append_nil, List.length_set, rn_newaF, rn_new, rn_init, ec, et, clo_A hcl, clo_B hcl, clo_N, all_inl, all_nl, Bool.and_true, List.append_assoc, List.length_append, hA, yz_l, g0, s0]
    exact hR
