/-! ===== the law's own methods ===== -/
theorem l0_1 : ((0 : Int32) = 1) = False := eq_false (by decide)
theorem l0_2 : ((0 : Int32) = 2) = False := eq_false (by decide)
theorem l0_3 : ((0 : Int32) = 3) = False := eq_false (by decide)
theorem l0_4 : ((0 : Int32) = 4) = False := eq_false (by decide)
theorem l0_5 : ((0 : Int32) = 5) = False := eq_false (by decide)
theorem l0_6 : ((0 : Int32) = 6) = False := eq_false (by decide)
theorem l0_7 : ((0 : Int32) = 7) = False := eq_false (by decide)
theorem l0_8 : ((0 : Int32) = 8) = False := eq_false (by decide)
theorem l0_9 : ((0 : Int32) = 9) = False := eq_false (by decide)
theorem l1_2 : ((1 : Int32) = 2) = False := eq_false (by decide)
theorem l1_3 : ((1 : Int32) = 3) = False := eq_false (by decide)
theorem l1_4 : ((1 : Int32) = 4) = False := eq_false (by decide)
theorem l1_5 : ((1 : Int32) = 5) = False := eq_false (by decide)
theorem l1_6 : ((1 : Int32) = 6) = False := eq_false (by decide)
theorem l1_7 : ((1 : Int32) = 7) = False := eq_false (by decide)
theorem l1_8 : ((1 : Int32) = 8) = False := eq_false (by decide)
theorem l1_9 : ((1 : Int32) = 9) = False := eq_false (by decide)
theorem l2_1 : ((2 : Int32) = 1) = False := eq_false (by decide)
theorem l2_3 : ((2 : Int32) = 3) = False := eq_false (by decide)
theorem l2_4 : ((2 : Int32) = 4) = False := eq_false (by decide)
theorem l2_5 : ((2 : Int32) = 5) = False := eq_false (by decide)
theorem l2_6 : ((2 : Int32) = 6) = False := eq_false (by decide)
theorem l2_7 : ((2 : Int32) = 7) = False := eq_false (by decide)
theorem l2_8 : ((2 : Int32) = 8) = False := eq_false (by decide)
theorem l2_9 : ((2 : Int32) = 9) = False := eq_false (by decide)
theorem l3_1 : ((3 : Int32) = 1) = False := eq_false (by decide)
theorem l3_2 : ((3 : Int32) = 2) = False := eq_false (by decide)
theorem l3_4 : ((3 : Int32) = 4) = False := eq_false (by decide)
theorem l3_5 : ((3 : Int32) = 5) = False := eq_false (by decide)
theorem l3_6 : ((3 : Int32) = 6) = False := eq_false (by decide)
theorem l3_7 : ((3 : Int32) = 7) = False := eq_false (by decide)
theorem l3_8 : ((3 : Int32) = 8) = False := eq_false (by decide)
theorem l3_9 : ((3 : Int32) = 9) = False := eq_false (by decide)
theorem l4_1 : ((4 : Int32) = 1) = False := eq_false (by decide)
theorem l4_2 : ((4 : Int32) = 2) = False := eq_false (by decide)
theorem l4_3 : ((4 : Int32) = 3) = False := eq_false (by decide)
theorem l4_5 : ((4 : Int32) = 5) = False := eq_false (by decide)
theorem l4_6 : ((4 : Int32) = 6) = False := eq_false (by decide)
theorem l4_7 : ((4 : Int32) = 7) = False := eq_false (by decide)
theorem l4_8 : ((4 : Int32) = 8) = False := eq_false (by decide)
theorem l4_9 : ((4 : Int32) = 9) = False := eq_false (by decide)
theorem l5_1 : ((5 : Int32) = 1) = False := eq_false (by decide)
theorem l5_2 : ((5 : Int32) = 2) = False := eq_false (by decide)
theorem l5_3 : ((5 : Int32) = 3) = False := eq_false (by decide)
theorem l5_4 : ((5 : Int32) = 4) = False := eq_false (by decide)
theorem l5_6 : ((5 : Int32) = 6) = False := eq_false (by decide)
theorem l5_7 : ((5 : Int32) = 7) = False := eq_false (by decide)
theorem l5_8 : ((5 : Int32) = 8) = False := eq_false (by decide)
theorem l5_9 : ((5 : Int32) = 9) = False := eq_false (by decide)
theorem l6_1 : ((6 : Int32) = 1) = False := eq_false (by decide)
theorem l6_2 : ((6 : Int32) = 2) = False := eq_false (by decide)
theorem l6_3 : ((6 : Int32) = 3) = False := eq_false (by decide)
theorem l6_4 : ((6 : Int32) = 4) = False := eq_false (by decide)
theorem l6_5 : ((6 : Int32) = 5) = False := eq_false (by decide)
theorem l6_7 : ((6 : Int32) = 7) = False := eq_false (by decide)
theorem l6_8 : ((6 : Int32) = 8) = False := eq_false (by decide)
theorem l6_9 : ((6 : Int32) = 9) = False := eq_false (by decide)
theorem l7_1 : ((7 : Int32) = 1) = False := eq_false (by decide)
theorem l7_2 : ((7 : Int32) = 2) = False := eq_false (by decide)
theorem l7_3 : ((7 : Int32) = 3) = False := eq_false (by decide)
theorem l7_4 : ((7 : Int32) = 4) = False := eq_false (by decide)
theorem l7_5 : ((7 : Int32) = 5) = False := eq_false (by decide)
theorem l7_6 : ((7 : Int32) = 6) = False := eq_false (by decide)
theorem l7_8 : ((7 : Int32) = 8) = False := eq_false (by decide)
theorem l7_9 : ((7 : Int32) = 9) = False := eq_false (by decide)
theorem l8_1 : ((8 : Int32) = 1) = False := eq_false (by decide)
theorem l8_2 : ((8 : Int32) = 2) = False := eq_false (by decide)
theorem l8_3 : ((8 : Int32) = 3) = False := eq_false (by decide)
theorem l8_4 : ((8 : Int32) = 4) = False := eq_false (by decide)
theorem l8_5 : ((8 : Int32) = 5) = False := eq_false (by decide)
theorem l8_6 : ((8 : Int32) = 6) = False := eq_false (by decide)
theorem l8_7 : ((8 : Int32) = 7) = False := eq_false (by decide)
theorem l8_9 : ((8 : Int32) = 9) = False := eq_false (by decide)
theorem l9_1 : ((9 : Int32) = 1) = False := eq_false (by decide)
theorem l9_2 : ((9 : Int32) = 2) = False := eq_false (by decide)
theorem l9_3 : ((9 : Int32) = 3) = False := eq_false (by decide)
theorem l9_4 : ((9 : Int32) = 4) = False := eq_false (by decide)
theorem l9_5 : ((9 : Int32) = 5) = False := eq_false (by decide)
theorem l9_6 : ((9 : Int32) = 6) = False := eq_false (by decide)
theorem l9_7 : ((9 : Int32) = 7) = False := eq_false (by decide)
theorem l9_8 : ((9 : Int32) = 8) = False := eq_false (by decide)
def celN (f : Int32 → Int32) (L : Nat) (k : Int32) : Nat := (if k < nI L then f k else 48271 * (k + 11)).toBitVec.toNat % 2 ^ 31
theorem celN_lt {f : Int32 → Int32} {L : Nat} {k : Int32} : celN f L k < 2 ^ 31 := Nat.mod_lt _ (by decide)
theorem cel_and (v : Int32) : v &&& 2147483647 = nI (v.toBitVec.toNat % 2 ^ 31) := pk_and v 31 (by decide)
def t_L_cell : TR := fun K R0 _ As G D Q => match As with
  | [.ref b, .int k] => ((K b).1 = 20 ∧ 0 ≤ k) ∧ Q (some (.int (nI (celN (R0 b) (K b).2 k)))) G D
  | _ => False
set_option maxRecDepth 100000 in
set_option maxHeartbeats 4000000 in
theorem s_L_cell (l : Launch) : Sat l yL_cell cL_cell 2 (some .int) 0 t_L_cell := by
  refine satb (own := RL) (fl := flL) (sg := sgL) (kc := kcL) (na := naL) (rc := rcL) (cv := cNone) (cs := cNone) (bl := bL_cell) (by decide +kernel) rfl envL bokL_cell cvNone csNone ?_
  intro L K R0 sa hPp As G D Q htr
  unfold t_L_cell at htr
  split at htr
  case h_2 => exact htr.elim
  rename_i b k
  obtain ⟨⟨k1, k3⟩, hQ⟩ := htr
  refine ⟨by simp, by simp [cat1], [], noI, 20, 0, ?_, nohd⟩
  by_cases h : k < nI (K b).2
  · have hn : ¬ nI (K b).2 ≤ k := Int32.not_le.mpr h
    unfold celN at hQ
    rw [if_pos h] at hQ
    simp only [↓x_iconst, ↓x_bipush, ↓x_sipush, ↓x_ldc, ↓x_iload_n, ↓x_iload, ↓x_aload_n, ↓x_aload, ↓x_istore_n, ↓x_istore, ↓x_astore_n, ↓x_astore, ↓x_iinc, ↓x_iadd, ↓x_isub, ↓x_imul, ↓x_iand, ↓x_idiv, ↓x_irem, ↓x_ineg, ↓x_i2c, ↓x_dupI, ↓x_dupA, ↓x_dup2, ↓x_goto, ↓x_get, ↓x_put, ↓x_gets, ↓x_iald, ↓x_bald, ↓x_aald, ↓x_iast, ↓x_bast, ↓x_aast, ↓x_alen, ↓x_iret, ↓x_vret, ↓x_nil, ↓x_jmp, ↓x_ldI0, ↓x_ldIs, ↓x_ldA0, ↓x_ldAs, ↓x_icmpT, ↓x_icmpF, ↓x_ifT, ↓x_ifF, x_iconst, x_bipush, x_sipush, x_ldc, x_iload_n, x_iload, x_aload_n, x_aload, x_istore_n, x_istore, x_astore_n, x_astore, x_iinc, x_iadd, x_isub, x_imul, x_iand, x_idiv, x_irem, x_ineg, x_i2c, x_dupI, x_dupA, x_dup2, x_goto, x_if, x_icmp, x_get, x_put, x_gets, x_iald, x_bald, x_aald, x_iast, x_bast, x_aast, x_alen, x_iret, x_vret, x_nil, x_jmp, x_ldI0, x_ldIs, x_ldA0, x_ldAs, x_cad, x_cad2, x_fv0, x_fv1, x_fv2, x_fv3, cnd, fI, L0, c1, nL0, nL1, nL2, nL3, nL4, nL5, nL6, nL7, nL8, nL9, nL10, nL11, nL12, List.map_cons, List.map_nil, List.length_cons, List.length_nil, List.cons_append, List.nil_append, List.replicate_succ, List.replicate_zero, List.set_cons_zero, List.set_cons_succ, List.mem_cons, List.not_mem_nil, or_false, false_or, Option.toList_some, Option.toList_none, ↓reduceIte, if_true, if_false, Nat.reduceAdd, Nat.reduceSub, Nat.reduceEqDiff, Nat.reduceLT, Nat.reduceLeDiff, Int.reduceNatCast, Int.reduceNatCast', Int.reduceAdd, Int.reduceNeg, Int.reduceToNat, Int.reduceLE, Int.reduceLT, Int.reduceEq, Nat.zero_add, Nat.add_zero, and_true, true_and, ne_eq, not_false_eq_true, not_true_eq_false, and_self, implies_true, Bool.false_eq_true, Nat.reduceBEq, Int32.reduceOfInt, Int32.reduceAdd, Int32.reduceSub, Int32.reduceMul, Int32.reduceLE, Int32.reduceLT, Int32.reduceToNatClampNeg, Option.some.injEq, exists_eq_left, exists_eq_left', Option.isSome_some, Option.getD_some, vp_nar_int, pbi, eq_self, forall_const, false_implies, true_implies, false_and, and_false, uD_s, uG_s, uD_o, ad_nw, ad_wn, ad_ns, ad_sn, ad_ss, ad_ww, ad_sw, ad_ws, Int32.reduceToInt, Classical.not_not, d1n, d2n, d3n, d4n, d5n, d6n, d10n, inr, nL17, nL20, nL21, nL30, nL100, nL462, nL773, nL4638, bp6, bp7, bp8, bp9, bp10, bp11, bp12, bp13, bp14, bp15, bp16, bp17, bp20, bp21, bp26, bp30, bp40, bp60, bp80, bp90, bp100, spm1000, spm999, sp128, sp150, sp200, sp256, sp300, sp400, sp999, sp1024, sp4096, sp8192, bL_cell_0, bL_cell_12, bL_cell_19, kcL_22, kcL_32, kcL_36, kcL_7, kcL_8, kcL_89, k1, k3, h, hn]
    rw [cel_and]
    exact hQ
  · have hn : nI (K b).2 ≤ k := Int32.not_lt.mp h
    unfold celN at hQ
    rw [if_neg h] at hQ
    simp only [↓x_iconst, ↓x_bipush, ↓x_sipush, ↓x_ldc, ↓x_iload_n, ↓x_iload, ↓x_aload_n, ↓x_aload, ↓x_istore_n, ↓x_istore, ↓x_astore_n, ↓x_astore, ↓x_iinc, ↓x_iadd, ↓x_isub, ↓x_imul, ↓x_iand, ↓x_idiv, ↓x_irem, ↓x_ineg, ↓x_i2c, ↓x_dupI, ↓x_dupA, ↓x_dup2, ↓x_goto, ↓x_get, ↓x_put, ↓x_gets, ↓x_iald, ↓x_bald, ↓x_aald, ↓x_iast, ↓x_bast, ↓x_aast, ↓x_alen, ↓x_iret, ↓x_vret, ↓x_nil, ↓x_jmp, ↓x_ldI0, ↓x_ldIs, ↓x_ldA0, ↓x_ldAs, ↓x_icmpT, ↓x_icmpF, ↓x_ifT, ↓x_ifF, x_iconst, x_bipush, x_sipush, x_ldc, x_iload_n, x_iload, x_aload_n, x_aload, x_istore_n, x_istore, x_astore_n, x_astore, x_iinc, x_iadd, x_isub, x_imul, x_iand, x_idiv, x_irem, x_ineg, x_i2c, x_dupI, x_dupA, x_dup2, x_goto, x_if, x_icmp, x_get, x_put, x_gets, x_iald, x_bald, x_aald, x_iast, x_bast, x_aast, x_alen, x_iret, x_vret, x_nil, x_jmp, x_ldI0, x_ldIs, x_ldA0, x_ldAs, x_cad, x_cad2, x_fv0, x_fv1, x_fv2, x_fv3, cnd, fI, L0, c1, nL0, nL1, nL2, nL3, nL4, nL5, nL6, nL7, nL8, nL9, nL10, nL11, nL12, List.map_cons, List.map_nil, List.length_cons, List.length_nil, List.cons_append, List.nil_append, List.replicate_succ, List.replicate_zero, List.set_cons_zero, List.set_cons_succ, List.mem_cons, List.not_mem_nil, or_false, false_or, Option.toList_some, Option.toList_none, ↓reduceIte, if_true, if_false, Nat.reduceAdd, Nat.reduceSub, Nat.reduceEqDiff, Nat.reduceLT, Nat.reduceLeDiff, Int.reduceNatCast, Int.reduceNatCast', Int.reduceAdd, Int.reduceNeg, Int.reduceToNat, Int.reduceLE, Int.reduceLT, Int.reduceEq, Nat.zero_add, Nat.add_zero, and_true, true_and, ne_eq, not_false_eq_true, not_true_eq_false, and_self, implies_true, Bool.false_eq_true, Nat.reduceBEq, Int32.reduceOfInt, Int32.reduceAdd, Int32.reduceSub, Int32.reduceMul, Int32.reduceLE, Int32.reduceLT, Int32.reduceToNatClampNeg, Option.some.injEq, exists_eq_left, exists_eq_left', Option.isSome_some, Option.getD_some, vp_nar_int, pbi, eq_self, forall_const, false_implies, true_implies, false_and, and_false, uD_s, uG_s, uD_o, ad_nw, ad_wn, ad_ns, ad_sn, ad_ss, ad_ww, ad_sw, ad_ws, Int32.reduceToInt, Classical.not_not, d1n, d2n, d3n, d4n, d5n, d6n, d10n, inr, nL17, nL20, nL21, nL30, nL100, nL462, nL773, nL4638, bp6, bp7, bp8, bp9, bp10, bp11, bp12, bp13, bp14, bp15, bp16, bp17, bp20, bp21, bp26, bp30, bp40, bp60, bp80, bp90, bp100, spm1000, spm999, sp128, sp150, sp200, sp256, sp300, sp400, sp999, sp1024, sp4096, sp8192, bL_cell_0, bL_cell_12, bL_cell_19, kcL_22, kcL_32, kcL_36, kcL_7, kcL_8, kcL_89, k1, k3, h, hn]
    rw [cel_and]
    exact hQ
