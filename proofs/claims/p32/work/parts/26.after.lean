/-! ### what a record leaves -/
theorem six {i : Int32} (h0 : 0 ≤ i) (h1 : i < 6) : i = 0 ∨ i = 1 ∨ i = 2 ∨ i = 3 ∨ i = 4 ∨ i = 5 := by
  simp only [i_le, i_lt, i_eq, Int32.reduceToInt] at *
  omega
theorem rot_at {G : GT} {h : Nat} {i : Int32} (h0 : 0 ≤ i) (h1 : i < 6) : ∃ j : Int32, 0 ≤ j ∧ j < 6 ∧ rotG G h (hS h) i = some (sta G h j) := by
  rcases six h0 h1 with rfl | rfl | rfl | rfl | rfl | rfl
  · exact ⟨1, by decide, by decide, by simp [rotG, uG_s]⟩
  · exact ⟨2, by decide, by decide, by simp [rotG, uG_s]⟩
  · exact ⟨3, by decide, by decide, by simp [rotG, uG_s]⟩
  · exact ⟨4, by decide, by decide, by simp [rotG, uG_s]⟩
  · exact ⟨5, by decide, by decide, by simp [rotG, uG_s]⟩
  · exact ⟨0, by decide, by decide, by simp [rotG, uG_s]⟩
theorem hS_x {x : Nat} : hS (xH x) = x + 47 := rfl
theorem Cls.rot {K : KT} {G : GT} {x : Nat} (hC : Cls K G x) : Cls K (rotG G (xH x)) x := by
  obtain ⟨⟨k0, g0, g1, g2, g3⟩, hM, ⟨⟨l0, l1, l2⟩, hs, hm⟩, ⟨⟨t0, t1, t2⟩, tk, t3, t4⟩, ⟨⟨p0, p1, p2, p3, p4⟩, pk, ⟨q1, q2, q3, q4⟩, pr⟩, hst⟩ := hC
  have key : ∀ i : Int32, 0 ≤ i ∧ i < 6 → ∃ j : Int32, (0 ≤ j ∧ j < 6) ∧ rotG G (xH x) (hS (xH x)) i = some (sta G (xH x) j) ∧ sta (rotG G (xH x)) (xH x) i = sta G (xH x) j := by
    intro i hi
    obtain ⟨j, j0, j1, hj⟩ := rot_at (G := G) (h := xH x) hi.1 hi.2
    exact ⟨j, ⟨j0, j1⟩, hj, by unfold sta; rw [hj]; rfl⟩
  have o : ∀ a, a ≠ x + 47 → rotG G (xH x) a = G a := fun a e => rot_o (by rw [hS_x]; exact e)
  have o0 := o x (by omega)
  have o1 := o (xH x) (by unfold xH; omega)
  have o2 := o (xT x) (by unfold xT; omega)
  have o3 := o (tO (xT x)) (by unfold tO xT; omega)
  have o4 := o (xP x) (by unfold xP; omega)
  have o5 := o (oP (xP x)) (by unfold oP xP; omega)
  have o6 := o (oF (xP x)) (by unfold oF xP; omega)
  have o7 := o (oG (xP x)) (by unfold oG xP; omega)
  have o8 := o (oC (xP x)) (by unfold oC xP; omega)
  refine ⟨⟨k0, by rw [o0]; exact g0, by rw [o0]; exact g1, by rw [o0]; exact g2, by rw [o0]; exact g3⟩, hM.rot (fun a h1 h2 => o a (by unfold xN at h2; omega)), ⟨⟨l0, by rw [o1]; exact l1, l2⟩, fun i hi => ?_, fun i hi => ?_⟩, ⟨⟨t0, by rw [o2]; exact t1, by rw [o2]; exact t2⟩, tk, fun r hr => by rw [o3]; exact t3 r hr, t4⟩, ⟨⟨p0, by rw [o4]; exact p1, by rw [o4]; exact p2, by rw [o4]; exact p3, by rw [o4]; exact p4⟩, pk, ⟨fun r hr => by rw [o5]; exact q1 r hr, fun r hr => by rw [o6]; exact q2 r hr, fun r hr => by rw [o7]; exact q3 r hr, fun r hr => by rw [o8]; exact q4 r hr⟩, pr⟩, fun i hi => ?_⟩
  · obtain ⟨j, hj, h1, h2⟩ := key i hi
    rw [h1, h2]
  · obtain ⟨j, hj, h1, h2⟩ := key i hi
    rw [h2]
    have := hst j hj
    exact (hm j hj).rot (fun a g1 g2 => o a (by omega))
  · obtain ⟨j, hj, h1, h2⟩ := key i hi
    rw [h2]
    exact hst j hj
theorem Cls.rec {K : KT} {G : GT} {D : DT} {x : Nat} (hC : Cls K G x) : Cls K (recG G D (xH x)) x := by
  unfold recG
  split
  · exact hC.rot
  · exact hC
/-- what every action stands on -/
def Act (K : KT) (G : GT) (D : DT) (x : Nat) : Prop := Cls K G x ∧ Num (D (nu (xv x))) ∧ (0 ≤ D (xH x) 1 ∧ D (xH x) 1 ≤ 6) ∧ Boo D (xN x)
theorem setV_u {E : DT} {n : Nat} {i v : Int32} (h : ¬ i = 4) : setV (uD E n i v n) = setV (E n) := by
  have : ¬ i.toInt = (4 : Int32).toInt := fun q => h (Int32.toInt_inj.mp q)
  unfold setV
  rw [uD_s, if_neg this]
def rD (G : GT) (D : DT) (x : Nat) : DT := recD G D (xH x) (xN x)
def t_X5_ask : TR := fun K _ _ As G D Q => match As with
  | [.ref x, .int w] => Act K G D x ∧
    (if w < 0 then Q (some (.int (-100001))) G D else if 999 < w then Q (some (.int (-100001))) G D else if setV (D (nu (xv x))) = 0 then Q (some (.int (D (nu (xv x)) 3))) (recG G D (xH x)) (uD (rD G D x) (nu (xv x)) 3 w) else Q (some (.int (D (nu (xv x)) 3))) (recG G D (xH x)) (uD (uD (rD G D x) (nu (xv x)) 3 w) (nu (xv x)) 14 (D (nu (xv x)) 14 + 1)))
  | _ => False
set_option maxRecDepth 100000 in
set_option maxHeartbeats 4000000 in
theorem s_X5_ask (l : Launch) : Sat l yX5_ask cX5_ask 3 (some .int) 4 t_X5_ask := by
  refine satb (own := RX5) (fl := flX5) (sg := sgX5) (kc := kcX5) (na := naX5) (rc := rcX5) (cv := (cAdd 52 t_X5_isSet (cAdd 58 t_X0_record cNone))) (cs := cNone) (bl := bX5_ask) (by decide +kernel) rfl envX5 bokX5_ask (cvAdd (s_X5_isSet l) lkX5_52 rfl rfl (by decide) (cvAdd (s_X0_record l) lkX5_58 rfl rfl (by decide) cvNone)) csNone ?_
  intro L K R0 sa hPp As G D Q htr
  unfold t_X5_ask at htr
  split at htr
  case h_2 => exact htr.elim
  rename_i x w
  obtain ⟨⟨hC, ⟨y1, y2, y3, y4, y5, y6⟩, ⟨y7, y8⟩, hB⟩, hQ⟩ := htr
  obtain ⟨⟨k0, g0, g1, g2, g3⟩, hM, hH, hT, hP, hst⟩ := id hC
  obtain ⟨⟨m0, m1, m2, m3⟩, -, hN, -⟩ := id hM
  obtain ⟨⟨n0, n1, n2, n3⟩, ⟨n4, -⟩, -⟩ := id hN
  obtain ⟨⟨l0, -⟩, -⟩ := id hH
  have hd := x_dis hC
  have e1 : recG G D (xH x) x = G x := recG_o (by rw [hS_x]; omega)
  have e2 : recG G D (xH x) (xN x) = G (xN x) := recG_o (by rw [hS_x]; unfold xN; omega)
  have e3 : recD G D (xH x) (xN x) (nu (xv x)) = D (nu (xv x)) := recD_o hC y7 y8 (by unfold nu xv mv xN; omega)
  have e4 : recG G D (xH x) (xv x) = G (xv x) := recG_o (by rw [hS_x]; unfold xv mv xN; omega)
  have e5 : setV (uD (recD G D (xH x) (xN x)) (nu (xv x)) 3 w (nu (xv x))) = setV (D (nu (xv x))) := by rw [setV_u (by decide), e3]
  have e6 : Cls K (recG G D (xH x)) x := hC.rec
  have n0' : K (xv x) = (2, 0) := n0
  have n1' : G (xv x) 0 = some (nu (xv x)) := n1
  have n4' : K (nu (xv x)) = (10, 17) := n4
  refine ⟨by simp, by simp [cat1], [], noI, 20, 0, ?_, nohd⟩
  by_cases h1 : w < 0
  · rw [if_pos h1] at hQ
    simp only [↓x_iconst, ↓x_bipush, ↓x_sipush, ↓x_ldc, ↓x_iload_n, ↓x_iload, ↓x_aload_n, ↓x_aload, ↓x_istore_n, ↓x_istore, ↓x_astore_n, ↓x_astore, ↓x_iinc, ↓x_iadd, ↓x_isub, ↓x_imul, ↓x_iand, ↓x_idiv, ↓x_irem, ↓x_ineg, ↓x_i2c, ↓x_dupI, ↓x_dupA, ↓x_dup2, ↓x_goto, ↓x_get, ↓x_put, ↓x_gets, ↓x_iald, ↓x_bald, ↓x_aald, ↓x_iast, ↓x_bast, ↓x_aast, ↓x_alen, ↓x_iret, ↓x_vret, ↓x_nil, ↓x_jmp, ↓x_ldI0, ↓x_ldIs, ↓x_ldA0, ↓x_ldAs, ↓x_icmpT, ↓x_icmpF, ↓x_ifT, ↓x_ifF, x_iconst, x_bipush, x_sipush, x_ldc, x_iload_n, x_iload, x_aload_n, x_aload, x_istore_n, x_istore, x_astore_n, x_astore, x_iinc, x_iadd, x_isub, x_imul, x_iand, x_idiv, x_irem, x_ineg, x_i2c, x_dupI, x_dupA, x_dup2, x_goto, x_if, x_icmp, x_get, x_put, x_gets, x_iald, x_bald, x_aald, x_iast, x_bast, x_aast, x_alen, x_iret, x_vret, x_nil, x_jmp, x_ldI0, x_ldIs, x_ldA0, x_ldAs, x_cad, x_cad2, x_fv0, x_fv1, x_fv2, x_fv3, cnd, fI, L0, c1, nL0, nL1, nL2, nL3, nL4, nL5, nL6, nL7, nL8, nL9, nL10, nL11, nL12, List.map_cons, List.map_nil, List.length_cons, List.length_nil, List.cons_append, List.nil_append, List.replicate_succ, List.replicate_zero, List.set_cons_zero, List.set_cons_succ, List.mem_cons, List.not_mem_nil, or_false, false_or, Option.toList_some, Option.toList_none, ↓reduceIte, if_true, if_false, Nat.reduceAdd, Nat.reduceSub, Nat.reduceEqDiff, Nat.reduceLT, Nat.reduceLeDiff, Int.reduceNatCast, Int.reduceNatCast', Int.reduceAdd, Int.reduceNeg, Int.reduceToNat, Int.reduceLE, Int.reduceLT, Int.reduceEq, Nat.zero_add, Nat.add_zero, and_true, true_and, ne_eq, not_false_eq_true, not_true_eq_false, and_self, implies_true, Bool.false_eq_true, Nat.reduceBEq, Int32.reduceOfInt, Int32.reduceAdd, Int32.reduceSub, Int32.reduceMul, Int32.reduceLE, Int32.reduceLT, Int32.reduceToNatClampNeg, Option.some.injEq, exists_eq_left, exists_eq_left', Option.isSome_some, Option.getD_some, vp_nar_int, pbi, eq_self, forall_const, false_implies, true_implies, false_and, and_false, uD_s, uG_s, uD_o, ad_nw, ad_wn, ad_ns, ad_sn, ad_ss, ad_ww, ad_sw, ad_ws, Int32.reduceToInt, Classical.not_not, d1n, d2n, d3n, d4n, d5n, d6n, d10n, inr, nL17, nL20, nL21, nL30, nL100, nL462, nL773, nL4638, bp6, bp7, bp8, bp9, bp10, bp11, bp12, bp13, bp14, bp15, bp16, bp17, bp20, bp21, bp26, bp30, bp40, bp60, bp80, bp90, bp100, spm1000, spm999, sp128, sp150, sp200, sp256, sp300, sp400, sp999, sp1024, sp4096, sp8192, bX5_ask_0, bX5_ask_11, bX5_ask_14, bX5_ask_75, eX5_10, eX5_19, eX5_37, eX5_41, t_X5_isSet, ↓x_inv1 naX5_52, x_inv1 naX5_52, rcX5_52, t_X0_record, ↓x_inv2 naX5_58, x_inv2 naX5_58, rcX5_58, kcX5_153, kcX5_51, kcX5_56, kcX5_57, sgX5_102, sgX5_86, sgX5_89, sgX5_99, xv_e, k0, g0, g1, m0, m1, n0', n1', n4', h1, hC]
    exact hQ
  · rw [if_neg h1] at hQ
    by_cases h2 : 999 < w
    · rw [if_pos h2] at hQ
      have h2n : ¬ w ≤ 999 := Int32.not_le.mpr h2
      simp only [↓x_iconst, ↓x_bipush, ↓x_sipush, ↓x_ldc, ↓x_iload_n, ↓x_iload, ↓x_aload_n, ↓x_aload, ↓x_istore_n, ↓x_istore, ↓x_astore_n, ↓x_astore, ↓x_iinc, ↓x_iadd, ↓x_isub, ↓x_imul, ↓x_iand, ↓x_idiv, ↓x_irem, ↓x_ineg, ↓x_i2c, ↓x_dupI, ↓x_dupA, ↓x_dup2, ↓x_goto, ↓x_get, ↓x_put, ↓x_gets, ↓x_iald, ↓x_bald, ↓x_aald, ↓x_iast, ↓x_bast, ↓x_aast, ↓x_alen, ↓x_iret, ↓x_vret, ↓x_nil, ↓x_jmp, ↓x_ldI0, ↓x_ldIs, ↓x_ldA0, ↓x_ldAs, ↓x_icmpT, ↓x_icmpF, ↓x_ifT, ↓x_ifF, x_iconst, x_bipush, x_sipush, x_ldc, x_iload_n, x_iload, x_aload_n, x_aload, x_istore_n, x_istore, x_astore_n, x_astore, x_iinc, x_iadd, x_isub, x_imul, x_iand, x_idiv, x_irem, x_ineg, x_i2c, x_dupI, x_dupA, x_dup2, x_goto, x_if, x_icmp, x_get, x_put, x_gets, x_iald, x_bald, x_aald, x_iast, x_bast, x_aast, x_alen, x_iret, x_vret, x_nil, x_jmp, x_ldI0, x_ldIs, x_ldA0, x_ldAs, x_cad, x_cad2, x_fv0, x_fv1, x_fv2, x_fv3, cnd, fI, L0, c1, nL0, nL1, nL2, nL3, nL4, nL5, nL6, nL7, nL8, nL9, nL10, nL11, nL12, List.map_cons, List.map_nil, List.length_cons, List.length_nil, List.cons_append, List.nil_append, List.replicate_succ, List.replicate_zero, List.set_cons_zero, List.set_cons_succ, List.mem_cons, List.not_mem_nil, or_false, false_or, Option.toList_some, Option.toList_none, ↓reduceIte, if_true, if_false, Nat.reduceAdd, Nat.reduceSub, Nat.reduceEqDiff, Nat.reduceLT, Nat.reduceLeDiff, Int.reduceNatCast, Int.reduceNatCast', Int.reduceAdd, Int.reduceNeg, Int.reduceToNat, Int.reduceLE, Int.reduceLT, Int.reduceEq, Nat.zero_add, Nat.add_zero, and_true, true_and, ne_eq, not_false_eq_true, not_true_eq_false, and_self, implies_true, Bool.false_eq_true, Nat.reduceBEq, Int32.reduceOfInt, Int32.reduceAdd, Int32.reduceSub, Int32.reduceMul, Int32.reduceLE, Int32.reduceLT, Int32.reduceToNatClampNeg, Option.some.injEq, exists_eq_left, exists_eq_left', Option.isSome_some, Option.getD_some, vp_nar_int, pbi, eq_self, forall_const, false_implies, true_implies, false_and, and_false, uD_s, uG_s, uD_o, ad_nw, ad_wn, ad_ns, ad_sn, ad_ss, ad_ww, ad_sw, ad_ws, Int32.reduceToInt, Classical.not_not, d1n, d2n, d3n, d4n, d5n, d6n, d10n, inr, nL17, nL20, nL21, nL30, nL100, nL462, nL773, nL4638, bp6, bp7, bp8, bp9, bp10, bp11, bp12, bp13, bp14, bp15, bp16, bp17, bp20, bp21, bp26, bp30, bp40, bp60, bp80, bp90, bp100, spm1000, spm999, sp128, sp150, sp200, sp256, sp300, sp400, sp999, sp1024, sp4096, sp8192, bX5_ask_0, bX5_ask_11, bX5_ask_14, bX5_ask_75, eX5_10, eX5_19, eX5_37, eX5_41, t_X5_isSet, ↓x_inv1 naX5_52, x_inv1 naX5_52, rcX5_52, t_X0_record, ↓x_inv2 naX5_58, x_inv2 naX5_58, rcX5_58, kcX5_153, kcX5_51, kcX5_56, kcX5_57, sgX5_102, sgX5_86, sgX5_89, sgX5_99, xv_e, k0, g0, g1, m0, m1, n0', n1', n4', h1, h2n, hC]
      exact hQ
    · rw [if_neg h2] at hQ
      have h2' : w ≤ 999 := Int32.not_lt.mp h2
      by_cases h4 : setV (D (nu (xv x))) = 0
      · rw [if_pos h4] at hQ
        simp only [↓x_iconst, ↓x_bipush, ↓x_sipush, ↓x_ldc, ↓x_iload_n, ↓x_iload, ↓x_aload_n, ↓x_aload, ↓x_istore_n, ↓x_istore, ↓x_astore_n, ↓x_astore, ↓x_iinc, ↓x_iadd, ↓x_isub, ↓x_imul, ↓x_iand, ↓x_idiv, ↓x_irem, ↓x_ineg, ↓x_i2c, ↓x_dupI, ↓x_dupA, ↓x_dup2, ↓x_goto, ↓x_get, ↓x_put, ↓x_gets, ↓x_iald, ↓x_bald, ↓x_aald, ↓x_iast, ↓x_bast, ↓x_aast, ↓x_alen, ↓x_iret, ↓x_vret, ↓x_nil, ↓x_jmp, ↓x_ldI0, ↓x_ldIs, ↓x_ldA0, ↓x_ldAs, ↓x_icmpT, ↓x_icmpF, ↓x_ifT, ↓x_ifF, x_iconst, x_bipush, x_sipush, x_ldc, x_iload_n, x_iload, x_aload_n, x_aload, x_istore_n, x_istore, x_astore_n, x_astore, x_iinc, x_iadd, x_isub, x_imul, x_iand, x_idiv, x_irem, x_ineg, x_i2c, x_dupI, x_dupA, x_dup2, x_goto, x_if, x_icmp, x_get, x_put, x_gets, x_iald, x_bald, x_aald, x_iast, x_bast, x_aast, x_alen, x_iret, x_vret, x_nil, x_jmp, x_ldI0, x_ldIs, x_ldA0, x_ldAs, x_cad, x_cad2, x_fv0, x_fv1, x_fv2, x_fv3, cnd, fI, L0, c1, nL0, nL1, nL2, nL3, nL4, nL5, nL6, nL7, nL8, nL9, nL10, nL11, nL12, List.map_cons, List.map_nil, List.length_cons, List.length_nil, List.cons_append, List.nil_append, List.replicate_succ, List.replicate_zero, List.set_cons_zero, List.set_cons_succ, List.mem_cons, List.not_mem_nil, or_false, false_or, Option.toList_some, Option.toList_none, ↓reduceIte, if_true, if_false, Nat.reduceAdd, Nat.reduceSub, Nat.reduceEqDiff, Nat.reduceLT, Nat.reduceLeDiff, Int.reduceNatCast, Int.reduceNatCast', Int.reduceAdd, Int.reduceNeg, Int.reduceToNat, Int.reduceLE, Int.reduceLT, Int.reduceEq, Nat.zero_add, Nat.add_zero, and_true, true_and, ne_eq, not_false_eq_true, not_true_eq_false, and_self, implies_true, Bool.false_eq_true, Nat.reduceBEq, Int32.reduceOfInt, Int32.reduceAdd, Int32.reduceSub, Int32.reduceMul, Int32.reduceLE, Int32.reduceLT, Int32.reduceToNatClampNeg, Option.some.injEq, exists_eq_left, exists_eq_left', Option.isSome_some, Option.getD_some, vp_nar_int, pbi, eq_self, forall_const, false_implies, true_implies, false_and, and_false, uD_s, uG_s, uD_o, ad_nw, ad_wn, ad_ns, ad_sn, ad_ss, ad_ww, ad_sw, ad_ws, Int32.reduceToInt, Classical.not_not, d1n, d2n, d3n, d4n, d5n, d6n, d10n, inr, nL17, nL20, nL21, nL30, nL100, nL462, nL773, nL4638, bp6, bp7, bp8, bp9, bp10, bp11, bp12, bp13, bp14, bp15, bp16, bp17, bp20, bp21, bp26, bp30, bp40, bp60, bp80, bp90, bp100, spm1000, spm999, sp128, sp150, sp200, sp256, sp300, sp400, sp999, sp1024, sp4096, sp8192, bX5_ask_0, bX5_ask_11, bX5_ask_14, bX5_ask_75, eX5_10, eX5_19, eX5_37, eX5_41, t_X5_isSet, ↓x_inv1 naX5_52, x_inv1 naX5_52, rcX5_52, t_X0_record, ↓x_inv2 naX5_58, x_inv2 naX5_58, rcX5_58, kcX5_153, kcX5_51, kcX5_56, kcX5_57, sgX5_102, sgX5_86, sgX5_89, sgX5_99, xv_e, k0, g0, g1, m0, m1, n0', n1', n4', h1, h2, h2', h4, hC, hH, hM, hB, hd, l0, y7, y8, e1, e2, e3, e4, e5, e6]
        exact hQ
      · rw [if_neg h4] at hQ
        simp only [↓x_iconst, ↓x_bipush, ↓x_sipush, ↓x_ldc, ↓x_iload_n, ↓x_iload, ↓x_aload_n, ↓x_aload, ↓x_istore_n, ↓x_istore, ↓x_astore_n, ↓x_astore, ↓x_iinc, ↓x_iadd, ↓x_isub, ↓x_imul, ↓x_iand, ↓x_idiv, ↓x_irem, ↓x_ineg, ↓x_i2c, ↓x_dupI, ↓x_dupA, ↓x_dup2, ↓x_goto, ↓x_get, ↓x_put, ↓x_gets, ↓x_iald, ↓x_bald, ↓x_aald, ↓x_iast, ↓x_bast, ↓x_aast, ↓x_alen, ↓x_iret, ↓x_vret, ↓x_nil, ↓x_jmp, ↓x_ldI0, ↓x_ldIs, ↓x_ldA0, ↓x_ldAs, ↓x_icmpT, ↓x_icmpF, ↓x_ifT, ↓x_ifF, x_iconst, x_bipush, x_sipush, x_ldc, x_iload_n, x_iload, x_aload_n, x_aload, x_istore_n, x_istore, x_astore_n, x_astore, x_iinc, x_iadd, x_isub, x_imul, x_iand, x_idiv, x_irem, x_ineg, x_i2c, x_dupI, x_dupA, x_dup2, x_goto, x_if, x_icmp, x_get, x_put, x_gets, x_iald, x_bald, x_aald, x_iast, x_bast, x_aast, x_alen, x_iret, x_vret, x_nil, x_jmp, x_ldI0, x_ldIs, x_ldA0, x_ldAs, x_cad, x_cad2, x_fv0, x_fv1, x_fv2, x_fv3, cnd, fI, L0, c1, nL0, nL1, nL2, nL3, nL4, nL5, nL6, nL7, nL8, nL9, nL10, nL11, nL12, List.map_cons, List.map_nil, List.length_cons, List.length_nil, List.cons_append, List.nil_append, List.replicate_succ, List.replicate_zero, List.set_cons_zero, List.set_cons_succ, List.mem_cons, List.not_mem_nil, or_false, false_or, Option.toList_some, Option.toList_none, ↓reduceIte, if_true, if_false, Nat.reduceAdd, Nat.reduceSub, Nat.reduceEqDiff, Nat.reduceLT, Nat.reduceLeDiff, Int.reduceNatCast, Int.reduceNatCast', Int.reduceAdd, Int.reduceNeg, Int.reduceToNat, Int.reduceLE, Int.reduceLT, Int.reduceEq, Nat.zero_add, Nat.add_zero, and_true, true_and, ne_eq, not_false_eq_true, not_true_eq_false, and_self, implies_true, Bool.false_eq_true, Nat.reduceBEq, Int32.reduceOfInt, Int32.reduceAdd, Int32.reduceSub, Int32.reduceMul, Int32.reduceLE, Int32.reduceLT, Int32.reduceToNatClampNeg, Option.some.injEq, exists_eq_left, exists_eq_left', Option.isSome_some, Option.getD_some, vp_nar_int, pbi, eq_self, forall_const, false_implies, true_implies, false_and, and_false, uD_s, uG_s, uD_o, ad_nw, ad_wn, ad_ns, ad_sn, ad_ss, ad_ww, ad_sw, ad_ws, Int32.reduceToInt, Classical.not_not, d1n, d2n, d3n, d4n, d5n, d6n, d10n, inr, nL17, nL20, nL21, nL30, nL100, nL462, nL773, nL4638, bp6, bp7, bp8, bp9, bp10, bp11, bp12, bp13, bp14, bp15, bp16, bp17, bp20, bp21, bp26, bp30, bp40, bp60, bp80, bp90, bp100, spm1000, spm999, sp128, sp150, sp200, sp256, sp300, sp400, sp999, sp1024, sp4096, sp8192, bX5_ask_0, bX5_ask_11, bX5_ask_14, bX5_ask_75, eX5_10, eX5_19, eX5_37, eX5_41, t_X5_isSet, ↓x_inv1 naX5_52, x_inv1 naX5_52, rcX5_52, t_X0_record, ↓x_inv2 naX5_58, x_inv2 naX5_58, rcX5_58, kcX5_153, kcX5_51, kcX5_56, kcX5_57, sgX5_102, sgX5_86, sgX5_89, sgX5_99, xv_e, k0, g0, g1, m0, m1, n0', n1', n4', h1, h2, h2', h4, hC, hH, hM, hB, hd, l0, y7, y8, e1, e2, e3, e4, e5, e6]
        exact hQ
