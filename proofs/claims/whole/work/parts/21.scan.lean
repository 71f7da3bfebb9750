theorem ch_lt {c : Int32 → Int32} {l x k : Int32} (hk : 0 < k) (h : ¬ chF c l x < k) : x < l := by
  unfold chF at h
  split at h
  · exact absurd hk h
  · rename_i q
    exact Int32.not_le.mp q
theorem ch_eq {c : Int32 → Int32} {l x k : Int32} (hk : ¬ k = 0) (h : chF c l x = k) : x < l := by
  unfold chF at h
  split at h
  · exact absurd h.symm hk
  · rename_i q
    exact Int32.not_le.mp q
theorem at1 {x l : Int32} (h0 : 0 ≤ x) (h : x < l) (hl : l ≤ 100) : 0 ≤ x + 1 ∧ x + 1 ≤ 100 ∧ x ≤ x + 1 ∧ x + 1 ≤ l := by
  (simp only [i_lt, i_le, i_eq, i_cl, Int32.reduceToInt, ne_eq] at * <;> (first | omega | (simp (disch := (first | omega | (simp (disch := (first | omega | (simp (disch := (first | omega | (simp only [Int32.reduceToInt]; omega))) only [a_add, a_sub, a_mul, a_neg, i_lt, i_le, i_eq, i_cl, Int32.reduceToInt, Int32.reduceToNatClampNeg]; omega))) only [a_add, a_sub, a_mul, a_neg, i_lt, i_le, i_eq, i_cl, Int32.reduceToInt, Int32.reduceToNatClampNeg]; omega))) only [a_add, a_sub, a_mul, a_neg, i_lt, i_le, i_eq, i_cl, Int32.reduceToInt, Int32.reduceToNatClampNeg] at * <;> (first | omega | (simp (disch := (first | omega | (simp (disch := (first | omega | (simp (disch := (first | omega | (simp only [Int32.reduceToInt]; omega))) only [a_add, a_sub, a_mul, a_neg, i_lt, i_le, i_eq, i_cl, Int32.reduceToInt, Int32.reduceToNatClampNeg]; omega))) only [a_add, a_sub, a_mul, a_neg, i_lt, i_le, i_eq, i_cl, Int32.reduceToInt, Int32.reduceToNatClampNeg]; omega))) only [a_add, a_sub, a_mul, a_neg, i_lt, i_le, i_eq, i_cl, Int32.reduceToInt, Int32.reduceToNatClampNeg] at * <;> omega)))))
theorem numE_in {c : Int32 → Int32} {l a : Int32} (h0 : 0 ≤ a) (h1 : a ≤ 100) (hl : l ≤ 100) : a ≤ numE c l a ∧ numE c l a ≤ 100 := by
  have p48 : (0 : Int32) < 48 := by decide
  have p49 : (0 : Int32) < 49 := by decide
  unfold numE
  split
  · exact ⟨Int32.le_refl a, h1⟩
  · rename_i q1
    obtain ⟨e0, e1, e2, -⟩ := at1 h0 (ch_lt p49 q1) hl
    split
    · split
      · exact ⟨e2, e1⟩
      · rename_i q2
        obtain ⟨f0, f1, f2, -⟩ := at1 e0 (ch_lt p48 q2) hl
        split
        · split
          · exact ⟨Int32.le_trans e2 f2, f1⟩
          · rename_i q3
            obtain ⟨g0, g1, g2, -⟩ := at1 f0 (ch_lt p48 q3) hl
            split
            · exact ⟨Int32.le_trans e2 (Int32.le_trans f2 g2), g1⟩
            · exact ⟨Int32.le_trans e2 f2, f1⟩
        · exact ⟨e2, e1⟩
    · exact ⟨Int32.le_refl a, h1⟩
theorem t_tcS {t : Nat} : (t = tc t) = False := eq_false (by unfold tc; omega)
theorem tc_tr {t : Nat} {r : Int32} : (tr t r = tc t) = False := eq_false (by unfold tr tc; omega)
def slkV (c : Int32 → Int32) (l a : Int32) : Int32 := if chF c l a = 45 then (if numV c l (a + 1) ≤ 0 then 0 else 1) else 1
def slkD (D : DT) (t : Nat) : DT := if chF (D (tc t)) (D t 2) (D t 4) = 45 then uD (uD (uD D (tr t 1) (D t 3) 0) t 4 (numE (D (tc t)) (D t 2) (D t 4 + 1))) (tr t 1) (D t 3) (numV (D (tc t)) (D t 2) (D t 4 + 1)) else uD D (tr t 1) (D t 3) 0
def t_X4_findSlack : TR := fun K _ _ As G D Q => match As with
  | [.ref t] => Txt K G t ∧ (0 ≤ D t 4 ∧ D t 4 ≤ 100 ∧ D t 2 ≤ 100 ∧ 0 ≤ D t 3 ∧ D t 3 < 20) ∧ Q (some (.int (slkV (D (tc t)) (D t 2) (D t 4)))) G (slkD D t)
  | _ => False
set_option maxRecDepth 100000 in
set_option maxHeartbeats 4000000 in
theorem s_X4_findSlack (l : Launch) : Sat l yX4_findSlack cX4_findSlack 1 (some .boolean) 2 t_X4_findSlack := by
  refine satb (own := RX4) (fl := flX4) (sg := sgX4) (kc := kcX4) (na := naX4) (rc := rcX4) (cv := (cAdd 35 t_X4_character (cAdd 39 t_X4_findNumber cNone))) (cs := cNone) (bl := bX4_findSlack) (by decide +kernel) rfl envX4 bokX4_findSlack (cvAdd (s_X4_character l) lkX4_35 rfl rfl (by decide) (cvAdd (s_X4_findNumber l) lkX4_39 rfl rfl (by decide) cvNone)) csNone ?_
  intro L K R0 sa hPp As G D Q htr
  unfold t_X4_findSlack at htr
  split at htr
  case h_2 => exact htr.elim
  rename_i t
  obtain ⟨hT, ⟨b1, b2, b3, b4, b5⟩, hQ⟩ := htr
  obtain ⟨⟨k0, g0, g1⟩, ⟨k1, k2⟩, hs1, hs2⟩ := id hT
  refine ⟨by simp, by simp [cat1], [], noI, 14, 0, ?_, nohd⟩
  by_cases h : chF (D (tc t)) (D t 2) (D t 4) = 45
  · obtain ⟨e0, e1, -⟩ := at1 b1 (ch_eq (by decide) h) b3
    simp only [↓x_iconst, ↓x_bipush, ↓x_sipush, ↓x_ldc, ↓x_iload_n, ↓x_iload, ↓x_aload_n, ↓x_aload, ↓x_istore_n, ↓x_istore, ↓x_astore_n, ↓x_astore, ↓x_iinc, ↓x_iadd, ↓x_isub, ↓x_imul, ↓x_iand, ↓x_idiv, ↓x_ineg, ↓x_i2c, ↓x_dupI, ↓x_dupA, ↓x_dup2, ↓x_goto, ↓x_get, ↓x_put, ↓x_gets, ↓x_iald, ↓x_bald, ↓x_cald, ↓x_aald, ↓x_iast, ↓x_bast, ↓x_cast, ↓x_aast, ↓x_alen, ↓x_iret, ↓x_vret, ↓x_nil, ↓x_jmp, ↓x_ldI0, ↓x_ldIs, ↓x_ldA0, ↓x_ldAs, ↓x_icmpT, ↓x_icmpF, ↓x_ifT, ↓x_ifF, x_iconst, x_bipush, x_sipush, x_ldc, x_iload_n, x_iload, x_aload_n, x_aload, x_istore_n, x_istore, x_astore_n, x_astore, x_iinc, x_iadd, x_isub, x_imul, x_iand, x_idiv, x_ineg, x_i2c, x_dupI, x_dupA, x_dup2, x_goto, x_if, x_icmp, x_get, x_put, x_gets, x_iald, x_bald, x_cald, x_aald, x_iast, x_bast, x_cast, x_aast, x_alen, x_iret, x_vret, x_nil, x_jmp, x_ldI0, x_ldIs, x_ldA0, x_ldAs, x_cad, x_cad2, x_fv0, x_fv1, x_fv2, x_fv3, cnd, fI, L0, c1, nL0, nL1, nL2, nL3, nL4, nL5, nL6, nL7, nL8, nL9, nL10, nL11, nL12, List.map_cons, List.map_nil, List.length_cons, List.length_nil, List.cons_append, List.nil_append, List.replicate_succ, List.replicate_zero, List.set_cons_zero, List.set_cons_succ, List.mem_cons, List.not_mem_nil, or_false, false_or, Option.toList_some, Option.toList_none, ↓reduceIte, if_true, if_false, Nat.reduceAdd, Nat.reduceSub, Nat.reduceEqDiff, Nat.reduceLT, Nat.reduceLeDiff, Int.reduceNatCast, Int.reduceNatCast', Int.reduceAdd, Int.reduceNeg, Int.reduceToNat, Int.reduceLE, Int.reduceLT, Int.reduceEq, Nat.zero_add, Nat.add_zero, and_true, true_and, ne_eq, not_false_eq_true, not_true_eq_false, and_self, implies_true, Bool.false_eq_true, Nat.reduceBEq, Int32.reduceOfInt, Int32.reduceAdd, Int32.reduceSub, Int32.reduceMul, Int32.reduceLE, Int32.reduceLT, Int32.reduceToNatClampNeg, Option.some.injEq, exists_eq_left, exists_eq_left', Option.isSome_some, Option.getD_some, vp_nar_int, pbi, eq_self, forall_const, false_implies, true_implies, false_and, and_false, uD_s, uG_s, uD_o, ad_nw, ad_wn, ad_ns, ad_sn, ad_ss, ad_ww, ad_sw, ad_ws, Int32.reduceToInt, Classical.not_not, d1n, d2n, d3n, d4n, d5n, d6n, d10n, inr, nL17, nL20, nL21, nL30, nL100, nL462, nL773, nL4638, bp6, bp7, bp8, bp9, bp10, bp11, bp12, bp13, bp14, bp15, bp16, bp17, bp20, bp21, bp29, bp30, bp31, bp33, bp45, bp48, bp49, bp50, bp57, bp59, bp97, bp99, bp100, bp102, spm1000, sp137, sp255, sp257, sp300, sp400, sp462, sp771, sp772, sp773, sp999, sp3865, sp4638, bX4_findSlack_0, bX4_findSlack_23, bX4_findSlack_66, bX4_findSlack_67, eX4_17, eX4_24, eX4_27, t_X4_character, ↓x_inv1 naX4_35, x_inv1 naX4_35, rcX4_35, t_X4_findNumber, ↓x_inv1 naX4_39, x_inv1 naX4_39, rcX4_39, kcX4_34, k0, g0, g1, k1, k2, hs1, hs2, hT, b1, b2, b3, b4, b5, e0, e1, h, t_tc, t_tcS, tc_tr, t_tr, tr_t, tr_c, tr_tr, uD_uu, nz0, nz1]
    simp only [slkV, slkD, h, if_true] at hQ
    clear hs1 hs2
    repeat' (first | (refine And.intro ?_ ?_) | (intro _))
    all_goals (refine q_int hQ ?_; simp only [*, if_true, if_false])
  · simp only [↓x_iconst, ↓x_bipush, ↓x_sipush, ↓x_ldc, ↓x_iload_n, ↓x_iload, ↓x_aload_n, ↓x_aload, ↓x_istore_n, ↓x_istore, ↓x_astore_n, ↓x_astore, ↓x_iinc, ↓x_iadd, ↓x_isub, ↓x_imul, ↓x_iand, ↓x_idiv, ↓x_ineg, ↓x_i2c, ↓x_dupI, ↓x_dupA, ↓x_dup2, ↓x_goto, ↓x_get, ↓x_put, ↓x_gets, ↓x_iald, ↓x_bald, ↓x_cald, ↓x_aald, ↓x_iast, ↓x_bast, ↓x_cast, ↓x_aast, ↓x_alen, ↓x_iret, ↓x_vret, ↓x_nil, ↓x_jmp, ↓x_ldI0, ↓x_ldIs, ↓x_ldA0, ↓x_ldAs, ↓x_icmpT, ↓x_icmpF, ↓x_ifT, ↓x_ifF, x_iconst, x_bipush, x_sipush, x_ldc, x_iload_n, x_iload, x_aload_n, x_aload, x_istore_n, x_istore, x_astore_n, x_astore, x_iinc, x_iadd, x_isub, x_imul, x_iand, x_idiv, x_ineg, x_i2c, x_dupI, x_dupA, x_dup2, x_goto, x_if, x_icmp, x_get, x_put, x_gets, x_iald, x_bald, x_cald, x_aald, x_iast, x_bast, x_cast, x_aast, x_alen, x_iret, x_vret, x_nil, x_jmp, x_ldI0, x_ldIs, x_ldA0, x_ldAs, x_cad, x_cad2, x_fv0, x_fv1, x_fv2, x_fv3, cnd, fI, L0, c1, nL0, nL1, nL2, nL3, nL4, nL5, nL6, nL7, nL8, nL9, nL10, nL11, nL12, List.map_cons, List.map_nil, List.length_cons, List.length_nil, List.cons_append, List.nil_append, List.replicate_succ, List.replicate_zero, List.set_cons_zero, List.set_cons_succ, List.mem_cons, List.not_mem_nil, or_false, false_or, Option.toList_some, Option.toList_none, ↓reduceIte, if_true, if_false, Nat.reduceAdd, Nat.reduceSub, Nat.reduceEqDiff, Nat.reduceLT, Nat.reduceLeDiff, Int.reduceNatCast, Int.reduceNatCast', Int.reduceAdd, Int.reduceNeg, Int.reduceToNat, Int.reduceLE, Int.reduceLT, Int.reduceEq, Nat.zero_add, Nat.add_zero, and_true, true_and, ne_eq, not_false_eq_true, not_true_eq_false, and_self, implies_true, Bool.false_eq_true, Nat.reduceBEq, Int32.reduceOfInt, Int32.reduceAdd, Int32.reduceSub, Int32.reduceMul, Int32.reduceLE, Int32.reduceLT, Int32.reduceToNatClampNeg, Option.some.injEq, exists_eq_left, exists_eq_left', Option.isSome_some, Option.getD_some, vp_nar_int, pbi, eq_self, forall_const, false_implies, true_implies, false_and, and_false, uD_s, uG_s, uD_o, ad_nw, ad_wn, ad_ns, ad_sn, ad_ss, ad_ww, ad_sw, ad_ws, Int32.reduceToInt, Classical.not_not, d1n, d2n, d3n, d4n, d5n, d6n, d10n, inr, nL17, nL20, nL21, nL30, nL100, nL462, nL773, nL4638, bp6, bp7, bp8, bp9, bp10, bp11, bp12, bp13, bp14, bp15, bp16, bp17, bp20, bp21, bp29, bp30, bp31, bp33, bp45, bp48, bp49, bp50, bp57, bp59, bp97, bp99, bp100, bp102, spm1000, sp137, sp255, sp257, sp300, sp400, sp462, sp771, sp772, sp773, sp999, sp3865, sp4638, bX4_findSlack_0, bX4_findSlack_23, bX4_findSlack_66, bX4_findSlack_67, eX4_17, eX4_24, eX4_27, t_X4_character, ↓x_inv1 naX4_35, x_inv1 naX4_35, rcX4_35, t_X4_findNumber, ↓x_inv1 naX4_39, x_inv1 naX4_39, rcX4_39, kcX4_34, k0, g0, g1, k1, k2, hs1, hs2, hT, b1, b2, b3, b4, b5, h, t_tc, t_tcS, tc_tr, t_tr, tr_t, tr_c, tr_tr, uD_uu, nz0, nz1]
    simp only [slkV, slkD, h, if_false] at hQ
    exact hQ
def tnsV (c : Int32 → Int32) (l a : Int32) : Int32 := if chF c l a = 33 then (if chF c l (a + 1) < 48 then 0 else if chF c l (a + 1) ≤ 57 then 1 else 0) else 0
def tnsD (D : DT) (t : Nat) : DT := if chF (D (tc t)) (D t 2) (D t 4) = 33 then (if chF (D (tc t)) (D t 2) (D t 4 + 1) < 48 then uD D t 4 (D t 4 + 1) else if chF (D (tc t)) (D t 2) (D t 4 + 1) ≤ 57 then uD (uD D t 4 (D t 4 + 1 + 1)) (tr t 3) (D t 3) (chF (D (tc t)) (D t 2) (D t 4 + 1) - 48) else uD D t 4 (D t 4 + 1)) else D
def t_X4_findTension : TR := fun K _ _ As G D Q => match As with
  | [.ref t] => Txt K G t ∧ (0 ≤ D t 4 ∧ D t 4 ≤ 100 ∧ D t 2 ≤ 100 ∧ 0 ≤ D t 3 ∧ D t 3 < 20) ∧ Q (some (.int (tnsV (D (tc t)) (D t 2) (D t 4)))) G (tnsD D t)
  | _ => False
set_option maxRecDepth 100000 in
set_option maxHeartbeats 4000000 in
theorem s_X4_findTension (l : Launch) : Sat l yX4_findTension cX4_findTension 2 (some .boolean) 1 t_X4_findTension := by
  refine satb (own := RX4) (fl := flX4) (sg := sgX4) (kc := kcX4) (na := naX4) (rc := rcX4) (cv := (cAdd 35 t_X4_character cNone)) (cs := cNone) (bl := bX4_findTension) (by decide +kernel) rfl envX4 bokX4_findTension (cvAdd (s_X4_character l) lkX4_35 rfl rfl (by decide) cvNone) csNone ?_
  intro L K R0 sa hPp As G D Q htr
  unfold t_X4_findTension at htr
  split at htr
  case h_2 => exact htr.elim
  rename_i t
  obtain ⟨hT, ⟨b1, b2, b3, b4, b5⟩, hQ⟩ := htr
  obtain ⟨⟨k0, g0, g1⟩, ⟨k1, k2⟩, hs1, hs2⟩ := id hT
  refine ⟨by simp, by simp [cat1], [], noI, 14, 0, ?_, nohd⟩
  by_cases h : chF (D (tc t)) (D t 2) (D t 4) = 33
  · obtain ⟨e0, e1, -⟩ := at1 b1 (ch_eq (by decide) h) b3
    simp only [tnsV, tnsD, h, if_true] at hQ
    simp only [↓x_iconst, ↓x_bipush, ↓x_sipush, ↓x_ldc, ↓x_iload_n, ↓x_iload, ↓x_aload_n, ↓x_aload, ↓x_istore_n, ↓x_istore, ↓x_astore_n, ↓x_astore, ↓x_iinc, ↓x_iadd, ↓x_isub, ↓x_imul, ↓x_iand, ↓x_idiv, ↓x_ineg, ↓x_i2c, ↓x_dupI, ↓x_dupA, ↓x_dup2, ↓x_goto, ↓x_get, ↓x_put, ↓x_gets, ↓x_iald, ↓x_bald, ↓x_cald, ↓x_aald, ↓x_iast, ↓x_bast, ↓x_cast, ↓x_aast, ↓x_alen, ↓x_iret, ↓x_vret, ↓x_nil, ↓x_jmp, ↓x_ldI0, ↓x_ldIs, ↓x_ldA0, ↓x_ldAs, ↓x_icmpT, ↓x_icmpF, ↓x_ifT, ↓x_ifF, x_iconst, x_bipush, x_sipush, x_ldc, x_iload_n, x_iload, x_aload_n, x_aload, x_istore_n, x_istore, x_astore_n, x_astore, x_iinc, x_iadd, x_isub, x_imul, x_iand, x_idiv, x_ineg, x_i2c, x_dupI, x_dupA, x_dup2, x_goto, x_if, x_icmp, x_get, x_put, x_gets, x_iald, x_bald, x_cald, x_aald, x_iast, x_bast, x_cast, x_aast, x_alen, x_iret, x_vret, x_nil, x_jmp, x_ldI0, x_ldIs, x_ldA0, x_ldAs, x_cad, x_cad2, x_fv0, x_fv1, x_fv2, x_fv3, cnd, fI, L0, c1, nL0, nL1, nL2, nL3, nL4, nL5, nL6, nL7, nL8, nL9, nL10, nL11, nL12, List.map_cons, List.map_nil, List.length_cons, List.length_nil, List.cons_append, List.nil_append, List.replicate_succ, List.replicate_zero, List.set_cons_zero, List.set_cons_succ, List.mem_cons, List.not_mem_nil, or_false, false_or, Option.toList_some, Option.toList_none, ↓reduceIte, if_true, if_false, Nat.reduceAdd, Nat.reduceSub, Nat.reduceEqDiff, Nat.reduceLT, Nat.reduceLeDiff, Int.reduceNatCast, Int.reduceNatCast', Int.reduceAdd, Int.reduceNeg, Int.reduceToNat, Int.reduceLE, Int.reduceLT, Int.reduceEq, Nat.zero_add, Nat.add_zero, and_true, true_and, ne_eq, not_false_eq_true, not_true_eq_false, and_self, implies_true, Bool.false_eq_true, Nat.reduceBEq, Int32.reduceOfInt, Int32.reduceAdd, Int32.reduceSub, Int32.reduceMul, Int32.reduceLE, Int32.reduceLT, Int32.reduceToNatClampNeg, Option.some.injEq, exists_eq_left, exists_eq_left', Option.isSome_some, Option.getD_some, vp_nar_int, pbi, eq_self, forall_const, false_implies, true_implies, false_and, and_false, uD_s, uG_s, uD_o, ad_nw, ad_wn, ad_ns, ad_sn, ad_ss, ad_ww, ad_sw, ad_ws, Int32.reduceToInt, Classical.not_not, d1n, d2n, d3n, d4n, d5n, d6n, d10n, inr, nL17, nL20, nL21, nL30, nL100, nL462, nL773, nL4638, bp6, bp7, bp8, bp9, bp10, bp11, bp12, bp13, bp14, bp15, bp16, bp17, bp20, bp21, bp29, bp30, bp31, bp33, bp45, bp48, bp49, bp50, bp57, bp59, bp97, bp99, bp100, bp102, spm1000, sp137, sp255, sp257, sp300, sp400, sp462, sp771, sp772, sp773, sp999, sp3865, sp4638, bX4_findTension_0, bX4_findTension_11, bX4_findTension_38, bX4_findTension_40, eX4_17, eX4_24, eX4_27, t_X4_character, ↓x_inv1 naX4_35, x_inv1 naX4_35, rcX4_35, kcX4_34, k0, g0, g1, k1, k2, hs1, hs2, hT, b1, b2, b3, b4, b5, e0, e1, h, t_tc, t_tcS, tc_tr, t_tr, tr_t, tr_c, tr_tr, uD_uu, nz0, nz1]
    clear hs1 hs2
    repeat' (first | (refine And.intro ?_ ?_) | (intro _))
    all_goals (refine q_two hQ ?_ ?_ <;> simp only [*, if_true, if_false])
  · simp only [tnsV, tnsD, h, if_false] at hQ
    simp only [↓x_iconst, ↓x_bipush, ↓x_sipush, ↓x_ldc, ↓x_iload_n, ↓x_iload, ↓x_aload_n, ↓x_aload, ↓x_istore_n, ↓x_istore, ↓x_astore_n, ↓x_astore, ↓x_iinc, ↓x_iadd, ↓x_isub, ↓x_imul, ↓x_iand, ↓x_idiv, ↓x_ineg, ↓x_i2c, ↓x_dupI, ↓x_dupA, ↓x_dup2, ↓x_goto, ↓x_get, ↓x_put, ↓x_gets, ↓x_iald, ↓x_bald, ↓x_cald, ↓x_aald, ↓x_iast, ↓x_bast, ↓x_cast, ↓x_aast, ↓x_alen, ↓x_iret, ↓x_vret, ↓x_nil, ↓x_jmp, ↓x_ldI0, ↓x_ldIs, ↓x_ldA0, ↓x_ldAs, ↓x_icmpT, ↓x_icmpF, ↓x_ifT, ↓x_ifF, x_iconst, x_bipush, x_sipush, x_ldc, x_iload_n, x_iload, x_aload_n, x_aload, x_istore_n, x_istore, x_astore_n, x_astore, x_iinc, x_iadd, x_isub, x_imul, x_iand, x_idiv, x_ineg, x_i2c, x_dupI, x_dupA, x_dup2, x_goto, x_if, x_icmp, x_get, x_put, x_gets, x_iald, x_bald, x_cald, x_aald, x_iast, x_bast, x_cast, x_aast, x_alen, x_iret, x_vret, x_nil, x_jmp, x_ldI0, x_ldIs, x_ldA0, x_ldAs, x_cad, x_cad2, x_fv0, x_fv1, x_fv2, x_fv3, cnd, fI, L0, c1, nL0, nL1, nL2, nL3, nL4, nL5, nL6, nL7, nL8, nL9, nL10, nL11, nL12, List.map_cons, List.map_nil, List.length_cons, List.length_nil, List.cons_append, List.nil_append, List.replicate_succ, List.replicate_zero, List.set_cons_zero, List.set_cons_succ, List.mem_cons, List.not_mem_nil, or_false, false_or, Option.toList_some, Option.toList_none, ↓reduceIte, if_true, if_false, Nat.reduceAdd, Nat.reduceSub, Nat.reduceEqDiff, Nat.reduceLT, Nat.reduceLeDiff, Int.reduceNatCast, Int.reduceNatCast', Int.reduceAdd, Int.reduceNeg, Int.reduceToNat, Int.reduceLE, Int.reduceLT, Int.reduceEq, Nat.zero_add, Nat.add_zero, and_true, true_and, ne_eq, not_false_eq_true, not_true_eq_false, and_self, implies_true, Bool.false_eq_true, Nat.reduceBEq, Int32.reduceOfInt, Int32.reduceAdd, Int32.reduceSub, Int32.reduceMul, Int32.reduceLE, Int32.reduceLT, Int32.reduceToNatClampNeg, Option.some.injEq, exists_eq_left, exists_eq_left', Option.isSome_some, Option.getD_some, vp_nar_int, pbi, eq_self, forall_const, false_implies, true_implies, false_and, and_false, uD_s, uG_s, uD_o, ad_nw, ad_wn, ad_ns, ad_sn, ad_ss, ad_ww, ad_sw, ad_ws, Int32.reduceToInt, Classical.not_not, d1n, d2n, d3n, d4n, d5n, d6n, d10n, inr, nL17, nL20, nL21, nL30, nL100, nL462, nL773, nL4638, bp6, bp7, bp8, bp9, bp10, bp11, bp12, bp13, bp14, bp15, bp16, bp17, bp20, bp21, bp29, bp30, bp31, bp33, bp45, bp48, bp49, bp50, bp57, bp59, bp97, bp99, bp100, bp102, spm1000, sp137, sp255, sp257, sp300, sp400, sp462, sp771, sp772, sp773, sp999, sp3865, sp4638, bX4_findTension_0, bX4_findTension_11, bX4_findTension_38, bX4_findTension_40, eX4_17, eX4_24, eX4_27, t_X4_character, ↓x_inv1 naX4_35, x_inv1 naX4_35, rcX4_35, kcX4_34, k0, g0, g1, k1, k2, hs1, hs2, hT, b1, b2, b3, b4, b5, h, t_tc, t_tcS, tc_tr, t_tr, tr_t, tr_c, tr_tr, uD_uu, nz0, nz1]
    exact hQ
def slkE (c : Int32 → Int32) (l a : Int32) : Int32 := if chF c l a = 45 then numE c l (a + 1) else a
theorem slkE_in {c : Int32 → Int32} {l a : Int32} (h0 : 0 ≤ a) (h1 : a ≤ 100) (hl : l ≤ 100) : 0 ≤ slkE c l a ∧ slkE c l a ≤ 100 := by
  unfold slkE
  split
  · rename_i h
    obtain ⟨e0, e1, -⟩ := at1 h0 (ch_eq (by decide) h) hl
    obtain ⟨e2, e3⟩ := numE_in (c := c) e0 e1 hl
    exact ⟨Int32.le_trans e0 e2, e3⟩
  · exact ⟨h0, h1⟩
theorem slkD_c {D : DT} {t : Nat} : slkD D t (tc t) = D (tc t) := by
  unfold slkD
  split
  · rw [uD_o (by simp [tr_c]), uD_o (by simp [t_tc]), uD_o (by simp [tr_c])]
  · rw [uD_o (by simp [tr_c])]
theorem slkD_2 {D : DT} {t : Nat} : slkD D t t 2 = D t 2 := by
  unfold slkD
  split
  · rw [uD_o (by simp [tr_t]), uD_s, uD_o (by simp [tr_t])]
    rfl
  · rw [uD_o (by simp [tr_t])]
theorem slkD_3 {D : DT} {t : Nat} : slkD D t t 3 = D t 3 := by
  unfold slkD
  split
  · rw [uD_o (by simp [tr_t]), uD_s, uD_o (by simp [tr_t])]
    rfl
  · rw [uD_o (by simp [tr_t])]
theorem slkD_4 {D : DT} {t : Nat} : slkD D t t 4 = slkE (D (tc t)) (D t 2) (D t 4) := by
  unfold slkD slkE
  split
  · rw [uD_o (by simp [tr_t]), uD_s, if_pos rfl]
  · rw [uD_o (by simp [tr_t])]
def scA (D : DT) (t : Nat) : DT := uD (uD (uD (uD D t 4 (D t 4 + 1)) (tr t 2) (D t 3) (chF (D (tc t)) (D t 2) (D t 4) - 97)) t 4 (numE (D (tc t)) (D t 2) (D t 4 + 1))) (tr t 0) (D t 3) (numV (D (tc t)) (D t 2) (D t 4 + 1))
def scE (c : Int32 → Int32) (l a : Int32) : Int32 := numE c l (a + 1)
/-- whether a scene stands at a place -/
def scnV (c : Int32 → Int32) (l a : Int32) : Int32 :=
  if chF c l a < 97 then 0 else if chF c l a ≤ 102 then (if numV c l (a + 1) = 0 then 0 else if slkV c l (numE c l (a + 1)) = 0 then 0 else if tnsV c l (slkE c l (numE c l (a + 1))) = 0 then 0 else 1) else 0
def scnD (D : DT) (t : Nat) : DT :=
  if chF (D (tc t)) (D t 2) (D t 4) < 97 then D else if chF (D (tc t)) (D t 2) (D t 4) ≤ 102 then (if numV (D (tc t)) (D t 2) (D t 4 + 1) = 0 then scA D t else if slkV (D (tc t)) (D t 2) (numE (D (tc t)) (D t 2) (D t 4 + 1)) = 0 then slkD (scA D t) t else tnsD (slkD (scA D t) t) t) else D
def t_X4_findScene : TR := fun K _ _ As G D Q => match As with
  | [.ref t] => Txt K G t ∧ (0 ≤ D t 4 ∧ D t 4 ≤ 100 ∧ D t 2 ≤ 100 ∧ 0 ≤ D t 3 ∧ D t 3 < 20) ∧ Q (some (.int (scnV (D (tc t)) (D t 2) (D t 4)))) G (scnD D t)
  | _ => False
set_option maxRecDepth 100000 in
set_option maxHeartbeats 4000000 in
theorem s_X4_findScene (l : Launch) : Sat l yX4_findScene cX4_findScene 2 (some .boolean) 3 t_X4_findScene := by
  refine satb (own := RX4) (fl := flX4) (sg := sgX4) (kc := kcX4) (na := naX4) (rc := rcX4) (cv := (cAdd 35 t_X4_character (cAdd 39 t_X4_findNumber (cAdd 42 t_X4_findSlack (cAdd 45 t_X4_findTension cNone))))) (cs := cNone) (bl := bX4_findScene) (by decide +kernel) rfl envX4 bokX4_findScene (cvAdd (s_X4_character l) lkX4_35 rfl rfl (by decide) (cvAdd (s_X4_findNumber l) lkX4_39 rfl rfl (by decide) (cvAdd (s_X4_findSlack l) lkX4_42 rfl rfl (by decide) (cvAdd (s_X4_findTension l) lkX4_45 rfl rfl (by decide) cvNone)))) csNone ?_
  intro L K R0 sa hPp As G D Q htr
  unfold t_X4_findScene at htr
  split at htr
  case h_2 => exact htr.elim
  rename_i t
  obtain ⟨hT, ⟨b1, b2, b3, b4, b5⟩, hQ⟩ := htr
  obtain ⟨⟨k0, g0, g1⟩, ⟨k1, k2⟩, hs1, hs2⟩ := id hT
  refine ⟨by simp, by simp [cat1], [], noI, 14, 0, ?_, nohd⟩
  by_cases h : chF (D (tc t)) (D t 2) (D t 4) < 97
  · simp only [scnV, scnD, h, if_true] at hQ
    simp only [↓x_iconst, ↓x_bipush, ↓x_sipush, ↓x_ldc, ↓x_iload_n, ↓x_iload, ↓x_aload_n, ↓x_aload, ↓x_istore_n, ↓x_istore, ↓x_astore_n, ↓x_astore, ↓x_iinc, ↓x_iadd, ↓x_isub, ↓x_imul, ↓x_iand, ↓x_idiv, ↓x_ineg, ↓x_i2c, ↓x_dupI, ↓x_dupA, ↓x_dup2, ↓x_goto, ↓x_get, ↓x_put, ↓x_gets, ↓x_iald, ↓x_bald, ↓x_cald, ↓x_aald, ↓x_iast, ↓x_bast, ↓x_cast, ↓x_aast, ↓x_alen, ↓x_iret, ↓x_vret, ↓x_nil, ↓x_jmp, ↓x_ldI0, ↓x_ldIs, ↓x_ldA0, ↓x_ldAs, ↓x_icmpT, ↓x_icmpF, ↓x_ifT, ↓x_ifF, x_iconst, x_bipush, x_sipush, x_ldc, x_iload_n, x_iload, x_aload_n, x_aload, x_istore_n, x_istore, x_astore_n, x_astore, x_iinc, x_iadd, x_isub, x_imul, x_iand, x_idiv, x_ineg, x_i2c, x_dupI, x_dupA, x_dup2, x_goto, x_if, x_icmp, x_get, x_put, x_gets, x_iald, x_bald, x_cald, x_aald, x_iast, x_bast, x_cast, x_aast, x_alen, x_iret, x_vret, x_nil, x_jmp, x_ldI0, x_ldIs, x_ldA0, x_ldAs, x_cad, x_cad2, x_fv0, x_fv1, x_fv2, x_fv3, cnd, fI, L0, c1, nL0, nL1, nL2, nL3, nL4, nL5, nL6, nL7, nL8, nL9, nL10, nL11, nL12, List.map_cons, List.map_nil, List.length_cons, List.length_nil, List.cons_append, List.nil_append, List.replicate_succ, List.replicate_zero, List.set_cons_zero, List.set_cons_succ, List.mem_cons, List.not_mem_nil, or_false, false_or, Option.toList_some, Option.toList_none, ↓reduceIte, if_true, if_false, Nat.reduceAdd, Nat.reduceSub, Nat.reduceEqDiff, Nat.reduceLT, Nat.reduceLeDiff, Int.reduceNatCast, Int.reduceNatCast', Int.reduceAdd, Int.reduceNeg, Int.reduceToNat, Int.reduceLE, Int.reduceLT, Int.reduceEq, Nat.zero_add, Nat.add_zero, and_true, true_and, ne_eq, not_false_eq_true, not_true_eq_false, and_self, implies_true, Bool.false_eq_true, Nat.reduceBEq, Int32.reduceOfInt, Int32.reduceAdd, Int32.reduceSub, Int32.reduceMul, Int32.reduceLE, Int32.reduceLT, Int32.reduceToNatClampNeg, Option.some.injEq, exists_eq_left, exists_eq_left', Option.isSome_some, Option.getD_some, vp_nar_int, pbi, eq_self, forall_const, false_implies, true_implies, false_and, and_false, uD_s, uG_s, uD_o, ad_nw, ad_wn, ad_ns, ad_sn, ad_ss, ad_ww, ad_sw, ad_ws, Int32.reduceToInt, Classical.not_not, d1n, d2n, d3n, d4n, d5n, d6n, d10n, inr, nL17, nL20, nL21, nL30, nL100, nL462, nL773, nL4638, bp6, bp7, bp8, bp9, bp10, bp11, bp12, bp13, bp14, bp15, bp16, bp17, bp20, bp21, bp29, bp30, bp31, bp33, bp45, bp48, bp49, bp50, bp57, bp59, bp97, bp99, bp100, bp102, spm1000, sp137, sp255, sp257, sp300, sp400, sp462, sp771, sp772, sp773, sp999, sp3865, sp4638, bX4_findScene_0, bX4_findScene_17, bX4_findScene_19, bX4_findScene_75, bX4_findScene_93, bX4_findScene_94, eX4_17, eX4_24, eX4_27, t_X4_character, ↓x_inv1 naX4_35, x_inv1 naX4_35, rcX4_35, t_X4_findNumber, ↓x_inv1 naX4_39, x_inv1 naX4_39, rcX4_39, t_X4_findSlack, ↓x_inv1 naX4_42, x_inv1 naX4_42, rcX4_42, t_X4_findTension, ↓x_inv1 naX4_45, x_inv1 naX4_45, rcX4_45, kcX4_34, k0, g0, g1, k1, k2, hs1, hs2, hT, b1, b2, b3, b4, b5, h, t_tc, t_tcS, tc_tr, t_tr, tr_t, tr_c, tr_tr, uD_uu, nz0, nz1]
    exact hQ
  · obtain ⟨e0, e1, -⟩ := at1 b1 (ch_lt (by decide) h) b3
    obtain ⟨e2, e3⟩ := numE_in (c := D (tc t)) e0 e1 b3
    have e4 := Int32.le_trans e0 e2
    obtain ⟨e5, e6⟩ := slkE_in (c := D (tc t)) e4 e3 b3
    simp only [scnV, scnD, scA, h, if_false] at hQ
    simp only [↓x_iconst, ↓x_bipush, ↓x_sipush, ↓x_ldc, ↓x_iload_n, ↓x_iload, ↓x_aload_n, ↓x_aload, ↓x_istore_n, ↓x_istore, ↓x_astore_n, ↓x_astore, ↓x_iinc, ↓x_iadd, ↓x_isub, ↓x_imul, ↓x_iand, ↓x_idiv, ↓x_ineg, ↓x_i2c, ↓x_dupI, ↓x_dupA, ↓x_dup2, ↓x_goto, ↓x_get, ↓x_put, ↓x_gets, ↓x_iald, ↓x_bald, ↓x_cald, ↓x_aald, ↓x_iast, ↓x_bast, ↓x_cast, ↓x_aast, ↓x_alen, ↓x_iret, ↓x_vret, ↓x_nil, ↓x_jmp, ↓x_ldI0, ↓x_ldIs, ↓x_ldA0, ↓x_ldAs, ↓x_icmpT, ↓x_icmpF, ↓x_ifT, ↓x_ifF, x_iconst, x_bipush, x_sipush, x_ldc, x_iload_n, x_iload, x_aload_n, x_aload, x_istore_n, x_istore, x_astore_n, x_astore, x_iinc, x_iadd, x_isub, x_imul, x_iand, x_idiv, x_ineg, x_i2c, x_dupI, x_dupA, x_dup2, x_goto, x_if, x_icmp, x_get, x_put, x_gets, x_iald, x_bald, x_cald, x_aald, x_iast, x_bast, x_cast, x_aast, x_alen, x_iret, x_vret, x_nil, x_jmp, x_ldI0, x_ldIs, x_ldA0, x_ldAs, x_cad, x_cad2, x_fv0, x_fv1, x_fv2, x_fv3, cnd, fI, L0, c1, nL0, nL1, nL2, nL3, nL4, nL5, nL6, nL7, nL8, nL9, nL10, nL11, nL12, List.map_cons, List.map_nil, List.length_cons, List.length_nil, List.cons_append, List.nil_append, List.replicate_succ, List.replicate_zero, List.set_cons_zero, List.set_cons_succ, List.mem_cons, List.not_mem_nil, or_false, false_or, Option.toList_some, Option.toList_none, ↓reduceIte, if_true, if_false, Nat.reduceAdd, Nat.reduceSub, Nat.reduceEqDiff, Nat.reduceLT, Nat.reduceLeDiff, Int.reduceNatCast, Int.reduceNatCast', Int.reduceAdd, Int.reduceNeg, Int.reduceToNat, Int.reduceLE, Int.reduceLT, Int.reduceEq, Nat.zero_add, Nat.add_zero, and_true, true_and, ne_eq, not_false_eq_true, not_true_eq_false, and_self, implies_true, Bool.false_eq_true, Nat.reduceBEq, Int32.reduceOfInt, Int32.reduceAdd, Int32.reduceSub, Int32.reduceMul, Int32.reduceLE, Int32.reduceLT, Int32.reduceToNatClampNeg, Option.some.injEq, exists_eq_left, exists_eq_left', Option.isSome_some, Option.getD_some, vp_nar_int, pbi, eq_self, forall_const, false_implies, true_implies, false_and, and_false, uD_s, uG_s, uD_o, ad_nw, ad_wn, ad_ns, ad_sn, ad_ss, ad_ww, ad_sw, ad_ws, Int32.reduceToInt, Classical.not_not, d1n, d2n, d3n, d4n, d5n, d6n, d10n, inr, nL17, nL20, nL21, nL30, nL100, nL462, nL773, nL4638, bp6, bp7, bp8, bp9, bp10, bp11, bp12, bp13, bp14, bp15, bp16, bp17, bp20, bp21, bp29, bp30, bp31, bp33, bp45, bp48, bp49, bp50, bp57, bp59, bp97, bp99, bp100, bp102, spm1000, sp137, sp255, sp257, sp300, sp400, sp462, sp771, sp772, sp773, sp999, sp3865, sp4638, bX4_findScene_0, bX4_findScene_17, bX4_findScene_19, bX4_findScene_75, bX4_findScene_93, bX4_findScene_94, eX4_17, eX4_24, eX4_27, t_X4_character, ↓x_inv1 naX4_35, x_inv1 naX4_35, rcX4_35, t_X4_findNumber, ↓x_inv1 naX4_39, x_inv1 naX4_39, rcX4_39, t_X4_findSlack, ↓x_inv1 naX4_42, x_inv1 naX4_42, rcX4_42, t_X4_findTension, ↓x_inv1 naX4_45, x_inv1 naX4_45, rcX4_45, kcX4_34, k0, g0, g1, k1, k2, hs1, hs2, hT, b1, b2, b3, b4, b5, e0, e1, e3, e4, e5, e6, h, t_tc, t_tcS, tc_tr, t_tr, tr_t, tr_c, tr_tr, uD_uu, nz0, nz1, slkD_c, slkD_2, slkD_3, slkD_4]
    clear hs1 hs2
    repeat' (first | (refine And.intro ?_ ?_) | (intro _))
    all_goals (refine q_two hQ ?_ ?_ <;> simp only [*, if_true, if_false])
