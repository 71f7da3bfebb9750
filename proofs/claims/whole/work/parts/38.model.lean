/-! ===== the model: its cells and its readers ===== -/
def ms (a : Nat) : Nat := a + 1
def mw (a : Nat) : Nat := a + 2
def mb (a : Nat) : Nat := a + 3
def mx (a : Nat) : Nat := a + 4
def mr (a : Nat) : Nat := a + 5
def mF (a : Nat) : Nat := a + 6
def mG (a : Nat) : Nat := a + 7
def mT (a : Nat) : Nat := a + 8
def mW (a : Nat) : Nat := a + 9
def Mod (K : KT) (G : GT) (a : Nat) : Prop := (K a = (6, 0) ∧ G a 0 = some (ms a) ∧ G a 1 = some (mw a) ∧ G a 2 = some (mb a) ∧ G a 4 = some (mx a) ∧ G a 8 = some (mr a) ∧ G a 9 = some (mF a) ∧ G a 10 = some (mG a) ∧ G a 11 = some (mT a) ∧ G a 12 = some (mW a)) ∧ K (ms a) = (10, 773) ∧ K (mw a) = (10, 4638) ∧ K (mb a) = (10, 773) ∧ K (mx a) = (12, 100) ∧ K (mr a) = (10, 100) ∧ K (mF a) = (10, 462) ∧ K (mG a) = (10, 462) ∧ K (mT a) = (10, 462) ∧ K (mW a) = (10, 462)
def yN (D : DT) (a : Nat) : Int32 → Int32 := D (ms a)
def yS (D : DT) (a : Nat) : Int32 → Int32 → Int32 := fun r i => D (ms a) (137 + 6 * i + r)
def yW (D : DT) (a : Nat) : Int32 → Int32 → Int32 := fun r w => D (ms a) (17 + 4 * w + r)
theorem yW_0 {D : DT} {a : Nat} {w : Int32} : yW D a 0 w = D (ms a) (17 + 4 * w) := by unfold yW; rw [Int32.add_zero]
theorem yS_0 {D : DT} {a : Nat} {w : Int32} : yS D a 0 w = D (ms a) (137 + 6 * w) := by unfold yS; rw [Int32.add_zero]
theorem ix_s {i r : Int32} (h0 : 0 ≤ i) (h1 : i ≤ 20) (h2 : 0 ≤ r) (h3 : r < 6) : 0 ≤ 137 + 6 * i + r ∧ 137 + 6 * i + r < 773 := by
  refine ⟨?_, ?_⟩ <;> (simp only [i_lt, i_le, i_eq, i_cl, Int32.reduceToInt, ne_eq] at * <;> (first | omega | (simp (disch := (first | omega | (simp (disch := (first | omega | (simp (disch := (first | omega | (simp only [Int32.reduceToInt]; omega))) only [a_add, a_sub, a_mul, a_neg, i_lt, i_le, i_eq, i_cl, Int32.reduceToInt, Int32.reduceToNatClampNeg]; omega))) only [a_add, a_sub, a_mul, a_neg, i_lt, i_le, i_eq, i_cl, Int32.reduceToInt, Int32.reduceToNatClampNeg]; omega))) only [a_add, a_sub, a_mul, a_neg, i_lt, i_le, i_eq, i_cl, Int32.reduceToInt, Int32.reduceToNatClampNeg] at * <;> (first | omega | (simp (disch := (first | omega | (simp (disch := (first | omega | (simp (disch := (first | omega | (simp only [Int32.reduceToInt]; omega))) only [a_add, a_sub, a_mul, a_neg, i_lt, i_le, i_eq, i_cl, Int32.reduceToInt, Int32.reduceToNatClampNeg]; omega))) only [a_add, a_sub, a_mul, a_neg, i_lt, i_le, i_eq, i_cl, Int32.reduceToInt, Int32.reduceToNatClampNeg]; omega))) only [a_add, a_sub, a_mul, a_neg, i_lt, i_le, i_eq, i_cl, Int32.reduceToInt, Int32.reduceToNatClampNeg] at * <;> omega)))))
theorem ix_w {w r : Int32} (h0 : 0 ≤ w) (h1 : w ≤ 30) (h2 : 0 ≤ r) (h3 : r < 4) : 0 ≤ 17 + 4 * w + r ∧ 17 + 4 * w + r < 773 ∧ 0 ≤ 17 + 4 * w ∧ 17 + 4 * w < 773 := by
  refine ⟨?_, ?_, ?_, ?_⟩ <;> (simp only [i_lt, i_le, i_eq, i_cl, Int32.reduceToInt, ne_eq] at * <;> (first | omega | (simp (disch := (first | omega | (simp (disch := (first | omega | (simp (disch := (first | omega | (simp only [Int32.reduceToInt]; omega))) only [a_add, a_sub, a_mul, a_neg, i_lt, i_le, i_eq, i_cl, Int32.reduceToInt, Int32.reduceToNatClampNeg]; omega))) only [a_add, a_sub, a_mul, a_neg, i_lt, i_le, i_eq, i_cl, Int32.reduceToInt, Int32.reduceToNatClampNeg]; omega))) only [a_add, a_sub, a_mul, a_neg, i_lt, i_le, i_eq, i_cl, Int32.reduceToInt, Int32.reduceToNatClampNeg] at * <;> (first | omega | (simp (disch := (first | omega | (simp (disch := (first | omega | (simp (disch := (first | omega | (simp only [Int32.reduceToInt]; omega))) only [a_add, a_sub, a_mul, a_neg, i_lt, i_le, i_eq, i_cl, Int32.reduceToInt, Int32.reduceToNatClampNeg]; omega))) only [a_add, a_sub, a_mul, a_neg, i_lt, i_le, i_eq, i_cl, Int32.reduceToInt, Int32.reduceToNatClampNeg]; omega))) only [a_add, a_sub, a_mul, a_neg, i_lt, i_le, i_eq, i_cl, Int32.reduceToInt, Int32.reduceToNatClampNeg] at * <;> omega)))))
def inV (v l h : Int32) : Int32 := if v < l then 0 else if h < v then 0 else 1
def t_X6_in : TR := fun K _ _ As G D Q => match As with
  | [.int v, .int l, .int h] => Q (some (.int (inV v l h))) G D
  | _ => False
set_option maxRecDepth 100000 in
set_option maxHeartbeats 4000000 in
theorem s_X6_in (l : Launch) : Sat l yX6_in cX6_in 3 (some .boolean) 0 t_X6_in := by
  refine satb (own := RX6) (fl := flX6) (sg := sgX6) (kc := kcX6) (na := naX6) (rc := rcX6) (cv := cNone) (cs := cNone) (bl := bX6_in) (by decide +kernel) rfl envX6 bokX6_in cvNone csNone ?_
  intro L K R0 sa hPp As G D Q htr
  unfold t_X6_in at htr
  split at htr
  case h_2 => exact htr.elim
  rename_i v l h
  have hQ := htr
  refine ⟨by simp, by simp [cat1], [], noI, 40, 0, ?_, nohd⟩
  simp only [↓x_iconst, ↓x_bipush, ↓x_sipush, ↓x_ldc, ↓x_iload_n, ↓x_iload, ↓x_aload_n, ↓x_aload, ↓x_istore_n, ↓x_istore, ↓x_astore_n, ↓x_astore, ↓x_iinc, ↓x_iadd, ↓x_isub, ↓x_imul, ↓x_iand, ↓x_idiv, ↓x_ineg, ↓x_i2c, ↓x_dupI, ↓x_dupA, ↓x_dup2, ↓x_goto, ↓x_get, ↓x_put, ↓x_gets, ↓x_iald, ↓x_bald, ↓x_cald, ↓x_aald, ↓x_iast, ↓x_bast, ↓x_cast, ↓x_aast, ↓x_alen, ↓x_iret, ↓x_vret, ↓x_nil, ↓x_jmp, ↓x_ldI0, ↓x_ldIs, ↓x_ldA0, ↓x_ldAs, ↓x_icmpT, ↓x_icmpF, ↓x_ifT, ↓x_ifF, x_iconst, x_bipush, x_sipush, x_ldc, x_iload_n, x_iload, x_aload_n, x_aload, x_istore_n, x_istore, x_astore_n, x_astore, x_iinc, x_iadd, x_isub, x_imul, x_iand, x_idiv, x_ineg, x_i2c, x_dupI, x_dupA, x_dup2, x_goto, x_if, x_icmp, x_get, x_put, x_gets, x_iald, x_bald, x_cald, x_aald, x_iast, x_bast, x_cast, x_aast, x_alen, x_iret, x_vret, x_nil, x_jmp, x_ldI0, x_ldIs, x_ldA0, x_ldAs, x_cad, x_cad2, x_fv0, x_fv1, x_fv2, x_fv3, cnd, fI, L0, c1, nL0, nL1, nL2, nL3, nL4, nL5, nL6, nL7, nL8, nL9, nL10, nL11, nL12, List.map_cons, List.map_nil, List.length_cons, List.length_nil, List.cons_append, List.nil_append, List.replicate_succ, List.replicate_zero, List.set_cons_zero, List.set_cons_succ, List.mem_cons, List.not_mem_nil, or_false, false_or, Option.toList_some, Option.toList_none, ↓reduceIte, if_true, if_false, Nat.reduceAdd, Nat.reduceSub, Nat.reduceEqDiff, Nat.reduceLT, Nat.reduceLeDiff, Int.reduceNatCast, Int.reduceNatCast', Int.reduceAdd, Int.reduceNeg, Int.reduceToNat, Int.reduceLE, Int.reduceLT, Int.reduceEq, Nat.zero_add, Nat.add_zero, and_true, true_and, ne_eq, not_false_eq_true, not_true_eq_false, and_self, implies_true, Bool.false_eq_true, Nat.reduceBEq, Int32.reduceOfInt, Int32.reduceAdd, Int32.reduceSub, Int32.reduceMul, Int32.reduceLE, Int32.reduceLT, Int32.reduceToNatClampNeg, Option.some.injEq, exists_eq_left, exists_eq_left', Option.isSome_some, Option.getD_some, vp_nar_int, pbi, eq_self, forall_const, false_implies, true_implies, false_and, and_false, uD_s, uG_s, uD_o, ad_nw, ad_wn, ad_ns, ad_sn, ad_ss, ad_ww, ad_sw, ad_ws, Int32.reduceToInt, Classical.not_not, d1n, d2n, d3n, d4n, d5n, d6n, d10n, inr, nL17, nL20, nL21, nL30, nL100, nL462, nL773, nL4638, bp6, bp7, bp8, bp9, bp10, bp11, bp12, bp13, bp14, bp15, bp16, bp17, bp20, bp21, bp29, bp30, bp31, bp33, bp45, bp48, bp49, bp50, bp57, bp59, bp97, bp99, bp100, bp102, spm1000, sp137, sp255, sp257, sp300, sp400, sp462, sp771, sp772, sp773, sp999, sp3865, sp4638, bX6_in_0, bX6_in_14, bX6_in_15, kcX6_38, kcX6_76, kcX6_77, kcX6_78, nz0, nz1]
  repeat' (first | (refine And.intro ?_ ?_) | (intro _))
  all_goals first | exact hQ | (refine q_int hQ ?_; simp only [inV, *, not_false_eq_true, not_true_eq_false, if_true, if_false, ↓reduceIte]; done) | (refine q_int hQ ?_; simp only [inV]; (repeat' split) <;> first | contradiction | with_reducible rfl) | ((simp only [i_lt, i_le, i_eq, i_cl, Int32.reduceToInt, ne_eq] at * <;> (first | omega | (simp (disch := (first | omega | (simp (disch := (first | omega | (simp (disch := (first | omega | (simp only [Int32.reduceToInt]; omega))) only [a_add, a_sub, a_mul, a_neg, i_lt, i_le, i_eq, i_cl, Int32.reduceToInt, Int32.reduceToNatClampNeg]; omega))) only [a_add, a_sub, a_mul, a_neg, i_lt, i_le, i_eq, i_cl, Int32.reduceToInt, Int32.reduceToNatClampNeg]; omega))) only [a_add, a_sub, a_mul, a_neg, i_lt, i_le, i_eq, i_cl, Int32.reduceToInt, Int32.reduceToNatClampNeg] at * <;> (first | omega | (simp (disch := (first | omega | (simp (disch := (first | omega | (simp (disch := (first | omega | (simp only [Int32.reduceToInt]; omega))) only [a_add, a_sub, a_mul, a_neg, i_lt, i_le, i_eq, i_cl, Int32.reduceToInt, Int32.reduceToNatClampNeg]; omega))) only [a_add, a_sub, a_mul, a_neg, i_lt, i_le, i_eq, i_cl, Int32.reduceToInt, Int32.reduceToNatClampNeg]; omega))) only [a_add, a_sub, a_mul, a_neg, i_lt, i_le, i_eq, i_cl, Int32.reduceToInt, Int32.reduceToNatClampNeg] at * <;> omega))))))
def t_X6_of : TR := fun K _ _ As G D Q => match As with
  | [.ref a, .int i, .int r] => Mod K G a ∧ (0 ≤ i ∧ i ≤ 20 ∧ 0 ≤ r ∧ r < 6) ∧ Q (some (.int (yS D a r i))) G D
  | _ => False
set_option maxRecDepth 100000 in
set_option maxHeartbeats 4000000 in
theorem s_X6_of (l : Launch) : Sat l yX6_of cX6_of 3 (some .int) 0 t_X6_of := by
  refine satb (own := RX6) (fl := flX6) (sg := sgX6) (kc := kcX6) (na := naX6) (rc := rcX6) (cv := cNone) (cs := cNone) (bl := bX6_of) (by decide +kernel) rfl envX6 bokX6_of cvNone csNone ?_
  intro L K R0 sa hPp As G D Q htr
  unfold t_X6_of at htr
  split at htr
  case h_2 => exact htr.elim
  rename_i a i r
  obtain ⟨hM, ⟨b1, b2, b3, b4⟩, hQ⟩ := htr
  obtain ⟨⟨k0, g0, g1, g2, g4, g8, g9, g10, g11, g12⟩, k1, k2, k3, k4, k5, k6, k7, k8, k9⟩ := id hM
  obtain ⟨c1', c2'⟩ := ix_s b1 b2 b3 b4
  refine ⟨by simp, by simp [cat1], [], noI, 40, 0, ?_, nohd⟩
  simp only [↓x_iconst, ↓x_bipush, ↓x_sipush, ↓x_ldc, ↓x_iload_n, ↓x_iload, ↓x_aload_n, ↓x_aload, ↓x_istore_n, ↓x_istore, ↓x_astore_n, ↓x_astore, ↓x_iinc, ↓x_iadd, ↓x_isub, ↓x_imul, ↓x_iand, ↓x_idiv, ↓x_ineg, ↓x_i2c, ↓x_dupI, ↓x_dupA, ↓x_dup2, ↓x_goto, ↓x_get, ↓x_put, ↓x_gets, ↓x_iald, ↓x_bald, ↓x_cald, ↓x_aald, ↓x_iast, ↓x_bast, ↓x_cast, ↓x_aast, ↓x_alen, ↓x_iret, ↓x_vret, ↓x_nil, ↓x_jmp, ↓x_ldI0, ↓x_ldIs, ↓x_ldA0, ↓x_ldAs, ↓x_icmpT, ↓x_icmpF, ↓x_ifT, ↓x_ifF, x_iconst, x_bipush, x_sipush, x_ldc, x_iload_n, x_iload, x_aload_n, x_aload, x_istore_n, x_istore, x_astore_n, x_astore, x_iinc, x_iadd, x_isub, x_imul, x_iand, x_idiv, x_ineg, x_i2c, x_dupI, x_dupA, x_dup2, x_goto, x_if, x_icmp, x_get, x_put, x_gets, x_iald, x_bald, x_cald, x_aald, x_iast, x_bast, x_cast, x_aast, x_alen, x_iret, x_vret, x_nil, x_jmp, x_ldI0, x_ldIs, x_ldA0, x_ldAs, x_cad, x_cad2, x_fv0, x_fv1, x_fv2, x_fv3, cnd, fI, L0, c1, nL0, nL1, nL2, nL3, nL4, nL5, nL6, nL7, nL8, nL9, nL10, nL11, nL12, List.map_cons, List.map_nil, List.length_cons, List.length_nil, List.cons_append, List.nil_append, List.replicate_succ, List.replicate_zero, List.set_cons_zero, List.set_cons_succ, List.mem_cons, List.not_mem_nil, or_false, false_or, Option.toList_some, Option.toList_none, ↓reduceIte, if_true, if_false, Nat.reduceAdd, Nat.reduceSub, Nat.reduceEqDiff, Nat.reduceLT, Nat.reduceLeDiff, Int.reduceNatCast, Int.reduceNatCast', Int.reduceAdd, Int.reduceNeg, Int.reduceToNat, Int.reduceLE, Int.reduceLT, Int.reduceEq, Nat.zero_add, Nat.add_zero, and_true, true_and, ne_eq, not_false_eq_true, not_true_eq_false, and_self, implies_true, Bool.false_eq_true, Nat.reduceBEq, Int32.reduceOfInt, Int32.reduceAdd, Int32.reduceSub, Int32.reduceMul, Int32.reduceLE, Int32.reduceLT, Int32.reduceToNatClampNeg, Option.some.injEq, exists_eq_left, exists_eq_left', Option.isSome_some, Option.getD_some, vp_nar_int, pbi, eq_self, forall_const, false_implies, true_implies, false_and, and_false, uD_s, uG_s, uD_o, ad_nw, ad_wn, ad_ns, ad_sn, ad_ss, ad_ww, ad_sw, ad_ws, Int32.reduceToInt, Classical.not_not, d1n, d2n, d3n, d4n, d5n, d6n, d10n, inr, nL17, nL20, nL21, nL30, nL100, nL462, nL773, nL4638, bp6, bp7, bp8, bp9, bp10, bp11, bp12, bp13, bp14, bp15, bp16, bp17, bp20, bp21, bp29, bp30, bp31, bp33, bp45, bp48, bp49, bp50, bp57, bp59, bp97, bp99, bp100, bp102, spm1000, sp137, sp255, sp257, sp300, sp400, sp462, sp771, sp772, sp773, sp999, sp3865, sp4638, bX6_of_0, eX6_7, kcX6_38, kcX6_76, kcX6_77, kcX6_78, k0, g0, g1, g2, g4, g8, g9, g10, g11, g12, k1, k2, k3, k4, k5, k6, k7, k8, k9, c1', c2']
  exact hQ
def t_X6_toCome : TR := fun K _ _ As G D Q => match As with
  | [.ref a] => Mod K G a ∧ Q (some (.int (yN D a 0 - yN D a 1))) G D
  | _ => False
set_option maxRecDepth 100000 in
set_option maxHeartbeats 4000000 in
theorem s_X6_toCome (l : Launch) : Sat l yX6_toCome cX6_toCome 1 (some .int) 0 t_X6_toCome := by
  refine satb (own := RX6) (fl := flX6) (sg := sgX6) (kc := kcX6) (na := naX6) (rc := rcX6) (cv := cNone) (cs := cNone) (bl := bX6_toCome) (by decide +kernel) rfl envX6 bokX6_toCome cvNone csNone ?_
  intro L K R0 sa hPp As G D Q htr
  unfold t_X6_toCome at htr
  split at htr
  case h_2 => exact htr.elim
  rename_i a
  obtain ⟨hM, hQ⟩ := htr
  obtain ⟨⟨k0, g0, g1, g2, g4, g8, g9, g10, g11, g12⟩, k1, k2, k3, k4, k5, k6, k7, k8, k9⟩ := id hM
  refine ⟨by simp, by simp [cat1], [], noI, 40, 0, ?_, nohd⟩
  simp only [↓x_iconst, ↓x_bipush, ↓x_sipush, ↓x_ldc, ↓x_iload_n, ↓x_iload, ↓x_aload_n, ↓x_aload, ↓x_istore_n, ↓x_istore, ↓x_astore_n, ↓x_astore, ↓x_iinc, ↓x_iadd, ↓x_isub, ↓x_imul, ↓x_iand, ↓x_idiv, ↓x_ineg, ↓x_i2c, ↓x_dupI, ↓x_dupA, ↓x_dup2, ↓x_goto, ↓x_get, ↓x_put, ↓x_gets, ↓x_iald, ↓x_bald, ↓x_cald, ↓x_aald, ↓x_iast, ↓x_bast, ↓x_cast, ↓x_aast, ↓x_alen, ↓x_iret, ↓x_vret, ↓x_nil, ↓x_jmp, ↓x_ldI0, ↓x_ldIs, ↓x_ldA0, ↓x_ldAs, ↓x_icmpT, ↓x_icmpF, ↓x_ifT, ↓x_ifF, x_iconst, x_bipush, x_sipush, x_ldc, x_iload_n, x_iload, x_aload_n, x_aload, x_istore_n, x_istore, x_astore_n, x_astore, x_iinc, x_iadd, x_isub, x_imul, x_iand, x_idiv, x_ineg, x_i2c, x_dupI, x_dupA, x_dup2, x_goto, x_if, x_icmp, x_get, x_put, x_gets, x_iald, x_bald, x_cald, x_aald, x_iast, x_bast, x_cast, x_aast, x_alen, x_iret, x_vret, x_nil, x_jmp, x_ldI0, x_ldIs, x_ldA0, x_ldAs, x_cad, x_cad2, x_fv0, x_fv1, x_fv2, x_fv3, cnd, fI, L0, c1, nL0, nL1, nL2, nL3, nL4, nL5, nL6, nL7, nL8, nL9, nL10, nL11, nL12, List.map_cons, List.map_nil, List.length_cons, List.length_nil, List.cons_append, List.nil_append, List.replicate_succ, List.replicate_zero, List.set_cons_zero, List.set_cons_succ, List.mem_cons, List.not_mem_nil, or_false, false_or, Option.toList_some, Option.toList_none, ↓reduceIte, if_true, if_false, Nat.reduceAdd, Nat.reduceSub, Nat.reduceEqDiff, Nat.reduceLT, Nat.reduceLeDiff, Int.reduceNatCast, Int.reduceNatCast', Int.reduceAdd, Int.reduceNeg, Int.reduceToNat, Int.reduceLE, Int.reduceLT, Int.reduceEq, Nat.zero_add, Nat.add_zero, and_true, true_and, ne_eq, not_false_eq_true, not_true_eq_false, and_self, implies_true, Bool.false_eq_true, Nat.reduceBEq, Int32.reduceOfInt, Int32.reduceAdd, Int32.reduceSub, Int32.reduceMul, Int32.reduceLE, Int32.reduceLT, Int32.reduceToNatClampNeg, Option.some.injEq, exists_eq_left, exists_eq_left', Option.isSome_some, Option.getD_some, vp_nar_int, pbi, eq_self, forall_const, false_implies, true_implies, false_and, and_false, uD_s, uG_s, uD_o, ad_nw, ad_wn, ad_ns, ad_sn, ad_ss, ad_ww, ad_sw, ad_ws, Int32.reduceToInt, Classical.not_not, d1n, d2n, d3n, d4n, d5n, d6n, d10n, inr, nL17, nL20, nL21, nL30, nL100, nL462, nL773, nL4638, bp6, bp7, bp8, bp9, bp10, bp11, bp12, bp13, bp14, bp15, bp16, bp17, bp20, bp21, bp29, bp30, bp31, bp33, bp45, bp48, bp49, bp50, bp57, bp59, bp97, bp99, bp100, bp102, spm1000, sp137, sp255, sp257, sp300, sp400, sp462, sp771, sp772, sp773, sp999, sp3865, sp4638, bX6_toCome_0, eX6_7, kcX6_38, kcX6_76, kcX6_77, kcX6_78, k0, g0, g1, g2, g4, g8, g9, g10, g11, g12, k1, k2, k3, k4, k5, k6, k7, k8, k9]
  exact hQ
def t_X6_isOver : TR := fun K _ _ As G D Q => match As with
  | [.ref a] => Mod K G a ∧ Q (some (.int (if yN D a 2 = 30 then 1 else 0))) G D
  | _ => False
set_option maxRecDepth 100000 in
set_option maxHeartbeats 4000000 in
theorem s_X6_isOver (l : Launch) : Sat l yX6_isOver cX6_isOver 1 (some .boolean) 0 t_X6_isOver := by
  refine satb (own := RX6) (fl := flX6) (sg := sgX6) (kc := kcX6) (na := naX6) (rc := rcX6) (cv := cNone) (cs := cNone) (bl := bX6_isOver) (by decide +kernel) rfl envX6 bokX6_isOver cvNone csNone ?_
  intro L K R0 sa hPp As G D Q htr
  unfold t_X6_isOver at htr
  split at htr
  case h_2 => exact htr.elim
  rename_i a
  obtain ⟨hM, hQ⟩ := htr
  obtain ⟨⟨k0, g0, g1, g2, g4, g8, g9, g10, g11, g12⟩, k1, k2, k3, k4, k5, k6, k7, k8, k9⟩ := id hM
  refine ⟨by simp, by simp [cat1], [], noI, 40, 0, ?_, nohd⟩
  simp only [↓x_iconst, ↓x_bipush, ↓x_sipush, ↓x_ldc, ↓x_iload_n, ↓x_iload, ↓x_aload_n, ↓x_aload, ↓x_istore_n, ↓x_istore, ↓x_astore_n, ↓x_astore, ↓x_iinc, ↓x_iadd, ↓x_isub, ↓x_imul, ↓x_iand, ↓x_idiv, ↓x_ineg, ↓x_i2c, ↓x_dupI, ↓x_dupA, ↓x_dup2, ↓x_goto, ↓x_get, ↓x_put, ↓x_gets, ↓x_iald, ↓x_bald, ↓x_cald, ↓x_aald, ↓x_iast, ↓x_bast, ↓x_cast, ↓x_aast, ↓x_alen, ↓x_iret, ↓x_vret, ↓x_nil, ↓x_jmp, ↓x_ldI0, ↓x_ldIs, ↓x_ldA0, ↓x_ldAs, ↓x_icmpT, ↓x_icmpF, ↓x_ifT, ↓x_ifF, x_iconst, x_bipush, x_sipush, x_ldc, x_iload_n, x_iload, x_aload_n, x_aload, x_istore_n, x_istore, x_astore_n, x_astore, x_iinc, x_iadd, x_isub, x_imul, x_iand, x_idiv, x_ineg, x_i2c, x_dupI, x_dupA, x_dup2, x_goto, x_if, x_icmp, x_get, x_put, x_gets, x_iald, x_bald, x_cald, x_aald, x_iast, x_bast, x_cast, x_aast, x_alen, x_iret, x_vret, x_nil, x_jmp, x_ldI0, x_ldIs, x_ldA0, x_ldAs, x_cad, x_cad2, x_fv0, x_fv1, x_fv2, x_fv3, cnd, fI, L0, c1, nL0, nL1, nL2, nL3, nL4, nL5, nL6, nL7, nL8, nL9, nL10, nL11, nL12, List.map_cons, List.map_nil, List.length_cons, List.length_nil, List.cons_append, List.nil_append, List.replicate_succ, List.replicate_zero, List.set_cons_zero, List.set_cons_succ, List.mem_cons, List.not_mem_nil, or_false, false_or, Option.toList_some, Option.toList_none, ↓reduceIte, if_true, if_false, Nat.reduceAdd, Nat.reduceSub, Nat.reduceEqDiff, Nat.reduceLT, Nat.reduceLeDiff, Int.reduceNatCast, Int.reduceNatCast', Int.reduceAdd, Int.reduceNeg, Int.reduceToNat, Int.reduceLE, Int.reduceLT, Int.reduceEq, Nat.zero_add, Nat.add_zero, and_true, true_and, ne_eq, not_false_eq_true, not_true_eq_false, and_self, implies_true, Bool.false_eq_true, Nat.reduceBEq, Int32.reduceOfInt, Int32.reduceAdd, Int32.reduceSub, Int32.reduceMul, Int32.reduceLE, Int32.reduceLT, Int32.reduceToNatClampNeg, Option.some.injEq, exists_eq_left, exists_eq_left', Option.isSome_some, Option.getD_some, vp_nar_int, pbi, eq_self, forall_const, false_implies, true_implies, false_and, and_false, uD_s, uG_s, uD_o, ad_nw, ad_wn, ad_ns, ad_sn, ad_ss, ad_ww, ad_sw, ad_ws, Int32.reduceToInt, Classical.not_not, d1n, d2n, d3n, d4n, d5n, d6n, d10n, inr, nL17, nL20, nL21, nL30, nL100, nL462, nL773, nL4638, bp6, bp7, bp8, bp9, bp10, bp11, bp12, bp13, bp14, bp15, bp16, bp17, bp20, bp21, bp29, bp30, bp31, bp33, bp45, bp48, bp49, bp50, bp57, bp59, bp97, bp99, bp100, bp102, spm1000, sp137, sp255, sp257, sp300, sp400, sp462, sp771, sp772, sp773, sp999, sp3865, sp4638, bX6_isOver_0, bX6_isOver_15, bX6_isOver_16, eX6_7, kcX6_38, kcX6_76, kcX6_77, kcX6_78, k0, g0, g1, g2, g4, g8, g9, g10, g11, g12, k1, k2, k3, k4, k5, k6, k7, k8, k9, nz0, nz1]
  unfold yN at hQ
  repeat' (first | (refine And.intro ?_ ?_) | (intro _))
  all_goals first | exact hQ | (refine q_int hQ ?_; simp only [*, not_false_eq_true, not_true_eq_false, if_true, if_false, ↓reduceIte]; done) | (refine q_int hQ ?_; (repeat' split) <;> first | contradiction | with_reducible rfl) | ((simp only [i_lt, i_le, i_eq, i_cl, Int32.reduceToInt, ne_eq] at * <;> (first | omega | (simp (disch := (first | omega | (simp (disch := (first | omega | (simp (disch := (first | omega | (simp only [Int32.reduceToInt]; omega))) only [a_add, a_sub, a_mul, a_neg, i_lt, i_le, i_eq, i_cl, Int32.reduceToInt, Int32.reduceToNatClampNeg]; omega))) only [a_add, a_sub, a_mul, a_neg, i_lt, i_le, i_eq, i_cl, Int32.reduceToInt, Int32.reduceToNatClampNeg]; omega))) only [a_add, a_sub, a_mul, a_neg, i_lt, i_le, i_eq, i_cl, Int32.reduceToInt, Int32.reduceToNatClampNeg] at * <;> (first | omega | (simp (disch := (first | omega | (simp (disch := (first | omega | (simp (disch := (first | omega | (simp only [Int32.reduceToInt]; omega))) only [a_add, a_sub, a_mul, a_neg, i_lt, i_le, i_eq, i_cl, Int32.reduceToInt, Int32.reduceToNatClampNeg]; omega))) only [a_add, a_sub, a_mul, a_neg, i_lt, i_le, i_eq, i_cl, Int32.reduceToInt, Int32.reduceToNatClampNeg]; omega))) only [a_add, a_sub, a_mul, a_neg, i_lt, i_le, i_eq, i_cl, Int32.reduceToInt, Int32.reduceToNatClampNeg] at * <;> omega))))))
theorem mx_alt {v : Int32} : mxI 0 v = if v < 0 then 0 else v := by
  unfold mxI
  split
  · rename_i h
    rw [if_neg (Int32.not_lt.mpr (Int32.le_of_lt h))]
  · rename_i h
    have h := Int32.not_lt.mp h
    split
    · rfl
    · rename_i h2
      exact Int32.le_antisymm (Int32.not_lt.mp h2) h
theorem mx_alt2 {v : Int32} : mxI 0 v = if 0 ≤ v then v else 0 := by
  rw [mx_alt]
  by_cases h : v < 0
  · rw [if_pos h, if_neg (Int32.not_le.mpr h)]
  · rw [if_neg h, if_pos (Int32.not_lt.mp h)]
def t_X6_room : TR := fun K _ _ As G D Q => match As with
  | [.ref a, .int w] => Mod K G a ∧ (0 ≤ w ∧ w ≤ 30) ∧ Q (some (.int (roomF (yN D a) (yW D a) w))) G D
  | _ => False
set_option maxRecDepth 100000 in
set_option maxHeartbeats 4000000 in
theorem s_X6_room (l : Launch) : Sat l yX6_room cX6_room 3 (some .int) 0 t_X6_room := by
  refine satb (own := RX6) (fl := flX6) (sg := sgX6) (kc := kcX6) (na := naX6) (rc := rcX6) (cv := cNone) (cs := cNone) (bl := bX6_room) (by decide +kernel) rfl envX6 bokX6_room cvNone csNone ?_
  intro L K R0 sa hPp As G D Q htr
  unfold t_X6_room at htr
  split at htr
  case h_2 => exact htr.elim
  rename_i a w
  obtain ⟨hM, ⟨b1, b2⟩, hQ⟩ := htr
  obtain ⟨⟨k0, g0, g1, g2, g4, g8, g9, g10, g11, g12⟩, k1, k2, k3, k4, k5, k6, k7, k8, k9⟩ := id hM
  obtain ⟨c1', c2', c3', c4'⟩ := ix_w b1 b2 (r := 1) (by decide) (by decide)
  refine ⟨by simp, by simp [cat1], [], noI, 40, 0, ?_, nohd⟩
  unfold roomF at hQ
  rw [mx_alt2, yW_0] at hQ
  unfold yN yW at hQ
  simp only [↓x_iconst, ↓x_bipush, ↓x_sipush, ↓x_ldc, ↓x_iload_n, ↓x_iload, ↓x_aload_n, ↓x_aload, ↓x_istore_n, ↓x_istore, ↓x_astore_n, ↓x_astore, ↓x_iinc, ↓x_iadd, ↓x_isub, ↓x_imul, ↓x_iand, ↓x_idiv, ↓x_ineg, ↓x_i2c, ↓x_dupI, ↓x_dupA, ↓x_dup2, ↓x_goto, ↓x_get, ↓x_put, ↓x_gets, ↓x_iald, ↓x_bald, ↓x_cald, ↓x_aald, ↓x_iast, ↓x_bast, ↓x_cast, ↓x_aast, ↓x_alen, ↓x_iret, ↓x_vret, ↓x_nil, ↓x_jmp, ↓x_ldI0, ↓x_ldIs, ↓x_ldA0, ↓x_ldAs, ↓x_icmpT, ↓x_icmpF, ↓x_ifT, ↓x_ifF, x_iconst, x_bipush, x_sipush, x_ldc, x_iload_n, x_iload, x_aload_n, x_aload, x_istore_n, x_istore, x_astore_n, x_astore, x_iinc, x_iadd, x_isub, x_imul, x_iand, x_idiv, x_ineg, x_i2c, x_dupI, x_dupA, x_dup2, x_goto, x_if, x_icmp, x_get, x_put, x_gets, x_iald, x_bald, x_cald, x_aald, x_iast, x_bast, x_cast, x_aast, x_alen, x_iret, x_vret, x_nil, x_jmp, x_ldI0, x_ldIs, x_ldA0, x_ldAs, x_cad, x_cad2, x_fv0, x_fv1, x_fv2, x_fv3, cnd, fI, L0, c1, nL0, nL1, nL2, nL3, nL4, nL5, nL6, nL7, nL8, nL9, nL10, nL11, nL12, List.map_cons, List.map_nil, List.length_cons, List.length_nil, List.cons_append, List.nil_append, List.replicate_succ, List.replicate_zero, List.set_cons_zero, List.set_cons_succ, List.mem_cons, List.not_mem_nil, or_false, false_or, Option.toList_some, Option.toList_none, ↓reduceIte, if_true, if_false, Nat.reduceAdd, Nat.reduceSub, Nat.reduceEqDiff, Nat.reduceLT, Nat.reduceLeDiff, Int.reduceNatCast, Int.reduceNatCast', Int.reduceAdd, Int.reduceNeg, Int.reduceToNat, Int.reduceLE, Int.reduceLT, Int.reduceEq, Nat.zero_add, Nat.add_zero, and_true, true_and, ne_eq, not_false_eq_true, not_true_eq_false, and_self, implies_true, Bool.false_eq_true, Nat.reduceBEq, Int32.reduceOfInt, Int32.reduceAdd, Int32.reduceSub, Int32.reduceMul, Int32.reduceLE, Int32.reduceLT, Int32.reduceToNatClampNeg, Option.some.injEq, exists_eq_left, exists_eq_left', Option.isSome_some, Option.getD_some, vp_nar_int, pbi, eq_self, forall_const, false_implies, true_implies, false_and, and_false, uD_s, uG_s, uD_o, ad_nw, ad_wn, ad_ns, ad_sn, ad_ss, ad_ww, ad_sw, ad_ws, Int32.reduceToInt, Classical.not_not, d1n, d2n, d3n, d4n, d5n, d6n, d10n, inr, nL17, nL20, nL21, nL30, nL100, nL462, nL773, nL4638, bp6, bp7, bp8, bp9, bp10, bp11, bp12, bp13, bp14, bp15, bp16, bp17, bp20, bp21, bp29, bp30, bp31, bp33, bp45, bp48, bp49, bp50, bp57, bp59, bp97, bp99, bp100, bp102, spm1000, sp137, sp255, sp257, sp300, sp400, sp462, sp771, sp772, sp773, sp999, sp3865, sp4638, bX6_room_0, bX6_room_41, bX6_room_42, eX6_7, kcX6_38, kcX6_76, kcX6_77, kcX6_78, k0, g0, g1, g2, g4, g8, g9, g10, g11, g12, k1, k2, k3, k4, k5, k6, k7, k8, k9, c1', c2', c3', c4']
  repeat' (first | (refine And.intro ?_ ?_) | (intro _))
  all_goals first | exact hQ | (refine q_int hQ ?_; simp only [*, not_false_eq_true, not_true_eq_false, if_true, if_false, ↓reduceIte]; done) | (refine q_int hQ ?_; (repeat' split) <;> first | contradiction | with_reducible rfl) | ((simp only [i_lt, i_le, i_eq, i_cl, Int32.reduceToInt, ne_eq] at * <;> (first | omega | (simp (disch := (first | omega | (simp (disch := (first | omega | (simp (disch := (first | omega | (simp only [Int32.reduceToInt]; omega))) only [a_add, a_sub, a_mul, a_neg, i_lt, i_le, i_eq, i_cl, Int32.reduceToInt, Int32.reduceToNatClampNeg]; omega))) only [a_add, a_sub, a_mul, a_neg, i_lt, i_le, i_eq, i_cl, Int32.reduceToInt, Int32.reduceToNatClampNeg]; omega))) only [a_add, a_sub, a_mul, a_neg, i_lt, i_le, i_eq, i_cl, Int32.reduceToInt, Int32.reduceToNatClampNeg] at * <;> (first | omega | (simp (disch := (first | omega | (simp (disch := (first | omega | (simp (disch := (first | omega | (simp only [Int32.reduceToInt]; omega))) only [a_add, a_sub, a_mul, a_neg, i_lt, i_le, i_eq, i_cl, Int32.reduceToInt, Int32.reduceToNatClampNeg]; omega))) only [a_add, a_sub, a_mul, a_neg, i_lt, i_le, i_eq, i_cl, Int32.reduceToInt, Int32.reduceToNatClampNeg]; omega))) only [a_add, a_sub, a_mul, a_neg, i_lt, i_le, i_eq, i_cl, Int32.reduceToInt, Int32.reduceToNatClampNeg] at * <;> omega))))))
def t_X6_sumOf : TR := fun K _ _ As G D Q => match As with
  | [.ref a, .int f, .int n, .int r] => Mod K G a ∧ (0 ≤ f ∧ 0 ≤ f + n ∧ f + n ≤ 20 ∧ 0 ≤ r ∧ r < 6) ∧ Q (some (.int (sumI (yS D a r) f (f + n)))) G D
  | _ => False
set_option maxRecDepth 100000 in
set_option maxHeartbeats 4000000 in
theorem s_X6_sumOf (l : Launch) : Sat l yX6_sumOf cX6_sumOf 6 (some .int) 1 t_X6_sumOf := by
  refine satb (own := RX6) (fl := flX6) (sg := sgX6) (kc := kcX6) (na := naX6) (rc := rcX6) (cv := (cAdd 43 t_X6_of cNone)) (cs := cNone) (bl := bX6_sumOf) (by decide +kernel) rfl envX6 bokX6_sumOf (cvAdd (s_X6_of l) lkX6_43 rfl rfl (by decide) cvNone) csNone ?_
  intro L K R0 sa hPp As G D Q htr
  unfold t_X6_sumOf at htr
  split at htr
  case h_2 => exact htr.elim
  rename_i a f n r
  obtain ⟨hM, ⟨b1, b2, b3, b4, b5⟩, hQ⟩ := htr
  obtain ⟨⟨k0, g0, g1, g2, g4, g8, g9, g10, g11, g12⟩, k1, k2, k3, k4, k5, k6, k7, k8, k9⟩ := id hM
  generalize hE : f + n = e at *
  refine ⟨by simp, by simp [cat1], [6], fun k pc LL st G' D' => ∃ i z, LL = [some (.ref a), some (.int f), some (.int n), some (.int r), some (.int z), some (.int i)] ∧ st = [] ∧ G' = G ∧ D' = D ∧ 0 ≤ i ∧ k = (e - i).toNatClampNeg ∧ z + sumI (yS D a r) i e = sumI (yS D a r) f e, 20, 20, ?_, ?_⟩
  · simp only [↓x_iconst, ↓x_bipush, ↓x_sipush, ↓x_ldc, ↓x_iload_n, ↓x_iload, ↓x_aload_n, ↓x_aload, ↓x_istore_n, ↓x_istore, ↓x_astore_n, ↓x_astore, ↓x_iinc, ↓x_iadd, ↓x_isub, ↓x_imul, ↓x_iand, ↓x_idiv, ↓x_ineg, ↓x_i2c, ↓x_dupI, ↓x_dupA, ↓x_dup2, ↓x_goto, ↓x_get, ↓x_put, ↓x_gets, ↓x_iald, ↓x_bald, ↓x_cald, ↓x_aald, ↓x_iast, ↓x_bast, ↓x_cast, ↓x_aast, ↓x_alen, ↓x_iret, ↓x_vret, ↓x_nil, ↓x_jmp, ↓x_ldI0, ↓x_ldIs, ↓x_ldA0, ↓x_ldAs, ↓x_icmpT, ↓x_icmpF, ↓x_ifT, ↓x_ifF, x_iconst, x_bipush, x_sipush, x_ldc, x_iload_n, x_iload, x_aload_n, x_aload, x_istore_n, x_istore, x_astore_n, x_astore, x_iinc, x_iadd, x_isub, x_imul, x_iand, x_idiv, x_ineg, x_i2c, x_dupI, x_dupA, x_dup2, x_goto, x_if, x_icmp, x_get, x_put, x_gets, x_iald, x_bald, x_cald, x_aald, x_iast, x_bast, x_cast, x_aast, x_alen, x_iret, x_vret, x_nil, x_jmp, x_ldI0, x_ldIs, x_ldA0, x_ldAs, x_cad, x_cad2, x_fv0, x_fv1, x_fv2, x_fv3, cnd, fI, L0, c1, nL0, nL1, nL2, nL3, nL4, nL5, nL6, nL7, nL8, nL9, nL10, nL11, nL12, List.map_cons, List.map_nil, List.length_cons, List.length_nil, List.cons_append, List.nil_append, List.replicate_succ, List.replicate_zero, List.set_cons_zero, List.set_cons_succ, List.mem_cons, List.not_mem_nil, or_false, false_or, Option.toList_some, Option.toList_none, ↓reduceIte, if_true, if_false, Nat.reduceAdd, Nat.reduceSub, Nat.reduceEqDiff, Nat.reduceLT, Nat.reduceLeDiff, Int.reduceNatCast, Int.reduceNatCast', Int.reduceAdd, Int.reduceNeg, Int.reduceToNat, Int.reduceLE, Int.reduceLT, Int.reduceEq, Nat.zero_add, Nat.add_zero, and_true, true_and, ne_eq, not_false_eq_true, not_true_eq_false, and_self, implies_true, Bool.false_eq_true, Nat.reduceBEq, Int32.reduceOfInt, Int32.reduceAdd, Int32.reduceSub, Int32.reduceMul, Int32.reduceLE, Int32.reduceLT, Int32.reduceToNatClampNeg, Option.some.injEq, exists_eq_left, exists_eq_left', Option.isSome_some, Option.getD_some, vp_nar_int, pbi, eq_self, forall_const, false_implies, true_implies, false_and, and_false, uD_s, uG_s, uD_o, ad_nw, ad_wn, ad_ns, ad_sn, ad_ss, ad_ww, ad_sw, ad_ws, Int32.reduceToInt, Classical.not_not, d1n, d2n, d3n, d4n, d5n, d6n, d10n, inr, nL17, nL20, nL21, nL30, nL100, nL462, nL773, nL4638, bp6, bp7, bp8, bp9, bp10, bp11, bp12, bp13, bp14, bp15, bp16, bp17, bp20, bp21, bp29, bp30, bp31, bp33, bp45, bp48, bp49, bp50, bp57, bp59, bp97, bp99, bp100, bp102, spm1000, sp137, sp255, sp257, sp300, sp400, sp462, sp771, sp772, sp773, sp999, sp3865, sp4638, bX6_sumOf_0, bX6_sumOf_6, bX6_sumOf_32, t_X6_of, ↓x_inv3 naX6_43, x_inv3 naX6_43, rcX6_43, kcX6_38, kcX6_76, kcX6_77, kcX6_78, k0, g0, g1, g2, g4, g8, g9, g10, g11, g12, k1, k2, k3, k4, k5, k6, k7, k8, k9]
    exact ⟨_, f, 0, rfl, b1, rfl, Int32.zero_add _⟩
  · rintro k pc hpc LL st G' D' ⟨i, z, rfl, rfl, rfl, rfl, hi, rfl, hz⟩
    obtain rfl := List.mem_singleton.mp hpc
    by_cases h : i < e
    · have c1' : i ≤ 20 := Int32.le_trans (Int32.le_of_lt h) b3
      have c2' : ¬ e ≤ i := Int32.not_le.mpr h
      simp only [↓x_iconst, ↓x_bipush, ↓x_sipush, ↓x_ldc, ↓x_iload_n, ↓x_iload, ↓x_aload_n, ↓x_aload, ↓x_istore_n, ↓x_istore, ↓x_astore_n, ↓x_astore, ↓x_iinc, ↓x_iadd, ↓x_isub, ↓x_imul, ↓x_iand, ↓x_idiv, ↓x_ineg, ↓x_i2c, ↓x_dupI, ↓x_dupA, ↓x_dup2, ↓x_goto, ↓x_get, ↓x_put, ↓x_gets, ↓x_iald, ↓x_bald, ↓x_cald, ↓x_aald, ↓x_iast, ↓x_bast, ↓x_cast, ↓x_aast, ↓x_alen, ↓x_iret, ↓x_vret, ↓x_nil, ↓x_jmp, ↓x_ldI0, ↓x_ldIs, ↓x_ldA0, ↓x_ldAs, ↓x_icmpT, ↓x_icmpF, ↓x_ifT, ↓x_ifF, x_iconst, x_bipush, x_sipush, x_ldc, x_iload_n, x_iload, x_aload_n, x_aload, x_istore_n, x_istore, x_astore_n, x_astore, x_iinc, x_iadd, x_isub, x_imul, x_iand, x_idiv, x_ineg, x_i2c, x_dupI, x_dupA, x_dup2, x_goto, x_if, x_icmp, x_get, x_put, x_gets, x_iald, x_bald, x_cald, x_aald, x_iast, x_bast, x_cast, x_aast, x_alen, x_iret, x_vret, x_nil, x_jmp, x_ldI0, x_ldIs, x_ldA0, x_ldAs, x_cad, x_cad2, x_fv0, x_fv1, x_fv2, x_fv3, cnd, fI, L0, c1, nL0, nL1, nL2, nL3, nL4, nL5, nL6, nL7, nL8, nL9, nL10, nL11, nL12, List.map_cons, List.map_nil, List.length_cons, List.length_nil, List.cons_append, List.nil_append, List.replicate_succ, List.replicate_zero, List.set_cons_zero, List.set_cons_succ, List.mem_cons, List.not_mem_nil, or_false, false_or, Option.toList_some, Option.toList_none, ↓reduceIte, if_true, if_false, Nat.reduceAdd, Nat.reduceSub, Nat.reduceEqDiff, Nat.reduceLT, Nat.reduceLeDiff, Int.reduceNatCast, Int.reduceNatCast', Int.reduceAdd, Int.reduceNeg, Int.reduceToNat, Int.reduceLE, Int.reduceLT, Int.reduceEq, Nat.zero_add, Nat.add_zero, and_true, true_and, ne_eq, not_false_eq_true, not_true_eq_false, and_self, implies_true, Bool.false_eq_true, Nat.reduceBEq, Int32.reduceOfInt, Int32.reduceAdd, Int32.reduceSub, Int32.reduceMul, Int32.reduceLE, Int32.reduceLT, Int32.reduceToNatClampNeg, Option.some.injEq, exists_eq_left, exists_eq_left', Option.isSome_some, Option.getD_some, vp_nar_int, pbi, eq_self, forall_const, false_implies, true_implies, false_and, and_false, uD_s, uG_s, uD_o, ad_nw, ad_wn, ad_ns, ad_sn, ad_ss, ad_ww, ad_sw, ad_ws, Int32.reduceToInt, Classical.not_not, d1n, d2n, d3n, d4n, d5n, d6n, d10n, inr, nL17, nL20, nL21, nL30, nL100, nL462, nL773, nL4638, bp6, bp7, bp8, bp9, bp10, bp11, bp12, bp13, bp14, bp15, bp16, bp17, bp20, bp21, bp29, bp30, bp31, bp33, bp45, bp48, bp49, bp50, bp57, bp59, bp97, bp99, bp100, bp102, spm1000, sp137, sp255, sp257, sp300, sp400, sp462, sp771, sp772, sp773, sp999, sp3865, sp4638, bX6_sumOf_0, bX6_sumOf_6, bX6_sumOf_32, t_X6_of, ↓x_inv3 naX6_43, x_inv3 naX6_43, rcX6_43, kcX6_38, kcX6_76, kcX6_77, kcX6_78, k0, g0, g1, g2, g4, g8, g9, g10, g11, g12, k1, k2, k3, k4, k5, k6, k7, k8, k9, hM, hE, c1', c2', b4, b5, hi]
      refine ⟨_, len_lt hi h b3, i + 1, _, rfl, ?_, rfl, ?_⟩
      · (simp only [i_lt, i_le, i_eq, i_cl, Int32.reduceToInt, ne_eq] at * <;> (first | omega | (simp (disch := (first | omega | (simp (disch := (first | omega | (simp (disch := (first | omega | (simp only [Int32.reduceToInt]; omega))) only [a_add, a_sub, a_mul, a_neg, i_lt, i_le, i_eq, i_cl, Int32.reduceToInt, Int32.reduceToNatClampNeg]; omega))) only [a_add, a_sub, a_mul, a_neg, i_lt, i_le, i_eq, i_cl, Int32.reduceToInt, Int32.reduceToNatClampNeg]; omega))) only [a_add, a_sub, a_mul, a_neg, i_lt, i_le, i_eq, i_cl, Int32.reduceToInt, Int32.reduceToNatClampNeg] at * <;> (first | omega | (simp (disch := (first | omega | (simp (disch := (first | omega | (simp (disch := (first | omega | (simp only [Int32.reduceToInt]; omega))) only [a_add, a_sub, a_mul, a_neg, i_lt, i_le, i_eq, i_cl, Int32.reduceToInt, Int32.reduceToNatClampNeg]; omega))) only [a_add, a_sub, a_mul, a_neg, i_lt, i_le, i_eq, i_cl, Int32.reduceToInt, Int32.reduceToNatClampNeg]; omega))) only [a_add, a_sub, a_mul, a_neg, i_lt, i_le, i_eq, i_cl, Int32.reduceToInt, Int32.reduceToNatClampNeg] at * <;> omega)))))
      · rw [← hz, sumI_s hi h b3, Int32.add_assoc]
    · have c2' : e ≤ i := Int32.not_lt.mp h
      simp only [↓x_iconst, ↓x_bipush, ↓x_sipush, ↓x_ldc, ↓x_iload_n, ↓x_iload, ↓x_aload_n, ↓x_aload, ↓x_istore_n, ↓x_istore, ↓x_astore_n, ↓x_astore, ↓x_iinc, ↓x_iadd, ↓x_isub, ↓x_imul, ↓x_iand, ↓x_idiv, ↓x_ineg, ↓x_i2c, ↓x_dupI, ↓x_dupA, ↓x_dup2, ↓x_goto, ↓x_get, ↓x_put, ↓x_gets, ↓x_iald, ↓x_bald, ↓x_cald, ↓x_aald, ↓x_iast, ↓x_bast, ↓x_cast, ↓x_aast, ↓x_alen, ↓x_iret, ↓x_vret, ↓x_nil, ↓x_jmp, ↓x_ldI0, ↓x_ldIs, ↓x_ldA0, ↓x_ldAs, ↓x_icmpT, ↓x_icmpF, ↓x_ifT, ↓x_ifF, x_iconst, x_bipush, x_sipush, x_ldc, x_iload_n, x_iload, x_aload_n, x_aload, x_istore_n, x_istore, x_astore_n, x_astore, x_iinc, x_iadd, x_isub, x_imul, x_iand, x_idiv, x_ineg, x_i2c, x_dupI, x_dupA, x_dup2, x_goto, x_if, x_icmp, x_get, x_put, x_gets, x_iald, x_bald, x_cald, x_aald, x_iast, x_bast, x_cast, x_aast, x_alen, x_iret, x_vret, x_nil, x_jmp, x_ldI0, x_ldIs, x_ldA0, x_ldAs, x_cad, x_cad2, x_fv0, x_fv1, x_fv2, x_fv3, cnd, fI, L0, c1, nL0, nL1, nL2, nL3, nL4, nL5, nL6, nL7, nL8, nL9, nL10, nL11, nL12, List.map_cons, List.map_nil, List.length_cons, List.length_nil, List.cons_append, List.nil_append, List.replicate_succ, List.replicate_zero, List.set_cons_zero, List.set_cons_succ, List.mem_cons, List.not_mem_nil, or_false, false_or, Option.toList_some, Option.toList_none, ↓reduceIte, if_true, if_false, Nat.reduceAdd, Nat.reduceSub, Nat.reduceEqDiff, Nat.reduceLT, Nat.reduceLeDiff, Int.reduceNatCast, Int.reduceNatCast', Int.reduceAdd, Int.reduceNeg, Int.reduceToNat, Int.reduceLE, Int.reduceLT, Int.reduceEq, Nat.zero_add, Nat.add_zero, and_true, true_and, ne_eq, not_false_eq_true, not_true_eq_false, and_self, implies_true, Bool.false_eq_true, Nat.reduceBEq, Int32.reduceOfInt, Int32.reduceAdd, Int32.reduceSub, Int32.reduceMul, Int32.reduceLE, Int32.reduceLT, Int32.reduceToNatClampNeg, Option.some.injEq, exists_eq_left, exists_eq_left', Option.isSome_some, Option.getD_some, vp_nar_int, pbi, eq_self, forall_const, false_implies, true_implies, false_and, and_false, uD_s, uG_s, uD_o, ad_nw, ad_wn, ad_ns, ad_sn, ad_ss, ad_ww, ad_sw, ad_ws, Int32.reduceToInt, Classical.not_not, d1n, d2n, d3n, d4n, d5n, d6n, d10n, inr, nL17, nL20, nL21, nL30, nL100, nL462, nL773, nL4638, bp6, bp7, bp8, bp9, bp10, bp11, bp12, bp13, bp14, bp15, bp16, bp17, bp20, bp21, bp29, bp30, bp31, bp33, bp45, bp48, bp49, bp50, bp57, bp59, bp97, bp99, bp100, bp102, spm1000, sp137, sp255, sp257, sp300, sp400, sp462, sp771, sp772, sp773, sp999, sp3865, sp4638, bX6_sumOf_0, bX6_sumOf_6, bX6_sumOf_32, t_X6_of, ↓x_inv3 naX6_43, x_inv3 naX6_43, rcX6_43, kcX6_38, kcX6_76, kcX6_77, kcX6_78, k0, g0, g1, g2, g4, g8, g9, g10, g11, g12, k1, k2, k3, k4, k5, k6, k7, k8, k9, hM, hE, c2']
      rw [sumI_e h hi b2] at hz
      simpa [← hz] using hQ
/-- what holds of a state's slacks, strands, tensions -/
def Bnd (S : Int32 → Int32 → Int32) : Prop := ∀ i : Int32, 0 ≤ i → i < 20 → (0 ≤ S 0 i ∧ S 0 i ≤ 999) ∧ (0 ≤ S 1 i ∧ S 1 i ≤ 999) ∧ (0 ≤ S 2 i ∧ S 2 i ≤ 5) ∧ (0 ≤ S 3 i ∧ S 3 i ≤ 9)
theorem Bnd.at {S : Int32 → Int32 → Int32} (h : Bnd S) {i : Nat} (hi : i < 20) : (0 ≤ (S 0 (nI i)).toInt ∧ (S 0 (nI i)).toInt ≤ 999) ∧ (0 ≤ (S 1 (nI i)).toInt ∧ (S 1 (nI i)).toInt ≤ 999) ∧ (0 ≤ (S 2 (nI i)).toInt ∧ (S 2 (nI i)).toInt ≤ 5) ∧ (0 ≤ (S 3 (nI i)).toInt ∧ (S 3 (nI i)).toInt ≤ 9) := by
  have := h (nI i) (nI_pos' (by omega)) ((nI_ltI (b := 20) (by omega) (by decide)).mpr hi)
  simpa only [i_le, Int32.reduceToInt] using this
theorem sumN_s {g : Int32 → Int32} {F n : Nat} (h : F + (n + 1) ≤ 20) : sumI g (nI F) (nI (F + (n + 1))) = g (nI F) + sumI g (nI (F + 1)) (nI (F + (n + 1))) := by
  rw [sumI_s (nI_pos' (by omega)) ((nI_ltI (by omega) (by omega)).mpr (by omega)) ((nI_leI (b := 20) (by omega) (by decide)).mpr h), nI_1]
theorem sumN_0 {g : Int32 → Int32} {F : Nat} (h : F ≤ 20) : sumI g (nI F) (nI F) = 0 := sumI_e Int32.lt_irrefl (nI_pos' (by omega)) (nI_pos' (by omega))
theorem sumN_b {g : Int32 → Int32} (hg : ∀ i : Nat, i < 20 → 0 ≤ (g (nI i)).toInt ∧ (g (nI i)).toInt ≤ 999) : ∀ (n F : Nat), F + n ≤ 20 → 0 ≤ (sumI g (nI F) (nI (F + n))).toInt ∧ (sumI g (nI F) (nI (F + n))).toInt ≤ 999 * n
  | 0, F, h => by
    rw [Nat.add_zero, sumN_0 (by omega)]
    decide
  | n + 1, F, h => by
    have ih := sumN_b hg n (F + 1) (by omega)
    rw [show F + 1 + n = F + (n + 1) by omega] at ih
    obtain ⟨g1, g2⟩ := hg F (by omega)
    rw [sumN_s h, a_add (by omega)]
    push_cast
    omega
theorem cut_st {x s : Int32} (h1 : -30000 ≤ x.toInt) (h2 : x.toInt ≤ 999) (h3 : 0 ≤ s.toInt) (h4 : s.toInt ≤ 999) : mxI 0 x - (if mxI 0 x < s then mxI 0 x else s) = mxI 0 (x - s) := by
  have e1 : (x - s).toInt = x.toInt - s.toInt := a_sub (by omega)
  unfold mxI
  simp only [i_lt, e1, Int32.reduceToInt]
  by_cases c1' : 0 < x.toInt
  · simp only [c1', if_true]
    by_cases c2' : x.toInt < s.toInt
    · simp only [c2', if_true]
      rw [if_neg (by omega), Int32.sub_self]
    · simp only [c2', if_false]
      by_cases c3' : 0 < x.toInt - s.toInt
      · rw [if_pos c3']
      · rw [if_neg c3', i_eq, e1]
        simp only [Int32.reduceToInt]
        omega
  · simp only [c1', if_false, Int32.reduceToInt]
    rw [if_neg (show ¬ 0 < x.toInt - s.toInt by omega)]
    by_cases c2' : 0 < s.toInt
    · rw [if_pos c2']
      decide
    · rw [if_neg c2', i_eq, a_sub (by simp only [Int32.reduceToInt]; omega)]
      simp only [Int32.reduceToInt]
      omega
theorem cut_sum {c s t : Int32} : c - t - s = c - (s + t) := by
  rw [Int32.sub_sub, Int32.add_comm]
def t_X6_cutOf : TR := fun K _ _ As G D Q => match As with
  | [.ref a, .int x, .int e, .int c] => Mod K G a ∧ Bnd (yS D a) ∧ (0 ≤ x ∧ x < e ∧ e ≤ 20 ∧ 0 ≤ c ∧ c ≤ 999) ∧ Q (some (.int (cutF (yS D a) x e c))) G D
  | _ => False
set_option maxRecDepth 100000 in
set_option maxHeartbeats 4000000 in
theorem s_X6_cutOf (l : Launch) : Sat l yX6_cutOf cX6_cutOf 6 (some .int) 1 t_X6_cutOf := by
  refine satb (own := RX6) (fl := flX6) (sg := sgX6) (kc := kcX6) (na := naX6) (rc := rcX6) (cv := (cAdd 43 t_X6_of cNone)) (cs := cNone) (bl := bX6_cutOf) (by decide +kernel) rfl envX6 bokX6_cutOf (cvAdd (s_X6_of l) lkX6_43 rfl rfl (by decide) cvNone) csNone ?_
  intro L K R0 sa hPp As G D Q htr
  unfold t_X6_cutOf at htr
  split at htr
  case h_2 => exact htr.elim
  rename_i a x e c
  obtain ⟨hM, hB, ⟨b1, b2, b3, b4, b5⟩, hQ⟩ := htr
  obtain ⟨⟨k0, g0, g1, g2, g4, g8, g9, g10, g11, g12⟩, k1, k2, k3, k4, k5, k6, k7, k8, k9⟩ := id hM
  obtain ⟨q, hq, rfl⟩ := nI_of (x := x) (Int32.not_lt.mpr b1)
  obtain ⟨z, hz, rfl⟩ := nI_of (x := e) (Int32.not_lt.mpr (Int32.le_trans b1 (Int32.le_of_lt b2)))
  have hqz := (nI_ltI hq hz).mp b2
  have hz20 := (nI_leI (b := 20) hz (by decide)).mp b3
  obtain ⟨n, rfl⟩ : ∃ n, z = q + (n + 1) := ⟨z - q - 1, by omega⟩
  have hc : 0 ≤ c.toInt ∧ c.toInt ≤ 999 := by
    simp only [i_le, Int32.reduceToInt] at b4 b5
    exact ⟨b4, b5⟩
  have sb := sumN_b (g := yS D a 1) (fun i hi => (hB.at hi).2.1)
  refine ⟨by simp, by simp [cat1], [8], fun k pc LL st G' D' => ∃ i, i ≤ n ∧ LL = [some (.ref a), some (.int (nI q)), some (.int (nI (q + (n + 1)))), some (.int c), some (.int (mxI 0 (c - sumI (yS D a 1) (nI (q + i + 1)) (nI (q + (n + 1)))))), some (.int (nI (q + i)))] ∧ st = [] ∧ G' = G ∧ D' = D ∧ k = i, 40, 40, ?_, ?_⟩
  · simp only [↓x_iconst, ↓x_bipush, ↓x_sipush, ↓x_ldc, ↓x_iload_n, ↓x_iload, ↓x_aload_n, ↓x_aload, ↓x_istore_n, ↓x_istore, ↓x_astore_n, ↓x_astore, ↓x_iinc, ↓x_iadd, ↓x_isub, ↓x_imul, ↓x_iand, ↓x_idiv, ↓x_ineg, ↓x_i2c, ↓x_dupI, ↓x_dupA, ↓x_dup2, ↓x_goto, ↓x_get, ↓x_put, ↓x_gets, ↓x_iald, ↓x_bald, ↓x_cald, ↓x_aald, ↓x_iast, ↓x_bast, ↓x_cast, ↓x_aast, ↓x_alen, ↓x_iret, ↓x_vret, ↓x_nil, ↓x_jmp, ↓x_ldI0, ↓x_ldIs, ↓x_ldA0, ↓x_ldAs, ↓x_icmpT, ↓x_icmpF, ↓x_ifT, ↓x_ifF, x_iconst, x_bipush, x_sipush, x_ldc, x_iload_n, x_iload, x_aload_n, x_aload, x_istore_n, x_istore, x_astore_n, x_astore, x_iinc, x_iadd, x_isub, x_imul, x_iand, x_idiv, x_ineg, x_i2c, x_dupI, x_dupA, x_dup2, x_goto, x_if, x_icmp, x_get, x_put, x_gets, x_iald, x_bald, x_cald, x_aald, x_iast, x_bast, x_cast, x_aast, x_alen, x_iret, x_vret, x_nil, x_jmp, x_ldI0, x_ldIs, x_ldA0, x_ldAs, x_cad, x_cad2, x_fv0, x_fv1, x_fv2, x_fv3, cnd, fI, L0, c1, nL0, nL1, nL2, nL3, nL4, nL5, nL6, nL7, nL8, nL9, nL10, nL11, nL12, List.map_cons, List.map_nil, List.length_cons, List.length_nil, List.cons_append, List.nil_append, List.replicate_succ, List.replicate_zero, List.set_cons_zero, List.set_cons_succ, List.mem_cons, List.not_mem_nil, or_false, false_or, Option.toList_some, Option.toList_none, ↓reduceIte, if_true, if_false, Nat.reduceAdd, Nat.reduceSub, Nat.reduceEqDiff, Nat.reduceLT, Nat.reduceLeDiff, Int.reduceNatCast, Int.reduceNatCast', Int.reduceAdd, Int.reduceNeg, Int.reduceToNat, Int.reduceLE, Int.reduceLT, Int.reduceEq, Nat.zero_add, Nat.add_zero, and_true, true_and, ne_eq, not_false_eq_true, not_true_eq_false, and_self, implies_true, Bool.false_eq_true, Nat.reduceBEq, Int32.reduceOfInt, Int32.reduceAdd, Int32.reduceSub, Int32.reduceMul, Int32.reduceLE, Int32.reduceLT, Int32.reduceToNatClampNeg, Option.some.injEq, exists_eq_left, exists_eq_left', Option.isSome_some, Option.getD_some, vp_nar_int, pbi, eq_self, forall_const, false_implies, true_implies, false_and, and_false, uD_s, uG_s, uD_o, ad_nw, ad_wn, ad_ns, ad_sn, ad_ss, ad_ww, ad_sw, ad_ws, Int32.reduceToInt, Classical.not_not, d1n, d2n, d3n, d4n, d5n, d6n, d10n, inr, nL17, nL20, nL21, nL30, nL100, nL462, nL773, nL4638, bp6, bp7, bp8, bp9, bp10, bp11, bp12, bp13, bp14, bp15, bp16, bp17, bp20, bp21, bp29, bp30, bp31, bp33, bp45, bp48, bp49, bp50, bp57, bp59, bp97, bp99, bp100, bp102, spm1000, sp137, sp255, sp257, sp300, sp400, sp462, sp771, sp772, sp773, sp999, sp3865, sp4638, bX6_cutOf_0, bX6_cutOf_8, bX6_cutOf_33, bX6_cutOf_40, bX6_cutOf_49, bX6_cutOf_65, bX6_cutOf_71, t_X6_of, ↓x_inv3 naX6_43, x_inv3 naX6_43, rcX6_43, kcX6_38, kcX6_76, kcX6_77, kcX6_78, k0, g0, g1, g2, g4, g8, g9, g10, g11, g12, k1, k2, k3, k4, k5, k6, k7, k8, k9]
    refine ⟨n, n, Nat.le_refl _, ?_, rfl⟩
    have e1 : mxI 0 (c - sumI (yS D a 1) (nI (q + n + 1)) (nI (q + (n + 1)))) = c := by
      rw [show q + n + 1 = q + (n + 1) by omega, sumN_0 (by omega), Int32.sub_zero, mx_alt, if_neg (Int32.not_lt.mpr b4)]
    have e2 : nI (q + (n + 1)) - 1 = nI (q + n) := nI_pred (q + n)
    rw [e1, e2]
  · rintro k pc hpc LL st G' D' ⟨i, hi, rfl, rfl, rfl, rfl, rfl⟩
    obtain rfl := List.mem_singleton.mp hpc
    have z1 : 0 ≤ nI (q + k) := nI_pos' (by omega)
    have z2 : nI (q + k) ≤ 20 := (nI_leI (b := 20) (by omega) (by decide)).mpr (by omega)
    have z3 : nI q ≤ 20 := (nI_leI (b := 20) (by omega) (by decide)).mpr (by omega)
    obtain ⟨s1, s2⟩ := sb (n - k) (q + k + 1) (by omega)
    rw [show q + k + 1 + (n - k) = q + (n + 1) by omega] at s1 s2
    rcases Nat.eq_zero_or_pos k with h | h
    · subst h
      have c1' : nI q ≤ nI q := Int32.le_refl _
      simp only [↓x_iconst, ↓x_bipush, ↓x_sipush, ↓x_ldc, ↓x_iload_n, ↓x_iload, ↓x_aload_n, ↓x_aload, ↓x_istore_n, ↓x_istore, ↓x_astore_n, ↓x_astore, ↓x_iinc, ↓x_iadd, ↓x_isub, ↓x_imul, ↓x_iand, ↓x_idiv, ↓x_ineg, ↓x_i2c, ↓x_dupI, ↓x_dupA, ↓x_dup2, ↓x_goto, ↓x_get, ↓x_put, ↓x_gets, ↓x_iald, ↓x_bald, ↓x_cald, ↓x_aald, ↓x_iast, ↓x_bast, ↓x_cast, ↓x_aast, ↓x_alen, ↓x_iret, ↓x_vret, ↓x_nil, ↓x_jmp, ↓x_ldI0, ↓x_ldIs, ↓x_ldA0, ↓x_ldAs, ↓x_icmpT, ↓x_icmpF, ↓x_ifT, ↓x_ifF, x_iconst, x_bipush, x_sipush, x_ldc, x_iload_n, x_iload, x_aload_n, x_aload, x_istore_n, x_istore, x_astore_n, x_astore, x_iinc, x_iadd, x_isub, x_imul, x_iand, x_idiv, x_ineg, x_i2c, x_dupI, x_dupA, x_dup2, x_goto, x_if, x_icmp, x_get, x_put, x_gets, x_iald, x_bald, x_cald, x_aald, x_iast, x_bast, x_cast, x_aast, x_alen, x_iret, x_vret, x_nil, x_jmp, x_ldI0, x_ldIs, x_ldA0, x_ldAs, x_cad, x_cad2, x_fv0, x_fv1, x_fv2, x_fv3, cnd, fI, L0, c1, nL0, nL1, nL2, nL3, nL4, nL5, nL6, nL7, nL8, nL9, nL10, nL11, nL12, List.map_cons, List.map_nil, List.length_cons, List.length_nil, List.cons_append, List.nil_append, List.replicate_succ, List.replicate_zero, List.set_cons_zero, List.set_cons_succ, List.mem_cons, List.not_mem_nil, or_false, false_or, Option.toList_some, Option.toList_none, ↓reduceIte, if_true, if_false, Nat.reduceAdd, Nat.reduceSub, Nat.reduceEqDiff, Nat.reduceLT, Nat.reduceLeDiff, Int.reduceNatCast, Int.reduceNatCast', Int.reduceAdd, Int.reduceNeg, Int.reduceToNat, Int.reduceLE, Int.reduceLT, Int.reduceEq, Nat.zero_add, Nat.add_zero, and_true, true_and, ne_eq, not_false_eq_true, not_true_eq_false, and_self, implies_true, Bool.false_eq_true, Nat.reduceBEq, Int32.reduceOfInt, Int32.reduceAdd, Int32.reduceSub, Int32.reduceMul, Int32.reduceLE, Int32.reduceLT, Int32.reduceToNatClampNeg, Option.some.injEq, exists_eq_left, exists_eq_left', Option.isSome_some, Option.getD_some, vp_nar_int, pbi, eq_self, forall_const, false_implies, true_implies, false_and, and_false, uD_s, uG_s, uD_o, ad_nw, ad_wn, ad_ns, ad_sn, ad_ss, ad_ww, ad_sw, ad_ws, Int32.reduceToInt, Classical.not_not, d1n, d2n, d3n, d4n, d5n, d6n, d10n, inr, nL17, nL20, nL21, nL30, nL100, nL462, nL773, nL4638, bp6, bp7, bp8, bp9, bp10, bp11, bp12, bp13, bp14, bp15, bp16, bp17, bp20, bp21, bp29, bp30, bp31, bp33, bp45, bp48, bp49, bp50, bp57, bp59, bp97, bp99, bp100, bp102, spm1000, sp137, sp255, sp257, sp300, sp400, sp462, sp771, sp772, sp773, sp999, sp3865, sp4638, bX6_cutOf_0, bX6_cutOf_8, bX6_cutOf_33, bX6_cutOf_40, bX6_cutOf_49, bX6_cutOf_65, bX6_cutOf_71, t_X6_of, ↓x_inv3 naX6_43, x_inv3 naX6_43, rcX6_43, kcX6_38, kcX6_76, kcX6_77, kcX6_78, k0, g0, g1, g2, g4, g8, g9, g10, g11, g12, k1, k2, k3, k4, k5, k6, k7, k8, k9, hM, c1', b1, z3]
      unfold cutF mnI at hQ
      rw [nI_1] at hQ
      rw [Nat.add_zero]
      generalize mxI 0 (c - sumI (yS D' a 1) (nI (q + 1)) (nI (q + (n + 1)))) = lf at *
      refine ⟨fun h => ?_, fun h => ?_⟩
      · by_cases h2 : yS D' a 1 (nI q) < lf
        · rw [if_pos h2] at hQ
          exact hQ
        · rw [if_neg h2] at hQ
          rw [Int32.le_antisymm h (Int32.not_lt.mp h2)]
          exact hQ
      · rw [if_neg (fun h2 => h (Int32.le_of_lt h2))] at hQ
        exact hQ
    · obtain ⟨i, rfl⟩ : ∃ i, k = i + 1 := ⟨k - 1, by omega⟩
      have c1' : ¬ nI (q + (i + 1)) ≤ nI q := Int32.not_le.mpr ((nI_ltI (by omega) (by omega)).mpr (by omega))
      have bb := (hB.at (i := q + (i + 1)) (by omega)).2.1
      have key := cut_st (x := c - sumI (yS D' a 1) (nI (q + (i + 1) + 1)) (nI (q + (n + 1)))) (s := yS D' a 1 (nI (q + (i + 1)))) (by rw [a_sub (by omega)]; omega) (by rw [a_sub (by omega)]; omega) bb.1 bb.2
      have key2 : c - sumI (yS D' a 1) (nI (q + (i + 1) + 1)) (nI (q + (n + 1))) - yS D' a 1 (nI (q + (i + 1))) = c - sumI (yS D' a 1) (nI (q + i + 1)) (nI (q + (n + 1))) := by
        obtain ⟨n', rfl⟩ : ∃ n', n = i + 1 + n' := ⟨n - (i + 1), by omega⟩
        have := sumN_s (g := yS D' a 1) (F := q + (i + 1)) (n := n') (by omega)
        rw [show q + (i + 1) + (n' + 1) = q + (i + 1 + n' + 1) by omega] at this
        rw [show q + i + 1 = q + (i + 1) by omega, this, cut_sum]
      rw [key2] at key
      have e2 : nI (q + (i + 1)) + -1 = nI (q + i) := by rw [i_m1]; exact nI_pred (q + i)
      simp only [↓x_iconst, ↓x_bipush, ↓x_sipush, ↓x_ldc, ↓x_iload_n, ↓x_iload, ↓x_aload_n, ↓x_aload, ↓x_istore_n, ↓x_istore, ↓x_astore_n, ↓x_astore, ↓x_iinc, ↓x_iadd, ↓x_isub, ↓x_imul, ↓x_iand, ↓x_idiv, ↓x_ineg, ↓x_i2c, ↓x_dupI, ↓x_dupA, ↓x_dup2, ↓x_goto, ↓x_get, ↓x_put, ↓x_gets, ↓x_iald, ↓x_bald, ↓x_cald, ↓x_aald, ↓x_iast, ↓x_bast, ↓x_cast, ↓x_aast, ↓x_alen, ↓x_iret, ↓x_vret, ↓x_nil, ↓x_jmp, ↓x_ldI0, ↓x_ldIs, ↓x_ldA0, ↓x_ldAs, ↓x_icmpT, ↓x_icmpF, ↓x_ifT, ↓x_ifF, x_iconst, x_bipush, x_sipush, x_ldc, x_iload_n, x_iload, x_aload_n, x_aload, x_istore_n, x_istore, x_astore_n, x_astore, x_iinc, x_iadd, x_isub, x_imul, x_iand, x_idiv, x_ineg, x_i2c, x_dupI, x_dupA, x_dup2, x_goto, x_if, x_icmp, x_get, x_put, x_gets, x_iald, x_bald, x_cald, x_aald, x_iast, x_bast, x_cast, x_aast, x_alen, x_iret, x_vret, x_nil, x_jmp, x_ldI0, x_ldIs, x_ldA0, x_ldAs, x_cad, x_cad2, x_fv0, x_fv1, x_fv2, x_fv3, cnd, fI, L0, c1, nL0, nL1, nL2, nL3, nL4, nL5, nL6, nL7, nL8, nL9, nL10, nL11, nL12, List.map_cons, List.map_nil, List.length_cons, List.length_nil, List.cons_append, List.nil_append, List.replicate_succ, List.replicate_zero, List.set_cons_zero, List.set_cons_succ, List.mem_cons, List.not_mem_nil, or_false, false_or, Option.toList_some, Option.toList_none, ↓reduceIte, if_true, if_false, Nat.reduceAdd, Nat.reduceSub, Nat.reduceEqDiff, Nat.reduceLT, Nat.reduceLeDiff, Int.reduceNatCast, Int.reduceNatCast', Int.reduceAdd, Int.reduceNeg, Int.reduceToNat, Int.reduceLE, Int.reduceLT, Int.reduceEq, Nat.zero_add, Nat.add_zero, and_true, true_and, ne_eq, not_false_eq_true, not_true_eq_false, and_self, implies_true, Bool.false_eq_true, Nat.reduceBEq, Int32.reduceOfInt, Int32.reduceAdd, Int32.reduceSub, Int32.reduceMul, Int32.reduceLE, Int32.reduceLT, Int32.reduceToNatClampNeg, Option.some.injEq, exists_eq_left, exists_eq_left', Option.isSome_some, Option.getD_some, vp_nar_int, pbi, eq_self, forall_const, false_implies, true_implies, false_and, and_false, uD_s, uG_s, uD_o, ad_nw, ad_wn, ad_ns, ad_sn, ad_ss, ad_ww, ad_sw, ad_ws, Int32.reduceToInt, Classical.not_not, d1n, d2n, d3n, d4n, d5n, d6n, d10n, inr, nL17, nL20, nL21, nL30, nL100, nL462, nL773, nL4638, bp6, bp7, bp8, bp9, bp10, bp11, bp12, bp13, bp14, bp15, bp16, bp17, bp20, bp21, bp29, bp30, bp31, bp33, bp45, bp48, bp49, bp50, bp57, bp59, bp97, bp99, bp100, bp102, spm1000, sp137, sp255, sp257, sp300, sp400, sp462, sp771, sp772, sp773, sp999, sp3865, sp4638, bX6_cutOf_0, bX6_cutOf_8, bX6_cutOf_33, bX6_cutOf_40, bX6_cutOf_49, bX6_cutOf_65, bX6_cutOf_71, t_X6_of, ↓x_inv3 naX6_43, x_inv3 naX6_43, rcX6_43, kcX6_38, kcX6_76, kcX6_77, kcX6_78, k0, g0, g1, g2, g4, g8, g9, g10, g11, g12, k1, k2, k3, k4, k5, k6, k7, k8, k9, hM, c1', z1, z2]
      generalize mxI 0 (c - sumI (yS D' a 1) (nI (q + (i + 1) + 1)) (nI (q + (n + 1)))) = lf at *
      generalize yS D' a 1 (nI (q + (i + 1))) = sk at *
      refine ⟨fun h => ⟨_, Nat.lt_succ_self i, i, by omega, ?_, rfl⟩, fun h => ⟨_, Nat.lt_succ_self i, i, by omega, ?_, rfl⟩⟩
      · rw [if_neg (Int32.not_lt.mpr h)] at key
        rw [key, e2]
      · rw [if_pos (Int32.not_le.mp h)] at key
        rw [key, e2]
