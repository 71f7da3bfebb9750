/-! ### the text's cells -/
def tc (t : Nat) : Nat := t + 1
def tO (t : Nat) : Nat := t + 2
def tr (t : Nat) (r : Int32) : Nat := t + 3 + r.toNatClampNeg
def Txt (K : KT) (G : GT) (t : Nat) : Prop := (K t = (4, 0) ∧ G t 0 = some (tc t) ∧ G t 1 = some (tO t)) ∧ (K (tc t) = (10, 100) ∧ K (tO t) = (13, 4)) ∧ (∀ r : Int32, 0 ≤ r ∧ r < 4 → G (tO t) r = some (tr t r)) ∧ ∀ r : Int32, 0 ≤ r ∧ r < 4 → K (tr t r) = (10, 20)
/-- the character at a place, 0 behind the end -/
def chF (c : Int32 → Int32) (len a : Int32) : Int32 := if len ≤ a then 0 else c a
def t_X4_character : TR := fun K _ _ As G D Q => match As with
  | [.ref t] => Txt K G t ∧ (0 ≤ D t 4 ∧ D t 2 ≤ 100) ∧ Q (some (.int (chF (D (tc t)) (D t 2) (D t 4)))) G D
  | _ => False
set_option maxRecDepth 100000 in
set_option maxHeartbeats 4000000 in
theorem s_X4_character (l : Launch) : Sat l yX4_character cX4_character 1 (some .int) 0 t_X4_character := by
  refine satb (own := RX4) (fl := flX4) (sg := sgX4) (kc := kcX4) (na := naX4) (rc := rcX4) (cv := cNone) (cs := cNone) (bl := bX4_character) (by decide +kernel) rfl envX4 bokX4_character cvNone csNone ?_
  intro L K R0 sa hPp As G D Q htr
  unfold t_X4_character at htr
  split at htr
  case h_2 => exact htr.elim
  rename_i t
  obtain ⟨hT, ⟨b1, b2⟩, hQ⟩ := htr
  obtain ⟨⟨k0, g0, g1⟩, ⟨k1, k2⟩, hs1, hs2⟩ := id hT
  refine ⟨by simp, by simp [cat1], [], noI, 16, 0, ?_, nohd⟩
  by_cases h : D t 2 ≤ D t 4
  · simp only [↓x_iconst, ↓x_bipush, ↓x_sipush, ↓x_ldc, ↓x_iload_n, ↓x_iload, ↓x_aload_n, ↓x_aload, ↓x_istore_n, ↓x_istore, ↓x_astore_n, ↓x_astore, ↓x_iinc, ↓x_iadd, ↓x_isub, ↓x_imul, ↓x_iand, ↓x_idiv, ↓x_ineg, ↓x_i2c, ↓x_dupI, ↓x_dupA, ↓x_dup2, ↓x_goto, ↓x_get, ↓x_put, ↓x_gets, ↓x_iald, ↓x_bald, ↓x_cald, ↓x_aald, ↓x_iast, ↓x_bast, ↓x_cast, ↓x_aast, ↓x_alen, ↓x_iret, ↓x_vret, ↓x_nil, ↓x_jmp, ↓x_ldI0, ↓x_ldIs, ↓x_ldA0, ↓x_ldAs, ↓x_icmpT, ↓x_icmpF, ↓x_ifT, ↓x_ifF, x_iconst, x_bipush, x_sipush, x_ldc, x_iload_n, x_iload, x_aload_n, x_aload, x_istore_n, x_istore, x_astore_n, x_astore, x_iinc, x_iadd, x_isub, x_imul, x_iand, x_idiv, x_ineg, x_i2c, x_dupI, x_dupA, x_dup2, x_goto, x_if, x_icmp, x_get, x_put, x_gets, x_iald, x_bald, x_cald, x_aald, x_iast, x_bast, x_cast, x_aast, x_alen, x_iret, x_vret, x_nil, x_jmp, x_ldI0, x_ldIs, x_ldA0, x_ldAs, x_cad, x_cad2, x_fv0, x_fv1, x_fv2, x_fv3, cnd, fI, L0, c1, nL0, nL1, nL2, nL3, nL4, nL5, nL6, nL7, nL8, nL9, nL10, nL11, nL12, List.map_cons, List.map_nil, List.length_cons, List.length_nil, List.cons_append, List.nil_append, List.replicate_succ, List.replicate_zero, List.set_cons_zero, List.set_cons_succ, List.mem_cons, List.not_mem_nil, or_false, false_or, Option.toList_some, Option.toList_none, ↓reduceIte, if_true, if_false, Nat.reduceAdd, Nat.reduceSub, Nat.reduceEqDiff, Nat.reduceLT, Nat.reduceLeDiff, Int.reduceNatCast, Int.reduceNatCast', Int.reduceAdd, Int.reduceNeg, Int.reduceToNat, Int.reduceLE, Int.reduceLT, Int.reduceEq, Nat.zero_add, Nat.add_zero, and_true, true_and, ne_eq, not_false_eq_true, not_true_eq_false, and_self, implies_true, Bool.false_eq_true, Nat.reduceBEq, Int32.reduceOfInt, Int32.reduceAdd, Int32.reduceSub, Int32.reduceMul, Int32.reduceLE, Int32.reduceLT, Int32.reduceToNatClampNeg, Option.some.injEq, exists_eq_left, exists_eq_left', Option.isSome_some, Option.getD_some, vp_nar_int, pbi, eq_self, forall_const, false_implies, true_implies, false_and, and_false, uD_s, uG_s, uD_o, ad_nw, ad_wn, ad_ns, ad_sn, ad_ss, ad_ww, ad_sw, ad_ws, Int32.reduceToInt, Classical.not_not, d2n, d10n, inr, nL17, nL20, nL21, nL30, nL100, nL462, nL773, nL4638, bp6, bp7, bp8, bp9, bp10, bp11, bp12, bp13, bp14, bp15, bp16, bp17, bp20, bp21, bp29, bp30, bp31, bp33, bp45, bp48, bp49, bp50, bp57, bp59, bp97, bp99, bp100, bp102, spm1000, sp137, sp255, sp257, sp300, sp400, sp462, sp771, sp772, sp773, sp999, sp3865, sp4638, bX4_character_0, bX4_character_23, bX4_character_24, eX4_9, eX4_20, eX4_27, kcX4_34, k0, g0, g1, k1, k2, h]
    refine q_int hQ ?_
    simp only [chF, h, if_true]
  · have b3 : D t 4 < 100 := Int32.lt_of_lt_of_le (Int32.not_le.mp h) b2
    simp only [↓x_iconst, ↓x_bipush, ↓x_sipush, ↓x_ldc, ↓x_iload_n, ↓x_iload, ↓x_aload_n, ↓x_aload, ↓x_istore_n, ↓x_istore, ↓x_astore_n, ↓x_astore, ↓x_iinc, ↓x_iadd, ↓x_isub, ↓x_imul, ↓x_iand, ↓x_idiv, ↓x_ineg, ↓x_i2c, ↓x_dupI, ↓x_dupA, ↓x_dup2, ↓x_goto, ↓x_get, ↓x_put, ↓x_gets, ↓x_iald, ↓x_bald, ↓x_cald, ↓x_aald, ↓x_iast, ↓x_bast, ↓x_cast, ↓x_aast, ↓x_alen, ↓x_iret, ↓x_vret, ↓x_nil, ↓x_jmp, ↓x_ldI0, ↓x_ldIs, ↓x_ldA0, ↓x_ldAs, ↓x_icmpT, ↓x_icmpF, ↓x_ifT, ↓x_ifF, x_iconst, x_bipush, x_sipush, x_ldc, x_iload_n, x_iload, x_aload_n, x_aload, x_istore_n, x_istore, x_astore_n, x_astore, x_iinc, x_iadd, x_isub, x_imul, x_iand, x_idiv, x_ineg, x_i2c, x_dupI, x_dupA, x_dup2, x_goto, x_if, x_icmp, x_get, x_put, x_gets, x_iald, x_bald, x_cald, x_aald, x_iast, x_bast, x_cast, x_aast, x_alen, x_iret, x_vret, x_nil, x_jmp, x_ldI0, x_ldIs, x_ldA0, x_ldAs, x_cad, x_cad2, x_fv0, x_fv1, x_fv2, x_fv3, cnd, fI, L0, c1, nL0, nL1, nL2, nL3, nL4, nL5, nL6, nL7, nL8, nL9, nL10, nL11, nL12, List.map_cons, List.map_nil, List.length_cons, List.length_nil, List.cons_append, List.nil_append, List.replicate_succ, List.replicate_zero, List.set_cons_zero, List.set_cons_succ, List.mem_cons, List.not_mem_nil, or_false, false_or, Option.toList_some, Option.toList_none, ↓reduceIte, if_true, if_false, Nat.reduceAdd, Nat.reduceSub, Nat.reduceEqDiff, Nat.reduceLT, Nat.reduceLeDiff, Int.reduceNatCast, Int.reduceNatCast', Int.reduceAdd, Int.reduceNeg, Int.reduceToNat, Int.reduceLE, Int.reduceLT, Int.reduceEq, Nat.zero_add, Nat.add_zero, and_true, true_and, ne_eq, not_false_eq_true, not_true_eq_false, and_self, implies_true, Bool.false_eq_true, Nat.reduceBEq, Int32.reduceOfInt, Int32.reduceAdd, Int32.reduceSub, Int32.reduceMul, Int32.reduceLE, Int32.reduceLT, Int32.reduceToNatClampNeg, Option.some.injEq, exists_eq_left, exists_eq_left', Option.isSome_some, Option.getD_some, vp_nar_int, pbi, eq_self, forall_const, false_implies, true_implies, false_and, and_false, uD_s, uG_s, uD_o, ad_nw, ad_wn, ad_ns, ad_sn, ad_ss, ad_ww, ad_sw, ad_ws, Int32.reduceToInt, Classical.not_not, d2n, d10n, inr, nL17, nL20, nL21, nL30, nL100, nL462, nL773, nL4638, bp6, bp7, bp8, bp9, bp10, bp11, bp12, bp13, bp14, bp15, bp16, bp17, bp20, bp21, bp29, bp30, bp31, bp33, bp45, bp48, bp49, bp50, bp57, bp59, bp97, bp99, bp100, bp102, spm1000, sp137, sp255, sp257, sp300, sp400, sp462, sp771, sp772, sp773, sp999, sp3865, sp4638, bX4_character_0, bX4_character_23, bX4_character_24, eX4_9, eX4_20, eX4_27, kcX4_34, k0, g0, g1, k1, k2, h, b1, b3]
    refine q_int hQ ?_
    simp only [chF, h, if_false]
theorem uD_uu {D : DT} {a : Nat} {i x y : Int32} : uD (uD D a i x) a i y = uD D a i y := by
  funext b j
  unfold uD
  split <;> rfl
theorem uD_id {D : DT} {a : Nat} {i : Int32} : uD D a i (D a i) = D := by
  funext b j
  unfold uD
  split
  · rename_i h
    rw [h.1, h.2]
  · rfl
theorem t_tc {t : Nat} : (tc t = t) = False := eq_false (by unfold tc; omega)
theorem t_tr {t : Nat} {r : Int32} : (tr t r = t) = False := eq_false (by unfold tr; omega)
theorem tr_t {t : Nat} {r : Int32} : (t = tr t r) = False := eq_false (by unfold tr; omega)
theorem tr_c {t : Nat} {r : Int32} : (tc t = tr t r) = False := eq_false (by unfold tr tc; omega)
theorem tr_tr {t : Nat} {r q : Int32} : (tr t r = tr t q) = (r.toNatClampNeg = q.toNatClampNeg) := propext (by unfold tr; omega)
/-- a number of one to three digits: its value, and where it ends -/
def numV (c : Int32 → Int32) (l a : Int32) : Int32 :=
  if chF c l a < 49 then 0 else if chF c l a ≤ 57 then (if chF c l (a + 1) < 48 then chF c l a - 48 else if chF c l (a + 1) ≤ 57 then (if chF c l (a + 1 + 1) < 48 then 10 * (chF c l a - 48) + chF c l (a + 1) - 48 else if chF c l (a + 1 + 1) ≤ 57 then 10 * (10 * (chF c l a - 48) + chF c l (a + 1) - 48) + chF c l (a + 1 + 1) - 48 else 10 * (chF c l a - 48) + chF c l (a + 1) - 48) else chF c l a - 48) else 0
def numE (c : Int32 → Int32) (l a : Int32) : Int32 :=
  if chF c l a < 49 then a else if chF c l a ≤ 57 then (if chF c l (a + 1) < 48 then a + 1 else if chF c l (a + 1) ≤ 57 then (if chF c l (a + 1 + 1) < 48 then a + 1 + 1 else if chF c l (a + 1 + 1) ≤ 57 then a + 1 + 1 + 1 else a + 1 + 1) else a + 1) else a
def t_X4_findNumber : TR := fun K _ _ As G D Q => match As with
  | [.ref t] => Txt K G t ∧ (0 ≤ D t 4 ∧ D t 4 ≤ 100 ∧ D t 2 ≤ 100) ∧ Q (some (.int (numV (D (tc t)) (D t 2) (D t 4)))) G (uD D t 4 (numE (D (tc t)) (D t 2) (D t 4)))
  | _ => False
set_option maxRecDepth 100000 in
set_option maxHeartbeats 4000000 in
theorem s_X4_findNumber (l : Launch) : Sat l yX4_findNumber cX4_findNumber 4 (some .int) 1 t_X4_findNumber := by
  refine satb (own := RX4) (fl := flX4) (sg := sgX4) (kc := kcX4) (na := naX4) (rc := rcX4) (cv := (cAdd 35 t_X4_character cNone)) (cs := cNone) (bl := bX4_findNumber) (by decide +kernel) rfl envX4 bokX4_findNumber (cvAdd (s_X4_character l) lkX4_35 rfl rfl (by decide) cvNone) csNone ?_
  intro L K R0 sa hPp As G D Q htr
  unfold t_X4_findNumber at htr
  split at htr
  case h_2 => exact htr.elim
  rename_i t
  obtain ⟨hT, ⟨b1, b2, b3⟩, hQ⟩ := htr
  obtain ⟨⟨k0, g0, g1⟩, ⟨k1, k2⟩, hs1, hs2⟩ := id hT
  have b4 : 0 ≤ D t 4 + 1 ∧ 0 ≤ D t 4 + 1 + 1 := by
    clear hs1 hs2 hQ
    (simp only [i_lt, i_le, i_eq, i_cl, Int32.reduceToInt, ne_eq] at * <;> (first | omega | (simp (disch := (first | omega | (simp (disch := (first | omega | (simp (disch := (first | omega | (simp only [Int32.reduceToInt]; omega))) only [a_add, a_sub, a_mul, a_neg, i_lt, i_le, i_eq, i_cl, Int32.reduceToInt, Int32.reduceToNatClampNeg]; omega))) only [a_add, a_sub, a_mul, a_neg, i_lt, i_le, i_eq, i_cl, Int32.reduceToInt, Int32.reduceToNatClampNeg]; omega))) only [a_add, a_sub, a_mul, a_neg, i_lt, i_le, i_eq, i_cl, Int32.reduceToInt, Int32.reduceToNatClampNeg] at * <;> (first | omega | (simp (disch := (first | omega | (simp (disch := (first | omega | (simp (disch := (first | omega | (simp only [Int32.reduceToInt]; omega))) only [a_add, a_sub, a_mul, a_neg, i_lt, i_le, i_eq, i_cl, Int32.reduceToInt, Int32.reduceToNatClampNeg]; omega))) only [a_add, a_sub, a_mul, a_neg, i_lt, i_le, i_eq, i_cl, Int32.reduceToInt, Int32.reduceToNatClampNeg]; omega))) only [a_add, a_sub, a_mul, a_neg, i_lt, i_le, i_eq, i_cl, Int32.reduceToInt, Int32.reduceToNatClampNeg] at * <;> omega)))))
  obtain ⟨b4, b5⟩ := b4
  refine ⟨by simp, by simp [cat1], [], noI, 14, 0, ?_, nohd⟩
  simp only [↓x_iconst, ↓x_bipush, ↓x_sipush, ↓x_ldc, ↓x_iload_n, ↓x_iload, ↓x_aload_n, ↓x_aload, ↓x_istore_n, ↓x_istore, ↓x_astore_n, ↓x_astore, ↓x_iinc, ↓x_iadd, ↓x_isub, ↓x_imul, ↓x_iand, ↓x_idiv, ↓x_ineg, ↓x_i2c, ↓x_dupI, ↓x_dupA, ↓x_dup2, ↓x_goto, ↓x_get, ↓x_put, ↓x_gets, ↓x_iald, ↓x_bald, ↓x_cald, ↓x_aald, ↓x_iast, ↓x_bast, ↓x_cast, ↓x_aast, ↓x_alen, ↓x_iret, ↓x_vret, ↓x_nil, ↓x_jmp, ↓x_ldI0, ↓x_ldIs, ↓x_ldA0, ↓x_ldAs, ↓x_icmpT, ↓x_icmpF, ↓x_ifT, ↓x_ifF, x_iconst, x_bipush, x_sipush, x_ldc, x_iload_n, x_iload, x_aload_n, x_aload, x_istore_n, x_istore, x_astore_n, x_astore, x_iinc, x_iadd, x_isub, x_imul, x_iand, x_idiv, x_ineg, x_i2c, x_dupI, x_dupA, x_dup2, x_goto, x_if, x_icmp, x_get, x_put, x_gets, x_iald, x_bald, x_cald, x_aald, x_iast, x_bast, x_cast, x_aast, x_alen, x_iret, x_vret, x_nil, x_jmp, x_ldI0, x_ldIs, x_ldA0, x_ldAs, x_cad, x_cad2, x_fv0, x_fv1, x_fv2, x_fv3, cnd, fI, L0, c1, nL0, nL1, nL2, nL3, nL4, nL5, nL6, nL7, nL8, nL9, nL10, nL11, nL12, List.map_cons, List.map_nil, List.length_cons, List.length_nil, List.cons_append, List.nil_append, List.replicate_succ, List.replicate_zero, List.set_cons_zero, List.set_cons_succ, List.mem_cons, List.not_mem_nil, or_false, false_or, Option.toList_some, Option.toList_none, ↓reduceIte, if_true, if_false, Nat.reduceAdd, Nat.reduceSub, Nat.reduceEqDiff, Nat.reduceLT, Nat.reduceLeDiff, Int.reduceNatCast, Int.reduceNatCast', Int.reduceAdd, Int.reduceNeg, Int.reduceToNat, Int.reduceLE, Int.reduceLT, Int.reduceEq, Nat.zero_add, Nat.add_zero, and_true, true_and, ne_eq, not_false_eq_true, not_true_eq_false, and_self, implies_true, Bool.false_eq_true, Nat.reduceBEq, Int32.reduceOfInt, Int32.reduceAdd, Int32.reduceSub, Int32.reduceMul, Int32.reduceLE, Int32.reduceLT, Int32.reduceToNatClampNeg, Option.some.injEq, exists_eq_left, exists_eq_left', Option.isSome_some, Option.getD_some, vp_nar_int, pbi, eq_self, forall_const, false_implies, true_implies, false_and, and_false, uD_s, uG_s, uD_o, ad_nw, ad_wn, ad_ns, ad_sn, ad_ss, ad_ww, ad_sw, ad_ws, Int32.reduceToInt, Classical.not_not, d2n, d10n, inr, nL17, nL20, nL21, nL30, nL100, nL462, nL773, nL4638, bp6, bp7, bp8, bp9, bp10, bp11, bp12, bp13, bp14, bp15, bp16, bp17, bp20, bp21, bp29, bp30, bp31, bp33, bp45, bp48, bp49, bp50, bp57, bp59, bp97, bp99, bp100, bp102, spm1000, sp137, sp255, sp257, sp300, sp400, sp462, sp771, sp772, sp773, sp999, sp3865, sp4638, bX4_findNumber_0, bX4_findNumber_4, bX4_findNumber_24, bX4_findNumber_26, bX4_findNumber_35, bX4_findNumber_37, bX4_findNumber_63, eX4_27, t_X4_character, ↓x_inv1 naX4_35, x_inv1 naX4_35, rcX4_35, kcX4_34, k0, g0, g1, k1, k2, hT, b1, b2, b3, b4, b5, t_tc, uD_uu]
  done
