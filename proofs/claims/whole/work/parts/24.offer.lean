theorem tb_FG {p : Nat} {r q : Int32} (h : r.toNatClampNeg < 22) : (tF p r = tG p q) = False := eq_false (by unfold tF tG; omega)
theorem tb_GF {p : Nat} {r q : Int32} (h : r.toNatClampNeg < 22) : (tG p q = tF p r) = False := eq_false (by unfold tF tG; omega)
theorem q_d {Q : QT} {G : GT} {D D' : DT} (h : Q none G D) (e : D' = D) : Q none G D' := e ▸ h
abbrev ofU (D : DT) (p : Nat) (r f m t : Int32) : DT := uD (uD (uD D (tF p r) f (D (tF p (r + 1)) (f + m) + 1)) (tG p r) f (D (tG p (r + 1)) (f + m) + t)) (tC p r) f m
def ofD (D : DT) (p : Nat) (r f m t : Int32) : DT :=
  if D (tP p r) f = 0 then ofU D p r f m t else if D (tF p (r + 1)) (f + m) + 1 < D (tF p r) f then ofU D p r f m t else if D (tF p (r + 1)) (f + m) + 1 = D (tF p r) f then (if D (tG p (r + 1)) (f + m) + t ≤ D (tG p r) f then D else ofU D p r f m t) else D
def t_X3_offer : TR := fun K _ _ As G D Q => match As with
  | [.ref p, .int r, .int f, .int m, .int t] => Tab K G p ∧ (0 ≤ r ∧ r < 20 ∧ 0 ≤ f ∧ f < 21 ∧ 0 ≤ f + m ∧ f + m < 21) ∧ Q none G (ofD D p r f m t)
  | _ => False
set_option maxRecDepth 100000 in
set_option maxHeartbeats 4000000 in
theorem s_X3_offer (l : Launch) : Sat l yX3_offer cX3_offer 7 none 0 t_X3_offer := by
  refine satb (own := RX3) (fl := flX3) (sg := sgX3) (kc := kcX3) (na := naX3) (rc := rcX3) (cv := cNone) (cs := cNone) (bl := bX3_offer) (by decide +kernel) rfl envX3 bokX3_offer cvNone csNone ?_
  intro L K R0 sa hPp As G D Q htr
  unfold t_X3_offer at htr
  split at htr
  case h_2 => exact htr.elim
  rename_i p r f m t
  obtain ⟨hT, ⟨b1, b2, b3, b4, b5, b6⟩, hQ⟩ := htr
  obtain ⟨⟨k0, g0, g1, g2, g3⟩, ⟨k1, k2, k3, k4⟩, ⟨r1, r2, r3, r4⟩, s1, s2, s3, s4⟩ := id hT
  have b7 : r < 21 := Int32.lt_trans b2 (by decide)
  have b8 : 0 ≤ r + 1 ∧ r + 1 < 21 := by
    clear r1 r2 r3 r4 s1 s2 s3 s4 hQ
    (simp only [i_lt, i_le, i_eq, i_cl, Int32.reduceToInt, ne_eq] at * <;> (first | omega | (simp (disch := (first | omega | (simp (disch := (first | omega | (simp (disch := (first | omega | (simp only [Int32.reduceToInt]; omega))) only [a_add, a_sub, a_mul, a_neg, i_lt, i_le, i_eq, i_cl, Int32.reduceToInt, Int32.reduceToNatClampNeg]; omega))) only [a_add, a_sub, a_mul, a_neg, i_lt, i_le, i_eq, i_cl, Int32.reduceToInt, Int32.reduceToNatClampNeg]; omega))) only [a_add, a_sub, a_mul, a_neg, i_lt, i_le, i_eq, i_cl, Int32.reduceToInt, Int32.reduceToNatClampNeg] at * <;> (first | omega | (simp (disch := (first | omega | (simp (disch := (first | omega | (simp (disch := (first | omega | (simp only [Int32.reduceToInt]; omega))) only [a_add, a_sub, a_mul, a_neg, i_lt, i_le, i_eq, i_cl, Int32.reduceToInt, Int32.reduceToNatClampNeg]; omega))) only [a_add, a_sub, a_mul, a_neg, i_lt, i_le, i_eq, i_cl, Int32.reduceToInt, Int32.reduceToNatClampNeg]; omega))) only [a_add, a_sub, a_mul, a_neg, i_lt, i_le, i_eq, i_cl, Int32.reduceToInt, Int32.reduceToNatClampNeg] at * <;> omega)))))
  obtain ⟨b8, b9⟩ := b8
  refine ⟨by simp, by simp [cat1], [], noI, 10, 0, ?_, nohd⟩
  simp only [↓x_iconst, ↓x_bipush, ↓x_sipush, ↓x_ldc, ↓x_iload_n, ↓x_iload, ↓x_aload_n, ↓x_aload, ↓x_istore_n, ↓x_istore, ↓x_astore_n, ↓x_astore, ↓x_iinc, ↓x_iadd, ↓x_isub, ↓x_imul, ↓x_iand, ↓x_idiv, ↓x_ineg, ↓x_i2c, ↓x_dupI, ↓x_dupA, ↓x_dup2, ↓x_goto, ↓x_get, ↓x_put, ↓x_gets, ↓x_iald, ↓x_bald, ↓x_cald, ↓x_aald, ↓x_iast, ↓x_bast, ↓x_cast, ↓x_aast, ↓x_alen, ↓x_iret, ↓x_vret, ↓x_nil, ↓x_jmp, ↓x_ldI0, ↓x_ldIs, ↓x_ldA0, ↓x_ldAs, ↓x_icmpT, ↓x_icmpF, ↓x_ifT, ↓x_ifF, x_iconst, x_bipush, x_sipush, x_ldc, x_iload_n, x_iload, x_aload_n, x_aload, x_istore_n, x_istore, x_astore_n, x_astore, x_iinc, x_iadd, x_isub, x_imul, x_iand, x_idiv, x_ineg, x_i2c, x_dupI, x_dupA, x_dup2, x_goto, x_if, x_icmp, x_get, x_put, x_gets, x_iald, x_bald, x_cald, x_aald, x_iast, x_bast, x_cast, x_aast, x_alen, x_iret, x_vret, x_nil, x_jmp, x_ldI0, x_ldIs, x_ldA0, x_ldAs, x_cad, x_cad2, x_fv0, x_fv1, x_fv2, x_fv3, cnd, fI, L0, c1, nL0, nL1, nL2, nL3, nL4, nL5, nL6, nL7, nL8, nL9, nL10, nL11, nL12, List.map_cons, List.map_nil, List.length_cons, List.length_nil, List.cons_append, List.nil_append, List.replicate_succ, List.replicate_zero, List.set_cons_zero, List.set_cons_succ, List.mem_cons, List.not_mem_nil, or_false, false_or, Option.toList_some, Option.toList_none, ↓reduceIte, if_true, if_false, Nat.reduceAdd, Nat.reduceSub, Nat.reduceEqDiff, Nat.reduceLT, Nat.reduceLeDiff, Int.reduceNatCast, Int.reduceNatCast', Int.reduceAdd, Int.reduceNeg, Int.reduceToNat, Int.reduceLE, Int.reduceLT, Int.reduceEq, Nat.zero_add, Nat.add_zero, and_true, true_and, ne_eq, not_false_eq_true, not_true_eq_false, and_self, implies_true, Bool.false_eq_true, Nat.reduceBEq, Int32.reduceOfInt, Int32.reduceAdd, Int32.reduceSub, Int32.reduceMul, Int32.reduceLE, Int32.reduceLT, Int32.reduceToNatClampNeg, Option.some.injEq, exists_eq_left, exists_eq_left', Option.isSome_some, Option.getD_some, vp_nar_int, pbi, eq_self, forall_const, false_implies, true_implies, false_and, and_false, uD_s, uG_s, uD_o, ad_nw, ad_wn, ad_ns, ad_sn, ad_ss, ad_ww, ad_sw, ad_ws, Int32.reduceToInt, Classical.not_not, d1n, d2n, d3n, d4n, d5n, d6n, d10n, inr, nL17, nL20, nL21, nL30, nL100, nL462, nL773, nL4638, bp6, bp7, bp8, bp9, bp10, bp11, bp12, bp13, bp14, bp15, bp16, bp17, bp20, bp21, bp29, bp30, bp31, bp33, bp45, bp48, bp49, bp50, bp57, bp59, bp97, bp99, bp100, bp102, spm1000, sp137, sp255, sp257, sp300, sp400, sp462, sp771, sp772, sp773, sp999, sp3865, sp4638, bX3_offer_0, bX3_offer_83, bX3_offer_112, eX3_11, eX3_16, eX3_19, eX3_22, k0, g0, g1, g2, g3, k1, k2, k3, k4, r1, r2, r3, r4, s1, s2, s3, s4, b1, b3, b4, b5, b6, b7, b8, b9]
  clear r1 r2 r3 r4 s1 s2 s3 s4
  repeat' (first | (refine And.intro ?_ ?_) | (intro _))
  all_goals (refine q_d hQ ?_; unfold ofD)
  all_goals first
    | (rw [if_pos ‹D (tP p r) f = 0›])
    | (rw [if_neg ‹¬ D (tP p r) f = 0›, if_pos ‹D (tF p (r + 1)) (f + m) + 1 < D (tF p r) f›])
    | (rw [if_neg ‹¬ D (tP p r) f = 0›, if_neg ‹¬ D (tF p (r + 1)) (f + m) + 1 < D (tF p r) f›, if_neg ‹¬ D (tF p (r + 1)) (f + m) + 1 = D (tF p r) f›])
    | (rw [if_neg ‹¬ D (tP p r) f = 0›, if_neg ‹¬ D (tF p (r + 1)) (f + m) + 1 < D (tF p r) f›, if_pos ‹D (tF p (r + 1)) (f + m) + 1 = D (tF p r) f›, if_pos ‹D (tG p (r + 1)) (f + m) + t ≤ D (tG p r) f›])
    | (rw [if_neg ‹¬ D (tP p r) f = 0›, if_neg ‹¬ D (tF p (r + 1)) (f + m) + 1 < D (tF p r) f›, if_pos ‹D (tF p (r + 1)) (f + m) + 1 = D (tF p r) f›, if_neg ‹¬ D (tG p (r + 1)) (f + m) + t ≤ D (tG p r) f›])
