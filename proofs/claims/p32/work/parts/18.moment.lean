/-! ### a moment's cells: the novel, the row of the slots, which are taken, the slots -/
def mv (m : Nat) : Nat := m + 1
def mS (m : Nat) : Nat := m + 15
def mt (m : Nat) : Nat := m + 16
def sl0 (m : Nat) : Nat := m + 17
def sl1 (m : Nat) : Nat := m + 31
def Mom (K : KT) (G : GT) (m : Nat) : Prop := (K m = (1, 0) ∧ G m 0 = some (mv m) ∧ G m 1 = some (mS m) ∧ G m 2 = some (mt m)) ∧ (K (mS m) = (15, 2) ∧ K (mt m) = (11, 2) ∧ G (mS m) 0 = some (sl0 m) ∧ G (mS m) 1 = some (sl1 m)) ∧ Nov K G (mv m) ∧ Nov K G (sl0 m) ∧ Nov K G (sl1 m)
def t_X1_snapshots : TR := fun K _ _ As G D Q => match As with
  | [.ref m] => Mom K G m ∧ Q (some (.int ((if D (mt m) 0 = 0 then 0 else 1) + (if D (mt m) 1 = 0 then 0 else 1)))) G D
  | _ => False
set_option maxRecDepth 100000 in
set_option maxHeartbeats 4000000 in
theorem s_X1_snapshots (l : Launch) : Sat l yX1_snapshots cX1_snapshots 3 (some .int) 0 t_X1_snapshots := by
  refine satb (own := RX1) (fl := flX1) (sg := sgX1) (kc := kcX1) (na := naX1) (rc := rcX1) (cv := cNone) (cs := cNone) (bl := bX1_snapshots) (by decide +kernel) rfl envX1 bokX1_snapshots cvNone csNone ?_
  intro L K R0 sa hPp As G D Q htr
  unfold t_X1_snapshots at htr
  split at htr
  case h_2 => exact htr.elim
  rename_i m
  obtain ⟨hM, hQ⟩ := htr
  obtain ⟨⟨k0, g0, g1, g2⟩, ⟨k1, k2, g3, g4⟩, -⟩ := id hM
  refine ⟨by simp, by simp [cat1], [], noI, 11, 0, ?_, nohd⟩
  simp only [↓x_iconst, ↓x_bipush, ↓x_sipush, ↓x_ldc, ↓x_iload_n, ↓x_iload, ↓x_aload_n, ↓x_aload, ↓x_istore_n, ↓x_istore, ↓x_astore_n, ↓x_astore, ↓x_iinc, ↓x_iadd, ↓x_isub, ↓x_imul, ↓x_iand, ↓x_idiv, ↓x_irem, ↓x_ineg, ↓x_i2c, ↓x_dupI, ↓x_dupA, ↓x_dup2, ↓x_goto, ↓x_get, ↓x_put, ↓x_gets, ↓x_iald, ↓x_bald, ↓x_aald, ↓x_iast, ↓x_bast, ↓x_aast, ↓x_alen, ↓x_iret, ↓x_vret, ↓x_nil, ↓x_jmp, ↓x_ldI0, ↓x_ldIs, ↓x_ldA0, ↓x_ldAs, ↓x_icmpT, ↓x_icmpF, ↓x_ifT, ↓x_ifF, x_iconst, x_bipush, x_sipush, x_ldc, x_iload_n, x_iload, x_aload_n, x_aload, x_istore_n, x_istore, x_astore_n, x_astore, x_iinc, x_iadd, x_isub, x_imul, x_iand, x_idiv, x_irem, x_ineg, x_i2c, x_dupI, x_dupA, x_dup2, x_goto, x_if, x_icmp, x_get, x_put, x_gets, x_iald, x_bald, x_aald, x_iast, x_bast, x_aast, x_alen, x_iret, x_vret, x_nil, x_jmp, x_ldI0, x_ldIs, x_ldA0, x_ldAs, x_cad, x_cad2, x_fv0, x_fv1, x_fv2, x_fv3, cnd, fI, L0, c1, nL0, nL1, nL2, nL3, nL4, nL5, nL6, nL7, nL8, nL9, nL10, nL11, nL12, List.map_cons, List.map_nil, List.length_cons, List.length_nil, List.cons_append, List.nil_append, List.replicate_succ, List.replicate_zero, List.set_cons_zero, List.set_cons_succ, List.mem_cons, List.not_mem_nil, or_false, false_or, Option.toList_some, Option.toList_none, ↓reduceIte, if_true, if_false, Nat.reduceAdd, Nat.reduceSub, Nat.reduceEqDiff, Nat.reduceLT, Nat.reduceLeDiff, Int.reduceNatCast, Int.reduceNatCast', Int.reduceAdd, Int.reduceNeg, Int.reduceToNat, Int.reduceLE, Int.reduceLT, Int.reduceEq, Nat.zero_add, Nat.add_zero, and_true, true_and, ne_eq, not_false_eq_true, not_true_eq_false, and_self, implies_true, Bool.false_eq_true, Nat.reduceBEq, Int32.reduceOfInt, Int32.reduceAdd, Int32.reduceSub, Int32.reduceMul, Int32.reduceLE, Int32.reduceLT, Int32.reduceToNatClampNeg, Option.some.injEq, exists_eq_left, exists_eq_left', Option.isSome_some, Option.getD_some, vp_nar_int, pbi, eq_self, forall_const, false_implies, true_implies, false_and, and_false, uD_s, uG_s, uD_o, ad_nw, ad_wn, ad_ns, ad_sn, ad_ss, ad_ww, ad_sw, ad_ws, Int32.reduceToInt, Classical.not_not, d1n, d2n, d3n, d4n, d5n, d6n, d10n, inr, nL17, nL20, nL21, nL30, nL100, nL462, nL773, nL4638, bp6, bp7, bp8, bp9, bp10, bp11, bp12, bp13, bp14, bp15, bp16, bp17, bp20, bp21, bp26, bp30, bp40, bp60, bp80, bp90, bp100, spm1000, spm999, sp128, sp150, sp200, sp256, sp300, sp400, sp999, sp1024, sp4096, sp8192, bX1_snapshots_0, bX1_snapshots_4, bX1_snapshots_23, bX1_snapshots_24, bX1_snapshots_32, eX1_22, k0, g0, g1, g2, k1, k2, g3, g4]
  repeat' (first | (refine And.intro ?_ ?_) | (intro _))
  all_goals (refine q_int hQ ?_; simp [*])
def Mdis (o m : Nat) : Prop := o + 45 ≤ m ∨ m + 45 ≤ o
theorem cpR_o {D : DT} {m n a r q : Nat} (h : a ≤ n ∨ n + 14 ≤ a) (hr : r ≤ 6) (hq : q ≤ 4) : cpR D m n r q a = D a := by
  funext j
  unfold cpR nu
  rw [if_neg (by omega), if_neg (by omega), if_neg (by omega)]
def cpM (D : DT) (o m : Nat) : DT := uD (cpR (uD (cpR (cpR D (mv o) (mv m) 6 4) (sl0 o) (sl0 m) 6 4) (mt m) 0 (D (mt o) 0)) (sl1 o) (sl1 m) 6 4) (mt m) 1 (D (mt o) 1)
def t_X1_copyFrom : TR := fun K _ _ As G D Q => match As with
  | [.ref m, .ref o] => Mom K G m ∧ Mom K G o ∧ Mdis o m ∧ ((D (mt o) 0 = 0 ∨ D (mt o) 0 = 1) ∧ (D (mt o) 1 = 0 ∨ D (mt o) 1 = 1)) ∧ Q none G (cpM D o m)
  | _ => False
set_option maxRecDepth 100000 in
set_option maxHeartbeats 4000000 in
theorem s_X1_copyFrom (l : Launch) : Sat l yX1_copyFrom cX1_copyFrom 3 none 2 t_X1_copyFrom := by
  refine satb (own := RX1) (fl := flX1) (sg := sgX1) (kc := kcX1) (na := naX1) (rc := rcX1) (cv := (cAdd 26 t_X2_copyFrom cNone)) (cs := cNone) (bl := bX1_copyFrom) (by decide +kernel) rfl envX1 bokX1_copyFrom (cvAdd (s_X2_copyFrom l) lkX1_26 rfl rfl (by decide) cvNone) csNone ?_
  intro L K R0 sa hPp As G D Q htr
  unfold t_X1_copyFrom at htr
  split at htr
  case h_2 => exact htr.elim
  rename_i m o
  obtain ⟨hM, hO, hd, ⟨z0, z1⟩, hQ⟩ := htr
  obtain ⟨⟨k0, g0, g1, g2⟩, ⟨k1, k2, g3, g4⟩, n1, n2, n3⟩ := id hM
  obtain ⟨⟨l0, j0, j1, j2⟩, ⟨l1, l2, j3, j4⟩, p1, p2, p3⟩ := id hO
  refine ⟨by simp, by simp [cat1], [], noI, 7, 0, ?_, nohd⟩
  have kn1 := n1.1.1
  have kn2 := n2.1.1
  have kn3 := n3.1.1
  have d1 : mv m + 14 ≤ mv o ∨ mv o + 14 ≤ mv m := by unfold Mdis at hd; unfold mv; omega
  have d2 : sl0 m + 14 ≤ sl0 o ∨ sl0 o + 14 ≤ sl0 m := by unfold Mdis at hd; unfold sl0; omega
  have d3 : sl1 m + 14 ≤ sl1 o ∨ sl1 o + 14 ≤ sl1 m := by unfold Mdis at hd; unfold sl1; omega
  have o1 : ∀ E x, cpR E x (mv m) 6 4 (mt o) = E (mt o) := fun E x => cpR_o (by unfold Mdis at hd; unfold mv mt; omega) (by omega) (by omega)
  have o2 : ∀ E x, cpR E x (sl0 m) 6 4 (mt o) = E (mt o) := fun E x => cpR_o (by unfold Mdis at hd; unfold sl0 mt; omega) (by omega) (by omega)
  have o3 : ∀ E x, cpR E x (sl1 m) 6 4 (mt o) = E (mt o) := fun E x => cpR_o (by unfold Mdis at hd; unfold sl1 mt; omega) (by omega) (by omega)
  have o4 : (mt o = mt m) = False := eq_false (by unfold Mdis at hd; unfold mt; omega)
  simp only [↓x_iconst, ↓x_bipush, ↓x_sipush, ↓x_ldc, ↓x_iload_n, ↓x_iload, ↓x_aload_n, ↓x_aload, ↓x_istore_n, ↓x_istore, ↓x_astore_n, ↓x_astore, ↓x_iinc, ↓x_iadd, ↓x_isub, ↓x_imul, ↓x_iand, ↓x_idiv, ↓x_irem, ↓x_ineg, ↓x_i2c, ↓x_dupI, ↓x_dupA, ↓x_dup2, ↓x_goto, ↓x_get, ↓x_put, ↓x_gets, ↓x_iald, ↓x_bald, ↓x_aald, ↓x_iast, ↓x_bast, ↓x_aast, ↓x_alen, ↓x_iret, ↓x_vret, ↓x_nil, ↓x_jmp, ↓x_ldI0, ↓x_ldIs, ↓x_ldA0, ↓x_ldAs, ↓x_icmpT, ↓x_icmpF, ↓x_ifT, ↓x_ifF, x_iconst, x_bipush, x_sipush, x_ldc, x_iload_n, x_iload, x_aload_n, x_aload, x_istore_n, x_istore, x_astore_n, x_astore, x_iinc, x_iadd, x_isub, x_imul, x_iand, x_idiv, x_irem, x_ineg, x_i2c, x_dupI, x_dupA, x_dup2, x_goto, x_if, x_icmp, x_get, x_put, x_gets, x_iald, x_bald, x_aald, x_iast, x_bast, x_aast, x_alen, x_iret, x_vret, x_nil, x_jmp, x_ldI0, x_ldIs, x_ldA0, x_ldAs, x_cad, x_cad2, x_fv0, x_fv1, x_fv2, x_fv3, cnd, fI, L0, c1, nL0, nL1, nL2, nL3, nL4, nL5, nL6, nL7, nL8, nL9, nL10, nL11, nL12, List.map_cons, List.map_nil, List.length_cons, List.length_nil, List.cons_append, List.nil_append, List.replicate_succ, List.replicate_zero, List.set_cons_zero, List.set_cons_succ, List.mem_cons, List.not_mem_nil, or_false, false_or, Option.toList_some, Option.toList_none, ↓reduceIte, if_true, if_false, Nat.reduceAdd, Nat.reduceSub, Nat.reduceEqDiff, Nat.reduceLT, Nat.reduceLeDiff, Int.reduceNatCast, Int.reduceNatCast', Int.reduceAdd, Int.reduceNeg, Int.reduceToNat, Int.reduceLE, Int.reduceLT, Int.reduceEq, Nat.zero_add, Nat.add_zero, and_true, true_and, ne_eq, not_false_eq_true, not_true_eq_false, and_self, implies_true, Bool.false_eq_true, Nat.reduceBEq, Int32.reduceOfInt, Int32.reduceAdd, Int32.reduceSub, Int32.reduceMul, Int32.reduceLE, Int32.reduceLT, Int32.reduceToNatClampNeg, Option.some.injEq, exists_eq_left, exists_eq_left', Option.isSome_some, Option.getD_some, vp_nar_int, pbi, eq_self, forall_const, false_implies, true_implies, false_and, and_false, uD_s, uG_s, uD_o, ad_nw, ad_wn, ad_ns, ad_sn, ad_ss, ad_ww, ad_sw, ad_ws, Int32.reduceToInt, Classical.not_not, d1n, d2n, d3n, d4n, d5n, d6n, d10n, inr, nL17, nL20, nL21, nL30, nL100, nL462, nL773, nL4638, bp6, bp7, bp8, bp9, bp10, bp11, bp12, bp13, bp14, bp15, bp16, bp17, bp20, bp21, bp26, bp30, bp40, bp60, bp80, bp90, bp100, spm1000, spm999, sp128, sp150, sp200, sp256, sp300, sp400, sp999, sp1024, sp4096, sp8192, bX1_copyFrom_0, bX1_copyFrom_13, bX1_copyFrom_51, eX1_12, eX1_18, eX1_22, t_X2_copyFrom, ↓x_inv2 naX1_26, x_inv2 naX1_26, rcX1_26, k0, g0, g1, g2, k1, k2, g3, g4, l0, j0, j1, j2, l1, l2, j3, j4, n1, n2, n3, p1, p2, p3, d1, d2, d3, o1, o2, o3, o4, z0, z1, kn1, kn2, kn3]
  exact hQ
