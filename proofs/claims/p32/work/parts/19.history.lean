/-! ### the history: its states by their places -/
def hS (h : Nat) : Nat := h + 1
def sta (G : GT) (h : Nat) (i : Int32) : Nat := (G (hS h) i).getD 0
def Hist (K : KT) (G : GT) (h : Nat) : Prop := (K h = (0, 0) ∧ G h 0 = some (hS h) ∧ K (hS h) = (14, 6)) ∧ (∀ i : Int32, 0 ≤ i ∧ i < 6 → G (hS h) i = some (sta G h i)) ∧ ∀ i : Int32, 0 ≤ i ∧ i < 6 → Mom K G (sta G h i)
def rotG (G : GT) (h : Nat) : GT := uG (uG (uG (uG (uG (uG G (hS h) 0 (sta G h 1)) (hS h) 1 (sta G h 2)) (hS h) 2 (sta G h 3)) (hS h) 3 (sta G h 4)) (hS h) 4 (sta G h 5)) (hS h) 5 (sta G h 0)
theorem hS_n {h : Nat} : (h = hS h) = False := eq_false (by unfold hS; omega)
theorem hS_m {h : Nat} : (hS h = h) = False := eq_false (by unfold hS; omega)
def t_X0_dropOldest : TR := fun K _ _ As G D Q => match As with
  | [.ref h] => Hist K G h ∧ Q none (rotG G h) (uD D h 1 (D h 1 - 1))
  | _ => False
set_option maxRecDepth 100000 in
set_option maxHeartbeats 4000000 in
theorem s_X0_dropOldest (l : Launch) : Sat l yX0_dropOldest cX0_dropOldest 3 none 0 t_X0_dropOldest := by
  refine satb (own := RX0) (fl := flX0) (sg := sgX0) (kc := kcX0) (na := naX0) (rc := rcX0) (cv := cNone) (cs := cNone) (bl := bX0_dropOldest) (by decide +kernel) rfl envX0 bokX0_dropOldest cvNone csNone ?_
  intro L K R0 sa hPp As G D Q htr
  unfold t_X0_dropOldest at htr
  split at htr
  case h_2 => exact htr.elim
  rename_i h
  obtain ⟨hH, hQ⟩ := htr
  obtain ⟨⟨k0, g0, k1⟩, hs, hm⟩ := id hH
  have hk : ∀ i : Int32, 0 ≤ i ∧ i < 6 → K (sta G h i) = (1, 0) := fun i hi => (hm i hi).1.1
  have u0 : ∀ (G : GT) i v, uG G (hS h) i v h = G h := fun G i v => by funext j; simp [uG, hS_n]
  refine ⟨by simp, by simp [cat1], [], noI, 16, 0, ?_, nohd⟩
  simp only [↓x_iconst, ↓x_bipush, ↓x_sipush, ↓x_ldc, ↓x_iload_n, ↓x_iload, ↓x_aload_n, ↓x_aload, ↓x_istore_n, ↓x_istore, ↓x_astore_n, ↓x_astore, ↓x_iinc, ↓x_iadd, ↓x_isub, ↓x_imul, ↓x_iand, ↓x_idiv, ↓x_irem, ↓x_ineg, ↓x_i2c, ↓x_dupI, ↓x_dupA, ↓x_dup2, ↓x_goto, ↓x_get, ↓x_put, ↓x_gets, ↓x_iald, ↓x_bald, ↓x_aald, ↓x_iast, ↓x_bast, ↓x_aast, ↓x_alen, ↓x_iret, ↓x_vret, ↓x_nil, ↓x_jmp, ↓x_ldI0, ↓x_ldIs, ↓x_ldA0, ↓x_ldAs, ↓x_icmpT, ↓x_icmpF, ↓x_ifT, ↓x_ifF, x_iconst, x_bipush, x_sipush, x_ldc, x_iload_n, x_iload, x_aload_n, x_aload, x_istore_n, x_istore, x_astore_n, x_astore, x_iinc, x_iadd, x_isub, x_imul, x_iand, x_idiv, x_irem, x_ineg, x_i2c, x_dupI, x_dupA, x_dup2, x_goto, x_if, x_icmp, x_get, x_put, x_gets, x_iald, x_bald, x_aald, x_iast, x_bast, x_aast, x_alen, x_iret, x_vret, x_nil, x_jmp, x_ldI0, x_ldIs, x_ldA0, x_ldAs, x_cad, x_cad2, x_fv0, x_fv1, x_fv2, x_fv3, cnd, fI, L0, c1, nL0, nL1, nL2, nL3, nL4, nL5, nL6, nL7, nL8, nL9, nL10, nL11, nL12, List.map_cons, List.map_nil, List.length_cons, List.length_nil, List.cons_append, List.nil_append, List.replicate_succ, List.replicate_zero, List.set_cons_zero, List.set_cons_succ, List.mem_cons, List.not_mem_nil, or_false, false_or, Option.toList_some, Option.toList_none, ↓reduceIte, if_true, if_false, Nat.reduceAdd, Nat.reduceSub, Nat.reduceEqDiff, Nat.reduceLT, Nat.reduceLeDiff, Int.reduceNatCast, Int.reduceNatCast', Int.reduceAdd, Int.reduceNeg, Int.reduceToNat, Int.reduceLE, Int.reduceLT, Int.reduceEq, Nat.zero_add, Nat.add_zero, and_true, true_and, ne_eq, not_false_eq_true, not_true_eq_false, and_self, implies_true, Bool.false_eq_true, Nat.reduceBEq, Int32.reduceOfInt, Int32.reduceAdd, Int32.reduceSub, Int32.reduceMul, Int32.reduceLE, Int32.reduceLT, Int32.reduceToNatClampNeg, Option.some.injEq, exists_eq_left, exists_eq_left', Option.isSome_some, Option.getD_some, vp_nar_int, pbi, eq_self, forall_const, false_implies, true_implies, false_and, and_false, uD_s, uG_s, uD_o, ad_nw, ad_wn, ad_ns, ad_sn, ad_ss, ad_ww, ad_sw, ad_ws, Int32.reduceToInt, Classical.not_not, d1n, d2n, d3n, d4n, d5n, d6n, d10n, inr, nL17, nL20, nL21, nL30, nL100, nL462, nL773, nL4638, bp6, bp7, bp8, bp9, bp10, bp11, bp12, bp13, bp14, bp15, bp16, bp17, bp20, bp21, bp26, bp30, bp40, bp60, bp80, bp90, bp100, spm1000, spm999, sp128, sp150, sp200, sp256, sp300, sp400, sp999, sp1024, sp4096, sp8192, bX0_dropOldest_0, bX0_dropOldest_9, bX0_dropOldest_35, eX0_11, eX0_17, k0, g0, k1, hs, hk, u0]
  exact hQ
/-- a moment apart from the history's own cells and its states -/
def Hdis (G : GT) (h o : Nat) : Prop := (∀ i : Int32, 0 ≤ i ∧ i < 6 → Mdis o (sta G h i) ∧ (hS h < sta G h i ∨ sta G h i + 45 ≤ h)) ∧ (hS h < o ∨ o + 45 ≤ h)
def Boo (D : DT) (o : Nat) : Prop := (D (mt o) 0 = 0 ∨ D (mt o) 0 = 1) ∧ (D (mt o) 1 = 0 ∨ D (mt o) 1 = 1)
theorem cpM_o {D : DT} {o m a : Nat} (h : a < m ∨ m + 45 ≤ a) : cpM D o m a = D a := by
  unfold cpM
  rw [uD_o (by unfold mt; omega), cpR_o (by unfold sl1; omega) (by omega) (by omega), uD_o (by unfold mt; omega), cpR_o (by unfold sl0; omega) (by omega) (by omega), cpR_o (by unfold mv; omega) (by omega) (by omega)]
theorem rot_st {G : GT} {h : Nat} : rotG G h (hS h) 5 = some (sta G h 0) := by
  unfold rotG
  simp [uG_s]
theorem uG_o {G : GT} {a b v : Nat} {i : Int32} (h : b ≠ a) : uG G a i v b = G b := by
  funext j
  simp [uG, h]
theorem rot_o {G : GT} {h a : Nat} (e : a ≠ hS h) : rotG G h a = G a := by
  unfold rotG
  rw [uG_o e, uG_o e, uG_o e, uG_o e, uG_o e, uG_o e]
theorem Nov.rot {K : KT} {G G' : GT} {n : Nat} (h : Nov K G n) (e : ∀ a, n ≤ a → a < n + 14 → G' a = G a) : Nov K G' n := by
  obtain ⟨⟨k0, g0, g1, g2⟩, ks, hs1, hs2, hw1, hw2⟩ := h
  have e0 := e n (by omega) (by omega)
  have e1 := e (sO n) (by unfold sO; omega) (by unfold sO; omega)
  have e2 := e (wO n) (by unfold wO; omega) (by unfold wO; omega)
  exact ⟨⟨k0, by rw [e0]; exact g0, by rw [e0]; exact g1, by rw [e0]; exact g2⟩, ks, fun r hr => by rw [e1]; exact hs1 r hr, hs2, fun r hr => by rw [e2]; exact hw1 r hr, hw2⟩
theorem Mom.rot {K : KT} {G G' : GT} {m : Nat} (h : Mom K G m) (e : ∀ a, m ≤ a → a < m + 45 → G' a = G a) : Mom K G' m := by
  obtain ⟨⟨k0, g0, g1, g2⟩, ⟨k1, k2, g3, g4⟩, n1, n2, n3⟩ := h
  have e0 := e m (by omega) (by omega)
  have e1 := e (mS m) (by unfold mS; omega) (by unfold mS; omega)
  exact ⟨⟨k0, by rw [e0]; exact g0, by rw [e0]; exact g1, by rw [e0]; exact g2⟩, ⟨k1, k2, by rw [e1]; exact g3, by rw [e1]; exact g4⟩, n1.rot (fun a h1 h2 => e a (by unfold mv at h1; omega) (by unfold mv at h2; omega)), n2.rot (fun a h1 h2 => e a (by unfold sl0 at h1; omega) (by unfold sl0 at h2; omega)), n3.rot (fun a h1 h2 => e a (by unfold sl1 at h1; omega) (by unfold sl1 at h2; omega))⟩
def recG (G : GT) (D : DT) (h : Nat) : GT := if D h 1 = 6 then rotG G h else G
def recD (G : GT) (D : DT) (h o : Nat) : DT := if D h 1 = 6 then uD (cpM (uD D h 1 5) o (sta G h 0)) h 1 6 else uD (cpM D o (sta G h (D h 1))) h 1 (D h 1 + 1)
def t_X0_record : TR := fun K _ _ As G D Q => match As with
  | [.ref h, .ref o] => Hist K G h ∧ Mom K G o ∧ (0 ≤ D h 1 ∧ D h 1 ≤ 6) ∧ Hdis G h o ∧ Boo D o ∧ Q none (recG G D h) (recD G D h o)
  | _ => False
set_option maxRecDepth 100000 in
set_option maxHeartbeats 4000000 in
theorem s_X0_record (l : Launch) : Sat l yX0_record cX0_record 2 none 3 t_X0_record := by
  refine satb (own := RX0) (fl := flX0) (sg := sgX0) (kc := kcX0) (na := naX0) (rc := rcX0) (cv := (cAdd 22 t_X0_dropOldest (cAdd 25 t_X1_copyFrom cNone))) (cs := cNone) (bl := bX0_record) (by decide +kernel) rfl envX0 bokX0_record (cvAdd (s_X0_dropOldest l) lkX0_22 rfl rfl (by decide) (cvAdd (s_X1_copyFrom l) lkX0_25 rfl rfl (by decide) cvNone)) csNone ?_
  intro L K R0 sa hPp As G D Q htr
  unfold t_X0_record at htr
  split at htr
  case h_2 => exact htr.elim
  rename_i h o
  obtain ⟨hH, hO, ⟨b1, b2⟩, ⟨hd, hd2⟩, hB, hQ⟩ := htr
  obtain ⟨⟨k0, g0, k1⟩, hs, hm⟩ := id hH
  refine ⟨by simp, by simp [cat1], [], noI, 16, 0, ?_, nohd⟩
  by_cases h6 : D h 1 = 6
  · have a0 := hm 0 (by decide)
    have a1 : ∀ a, a ≠ hS h → rotG G h a = G a := fun a e => rot_o e
    have a2 : Mom K (rotG G h) (sta G h 0) := a0.rot (fun a h1 h2 => rot_o (by have := (hd 0 (by decide)).2; unfold hS at this ⊢; omega))
    have a3 : Mom K (rotG G h) o := hO.rot (fun a h1 h2 => rot_o (by unfold hS at hd2 ⊢; omega))
    have a4 : Mdis o (sta G h 0) := (hd 0 (by decide)).1
    have a5 : K (sta G h 0) = (1, 0) := a0.1.1
    have a6 : rotG G h h = G h := rot_o (by unfold hS; omega)
    have a7 : ∀ E, cpM E o (sta G h 0) h = E h := fun E => cpM_o (by have := (hd 0 (by decide)).2; unfold hS at this; omega)
    have a8 : uD D h 1 5 (mt o) = D (mt o) := uD_o (by unfold hS at hd2; unfold mt; omega)
    obtain ⟨z0, z1⟩ := hB
    simp only [recG, recD, h6, if_true] at hQ
    simp only [↓x_iconst, ↓x_bipush, ↓x_sipush, ↓x_ldc, ↓x_iload_n, ↓x_iload, ↓x_aload_n, ↓x_aload, ↓x_istore_n, ↓x_istore, ↓x_astore_n, ↓x_astore, ↓x_iinc, ↓x_iadd, ↓x_isub, ↓x_imul, ↓x_iand, ↓x_idiv, ↓x_irem, ↓x_ineg, ↓x_i2c, ↓x_dupI, ↓x_dupA, ↓x_dup2, ↓x_goto, ↓x_get, ↓x_put, ↓x_gets, ↓x_iald, ↓x_bald, ↓x_aald, ↓x_iast, ↓x_bast, ↓x_aast, ↓x_alen, ↓x_iret, ↓x_vret, ↓x_nil, ↓x_jmp, ↓x_ldI0, ↓x_ldIs, ↓x_ldA0, ↓x_ldAs, ↓x_icmpT, ↓x_icmpF, ↓x_ifT, ↓x_ifF, x_iconst, x_bipush, x_sipush, x_ldc, x_iload_n, x_iload, x_aload_n, x_aload, x_istore_n, x_istore, x_astore_n, x_astore, x_iinc, x_iadd, x_isub, x_imul, x_iand, x_idiv, x_irem, x_ineg, x_i2c, x_dupI, x_dupA, x_dup2, x_goto, x_if, x_icmp, x_get, x_put, x_gets, x_iald, x_bald, x_aald, x_iast, x_bast, x_aast, x_alen, x_iret, x_vret, x_nil, x_jmp, x_ldI0, x_ldIs, x_ldA0, x_ldAs, x_cad, x_cad2, x_fv0, x_fv1, x_fv2, x_fv3, cnd, fI, L0, c1, nL0, nL1, nL2, nL3, nL4, nL5, nL6, nL7, nL8, nL9, nL10, nL11, nL12, List.map_cons, List.map_nil, List.length_cons, List.length_nil, List.cons_append, List.nil_append, List.replicate_succ, List.replicate_zero, List.set_cons_zero, List.set_cons_succ, List.mem_cons, List.not_mem_nil, or_false, false_or, Option.toList_some, Option.toList_none, ↓reduceIte, if_true, if_false, Nat.reduceAdd, Nat.reduceSub, Nat.reduceEqDiff, Nat.reduceLT, Nat.reduceLeDiff, Int.reduceNatCast, Int.reduceNatCast', Int.reduceAdd, Int.reduceNeg, Int.reduceToNat, Int.reduceLE, Int.reduceLT, Int.reduceEq, Nat.zero_add, Nat.add_zero, and_true, true_and, ne_eq, not_false_eq_true, not_true_eq_false, and_self, implies_true, Bool.false_eq_true, Nat.reduceBEq, Int32.reduceOfInt, Int32.reduceAdd, Int32.reduceSub, Int32.reduceMul, Int32.reduceLE, Int32.reduceLT, Int32.reduceToNatClampNeg, Option.some.injEq, exists_eq_left, exists_eq_left', Option.isSome_some, Option.getD_some, vp_nar_int, pbi, eq_self, forall_const, false_implies, true_implies, false_and, and_false, uD_s, uG_s, uD_o, ad_nw, ad_wn, ad_ns, ad_sn, ad_ss, ad_ww, ad_sw, ad_ws, Int32.reduceToInt, Classical.not_not, d1n, d2n, d3n, d4n, d5n, d6n, d10n, inr, nL17, nL20, nL21, nL30, nL100, nL462, nL773, nL4638, bp6, bp7, bp8, bp9, bp10, bp11, bp12, bp13, bp14, bp15, bp16, bp17, bp20, bp21, bp26, bp30, bp40, bp60, bp80, bp90, bp100, spm1000, spm999, sp128, sp150, sp200, sp256, sp300, sp400, sp999, sp1024, sp4096, sp8192, bX0_record_0, bX0_record_13, eX0_11, eX0_17, t_X0_dropOldest, ↓x_inv1 naX0_22, x_inv1 naX0_22, rcX0_22, t_X1_copyFrom, ↓x_inv2 naX0_25, x_inv2 naX0_25, rcX0_25, k0, g0, k1, hs, h6, hH, a2, a3, a4, a5, a6, a7, a8, z0, z1, rot_st]
    exact hQ
  · have b3 : D h 1 < 6 := by
      clear hs hm hd hQ
      (simp only [i_lt, i_le, i_eq, i_cl, Int32.reduceToInt, ne_eq] at * <;> (first | omega | (simp (disch := (first | omega | (simp (disch := (first | omega | (simp (disch := (first | omega | (simp only [Int32.reduceToInt]; omega))) only [a_add, a_sub, a_mul, a_neg, i_lt, i_le, i_eq, i_cl, Int32.reduceToInt, Int32.reduceToNatClampNeg]; omega))) only [a_add, a_sub, a_mul, a_neg, i_lt, i_le, i_eq, i_cl, Int32.reduceToInt, Int32.reduceToNatClampNeg]; omega))) only [a_add, a_sub, a_mul, a_neg, i_lt, i_le, i_eq, i_cl, Int32.reduceToInt, Int32.reduceToNatClampNeg] at * <;> (first | omega | (simp (disch := (first | omega | (simp (disch := (first | omega | (simp (disch := (first | omega | (simp only [Int32.reduceToInt]; omega))) only [a_add, a_sub, a_mul, a_neg, i_lt, i_le, i_eq, i_cl, Int32.reduceToInt, Int32.reduceToNatClampNeg]; omega))) only [a_add, a_sub, a_mul, a_neg, i_lt, i_le, i_eq, i_cl, Int32.reduceToInt, Int32.reduceToNatClampNeg]; omega))) only [a_add, a_sub, a_mul, a_neg, i_lt, i_le, i_eq, i_cl, Int32.reduceToInt, Int32.reduceToNatClampNeg] at * <;> omega)))))
    have a0 := hm (D h 1) ⟨b1, b3⟩
    have a4 : Mdis o (sta G h (D h 1)) := (hd (D h 1) ⟨b1, b3⟩).1
    have a5 : K (sta G h (D h 1)) = (1, 0) := a0.1.1
    have a7 : ∀ E, cpM E o (sta G h (D h 1)) h = E h := fun E => cpM_o (by have := (hd (D h 1) ⟨b1, b3⟩).2; unfold hS at this; omega)
    obtain ⟨z0, z1⟩ := hB
    simp only [recG, recD, h6, if_false] at hQ
    simp only [↓x_iconst, ↓x_bipush, ↓x_sipush, ↓x_ldc, ↓x_iload_n, ↓x_iload, ↓x_aload_n, ↓x_aload, ↓x_istore_n, ↓x_istore, ↓x_astore_n, ↓x_astore, ↓x_iinc, ↓x_iadd, ↓x_isub, ↓x_imul, ↓x_iand, ↓x_idiv, ↓x_irem, ↓x_ineg, ↓x_i2c, ↓x_dupI, ↓x_dupA, ↓x_dup2, ↓x_goto, ↓x_get, ↓x_put, ↓x_gets, ↓x_iald, ↓x_bald, ↓x_aald, ↓x_iast, ↓x_bast, ↓x_aast, ↓x_alen, ↓x_iret, ↓x_vret, ↓x_nil, ↓x_jmp, ↓x_ldI0, ↓x_ldIs, ↓x_ldA0, ↓x_ldAs, ↓x_icmpT, ↓x_icmpF, ↓x_ifT, ↓x_ifF, x_iconst, x_bipush, x_sipush, x_ldc, x_iload_n, x_iload, x_aload_n, x_aload, x_istore_n, x_istore, x_astore_n, x_astore, x_iinc, x_iadd, x_isub, x_imul, x_iand, x_idiv, x_irem, x_ineg, x_i2c, x_dupI, x_dupA, x_dup2, x_goto, x_if, x_icmp, x_get, x_put, x_gets, x_iald, x_bald, x_aald, x_iast, x_bast, x_aast, x_alen, x_iret, x_vret, x_nil, x_jmp, x_ldI0, x_ldIs, x_ldA0, x_ldAs, x_cad, x_cad2, x_fv0, x_fv1, x_fv2, x_fv3, cnd, fI, L0, c1, nL0, nL1, nL2, nL3, nL4, nL5, nL6, nL7, nL8, nL9, nL10, nL11, nL12, List.map_cons, List.map_nil, List.length_cons, List.length_nil, List.cons_append, List.nil_append, List.replicate_succ, List.replicate_zero, List.set_cons_zero, List.set_cons_succ, List.mem_cons, List.not_mem_nil, or_false, false_or, Option.toList_some, Option.toList_none, ↓reduceIte, if_true, if_false, Nat.reduceAdd, Nat.reduceSub, Nat.reduceEqDiff, Nat.reduceLT, Nat.reduceLeDiff, Int.reduceNatCast, Int.reduceNatCast', Int.reduceAdd, Int.reduceNeg, Int.reduceToNat, Int.reduceLE, Int.reduceLT, Int.reduceEq, Nat.zero_add, Nat.add_zero, and_true, true_and, ne_eq, not_false_eq_true, not_true_eq_false, and_self, implies_true, Bool.false_eq_true, Nat.reduceBEq, Int32.reduceOfInt, Int32.reduceAdd, Int32.reduceSub, Int32.reduceMul, Int32.reduceLE, Int32.reduceLT, Int32.reduceToNatClampNeg, Option.some.injEq, exists_eq_left, exists_eq_left', Option.isSome_some, Option.getD_some, vp_nar_int, pbi, eq_self, forall_const, false_implies, true_implies, false_and, and_false, uD_s, uG_s, uD_o, ad_nw, ad_wn, ad_ns, ad_sn, ad_ss, ad_ww, ad_sw, ad_ws, Int32.reduceToInt, Classical.not_not, d1n, d2n, d3n, d4n, d5n, d6n, d10n, inr, nL17, nL20, nL21, nL30, nL100, nL462, nL773, nL4638, bp6, bp7, bp8, bp9, bp10, bp11, bp12, bp13, bp14, bp15, bp16, bp17, bp20, bp21, bp26, bp30, bp40, bp60, bp80, bp90, bp100, spm1000, spm999, sp128, sp150, sp200, sp256, sp300, sp400, sp999, sp1024, sp4096, sp8192, bX0_record_0, bX0_record_13, eX0_11, eX0_17, t_X0_dropOldest, ↓x_inv1 naX0_22, x_inv1 naX0_22, rcX0_22, t_X1_copyFrom, ↓x_inv2 naX0_25, x_inv2 naX0_25, rcX0_25, k0, g0, k1, hs, h6, hH, hO, a0, a4, a5, a7, b1, b3, z0, z1]
    exact hQ
def t_X0_goBack : TR := fun K _ _ As G D Q => match As with
  | [.ref h, .ref o] => Hist K G h ∧ Mom K G o ∧ (0 < D h 1 ∧ D h 1 ≤ 6) ∧ Hdis G h o ∧ Boo D (sta G h (D h 1 - 1)) ∧ Q none G (cpM (uD D h 1 (D h 1 - 1)) (sta G h (D h 1 - 1)) o)
  | _ => False
set_option maxRecDepth 100000 in
set_option maxHeartbeats 4000000 in
theorem s_X0_goBack (l : Launch) : Sat l yX0_goBack cX0_goBack 2 none 3 t_X0_goBack := by
  refine satb (own := RX0) (fl := flX0) (sg := sgX0) (kc := kcX0) (na := naX0) (rc := rcX0) (cv := (cAdd 25 t_X1_copyFrom cNone)) (cs := cNone) (bl := bX0_goBack) (by decide +kernel) rfl envX0 bokX0_goBack (cvAdd (s_X1_copyFrom l) lkX0_25 rfl rfl (by decide) cvNone) csNone ?_
  intro L K R0 sa hPp As G D Q htr
  unfold t_X0_goBack at htr
  split at htr
  case h_2 => exact htr.elim
  rename_i h o
  obtain ⟨hH, hO, ⟨b1, b2⟩, ⟨hd, hd2⟩, hB, hQ⟩ := htr
  obtain ⟨⟨k0, g0, k1⟩, hs, hm⟩ := id hH
  refine ⟨by simp, by simp [cat1], [], noI, 16, 0, ?_, nohd⟩
  have b3 : 0 ≤ D h 1 - 1 ∧ D h 1 - 1 < 6 := by
    clear hs hm hd hQ hB
    (simp only [i_lt, i_le, i_eq, i_cl, Int32.reduceToInt, ne_eq] at * <;> (first | omega | (simp (disch := (first | omega | (simp (disch := (first | omega | (simp (disch := (first | omega | (simp only [Int32.reduceToInt]; omega))) only [a_add, a_sub, a_mul, a_neg, i_lt, i_le, i_eq, i_cl, Int32.reduceToInt, Int32.reduceToNatClampNeg]; omega))) only [a_add, a_sub, a_mul, a_neg, i_lt, i_le, i_eq, i_cl, Int32.reduceToInt, Int32.reduceToNatClampNeg]; omega))) only [a_add, a_sub, a_mul, a_neg, i_lt, i_le, i_eq, i_cl, Int32.reduceToInt, Int32.reduceToNatClampNeg] at * <;> (first | omega | (simp (disch := (first | omega | (simp (disch := (first | omega | (simp (disch := (first | omega | (simp only [Int32.reduceToInt]; omega))) only [a_add, a_sub, a_mul, a_neg, i_lt, i_le, i_eq, i_cl, Int32.reduceToInt, Int32.reduceToNatClampNeg]; omega))) only [a_add, a_sub, a_mul, a_neg, i_lt, i_le, i_eq, i_cl, Int32.reduceToInt, Int32.reduceToNatClampNeg]; omega))) only [a_add, a_sub, a_mul, a_neg, i_lt, i_le, i_eq, i_cl, Int32.reduceToInt, Int32.reduceToNatClampNeg] at * <;> omega)))))
  have a0 := hm (D h 1 - 1) b3
  have a4 : Mdis (sta G h (D h 1 - 1)) o := by
    have := (hd (D h 1 - 1) b3).1
    unfold Mdis at this ⊢
    omega
  have a5 : K o = (1, 0) := hO.1.1
  have a8 : uD D h 1 (D h 1 - 1) (mt (sta G h (D h 1 - 1))) = D (mt (sta G h (D h 1 - 1))) := uD_o (by have := (hd (D h 1 - 1) b3).2; unfold hS at this; unfold mt; omega)
  obtain ⟨z0, z1⟩ := hB
  obtain ⟨b4, b5⟩ := b3
  simp only [↓x_iconst, ↓x_bipush, ↓x_sipush, ↓x_ldc, ↓x_iload_n, ↓x_iload, ↓x_aload_n, ↓x_aload, ↓x_istore_n, ↓x_istore, ↓x_astore_n, ↓x_astore, ↓x_iinc, ↓x_iadd, ↓x_isub, ↓x_imul, ↓x_iand, ↓x_idiv, ↓x_irem, ↓x_ineg, ↓x_i2c, ↓x_dupI, ↓x_dupA, ↓x_dup2, ↓x_goto, ↓x_get, ↓x_put, ↓x_gets, ↓x_iald, ↓x_bald, ↓x_aald, ↓x_iast, ↓x_bast, ↓x_aast, ↓x_alen, ↓x_iret, ↓x_vret, ↓x_nil, ↓x_jmp, ↓x_ldI0, ↓x_ldIs, ↓x_ldA0, ↓x_ldAs, ↓x_icmpT, ↓x_icmpF, ↓x_ifT, ↓x_ifF, x_iconst, x_bipush, x_sipush, x_ldc, x_iload_n, x_iload, x_aload_n, x_aload, x_istore_n, x_istore, x_astore_n, x_astore, x_iinc, x_iadd, x_isub, x_imul, x_iand, x_idiv, x_irem, x_ineg, x_i2c, x_dupI, x_dupA, x_dup2, x_goto, x_if, x_icmp, x_get, x_put, x_gets, x_iald, x_bald, x_aald, x_iast, x_bast, x_aast, x_alen, x_iret, x_vret, x_nil, x_jmp, x_ldI0, x_ldIs, x_ldA0, x_ldAs, x_cad, x_cad2, x_fv0, x_fv1, x_fv2, x_fv3, cnd, fI, L0, c1, nL0, nL1, nL2, nL3, nL4, nL5, nL6, nL7, nL8, nL9, nL10, nL11, nL12, List.map_cons, List.map_nil, List.length_cons, List.length_nil, List.cons_append, List.nil_append, List.replicate_succ, List.replicate_zero, List.set_cons_zero, List.set_cons_succ, List.mem_cons, List.not_mem_nil, or_false, false_or, Option.toList_some, Option.toList_none, ↓reduceIte, if_true, if_false, Nat.reduceAdd, Nat.reduceSub, Nat.reduceEqDiff, Nat.reduceLT, Nat.reduceLeDiff, Int.reduceNatCast, Int.reduceNatCast', Int.reduceAdd, Int.reduceNeg, Int.reduceToNat, Int.reduceLE, Int.reduceLT, Int.reduceEq, Nat.zero_add, Nat.add_zero, and_true, true_and, ne_eq, not_false_eq_true, not_true_eq_false, and_self, implies_true, Bool.false_eq_true, Nat.reduceBEq, Int32.reduceOfInt, Int32.reduceAdd, Int32.reduceSub, Int32.reduceMul, Int32.reduceLE, Int32.reduceLT, Int32.reduceToNatClampNeg, Option.some.injEq, exists_eq_left, exists_eq_left', Option.isSome_some, Option.getD_some, vp_nar_int, pbi, eq_self, forall_const, false_implies, true_implies, false_and, and_false, uD_s, uG_s, uD_o, ad_nw, ad_wn, ad_ns, ad_sn, ad_ss, ad_ww, ad_sw, ad_ws, Int32.reduceToInt, Classical.not_not, d1n, d2n, d3n, d4n, d5n, d6n, d10n, inr, nL17, nL20, nL21, nL30, nL100, nL462, nL773, nL4638, bp6, bp7, bp8, bp9, bp10, bp11, bp12, bp13, bp14, bp15, bp16, bp17, bp20, bp21, bp26, bp30, bp40, bp60, bp80, bp90, bp100, spm1000, spm999, sp128, sp150, sp200, sp256, sp300, sp400, sp999, sp1024, sp4096, sp8192, bX0_goBack_0, eX0_11, eX0_17, t_X1_copyFrom, ↓x_inv2 naX0_25, x_inv2 naX0_25, rcX0_25, k0, g0, k1, hs, hH, hO, a0, a4, a5, a8, b4, b5, z0, z1]
  exact hQ
