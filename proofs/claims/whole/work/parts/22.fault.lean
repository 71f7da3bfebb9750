theorem tnsD_2 {D : DT} {t : Nat} : tnsD D t t 2 = D t 2 := by
  unfold tnsD
  repeat' split
  all_goals first | rfl | (rw [uD_s]; rfl) | (rw [uD_o (by simp [tr_t]), uD_s]; rfl)
theorem tnsD_3 {D : DT} {t : Nat} : tnsD D t t 3 = D t 3 := by
  unfold tnsD
  repeat' split
  all_goals first | rfl | (rw [uD_s]; rfl) | (rw [uD_o (by simp [tr_t]), uD_s]; rfl)
theorem tnsD_4 {D : DT} {t : Nat} (h0 : 0 ≤ D t 4) (h1 : D t 4 ≤ 100) (hl : D t 2 ≤ 100) : 0 ≤ tnsD D t t 4 ∧ tnsD D t t 4 ≤ 100 := by
  unfold tnsD
  split
  · rename_i h
    obtain ⟨e0, e1, -⟩ := at1 h0 (ch_eq (by decide) h) hl
    split
    · rw [uD_s, if_pos rfl]
      exact ⟨e0, e1⟩
    · rename_i h2
      obtain ⟨f0, f1, -⟩ := at1 e0 (ch_lt (by decide) h2) hl
      split
      · rw [uD_o (by simp [tr_t]), uD_s, if_pos rfl]
        exact ⟨f0, f1⟩
      · rw [uD_s, if_pos rfl]
        exact ⟨e0, e1⟩
  · exact ⟨h0, h1⟩
theorem scA_2 {D : DT} {t : Nat} : scA D t t 2 = D t 2 := by
  unfold scA
  rw [uD_o (by simp [tr_t]), uD_s, uD_o (by simp [tr_t]), uD_s]
  rfl
theorem scA_3 {D : DT} {t : Nat} : scA D t t 3 = D t 3 := by
  unfold scA
  rw [uD_o (by simp [tr_t]), uD_s, uD_o (by simp [tr_t]), uD_s]
  rfl
theorem scA_4 {D : DT} {t : Nat} : scA D t t 4 = numE (D (tc t)) (D t 2) (D t 4 + 1) := by
  unfold scA
  rw [uD_o (by simp [tr_t]), uD_s, if_pos rfl]
theorem scnD_2 {D : DT} {t : Nat} : scnD D t t 2 = D t 2 := by
  unfold scnD
  split
  · rfl
  · split
    · split
      · exact scA_2
      · split
        · exact slkD_2.trans scA_2
        · exact tnsD_2.trans (slkD_2.trans scA_2)
    · rfl
theorem scnD_3 {D : DT} {t : Nat} : scnD D t t 3 = D t 3 := by
  unfold scnD
  split
  · rfl
  · split
    · split
      · exact scA_3
      · split
        · exact slkD_3.trans scA_3
        · exact tnsD_3.trans (slkD_3.trans scA_3)
    · rfl
theorem scnD_4 {D : DT} {t : Nat} (h0 : 0 ≤ D t 4) (h1 : D t 4 ≤ 100) (hl : D t 2 ≤ 100) : 0 ≤ scnD D t t 4 ∧ scnD D t t 4 ≤ 100 := by
  unfold scnD
  split
  · exact ⟨h0, h1⟩
  · rename_i h
    obtain ⟨e0, e1, -⟩ := at1 h0 (ch_lt (by decide) h) hl
    obtain ⟨e2, e3⟩ := numE_in (c := D (tc t)) e0 e1 hl
    have e4 := Int32.le_trans e0 e2
    have s4 : 0 ≤ slkD (scA D t) t t 4 ∧ slkD (scA D t) t t 4 ≤ 100 := by
      rw [slkD_4]
      exact slkE_in (by rw [scA_4]; exact e4) (by rw [scA_4]; exact e3) (by rw [scA_2]; exact hl)
    split
    · split
      · rw [scA_4]
        exact ⟨e4, e3⟩
      · split
        · exact s4
        · exact tnsD_4 s4.1 s4.2 (by rw [slkD_2, scA_2]; exact hl)
    · exact ⟨h0, h1⟩
/-- the text read scene by scene, from a state on, at most n scenes: the fault (or none), and the state behind it -/
def scanF (t : Nat) : Nat → DT → Int32 × DT
  | 0, D => (D t 4, D)
  | n + 1, D => if scnV (D (tc t)) (D t 2) (D t 4) = 0 then (scnD D t t 4, scnD D t) else if scnD D t t 4 = D t 2 then (-100009, uD (scnD D t) t 3 (D t 3 + 1)) else if chF (scnD D t (tc t)) (D t 2) (scnD D t t 4) = 59 then scanF t n (uD (uD (scnD D t) t 4 (scnD D t t 4 + 1)) t 3 (D t 3 + 1)) else (scnD D t t 4, scnD D t)
def t_X4_findFault : TR := fun K _ _ As G D Q => match As with
  | [.ref t] => Txt K G t ∧ D t 2 ≤ 100 ∧ Q (some (.int (scanF t 20 (uD (uD D t 4 0) t 3 0)).1)) G (scanF t 20 (uD (uD D t 4 0) t 3 0)).2
  | _ => False
set_option maxRecDepth 100000 in
set_option maxHeartbeats 4000000 in
theorem s_X4_findFault (l : Launch) : Sat l yX4_findFault cX4_findFault 1 (some .int) 4 t_X4_findFault := by
  refine satb (own := RX4) (fl := flX4) (sg := sgX4) (kc := kcX4) (na := naX4) (rc := rcX4) (cv := (cAdd 30 t_X4_findScene (cAdd 35 t_X4_character cNone))) (cs := cNone) (bl := bX4_findFault) (by decide +kernel) rfl envX4 bokX4_findFault (cvAdd (s_X4_findScene l) lkX4_30 rfl rfl (by decide) (cvAdd (s_X4_character l) lkX4_35 rfl rfl (by decide) cvNone)) csNone ?_
  intro L K R0 sa hPp As G D Q htr
  unfold t_X4_findFault at htr
  split at htr
  case h_2 => exact htr.elim
  rename_i t
  obtain ⟨hT, b3, hQ⟩ := htr
  obtain ⟨⟨k0, g0, g1⟩, ⟨k1, k2⟩, hs1, hs2⟩ := id hT
  refine ⟨by simp, by simp [cat1], [10], fun k pc LL stk G' D' => LL = [some (.ref t)] ∧ stk = [] ∧ G' = G ∧ k ≤ 20 ∧ D' t 3 = nI (20 - k) ∧ D' t 2 ≤ 100 ∧ 0 ≤ D' t 4 ∧ D' t 4 ≤ 100 ∧ scanF t k D' = scanF t 20 (uD (uD D t 4 0) t 3 0), 20, 20, ?_, ?_⟩
  · simp only [↓x_iconst, ↓x_bipush, ↓x_sipush, ↓x_ldc, ↓x_iload_n, ↓x_iload, ↓x_aload_n, ↓x_aload, ↓x_istore_n, ↓x_istore, ↓x_astore_n, ↓x_astore, ↓x_iinc, ↓x_iadd, ↓x_isub, ↓x_imul, ↓x_iand, ↓x_idiv, ↓x_ineg, ↓x_i2c, ↓x_dupI, ↓x_dupA, ↓x_dup2, ↓x_goto, ↓x_get, ↓x_put, ↓x_gets, ↓x_iald, ↓x_bald, ↓x_cald, ↓x_aald, ↓x_iast, ↓x_bast, ↓x_cast, ↓x_aast, ↓x_alen, ↓x_iret, ↓x_vret, ↓x_nil, ↓x_jmp, ↓x_ldI0, ↓x_ldIs, ↓x_ldA0, ↓x_ldAs, ↓x_icmpT, ↓x_icmpF, ↓x_ifT, ↓x_ifF, x_iconst, x_bipush, x_sipush, x_ldc, x_iload_n, x_iload, x_aload_n, x_aload, x_istore_n, x_istore, x_astore_n, x_astore, x_iinc, x_iadd, x_isub, x_imul, x_iand, x_idiv, x_ineg, x_i2c, x_dupI, x_dupA, x_dup2, x_goto, x_if, x_icmp, x_get, x_put, x_gets, x_iald, x_bald, x_cald, x_aald, x_iast, x_bast, x_cast, x_aast, x_alen, x_iret, x_vret, x_nil, x_jmp, x_ldI0, x_ldIs, x_ldA0, x_ldAs, x_cad, x_cad2, x_fv0, x_fv1, x_fv2, x_fv3, cnd, fI, L0, c1, nL0, nL1, nL2, nL3, nL4, nL5, nL6, nL7, nL8, nL9, nL10, nL11, nL12, List.map_cons, List.map_nil, List.length_cons, List.length_nil, List.cons_append, List.nil_append, List.replicate_succ, List.replicate_zero, List.set_cons_zero, List.set_cons_succ, List.mem_cons, List.not_mem_nil, or_false, false_or, Option.toList_some, Option.toList_none, ↓reduceIte, if_true, if_false, Nat.reduceAdd, Nat.reduceSub, Nat.reduceEqDiff, Nat.reduceLT, Nat.reduceLeDiff, Int.reduceNatCast, Int.reduceNatCast', Int.reduceAdd, Int.reduceNeg, Int.reduceToNat, Int.reduceLE, Int.reduceLT, Int.reduceEq, Nat.zero_add, Nat.add_zero, and_true, true_and, ne_eq, not_false_eq_true, not_true_eq_false, and_self, implies_true, Bool.false_eq_true, Nat.reduceBEq, Int32.reduceOfInt, Int32.reduceAdd, Int32.reduceSub, Int32.reduceMul, Int32.reduceLE, Int32.reduceLT, Int32.reduceToNatClampNeg, Option.some.injEq, exists_eq_left, exists_eq_left', Option.isSome_some, Option.getD_some, vp_nar_int, pbi, eq_self, forall_const, false_implies, true_implies, false_and, and_false, uD_s, uG_s, uD_o, ad_nw, ad_wn, ad_ns, ad_sn, ad_ss, ad_ww, ad_sw, ad_ws, Int32.reduceToInt, Classical.not_not, d1n, d2n, d3n, d4n, d5n, d6n, d10n, inr, nL17, nL20, nL21, nL30, nL100, nL462, nL773, nL4638, bp6, bp7, bp8, bp9, bp10, bp11, bp12, bp13, bp14, bp15, bp16, bp17, bp20, bp21, bp29, bp30, bp31, bp33, bp45, bp48, bp49, bp50, bp57, bp59, bp97, bp99, bp100, bp102, spm1000, sp137, sp255, sp257, sp300, sp400, sp462, sp771, sp772, sp773, sp999, sp3865, sp4638, bX4_findFault_0, bX4_findFault_10, bX4_findFault_31, bX4_findFault_55, bX4_findFault_69, bX4_findFault_92, eX4_20, eX4_24, eX4_27, t_X4_findScene, ↓x_inv1 naX4_30, x_inv1 naX4_30, rcX4_30, t_X4_character, ↓x_inv1 naX4_35, x_inv1 naX4_35, rcX4_35, kcX4_34, k0, g0, g1, k1, k2]
    exact ⟨20, by omega, rfl, b3, rfl⟩
  · rintro k pc hpc LL stk G' D' ⟨rfl, rfl, rfl, hk, hf, hl, ha, ha2, hz⟩
    obtain rfl := List.mem_singleton.mp hpc
    cases k with
    | zero =>
      have h20 : 20 ≤ D' t 3 := by rw [hf]; decide
      simp only [↓x_iconst, ↓x_bipush, ↓x_sipush, ↓x_ldc, ↓x_iload_n, ↓x_iload, ↓x_aload_n, ↓x_aload, ↓x_istore_n, ↓x_istore, ↓x_astore_n, ↓x_astore, ↓x_iinc, ↓x_iadd, ↓x_isub, ↓x_imul, ↓x_iand, ↓x_idiv, ↓x_ineg, ↓x_i2c, ↓x_dupI, ↓x_dupA, ↓x_dup2, ↓x_goto, ↓x_get, ↓x_put, ↓x_gets, ↓x_iald, ↓x_bald, ↓x_cald, ↓x_aald, ↓x_iast, ↓x_bast, ↓x_cast, ↓x_aast, ↓x_alen, ↓x_iret, ↓x_vret, ↓x_nil, ↓x_jmp, ↓x_ldI0, ↓x_ldIs, ↓x_ldA0, ↓x_ldAs, ↓x_icmpT, ↓x_icmpF, ↓x_ifT, ↓x_ifF, x_iconst, x_bipush, x_sipush, x_ldc, x_iload_n, x_iload, x_aload_n, x_aload, x_istore_n, x_istore, x_astore_n, x_astore, x_iinc, x_iadd, x_isub, x_imul, x_iand, x_idiv, x_ineg, x_i2c, x_dupI, x_dupA, x_dup2, x_goto, x_if, x_icmp, x_get, x_put, x_gets, x_iald, x_bald, x_cald, x_aald, x_iast, x_bast, x_cast, x_aast, x_alen, x_iret, x_vret, x_nil, x_jmp, x_ldI0, x_ldIs, x_ldA0, x_ldAs, x_cad, x_cad2, x_fv0, x_fv1, x_fv2, x_fv3, cnd, fI, L0, c1, nL0, nL1, nL2, nL3, nL4, nL5, nL6, nL7, nL8, nL9, nL10, nL11, nL12, List.map_cons, List.map_nil, List.length_cons, List.length_nil, List.cons_append, List.nil_append, List.replicate_succ, List.replicate_zero, List.set_cons_zero, List.set_cons_succ, List.mem_cons, List.not_mem_nil, or_false, false_or, Option.toList_some, Option.toList_none, ↓reduceIte, if_true, if_false, Nat.reduceAdd, Nat.reduceSub, Nat.reduceEqDiff, Nat.reduceLT, Nat.reduceLeDiff, Int.reduceNatCast, Int.reduceNatCast', Int.reduceAdd, Int.reduceNeg, Int.reduceToNat, Int.reduceLE, Int.reduceLT, Int.reduceEq, Nat.zero_add, Nat.add_zero, and_true, true_and, ne_eq, not_false_eq_true, not_true_eq_false, and_self, implies_true, Bool.false_eq_true, Nat.reduceBEq, Int32.reduceOfInt, Int32.reduceAdd, Int32.reduceSub, Int32.reduceMul, Int32.reduceLE, Int32.reduceLT, Int32.reduceToNatClampNeg, Option.some.injEq, exists_eq_left, exists_eq_left', Option.isSome_some, Option.getD_some, vp_nar_int, pbi, eq_self, forall_const, false_implies, true_implies, false_and, and_false, uD_s, uG_s, uD_o, ad_nw, ad_wn, ad_ns, ad_sn, ad_ss, ad_ww, ad_sw, ad_ws, Int32.reduceToInt, Classical.not_not, d1n, d2n, d3n, d4n, d5n, d6n, d10n, inr, nL17, nL20, nL21, nL30, nL100, nL462, nL773, nL4638, bp6, bp7, bp8, bp9, bp10, bp11, bp12, bp13, bp14, bp15, bp16, bp17, bp20, bp21, bp29, bp30, bp31, bp33, bp45, bp48, bp49, bp50, bp57, bp59, bp97, bp99, bp100, bp102, spm1000, sp137, sp255, sp257, sp300, sp400, sp462, sp771, sp772, sp773, sp999, sp3865, sp4638, bX4_findFault_0, bX4_findFault_10, bX4_findFault_31, bX4_findFault_55, bX4_findFault_69, bX4_findFault_92, eX4_20, eX4_24, eX4_27, t_X4_findScene, ↓x_inv1 naX4_30, x_inv1 naX4_30, rcX4_30, t_X4_character, ↓x_inv1 naX4_35, x_inv1 naX4_35, rcX4_35, kcX4_34, k0, g0, g1, k1, k2, h20]
      rw [← hz] at hQ
      exact hQ
    | succ k =>
      obtain ⟨q1, q2, q3⟩ := nI_b (r := 20 - (k + 1)) (k := 20) (by omega) (by omega)
      rw [← hf, nL20] at q2 q3
      rw [← hf] at q1
      obtain ⟨s1, s2⟩ := scnD_4 (D := D') (t := t) ha ha2 hl
      have hf2 : D' t 3 + 1 = nI (20 - k) := by
        rw [hf, nI_1]
        congr 1
        omega
      simp only [↓x_iconst, ↓x_bipush, ↓x_sipush, ↓x_ldc, ↓x_iload_n, ↓x_iload, ↓x_aload_n, ↓x_aload, ↓x_istore_n, ↓x_istore, ↓x_astore_n, ↓x_astore, ↓x_iinc, ↓x_iadd, ↓x_isub, ↓x_imul, ↓x_iand, ↓x_idiv, ↓x_ineg, ↓x_i2c, ↓x_dupI, ↓x_dupA, ↓x_dup2, ↓x_goto, ↓x_get, ↓x_put, ↓x_gets, ↓x_iald, ↓x_bald, ↓x_cald, ↓x_aald, ↓x_iast, ↓x_bast, ↓x_cast, ↓x_aast, ↓x_alen, ↓x_iret, ↓x_vret, ↓x_nil, ↓x_jmp, ↓x_ldI0, ↓x_ldIs, ↓x_ldA0, ↓x_ldAs, ↓x_icmpT, ↓x_icmpF, ↓x_ifT, ↓x_ifF, x_iconst, x_bipush, x_sipush, x_ldc, x_iload_n, x_iload, x_aload_n, x_aload, x_istore_n, x_istore, x_astore_n, x_astore, x_iinc, x_iadd, x_isub, x_imul, x_iand, x_idiv, x_ineg, x_i2c, x_dupI, x_dupA, x_dup2, x_goto, x_if, x_icmp, x_get, x_put, x_gets, x_iald, x_bald, x_cald, x_aald, x_iast, x_bast, x_cast, x_aast, x_alen, x_iret, x_vret, x_nil, x_jmp, x_ldI0, x_ldIs, x_ldA0, x_ldAs, x_cad, x_cad2, x_fv0, x_fv1, x_fv2, x_fv3, cnd, fI, L0, c1, nL0, nL1, nL2, nL3, nL4, nL5, nL6, nL7, nL8, nL9, nL10, nL11, nL12, List.map_cons, List.map_nil, List.length_cons, List.length_nil, List.cons_append, List.nil_append, List.replicate_succ, List.replicate_zero, List.set_cons_zero, List.set_cons_succ, List.mem_cons, List.not_mem_nil, or_false, false_or, Option.toList_some, Option.toList_none, ↓reduceIte, if_true, if_false, Nat.reduceAdd, Nat.reduceSub, Nat.reduceEqDiff, Nat.reduceLT, Nat.reduceLeDiff, Int.reduceNatCast, Int.reduceNatCast', Int.reduceAdd, Int.reduceNeg, Int.reduceToNat, Int.reduceLE, Int.reduceLT, Int.reduceEq, Nat.zero_add, Nat.add_zero, and_true, true_and, ne_eq, not_false_eq_true, not_true_eq_false, and_self, implies_true, Bool.false_eq_true, Nat.reduceBEq, Int32.reduceOfInt, Int32.reduceAdd, Int32.reduceSub, Int32.reduceMul, Int32.reduceLE, Int32.reduceLT, Int32.reduceToNatClampNeg, Option.some.injEq, exists_eq_left, exists_eq_left', Option.isSome_some, Option.getD_some, vp_nar_int, pbi, eq_self, forall_const, false_implies, true_implies, false_and, and_false, uD_s, uG_s, uD_o, ad_nw, ad_wn, ad_ns, ad_sn, ad_ss, ad_ww, ad_sw, ad_ws, Int32.reduceToInt, Classical.not_not, d1n, d2n, d3n, d4n, d5n, d6n, d10n, inr, nL17, nL20, nL21, nL30, nL100, nL462, nL773, nL4638, bp6, bp7, bp8, bp9, bp10, bp11, bp12, bp13, bp14, bp15, bp16, bp17, bp20, bp21, bp29, bp30, bp31, bp33, bp45, bp48, bp49, bp50, bp57, bp59, bp97, bp99, bp100, bp102, spm1000, sp137, sp255, sp257, sp300, sp400, sp462, sp771, sp772, sp773, sp999, sp3865, sp4638, bX4_findFault_0, bX4_findFault_10, bX4_findFault_31, bX4_findFault_55, bX4_findFault_69, bX4_findFault_92, eX4_20, eX4_24, eX4_27, t_X4_findScene, ↓x_inv1 naX4_30, x_inv1 naX4_30, rcX4_30, t_X4_character, ↓x_inv1 naX4_35, x_inv1 naX4_35, rcX4_35, kcX4_34, k0, g0, g1, k1, k2, hs1, hs2, hT, q1, q2, q3, hl, ha, ha2, s1, s2, scnD_2, scnD_3]
      rw [scanF] at hz
      refine ⟨fun h1 => ⟨fun h2 => ⟨fun h3 => ?_, fun h3 => ?_⟩, fun h2 => ?_⟩, fun h1 => ?_⟩
      · simp only [h1, h2, h3, if_true, if_false] at hz
        obtain ⟨e0, e1, -⟩ := at1 s1 (ch_eq (by decide) h3) hl
        exact ⟨k, by omega, by omega, hf2, e0, e1, hz⟩
      · simp only [h1, h2, h3, if_true, if_false] at hz
        rw [← hz] at hQ
        exact hQ
      · simp only [h1, h2, if_true, if_false] at hz
        rw [← hz] at hQ
        exact hQ
      · simp only [h1, if_true, if_false] at hz
        rw [← hz] at hQ
        exact hQ
