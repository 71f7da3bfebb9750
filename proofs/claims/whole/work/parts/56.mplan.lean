/-! ### the model's isPlan, wordsOf, plans -/
def pmV (E : DT) (a : Nat) : Int32 := if yN E a 0 - yN E a 1 ≤ 0 then 0 else if E (mW a) 0 ≤ 0 then 0 else 1
def mst (E : DT) (a b k : Nat) : Nat := stA (mCC E a b) b k
def PlnM (E : DT) (a b i : Nat) : Prop := i ≤ 20 ∧ E (mF a) 0 = nI i ∧ ∀ k, k < i → b ≤ mst E a b k ∧ mst E a b k < mst E a b (k + 1) ∧ mst E a b (k + 1) ≤ 20 ∧ E (mT a) (nI (21 * k + (mst E a b k - b))) = nI (mst E a b (k + 1) - mst E a b k)
theorem LayP.fr {D E : DT} {a : Nat} {c : Int32} (h : LayP D E a c) : E (ms a) = D (ms a) ∧ E a = D a := ⟨h.1 _ (by unfold ms mF; omega) (by unfold ms mG; omega) (by unfold ms mT; omega) (by unfold ms mW; omega), h.1 _ (by unfold mF; omega) (by unfold mG; omega) (by unfold mT; omega) (by unfold mW; omega)⟩
theorem LayP.views {D E : DT} {a : Nat} {c : Int32} (h : LayP D E a c) : yN E a = yN D a ∧ yS E a = yS D a ∧ yW E a = yW D a := by
  obtain ⟨h1, -⟩ := h.fr
  unfold yN yS yW
  rw [h1]
  exact ⟨rfl, rfl, rfl⟩
theorem LayP.ok {D E : DT} {a : Nat} {c : Int32} (h : LayP D E a c) (hN : Num (yN D a)) (hp : ¬ pmV E a = 0) : ∃ b e i : Nat, yN D a 1 = nI b ∧ yN D a 0 = nI e ∧ (yN D a 1).toNatClampNeg = b ∧ (yN D a 0).toNatClampNeg = e ∧ b < e ∧ e ≤ 20 ∧ ¬ mPP E a b 0 b = 0 ∧ PlnM E a b i ∧ 1 ≤ i ∧ i ≤ moN (yN D a) ∧ mFF E a b 0 b = nI i ∧ (∀ k, k ≤ i → b ≤ mst E a b k ∧ mst E a b k ≤ e) := by
  obtain ⟨b, e, w, hb, he, hw, q1, q2, q3, hmo, hmo2, hb', he', -⟩ := Num.nats hN
  obtain ⟨v1, v2, v3⟩ := h.views
  obtain ⟨h1, h2⟩ := h
  rw [hb', he'] at h2
  unfold pmV at hp
  rw [v1, he, hb, pk_sub q1] at hp
  by_cases c1' : nI (e - b) ≤ 0
  · rw [if_pos c1'] at hp
    exact absurd rfl hp
  · rw [if_neg c1'] at hp
    have hbe : b < e := by
      rcases Nat.lt_or_ge b e with q | q
      · exact q
      · exact absurd (by rw [show e - b = 0 by omega]; decide) c1'
    have hpp : ¬ mPP E a b 0 b = 0 := by
      intro q
      unfold mPP at q
      rw [Nat.sub_self, Nat.mul_zero] at q
      have q : E (mW a) 0 = 0 := q
      rw [q] at hp
      exact hp rfl
    obtain ⟨-, tb⟩ := tab_b q2 (by omega) h2 _ 0 b (Nat.le_refl _) ⟨by omega, by omega, by omega, fun _ => rfl⟩
    obtain ⟨i, g1, g2, g3, g4⟩ := tb hpp
    obtain ⟨p1, p2, p3, p4, p5⟩ := tab_path q2 (by omega) h2 hpp g1 (by omega)
    have hst : ∀ k, k ≤ i → b ≤ mst E a b k ∧ mst E a b k ≤ e := fun k hk => by
      obtain ⟨⟨-, r1, r2, -⟩, -⟩ := p3 k hk
      exact ⟨by unfold mst; omega, r2⟩
    refine ⟨b, e, i, hb, he, hb', he', hbe, q2, hpp, ⟨by omega, ?_, fun k hk => ⟨(hst k (by omega)).1, (p4 k hk).1, by have := (p4 k hk).2.1; unfold mst; omega, (p4 k hk).2.2⟩⟩, p2 hbe, p1, g1, hst⟩
    unfold mFF at g1
    rw [Nat.sub_self, Nat.mul_zero] at g1
    exact g1
def t_X6_isPlan : TR := fun K _ _ As G D Q => match As with
  | [.ref a, .int c] => MAct K G D a ∧ (0 ≤ c ∧ c ≤ 999) ∧ ∀ E, LayP D E a c → Q (some (.int (pmV E a))) G E
  | _ => False
set_option maxRecDepth 100000 in
set_option maxHeartbeats 4000000 in
theorem s_X6_isPlan (l : Launch) : Sat l yX6_isPlan cX6_isPlan 2 (some .boolean) 6 t_X6_isPlan := by
  refine satb (own := RX6) (fl := flX6) (sg := sgX6) (kc := kcX6) (na := naX6) (rc := rcX6) (cv := (cAdd 93 t_X6_toCome (cAdd 129 t_X6_lays cNone))) (cs := cNone) (bl := bX6_isPlan) (by decide +kernel) rfl envX6 bokX6_isPlan (cvAdd (s_X6_toCome l) lkX6_93 rfl rfl (by decide) (cvAdd (s_X6_lays l) lkX6_129 rfl rfl (by decide) cvNone)) csNone ?_
  intro L K R0 sa hPp As G D Q htr
  unfold t_X6_isPlan at htr
  split at htr
  case h_2 => exact htr.elim
  rename_i a c
  obtain ⟨hA, ⟨v1, v2⟩, hQ⟩ := htr
  have hM : Mod K G a := hA.1
  obtain ⟨⟨k0, g0, g1, g2, g4, g8, g9, g10, g11, g12⟩, k1, k2, k3, k4, k5, k6, k7, k8, k9⟩ := id hM
  refine ⟨by simp, by simp [cat1], [], noI, 8, 0, ?_, nohd⟩
  simp only [↓x_iconst, ↓x_bipush, ↓x_sipush, ↓x_ldc, ↓x_iload_n, ↓x_iload, ↓x_aload_n, ↓x_aload, ↓x_istore_n, ↓x_istore, ↓x_astore_n, ↓x_astore, ↓x_iinc, ↓x_iadd, ↓x_isub, ↓x_imul, ↓x_iand, ↓x_idiv, ↓x_ineg, ↓x_i2c, ↓x_dupI, ↓x_dupA, ↓x_dup2, ↓x_goto, ↓x_get, ↓x_put, ↓x_gets, ↓x_iald, ↓x_bald, ↓x_cald, ↓x_aald, ↓x_iast, ↓x_bast, ↓x_cast, ↓x_aast, ↓x_alen, ↓x_iret, ↓x_vret, ↓x_nil, ↓x_jmp, ↓x_ldI0, ↓x_ldIs, ↓x_ldA0, ↓x_ldAs, ↓x_icmpT, ↓x_icmpF, ↓x_ifT, ↓x_ifF, x_iconst, x_bipush, x_sipush, x_ldc, x_iload_n, x_iload, x_aload_n, x_aload, x_istore_n, x_istore, x_astore_n, x_astore, x_iinc, x_iadd, x_isub, x_imul, x_iand, x_idiv, x_ineg, x_i2c, x_dupI, x_dupA, x_dup2, x_goto, x_if, x_icmp, x_get, x_put, x_gets, x_iald, x_bald, x_cald, x_aald, x_iast, x_bast, x_cast, x_aast, x_alen, x_iret, x_vret, x_nil, x_jmp, x_ldI0, x_ldIs, x_ldA0, x_ldAs, x_cad, x_cad2, x_fv0, x_fv1, x_fv2, x_fv3, cnd, fI, L0, c1, nL0, nL1, nL2, nL3, nL4, nL5, nL6, nL7, nL8, nL9, nL10, nL11, nL12, List.map_cons, List.map_nil, List.length_cons, List.length_nil, List.cons_append, List.nil_append, List.replicate_succ, List.replicate_zero, List.set_cons_zero, List.set_cons_succ, List.mem_cons, List.not_mem_nil, or_false, false_or, Option.toList_some, Option.toList_none, ↓reduceIte, if_true, if_false, Nat.reduceAdd, Nat.reduceSub, Nat.reduceEqDiff, Nat.reduceLT, Nat.reduceLeDiff, Int.reduceNatCast, Int.reduceNatCast', Int.reduceAdd, Int.reduceNeg, Int.reduceToNat, Int.reduceLE, Int.reduceLT, Int.reduceEq, Nat.zero_add, Nat.add_zero, and_true, true_and, ne_eq, not_false_eq_true, not_true_eq_false, and_self, implies_true, Bool.false_eq_true, Nat.reduceBEq, Int32.reduceOfInt, Int32.reduceAdd, Int32.reduceSub, Int32.reduceMul, Int32.reduceLE, Int32.reduceLT, Int32.reduceToNatClampNeg, Option.some.injEq, exists_eq_left, exists_eq_left', Option.isSome_some, Option.getD_some, vp_nar_int, pbi, eq_self, forall_const, false_implies, true_implies, false_and, and_false, uD_s, uG_s, uD_o, ad_nw, ad_wn, ad_ns, ad_sn, ad_ss, ad_ww, ad_sw, ad_ws, Int32.reduceToInt, Classical.not_not, d1n, d2n, d3n, d4n, d5n, d6n, d10n, inr, nL17, nL20, nL21, nL30, nL100, nL462, nL773, nL4638, bp6, bp7, bp8, bp9, bp10, bp11, bp12, bp13, bp14, bp15, bp16, bp17, bp20, bp21, bp29, bp30, bp31, bp33, bp45, bp48, bp49, bp50, bp57, bp59, bp97, bp99, bp100, bp102, spm1000, sp137, sp255, sp257, sp300, sp400, sp462, sp771, sp772, sp773, sp999, sp3865, sp4638, bX6_isPlan_0, bX6_isPlan_25, bX6_isPlan_26, eX6_35, t_X6_toCome, ↓x_inv1 naX6_93, x_inv1 naX6_93, rcX6_93, t_X6_lays, ↓x_inv2 naX6_129, x_inv2 naX6_129, rcX6_129, kcX6_38, kcX6_76, kcX6_77, kcX6_78, k0, g0, g1, g2, g4, g8, g9, g10, g11, g12, k1, k2, k3, k4, k5, k6, k7, k8, k9, hM, hA, v1, v2, nz0, nz1]
  intro E hE
  have hQ := hQ E hE
  unfold pmV at hQ
  refine ⟨fun h1 => ?_, fun h1 => ⟨fun h2 => ?_, fun h2 => ?_⟩⟩
  · rw [if_pos h1] at hQ
    exact hQ
  · rw [if_neg h1, if_pos h2] at hQ
    exact hQ
  · rw [if_neg h1, if_neg h2] at hQ
    exact hQ
def t_X6_wordsOf : TR := fun K _ _ As G D Q => match As with
  | [.ref a, .int j, .int p] => Mod K G a ∧ (0 ≤ 21 * j + p ∧ 21 * j + p < 462) ∧ (0 ≤ yN D a 1 + p ∧ 0 ≤ yN D a 1 + p + D (mT a) (21 * j + p) ∧ yN D a 1 + p + D (mT a) (21 * j + p) ≤ 20) ∧ Q (some (.int (sumI (yS D a 0) (yN D a 1 + p) (yN D a 1 + p + D (mT a) (21 * j + p)) - (if j = 0 then yN D a 3 else 0)))) G D
  | _ => False
set_option maxRecDepth 100000 in
set_option maxHeartbeats 4000000 in
theorem s_X6_wordsOf (l : Launch) : Sat l yX6_wordsOf cX6_wordsOf 3 (some .int) 2 t_X6_wordsOf := by
  refine satb (own := RX6) (fl := flX6) (sg := sgX6) (kc := kcX6) (na := naX6) (rc := rcX6) (cv := (cAdd 57 t_X6_sumOf cNone)) (cs := cNone) (bl := bX6_wordsOf) (by decide +kernel) rfl envX6 bokX6_wordsOf (cvAdd (s_X6_sumOf l) lkX6_57 rfl rfl (by decide) cvNone) csNone ?_
  intro L K R0 sa hPp As G D Q htr
  unfold t_X6_wordsOf at htr
  split at htr
  case h_2 => exact htr.elim
  rename_i a j p
  obtain ⟨hM, ⟨b1, b2⟩, ⟨b3, b4, b5⟩, hQ⟩ := htr
  obtain ⟨⟨k0, g0, g1, g2, g4, g8, g9, g10, g11, g12⟩, k1, k2, k3, k4, k5, k6, k7, k8, k9⟩ := id hM
  unfold yN at b3 b4 b5 hQ
  refine ⟨by simp, by simp [cat1], [], noI, 8, 0, ?_, nohd⟩
  by_cases h : j = 0
  · rw [if_pos h] at hQ
    have ht := eq_true h
    simp only [↓x_iconst, ↓x_bipush, ↓x_sipush, ↓x_ldc, ↓x_iload_n, ↓x_iload, ↓x_aload_n, ↓x_aload, ↓x_istore_n, ↓x_istore, ↓x_astore_n, ↓x_astore, ↓x_iinc, ↓x_iadd, ↓x_isub, ↓x_imul, ↓x_iand, ↓x_idiv, ↓x_ineg, ↓x_i2c, ↓x_dupI, ↓x_dupA, ↓x_dup2, ↓x_goto, ↓x_get, ↓x_put, ↓x_gets, ↓x_iald, ↓x_bald, ↓x_cald, ↓x_aald, ↓x_iast, ↓x_bast, ↓x_cast, ↓x_aast, ↓x_alen, ↓x_iret, ↓x_vret, ↓x_nil, ↓x_jmp, ↓x_ldI0, ↓x_ldIs, ↓x_ldA0, ↓x_ldAs, ↓x_icmpT, ↓x_icmpF, ↓x_ifT, ↓x_ifF, x_iconst, x_bipush, x_sipush, x_ldc, x_iload_n, x_iload, x_aload_n, x_aload, x_istore_n, x_istore, x_astore_n, x_astore, x_iinc, x_iadd, x_isub, x_imul, x_iand, x_idiv, x_ineg, x_i2c, x_dupI, x_dupA, x_dup2, x_goto, x_if, x_icmp, x_get, x_put, x_gets, x_iald, x_bald, x_cald, x_aald, x_iast, x_bast, x_cast, x_aast, x_alen, x_iret, x_vret, x_nil, x_jmp, x_ldI0, x_ldIs, x_ldA0, x_ldAs, x_cad, x_cad2, x_fv0, x_fv1, x_fv2, x_fv3, cnd, fI, L0, c1, nL0, nL1, nL2, nL3, nL4, nL5, nL6, nL7, nL8, nL9, nL10, nL11, nL12, List.map_cons, List.map_nil, List.length_cons, List.length_nil, List.cons_append, List.nil_append, List.replicate_succ, List.replicate_zero, List.set_cons_zero, List.set_cons_succ, List.mem_cons, List.not_mem_nil, or_false, false_or, Option.toList_some, Option.toList_none, ↓reduceIte, if_true, if_false, Nat.reduceAdd, Nat.reduceSub, Nat.reduceEqDiff, Nat.reduceLT, Nat.reduceLeDiff, Int.reduceNatCast, Int.reduceNatCast', Int.reduceAdd, Int.reduceNeg, Int.reduceToNat, Int.reduceLE, Int.reduceLT, Int.reduceEq, Nat.zero_add, Nat.add_zero, and_true, true_and, ne_eq, not_false_eq_true, not_true_eq_false, and_self, implies_true, Bool.false_eq_true, Nat.reduceBEq, Int32.reduceOfInt, Int32.reduceAdd, Int32.reduceSub, Int32.reduceMul, Int32.reduceLE, Int32.reduceLT, Int32.reduceToNatClampNeg, Option.some.injEq, exists_eq_left, exists_eq_left', Option.isSome_some, Option.getD_some, vp_nar_int, pbi, eq_self, forall_const, false_implies, true_implies, false_and, and_false, uD_s, uG_s, uD_o, ad_nw, ad_wn, ad_ns, ad_sn, ad_ss, ad_ww, ad_sw, ad_ws, Int32.reduceToInt, Classical.not_not, d1n, d2n, d3n, d4n, d5n, d6n, d10n, inr, nL17, nL20, nL21, nL30, nL100, nL462, nL773, nL4638, bp6, bp7, bp8, bp9, bp10, bp11, bp12, bp13, bp14, bp15, bp16, bp17, bp20, bp21, bp29, bp30, bp31, bp33, bp45, bp48, bp49, bp50, bp57, bp59, bp97, bp99, bp100, bp102, spm1000, sp137, sp255, sp257, sp300, sp400, sp462, sp771, sp772, sp773, sp999, sp3865, sp4638, bX6_wordsOf_0, bX6_wordsOf_37, bX6_wordsOf_38, eX6_7, eX6_32, t_X6_sumOf, ↓x_inv4 naX6_57, x_inv4 naX6_57, rcX6_57, kcX6_38, kcX6_76, kcX6_77, kcX6_78, k0, g0, g1, g2, g4, g8, g9, g10, g11, g12, k1, k2, k3, k4, k5, k6, k7, k8, k9, hM, b1, b2, b3, b4, b5, ht]
    exact hQ
  · rw [if_neg h] at hQ
    simp only [↓x_iconst, ↓x_bipush, ↓x_sipush, ↓x_ldc, ↓x_iload_n, ↓x_iload, ↓x_aload_n, ↓x_aload, ↓x_istore_n, ↓x_istore, ↓x_astore_n, ↓x_astore, ↓x_iinc, ↓x_iadd, ↓x_isub, ↓x_imul, ↓x_iand, ↓x_idiv, ↓x_ineg, ↓x_i2c, ↓x_dupI, ↓x_dupA, ↓x_dup2, ↓x_goto, ↓x_get, ↓x_put, ↓x_gets, ↓x_iald, ↓x_bald, ↓x_cald, ↓x_aald, ↓x_iast, ↓x_bast, ↓x_cast, ↓x_aast, ↓x_alen, ↓x_iret, ↓x_vret, ↓x_nil, ↓x_jmp, ↓x_ldI0, ↓x_ldIs, ↓x_ldA0, ↓x_ldAs, ↓x_icmpT, ↓x_icmpF, ↓x_ifT, ↓x_ifF, x_iconst, x_bipush, x_sipush, x_ldc, x_iload_n, x_iload, x_aload_n, x_aload, x_istore_n, x_istore, x_astore_n, x_astore, x_iinc, x_iadd, x_isub, x_imul, x_iand, x_idiv, x_ineg, x_i2c, x_dupI, x_dupA, x_dup2, x_goto, x_if, x_icmp, x_get, x_put, x_gets, x_iald, x_bald, x_cald, x_aald, x_iast, x_bast, x_cast, x_aast, x_alen, x_iret, x_vret, x_nil, x_jmp, x_ldI0, x_ldIs, x_ldA0, x_ldAs, x_cad, x_cad2, x_fv0, x_fv1, x_fv2, x_fv3, cnd, fI, L0, c1, nL0, nL1, nL2, nL3, nL4, nL5, nL6, nL7, nL8, nL9, nL10, nL11, nL12, List.map_cons, List.map_nil, List.length_cons, List.length_nil, List.cons_append, List.nil_append, List.replicate_succ, List.replicate_zero, List.set_cons_zero, List.set_cons_succ, List.mem_cons, List.not_mem_nil, or_false, false_or, Option.toList_some, Option.toList_none, ↓reduceIte, if_true, if_false, Nat.reduceAdd, Nat.reduceSub, Nat.reduceEqDiff, Nat.reduceLT, Nat.reduceLeDiff, Int.reduceNatCast, Int.reduceNatCast', Int.reduceAdd, Int.reduceNeg, Int.reduceToNat, Int.reduceLE, Int.reduceLT, Int.reduceEq, Nat.zero_add, Nat.add_zero, and_true, true_and, ne_eq, not_false_eq_true, not_true_eq_false, and_self, implies_true, Bool.false_eq_true, Nat.reduceBEq, Int32.reduceOfInt, Int32.reduceAdd, Int32.reduceSub, Int32.reduceMul, Int32.reduceLE, Int32.reduceLT, Int32.reduceToNatClampNeg, Option.some.injEq, exists_eq_left, exists_eq_left', Option.isSome_some, Option.getD_some, vp_nar_int, pbi, eq_self, forall_const, false_implies, true_implies, false_and, and_false, uD_s, uG_s, uD_o, ad_nw, ad_wn, ad_ns, ad_sn, ad_ss, ad_ww, ad_sw, ad_ws, Int32.reduceToInt, Classical.not_not, d1n, d2n, d3n, d4n, d5n, d6n, d10n, inr, nL17, nL20, nL21, nL30, nL100, nL462, nL773, nL4638, bp6, bp7, bp8, bp9, bp10, bp11, bp12, bp13, bp14, bp15, bp16, bp17, bp20, bp21, bp29, bp30, bp31, bp33, bp45, bp48, bp49, bp50, bp57, bp59, bp97, bp99, bp100, bp102, spm1000, sp137, sp255, sp257, sp300, sp400, sp462, sp771, sp772, sp773, sp999, sp3865, sp4638, bX6_wordsOf_0, bX6_wordsOf_37, bX6_wordsOf_38, eX6_7, eX6_32, t_X6_sumOf, ↓x_inv4 naX6_57, x_inv4 naX6_57, rcX6_57, kcX6_38, kcX6_76, kcX6_77, kcX6_78, k0, g0, g1, g2, g4, g8, g9, g10, g11, g12, k1, k2, k3, k4, k5, k6, k7, k8, k9, hM, b1, b2, b3, b4, b5, h]
    exact hQ
def t_X6_plans : TR := fun K _ _ As G D Q => match As with
  | [.ref a] => MAct K G D a ∧ ∀ E, LayP D E a (yN D a 3) → Q (some (.int (if pmV E a = 0 then 0 else E (mW a) 0))) G E
  | _ => False
set_option maxRecDepth 100000 in
set_option maxHeartbeats 4000000 in
theorem s_X6_plans (l : Launch) : Sat l yX6_plans cX6_plans 1 (some .int) 7 t_X6_plans := by
  refine satb (own := RX6) (fl := flX6) (sg := sgX6) (kc := kcX6) (na := naX6) (rc := rcX6) (cv := (cAdd 133 t_X6_isPlan cNone)) (cs := cNone) (bl := bX6_plans) (by decide +kernel) rfl envX6 bokX6_plans (cvAdd (s_X6_isPlan l) lkX6_133 rfl rfl (by decide) cvNone) csNone ?_
  intro L K R0 sa hPp As G D Q htr
  unfold t_X6_plans at htr
  split at htr
  case h_2 => exact htr.elim
  rename_i a
  obtain ⟨hA, hQ⟩ := htr
  have hM : Mod K G a := hA.1
  obtain ⟨v1, v2, -⟩ := hA.2.2.1
  obtain ⟨⟨k0, g0, g1, g2, g4, g8, g9, g10, g11, g12⟩, k1, k2, k3, k4, k5, k6, k7, k8, k9⟩ := id hM
  unfold yN at v1 v2 hQ
  refine ⟨by simp, by simp [cat1], [], noI, 8, 0, ?_, nohd⟩
  simp only [↓x_iconst, ↓x_bipush, ↓x_sipush, ↓x_ldc, ↓x_iload_n, ↓x_iload, ↓x_aload_n, ↓x_aload, ↓x_istore_n, ↓x_istore, ↓x_astore_n, ↓x_astore, ↓x_iinc, ↓x_iadd, ↓x_isub, ↓x_imul, ↓x_iand, ↓x_idiv, ↓x_ineg, ↓x_i2c, ↓x_dupI, ↓x_dupA, ↓x_dup2, ↓x_goto, ↓x_get, ↓x_put, ↓x_gets, ↓x_iald, ↓x_bald, ↓x_cald, ↓x_aald, ↓x_iast, ↓x_bast, ↓x_cast, ↓x_aast, ↓x_alen, ↓x_iret, ↓x_vret, ↓x_nil, ↓x_jmp, ↓x_ldI0, ↓x_ldIs, ↓x_ldA0, ↓x_ldAs, ↓x_icmpT, ↓x_icmpF, ↓x_ifT, ↓x_ifF, x_iconst, x_bipush, x_sipush, x_ldc, x_iload_n, x_iload, x_aload_n, x_aload, x_istore_n, x_istore, x_astore_n, x_astore, x_iinc, x_iadd, x_isub, x_imul, x_iand, x_idiv, x_ineg, x_i2c, x_dupI, x_dupA, x_dup2, x_goto, x_if, x_icmp, x_get, x_put, x_gets, x_iald, x_bald, x_cald, x_aald, x_iast, x_bast, x_cast, x_aast, x_alen, x_iret, x_vret, x_nil, x_jmp, x_ldI0, x_ldIs, x_ldA0, x_ldAs, x_cad, x_cad2, x_fv0, x_fv1, x_fv2, x_fv3, cnd, fI, L0, c1, nL0, nL1, nL2, nL3, nL4, nL5, nL6, nL7, nL8, nL9, nL10, nL11, nL12, List.map_cons, List.map_nil, List.length_cons, List.length_nil, List.cons_append, List.nil_append, List.replicate_succ, List.replicate_zero, List.set_cons_zero, List.set_cons_succ, List.mem_cons, List.not_mem_nil, or_false, false_or, Option.toList_some, Option.toList_none, ↓reduceIte, if_true, if_false, Nat.reduceAdd, Nat.reduceSub, Nat.reduceEqDiff, Nat.reduceLT, Nat.reduceLeDiff, Int.reduceNatCast, Int.reduceNatCast', Int.reduceAdd, Int.reduceNeg, Int.reduceToNat, Int.reduceLE, Int.reduceLT, Int.reduceEq, Nat.zero_add, Nat.add_zero, and_true, true_and, ne_eq, not_false_eq_true, not_true_eq_false, and_self, implies_true, Bool.false_eq_true, Nat.reduceBEq, Int32.reduceOfInt, Int32.reduceAdd, Int32.reduceSub, Int32.reduceMul, Int32.reduceLE, Int32.reduceLT, Int32.reduceToNatClampNeg, Option.some.injEq, exists_eq_left, exists_eq_left', Option.isSome_some, Option.getD_some, vp_nar_int, pbi, eq_self, forall_const, false_implies, true_implies, false_and, and_false, uD_s, uG_s, uD_o, ad_nw, ad_wn, ad_ns, ad_sn, ad_ss, ad_ww, ad_sw, ad_ws, Int32.reduceToInt, Classical.not_not, d1n, d2n, d3n, d4n, d5n, d6n, d10n, inr, nL17, nL20, nL21, nL30, nL100, nL462, nL773, nL4638, bp6, bp7, bp8, bp9, bp10, bp11, bp12, bp13, bp14, bp15, bp16, bp17, bp20, bp21, bp29, bp30, bp31, bp33, bp45, bp48, bp49, bp50, bp57, bp59, bp97, bp99, bp100, bp102, spm1000, sp137, sp255, sp257, sp300, sp400, sp462, sp771, sp772, sp773, sp999, sp3865, sp4638, bX6_plans_0, bX6_plans_22, bX6_plans_23, eX6_7, eX6_35, t_X6_isPlan, ↓x_inv2 naX6_133, x_inv2 naX6_133, rcX6_133, kcX6_38, kcX6_76, kcX6_77, kcX6_78, k0, g0, g1, g2, g4, g8, g9, g10, g11, g12, k1, k2, k3, k4, k5, k6, k7, k8, k9, hM, hA, v1, v2]
  intro E hE
  have hQ := hQ E hE
  first
  | refine ⟨fun h1 => ?_, fun h1 => ?_⟩
    · rw [if_pos h1] at hQ
      exact hQ
    · rw [if_neg h1] at hQ
      exact hQ
  | refine ⟨fun h1 => ?_, fun h1 => ?_⟩
    · rw [if_neg h1] at hQ
      exact hQ
    · rw [if_pos h1] at hQ
      exact hQ
