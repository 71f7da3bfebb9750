/-! ### the model's mostCut, tooHigh -/
/-- whether some count of the first k is good with a cut -/
def mgP (E : DT) (a b : Nat) (c : Int32) : Nat → Prop
  | 0 => False
  | k + 1 => mgP E a b c k ∨ (¬ E (mW a) (nI (21 + (k + 1))) ≤ 0 ∧ reaF (yN E a) (yS E a) (yW E a) (yN E a 1) (nI (k + 1)) (yN E a 2) c (yN E a 6) = 0)
def t_X6_mostCut : TR := fun K _ _ As G D Q => match As with
  | [.ref a] => MAct K G D a ∧ ∀ E, LayP D E a 0 → (¬ yN D a 2 < 30 → Q (some (.int (-100009))) G E) ∧ (yN D a 2 < 30 → (∀ c : Nat, c ≤ 999 → mgP E a (yN D a 1).toNatClampNeg (nI c) ((yN D a 0).toNatClampNeg - (yN D a 1).toNatClampNeg) → (∀ d, c < d → d ≤ 999 → ¬ mgP E a (yN D a 1).toNatClampNeg (nI d) ((yN D a 0).toNatClampNeg - (yN D a 1).toNatClampNeg)) → Q (some (.int (nI c))) G E) ∧ ((∀ d, d ≤ 999 → ¬ mgP E a (yN D a 1).toNatClampNeg (nI d) ((yN D a 0).toNatClampNeg - (yN D a 1).toNatClampNeg)) → Q (some (.int (-100009))) G E))
  | _ => False
def McI (D : DT) (a : Nat) (G : GT) : Nat → Nat → UT := fun k pc LL stk G' E => G' = G ∧ stk = [] ∧ LayP D E a 0 ∧ ∃ (b m c n : Nat) (z : Option Value), (yN D a 1).toNatClampNeg = b ∧ (yN D a 0).toNatClampNeg - b = m ∧ (∀ d, c ≤ d → d ≤ 999 → ¬ mgP E a b (nI d) m) ∧ c ≤ 1000 ∧ ((pc = 9 ∧ (c ≤ 999 → yN D a 2 < 30) ∧ LL = [some (.ref a), some (.int (nI c - 1)), z] ∧ k = c * 100 + 50) ∨ (pc = 22 ∧ yN D a 2 < 30 ∧ ∃ c', c = c' + 1 ∧ LL = [some (.ref a), some (.int (nI c')), some (.int (nI (n + 1)))] ∧ n ≤ m ∧ ¬ mgP E a b (nI c') n ∧ k = c * 100 + 25 - n))
set_option maxRecDepth 100000 in
set_option maxHeartbeats 4000000 in
theorem s_X6_mostCut (l : Launch) : Sat l yX6_mostCut cX6_mostCut 3 (some .int) 6 t_X6_mostCut := by
  refine satb (own := RX6) (fl := flX6) (sg := sgX6) (kc := kcX6) (na := naX6) (rc := rcX6) (cv := (cAdd 68 t_X6_reasonOf (cAdd 93 t_X6_toCome (cAdd 97 t_X6_isOver (cAdd 129 t_X6_lays cNone))))) (cs := cNone) (bl := bX6_mostCut) (by decide +kernel) rfl envX6 bokX6_mostCut (cvAdd (s_X6_reasonOf l) lkX6_68 rfl rfl (by decide) (cvAdd (s_X6_toCome l) lkX6_93 rfl rfl (by decide) (cvAdd (s_X6_isOver l) lkX6_97 rfl rfl (by decide) (cvAdd (s_X6_lays l) lkX6_129 rfl rfl (by decide) cvNone)))) csNone ?_
  intro L K R0 sa hPp As G D Q htr
  unfold t_X6_mostCut at htr
  split at htr
  case h_2 => exact htr.elim
  rename_i a
  obtain ⟨hA, hQ⟩ := htr
  obtain ⟨a, rfl⟩ : ∃ q : Nat, q = a := ⟨_, rfl⟩
  have hM : Mod K G a := hA.1
  have hNum := hA.2.1
  obtain ⟨b, e, w, hb, he, hw, p1, p2, p3, hmo, hmo2, hb', he', -⟩ := Num.nats hNum
  have hB := hA.2.2.2.2.1
  obtain ⟨⟨k0, g0, g1, g2, g4, g8, g9, g10, g11, g12⟩, k1, k2, k3, k4, k5, k6, k7, k8, k9⟩ := id hM
  rw [hb', he'] at hQ
  have c0 : (0 : Int32) ≤ 999 := by decide
  have c00 : (0 : Int32) ≤ 0 := by decide
  refine ⟨by simp, by simp [cat1], [9, 22], McI D a G, 4, 5, ?_, ?_⟩
  · simp only [↓x_iconst, ↓x_bipush, ↓x_sipush, ↓x_ldc, ↓x_iload_n, ↓x_iload, ↓x_aload_n, ↓x_aload, ↓x_istore_n, ↓x_istore, ↓x_astore_n, ↓x_astore, ↓x_iinc, ↓x_iadd, ↓x_isub, ↓x_imul, ↓x_iand, ↓x_idiv, ↓x_ineg, ↓x_i2c, ↓x_dupI, ↓x_dupA, ↓x_dup2, ↓x_goto, ↓x_get, ↓x_put, ↓x_gets, ↓x_iald, ↓x_bald, ↓x_cald, ↓x_aald, ↓x_iast, ↓x_bast, ↓x_cast, ↓x_aast, ↓x_alen, ↓x_iret, ↓x_vret, ↓x_nil, ↓x_jmp, ↓x_ldI0, ↓x_ldIs, ↓x_ldA0, ↓x_ldAs, ↓x_icmpT, ↓x_icmpF, ↓x_ifT, ↓x_ifF, x_iconst, x_bipush, x_sipush, x_ldc, x_iload_n, x_iload, x_aload_n, x_aload, x_istore_n, x_istore, x_astore_n, x_astore, x_iinc, x_iadd, x_isub, x_imul, x_iand, x_idiv, x_ineg, x_i2c, x_dupI, x_dupA, x_dup2, x_goto, x_if, x_icmp, x_get, x_put, x_gets, x_iald, x_bald, x_cald, x_aald, x_iast, x_bast, x_cast, x_aast, x_alen, x_iret, x_vret, x_nil, x_jmp, x_ldI0, x_ldIs, x_ldA0, x_ldAs, x_cad, x_cad2, x_fv0, x_fv1, x_fv2, x_fv3, cnd, fI, L0, c1, nL0, nL1, nL2, nL3, nL4, nL5, nL6, nL7, nL8, nL9, nL10, nL11, nL12, List.map_cons, List.map_nil, List.length_cons, List.length_nil, List.cons_append, List.nil_append, List.replicate_succ, List.replicate_zero, List.set_cons_zero, List.set_cons_succ, List.mem_cons, List.not_mem_nil, or_false, false_or, Option.toList_some, Option.toList_none, ↓reduceIte, if_true, if_false, Nat.reduceAdd, Nat.reduceSub, Nat.reduceEqDiff, Nat.reduceLT, Nat.reduceLeDiff, Int.reduceNatCast, Int.reduceNatCast', Int.reduceAdd, Int.reduceNeg, Int.reduceToNat, Int.reduceLE, Int.reduceLT, Int.reduceEq, Nat.zero_add, Nat.add_zero, and_true, true_and, ne_eq, not_false_eq_true, not_true_eq_false, and_self, implies_true, Bool.false_eq_true, Nat.reduceBEq, Int32.reduceOfInt, Int32.reduceAdd, Int32.reduceSub, Int32.reduceMul, Int32.reduceLE, Int32.reduceLT, Int32.reduceToNatClampNeg, Option.some.injEq, exists_eq_left, exists_eq_left', Option.isSome_some, Option.getD_some, vp_nar_int, pbi, eq_self, forall_const, false_implies, true_implies, false_and, and_false, uD_s, uG_s, uD_o, ad_nw, ad_wn, ad_ns, ad_sn, ad_ss, ad_ww, ad_sw, ad_ws, Int32.reduceToInt, Classical.not_not, d1n, d2n, d3n, d4n, d5n, d6n, d10n, inr, nL17, nL20, nL21, nL30, nL100, nL462, nL773, nL4638, bp6, bp7, bp8, bp9, bp10, bp11, bp12, bp13, bp14, bp15, bp16, bp17, bp20, bp21, bp29, bp30, bp31, bp33, bp45, bp48, bp49, bp50, bp57, bp59, bp97, bp99, bp100, bp102, spm1000, sp137, sp255, sp257, sp300, sp400, sp462, sp771, sp772, sp773, sp999, sp3865, sp4638, bX6_mostCut_0, bX6_mostCut_9, bX6_mostCut_22, bX6_mostCut_65, bX6_mostCut_71, bX6_mostCut_77, eX6_7, eX6_35, t_X6_reasonOf, ↓x_inv5 naX6_68, x_inv5 naX6_68, rcX6_68, t_X6_toCome, ↓x_inv1 naX6_93, x_inv1 naX6_93, rcX6_93, t_X6_isOver, ↓x_inv1 naX6_97, x_inv1 naX6_97, rcX6_97, t_X6_lays, ↓x_inv2 naX6_129, x_inv2 naX6_129, rcX6_129, kcX6_38, kcX6_76, kcX6_77, kcX6_78, k0, g0, g1, g2, g4, g8, g9, g10, g11, g12, k1, k2, k3, k4, k5, k6, k7, k8, k9, hM, hA, c0, c00]
    intro E hE
    refine ⟨_, rfl, rfl, hE, b, e - b, 1000, 0, none, hb', by rw [he'], fun d h1 h2 => absurd h1 (by omega), by omega, Or.inl ⟨rfl, fun q => absurd q (by omega), rfl, rfl⟩⟩
  · rintro k pc hpc LL stk G' E ⟨rfl, rfl, hE, b', m, c, n, z, rb, rm, hno, hc, hcc⟩
    rw [hb'] at rb
    subst rb
    rw [he'] at rm
    subst rm
    obtain ⟨hQ1, hQ2⟩ := hQ E hE
    obtain ⟨v1, v2, v3⟩ := hE.views
    have o1 : E (ms a) = D (ms a) := hE.fr.1
    have hb1 : D (ms a) 1 = nI b := hb
    have he1 : D (ms a) 0 = nI e := he
    have hw1 : D (ms a) 2 = nI w := hw
    have hd1 : nI e - nI b = nI (e - b) := pk_sub p1
    sorry
