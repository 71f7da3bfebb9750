/-! ### the model's tooHigh -/
def offR (a x : Nat) : Prop := x ≠ mF a ∧ x ≠ mG a ∧ x ≠ mT a ∧ x ≠ mW a
theorem off_ms {a : Nat} : offR a (ms a) := ⟨by unfold ms mF; omega, by unfold ms mG; omega, by unfold ms mT; omega, by unfold ms mW; omega⟩
theorem LayP.cg {X Y E : DT} {a : Nat} {c : Int32} (h : ∀ x, offR a x → X x = Y x) (hE : LayP X E a c) : LayP Y E a c := by
  obtain ⟨h1, h2⟩ := hE
  have e := h _ off_ms
  have eN : yN X a = yN Y a := e
  have eS : yS X a = yS Y a := by unfold yS; rw [e]
  have eW : yW X a = yW Y a := by unfold yW; rw [e]
  rw [eN, eS, eW] at h2
  exact ⟨fun x x1 x2 x3 x4 => (h1 x x1 x2 x3 x4).trans (h x ⟨x1, x2, x3, x4⟩), h2⟩
theorem Inv_6 {D X : DT} {a : Nat} {v : Int32} (hI : Inv (yN D a) (yS D a) (yW D a)) (hX : X (ms a) = uD D (ms a) 6 v (ms a)) (h0 : 0 ≤ v) (h1 : v ≤ 9) : Inv (yN X a) (yS X a) (yW X a) := by
  have n6 : ∀ i : Int32, ¬ i.toInt = 6 → X (ms a) i = D (ms a) i := fun i hi => by rw [hX, uD_s, if_neg (fun q => hi q.symm)]
  obtain ⟨⟨y1, y2, y3, y4, y5, y6⟩, ⟨w1, w2, w3, w4, w5, w6⟩, hset, hB, hW⟩ := hI
  unfold yN at y1 y2 y3 y4 y5 y6 w1 w2 w3 w4 w5 w6 hset
  unfold Inv Num yN
  rw [n6 1 (by decide), n6 0 (by decide), n6 2 (by decide), n6 4 (by decide), n6 3 (by decide), n6 5 (by decide)]
  have e6 : X (ms a) 6 = v := by rw [hX, uD_eq]
  rw [e6]
  refine ⟨⟨y1, y2, y3, y4, y5, y6⟩, ⟨w1, w2, w3, w4, h0, h1⟩, hset, fun i i0 i1 => ?_, fun w' i0 i1 => ?_⟩
  · have k : ∀ r : Int32, 0 ≤ r → r < 6 → yS X a r i = yS D a r i := fun r r0 r1 => by
      have := yS_u (D := D) (a := a) (j := 6) (m := v) (r := r) (i := i) (by decide) r0 r1 i0 i1
      unfold yS at this ⊢
      rw [hX]
      exact this
    rw [k 0 (by decide) (by decide), k 1 (by decide) (by decide), k 2 (by decide) (by decide), k 3 (by decide) (by decide)]
    exact hB i i0 i1
  · have k : ∀ r : Int32, 0 ≤ r → r < 4 → yW X a r w' = yW D a r w' := fun r r0 r1 => by
      have q : (17 + 4 * w' + r).toInt = 17 + 4 * w'.toInt + r.toInt := by
        (simp only [i_lt, i_le, i_eq, i_cl, Int32.reduceToInt, ne_eq] at * <;> (first | omega | (simp (disch := (first | omega | (simp (disch := (first | omega | (simp (disch := (first | omega | (simp only [Int32.reduceToInt]; omega))) only [a_add, a_sub, a_mul, a_neg, i_lt, i_le, i_eq, i_cl, Int32.reduceToInt, Int32.reduceToNatClampNeg]; omega))) only [a_add, a_sub, a_mul, a_neg, i_lt, i_le, i_eq, i_cl, Int32.reduceToInt, Int32.reduceToNatClampNeg]; omega))) only [a_add, a_sub, a_mul, a_neg, i_lt, i_le, i_eq, i_cl, Int32.reduceToInt, Int32.reduceToNatClampNeg] at * <;> (first | omega | (simp (disch := (first | omega | (simp (disch := (first | omega | (simp (disch := (first | omega | (simp only [Int32.reduceToInt]; omega))) only [a_add, a_sub, a_mul, a_neg, i_lt, i_le, i_eq, i_cl, Int32.reduceToInt, Int32.reduceToNatClampNeg]; omega))) only [a_add, a_sub, a_mul, a_neg, i_lt, i_le, i_eq, i_cl, Int32.reduceToInt, Int32.reduceToNatClampNeg]; omega))) only [a_add, a_sub, a_mul, a_neg, i_lt, i_le, i_eq, i_cl, Int32.reduceToInt, Int32.reduceToNatClampNeg] at * <;> omega)))))
      simp only [i_le, Int32.reduceToInt] at i0 r0
      unfold yW
      exact n6 _ (by rw [q]; omega)
    rw [k 0 (by decide) (by decide), k 1 (by decide) (by decide)]
    exact hW w' i0 i1
def HiM (D : DT) (a : Nat) (r : Int32) : Prop := (∃ l : Nat, l < 10 ∧ r = nI l ∧ (∃ E, LayP (uD D (ms a) 6 (nI l)) E a (D (ms a) 3) ∧ pmV E a = 0) ∧ ∀ k, k < l → ∃ E, LayP (uD D (ms a) 6 (nI k)) E a (D (ms a) 3) ∧ ¬ pmV E a = 0) ∨ (r = -100009 ∧ ∀ k, k < 10 → ∃ E, LayP (uD D (ms a) 6 (nI k)) E a (D (ms a) 3) ∧ ¬ pmV E a = 0)
def t_X6_tooHigh : TR := fun K _ _ As G D Q => match As with
  | [.ref a] => MAct K G D a ∧ ∀ E r, (∀ x, offR a x → E x = D x) → HiM D a r → Q (some (.int r)) G E
  | _ => False
def TmI (D : DT) (a : Nat) (G : GT) : Nat → Nat → UT := fun k pc LL stk G' E => G' = G ∧ stk = [] ∧ (∀ x, offR a x → x ≠ ms a → E x = D x) ∧ (∃ v, E (ms a) = uD D (ms a) 6 v (ms a)) ∧ ∃ (l : Nat) (f : Int32), LL = [some (.ref a), some (.int (D (ms a) 6)), some (.int f), some (.int (nI l))] ∧ k = 20 - l ∧ l ≤ 10 ∧ ((f = -100009 ∧ ∀ k, k < l → ∃ E, LayP (uD D (ms a) 6 (nI k)) E a (D (ms a) 3) ∧ ¬ pmV E a = 0) ∨ (¬ f = -100009 ∧ HiM D a f))
set_option maxRecDepth 100000 in
set_option maxHeartbeats 4000000 in
theorem s_X6_tooHigh (l : Launch) : Sat l yX6_tooHigh cX6_tooHigh 4 (some .int) 7 t_X6_tooHigh := by
  refine satb (own := RX6) (fl := flX6) (sg := sgX6) (kc := kcX6) (na := naX6) (rc := rcX6) (cv := (cAdd 133 t_X6_isPlan cNone)) (cs := cNone) (bl := bX6_tooHigh) (by decide +kernel) rfl envX6 bokX6_tooHigh (cvAdd (s_X6_isPlan l) lkX6_133 rfl rfl (by decide) cvNone) csNone ?_
  intro L K R0 sa hPp As G D Q htr
  unfold t_X6_tooHigh at htr
  split at htr
  case h_2 => exact htr.elim
  rename_i a
  obtain ⟨⟨hM, hI⟩, hQ⟩ := htr
  obtain ⟨a, rfl⟩ : ∃ q : Nat, q = a := ⟨_, rfl⟩
  obtain ⟨v1', v2', -⟩ := hI.2.1
  unfold yN at v1' v2'
  obtain ⟨⟨k0, g0, g1, g2, g4, g8, g9, g10, g11, g12⟩, k1, k2, k3, k4, k5, k6, k7, k8, k9⟩ := id hM
  refine ⟨by simp, by simp [cat1], [13], TmI D a G, 4, 5, ?_, ?_⟩
  · simp only [↓x_iconst, ↓x_bipush, ↓x_sipush, ↓x_ldc, ↓x_iload_n, ↓x_iload, ↓x_aload_n, ↓x_aload, ↓x_istore_n, ↓x_istore, ↓x_astore_n, ↓x_astore, ↓x_iinc, ↓x_iadd, ↓x_isub, ↓x_imul, ↓x_iand, ↓x_idiv, ↓x_ineg, ↓x_i2c, ↓x_dupI, ↓x_dupA, ↓x_dup2, ↓x_goto, ↓x_get, ↓x_put, ↓x_gets, ↓x_iald, ↓x_bald, ↓x_cald, ↓x_aald, ↓x_iast, ↓x_bast, ↓x_cast, ↓x_aast, ↓x_alen, ↓x_iret, ↓x_vret, ↓x_nil, ↓x_jmp, ↓x_ldI0, ↓x_ldIs, ↓x_ldA0, ↓x_ldAs, ↓x_icmpT, ↓x_icmpF, ↓x_ifT, ↓x_ifF, x_iconst, x_bipush, x_sipush, x_ldc, x_iload_n, x_iload, x_aload_n, x_aload, x_istore_n, x_istore, x_astore_n, x_astore, x_iinc, x_iadd, x_isub, x_imul, x_iand, x_idiv, x_ineg, x_i2c, x_dupI, x_dupA, x_dup2, x_goto, x_if, x_icmp, x_get, x_put, x_gets, x_iald, x_bald, x_cald, x_aald, x_iast, x_bast, x_cast, x_aast, x_alen, x_iret, x_vret, x_nil, x_jmp, x_ldI0, x_ldIs, x_ldA0, x_ldAs, x_cad, x_cad2, x_fv0, x_fv1, x_fv2, x_fv3, cnd, fI, L0, c1, nL0, nL1, nL2, nL3, nL4, nL5, nL6, nL7, nL8, nL9, nL10, nL11, nL12, List.map_cons, List.map_nil, List.length_cons, List.length_nil, List.cons_append, List.nil_append, List.replicate_succ, List.replicate_zero, List.set_cons_zero, List.set_cons_succ, List.mem_cons, List.not_mem_nil, or_false, false_or, Option.toList_some, Option.toList_none, ↓reduceIte, if_true, if_false, Nat.reduceAdd, Nat.reduceSub, Nat.reduceEqDiff, Nat.reduceLT, Nat.reduceLeDiff, Int.reduceNatCast, Int.reduceNatCast', Int.reduceAdd, Int.reduceNeg, Int.reduceToNat, Int.reduceLE, Int.reduceLT, Int.reduceEq, Nat.zero_add, Nat.add_zero, and_true, true_and, ne_eq, not_false_eq_true, not_true_eq_false, and_self, implies_true, Bool.false_eq_true, Nat.reduceBEq, Int32.reduceOfInt, Int32.reduceAdd, Int32.reduceSub, Int32.reduceMul, Int32.reduceLE, Int32.reduceLT, Int32.reduceToNatClampNeg, Option.some.injEq, exists_eq_left, exists_eq_left', Option.isSome_some, Option.getD_some, vp_nar_int, pbi, eq_self, forall_const, false_implies, true_implies, false_and, and_false, uD_s, uG_s, uD_o, ad_nw, ad_wn, ad_ns, ad_sn, ad_ss, ad_ww, ad_sw, ad_ws, Int32.reduceToInt, Classical.not_not, d1n, d2n, d3n, d4n, d5n, d6n, d10n, inr, nL17, nL20, nL21, nL30, nL100, nL462, nL773, nL4638, bp6, bp7, bp8, bp9, bp10, bp11, bp12, bp13, bp14, bp15, bp16, bp17, bp20, bp21, bp29, bp30, bp31, bp33, bp45, bp48, bp49, bp50, bp57, bp59, bp97, bp99, bp100, bp102, spm1000, sp137, sp255, sp257, sp300, sp400, sp462, sp771, sp772, sp773, sp999, sp3865, sp4638, bX6_tooHigh_0, bX6_tooHigh_13, bX6_tooHigh_51, bX6_tooHigh_52, bX6_tooHigh_59, eX6_7, t_X6_isPlan, ↓x_inv2 naX6_133, x_inv2 naX6_133, rcX6_133, kcX6_38, kcX6_76, kcX6_77, kcX6_78, k0, g0, g1, g2, g4, g8, g9, g10, g11, g12, k1, k2, k3, k4, k5, k6, k7, k8, k9]
    exact ⟨_, rfl, rfl, fun _ _ _ => rfl, ⟨D (ms a) 6, by rw [uD_id]⟩, 0, _, rfl, rfl, by omega, Or.inl ⟨rfl, fun k hk => absurd hk (by omega)⟩⟩
  · rintro k pc hpc LL stk G' E ⟨rfl, rfl, hfr, ⟨v, hv⟩, l, f, rfl, rfl, hl, hc⟩
    obtain rfl := List.mem_singleton.mp hpc
    have back : ∀ r, HiM D a r → Q (some (.int r)) G' (uD E (ms a) 6 (D (ms a) 6)) := by
      intro r hr
      refine hQ _ r (fun x hx => ?_) hr
      by_cases q : x = ms a
      · subst q
        rw [uD_sub hv, uD_uu, uD_id]
      · rw [uD_o q]
        exact hfr x hx q
    rcases hc with ⟨rfl, hok⟩ | ⟨hf, hHi⟩
    · rcases Nat.lt_or_ge l 10 with h | h
      · have c1' : ¬ 10 ≤ nI l := Int32.not_le.mpr ((nI_ltI (b := 10) (by omega) (by decide)).mpr h)
        have u1 : nI l + 1 = nI (l + 1) := nI_1 l
        have hX : uD E (ms a) 6 (nI l) (ms a) = uD D (ms a) 6 (nI l) (ms a) := by rw [uD_sub hv, uD_uu]
        have hA : MAct K G' (uD E (ms a) 6 (nI l)) a := ⟨hM, Inv_6 hI hX (nI_pos' (by omega)) ((nI_leI (b := 9) (by omega) (by decide)).mpr (by omega))⟩
        have h3 : uD E (ms a) 6 (nI l) (ms a) 3 = D (ms a) 3 := by rw [hX, uD_s, if_neg (by decide)]
        have h3' : E (ms a) 3 = D (ms a) 3 := by rw [hv, uD_s, if_neg (by decide)]
        simp only [↓x_iconst, ↓x_bipush, ↓x_sipush, ↓x_ldc, ↓x_iload_n, ↓x_iload, ↓x_aload_n, ↓x_aload, ↓x_istore_n, ↓x_istore, ↓x_astore_n, ↓x_astore, ↓x_iinc, ↓x_iadd, ↓x_isub, ↓x_imul, ↓x_iand, ↓x_idiv, ↓x_ineg, ↓x_i2c, ↓x_dupI, ↓x_dupA, ↓x_dup2, ↓x_goto, ↓x_get, ↓x_put, ↓x_gets, ↓x_iald, ↓x_bald, ↓x_cald, ↓x_aald, ↓x_iast, ↓x_bast, ↓x_cast, ↓x_aast, ↓x_alen, ↓x_iret, ↓x_vret, ↓x_nil, ↓x_jmp, ↓x_ldI0, ↓x_ldIs, ↓x_ldA0, ↓x_ldAs, ↓x_icmpT, ↓x_icmpF, ↓x_ifT, ↓x_ifF, x_iconst, x_bipush, x_sipush, x_ldc, x_iload_n, x_iload, x_aload_n, x_aload, x_istore_n, x_istore, x_astore_n, x_astore, x_iinc, x_iadd, x_isub, x_imul, x_iand, x_idiv, x_ineg, x_i2c, x_dupI, x_dupA, x_dup2, x_goto, x_if, x_icmp, x_get, x_put, x_gets, x_iald, x_bald, x_cald, x_aald, x_iast, x_bast, x_cast, x_aast, x_alen, x_iret, x_vret, x_nil, x_jmp, x_ldI0, x_ldIs, x_ldA0, x_ldAs, x_cad, x_cad2, x_fv0, x_fv1, x_fv2, x_fv3, cnd, fI, L0, c1, nL0, nL1, nL2, nL3, nL4, nL5, nL6, nL7, nL8, nL9, nL10, nL11, nL12, List.map_cons, List.map_nil, List.length_cons, List.length_nil, List.cons_append, List.nil_append, List.replicate_succ, List.replicate_zero, List.set_cons_zero, List.set_cons_succ, List.mem_cons, List.not_mem_nil, or_false, false_or, Option.toList_some, Option.toList_none, ↓reduceIte, if_true, if_false, Nat.reduceAdd, Nat.reduceSub, Nat.reduceEqDiff, Nat.reduceLT, Nat.reduceLeDiff, Int.reduceNatCast, Int.reduceNatCast', Int.reduceAdd, Int.reduceNeg, Int.reduceToNat, Int.reduceLE, Int.reduceLT, Int.reduceEq, Nat.zero_add, Nat.add_zero, and_true, true_and, ne_eq, not_false_eq_true, not_true_eq_false, and_self, implies_true, Bool.false_eq_true, Nat.reduceBEq, Int32.reduceOfInt, Int32.reduceAdd, Int32.reduceSub, Int32.reduceMul, Int32.reduceLE, Int32.reduceLT, Int32.reduceToNatClampNeg, Option.some.injEq, exists_eq_left, exists_eq_left', Option.isSome_some, Option.getD_some, vp_nar_int, pbi, eq_self, forall_const, false_implies, true_implies, false_and, and_false, uD_s, uG_s, uD_o, ad_nw, ad_wn, ad_ns, ad_sn, ad_ss, ad_ww, ad_sw, ad_ws, Int32.reduceToInt, Classical.not_not, d1n, d2n, d3n, d4n, d5n, d6n, d10n, inr, nL17, nL20, nL21, nL30, nL100, nL462, nL773, nL4638, bp6, bp7, bp8, bp9, bp10, bp11, bp12, bp13, bp14, bp15, bp16, bp17, bp20, bp21, bp29, bp30, bp31, bp33, bp45, bp48, bp49, bp50, bp57, bp59, bp97, bp99, bp100, bp102, spm1000, sp137, sp255, sp257, sp300, sp400, sp462, sp771, sp772, sp773, sp999, sp3865, sp4638, bX6_tooHigh_0, bX6_tooHigh_13, bX6_tooHigh_51, bX6_tooHigh_52, bX6_tooHigh_59, eX6_7, t_X6_isPlan, ↓x_inv2 naX6_133, x_inv2 naX6_133, rcX6_133, kcX6_38, kcX6_76, kcX6_77, kcX6_78, k0, g0, g1, g2, g4, g8, g9, g10, g11, g12, k1, k2, k3, k4, k5, k6, k7, k8, k9, hA, h3, h3', c1', u1, v1', v2']
        intro E' hE'
        have hE2 : LayP (uD D (ms a) 6 (nI l)) E' a (D (ms a) 3) := LayP.cg (fun x hx => by
          by_cases q : x = ms a
          · subst q
            exact hX
          · rw [uD_o q, uD_o q]
            exact hfr x hx q) hE'
        have fr2 : ∀ x, offR a x → x ≠ ms a → E' x = D x := fun x hx q => (hE2.1 x hx.1 hx.2.1 hx.2.2.1 hx.2.2.2).trans (uD_o q)
        have v2 : ∃ v, E' (ms a) = uD D (ms a) 6 v (ms a) := ⟨nI l, hE2.fr.1⟩
        have yes : ¬ pmV E' a = 0 → ∃ k', k' < 20 - l ∧ TmI D a G' k' 13 [some (.ref a), some (.int (D (ms a) 6)), some (.int (-100009)), some (.int (nI (l + 1)))] [] G' E' := fun hp => ⟨20 - (l + 1), by omega, rfl, rfl, fr2, v2, l + 1, _, rfl, rfl, by omega, Or.inl ⟨rfl, fun k hk => by
          by_cases hkl : k = l
          · subst hkl
            exact ⟨E', hE2, hp⟩
          · exact hok k (by omega)⟩⟩
        have no : pmV E' a = 0 → ∃ k', k' < 20 - l ∧ TmI D a G' k' 13 [some (.ref a), some (.int (D (ms a) 6)), some (.int (nI l)), some (.int (nI (l + 1)))] [] G' E' := fun hp => ⟨20 - (l + 1), by omega, rfl, rfl, fr2, v2, l + 1, _, rfl, rfl, by omega, Or.inr ⟨fun q => by
          have := nI_pos' (n := l) (by omega)
          rw [q] at this
          exact absurd this (by decide), Or.inl ⟨l, h, rfl, ⟨E', hE2, hp⟩, hok⟩⟩⟩
        first
        | exact ⟨fun hp => yes hp, fun hp => no hp⟩
        | exact ⟨fun hp => no hp, fun hp => yes hp⟩
      · obtain rfl : l = 10 := by omega
        have c1' : (10 : Int32) ≤ nI 10 := by decide
        simp only [↓x_iconst, ↓x_bipush, ↓x_sipush, ↓x_ldc, ↓x_iload_n, ↓x_iload, ↓x_aload_n, ↓x_aload, ↓x_istore_n, ↓x_istore, ↓x_astore_n, ↓x_astore, ↓x_iinc, ↓x_iadd, ↓x_isub, ↓x_imul, ↓x_iand, ↓x_idiv, ↓x_ineg, ↓x_i2c, ↓x_dupI, ↓x_dupA, ↓x_dup2, ↓x_goto, ↓x_get, ↓x_put, ↓x_gets, ↓x_iald, ↓x_bald, ↓x_cald, ↓x_aald, ↓x_iast, ↓x_bast, ↓x_cast, ↓x_aast, ↓x_alen, ↓x_iret, ↓x_vret, ↓x_nil, ↓x_jmp, ↓x_ldI0, ↓x_ldIs, ↓x_ldA0, ↓x_ldAs, ↓x_icmpT, ↓x_icmpF, ↓x_ifT, ↓x_ifF, x_iconst, x_bipush, x_sipush, x_ldc, x_iload_n, x_iload, x_aload_n, x_aload, x_istore_n, x_istore, x_astore_n, x_astore, x_iinc, x_iadd, x_isub, x_imul, x_iand, x_idiv, x_ineg, x_i2c, x_dupI, x_dupA, x_dup2, x_goto, x_if, x_icmp, x_get, x_put, x_gets, x_iald, x_bald, x_cald, x_aald, x_iast, x_bast, x_cast, x_aast, x_alen, x_iret, x_vret, x_nil, x_jmp, x_ldI0, x_ldIs, x_ldA0, x_ldAs, x_cad, x_cad2, x_fv0, x_fv1, x_fv2, x_fv3, cnd, fI, L0, c1, nL0, nL1, nL2, nL3, nL4, nL5, nL6, nL7, nL8, nL9, nL10, nL11, nL12, List.map_cons, List.map_nil, List.length_cons, List.length_nil, List.cons_append, List.nil_append, List.replicate_succ, List.replicate_zero, List.set_cons_zero, List.set_cons_succ, List.mem_cons, List.not_mem_nil, or_false, false_or, Option.toList_some, Option.toList_none, ↓reduceIte, if_true, if_false, Nat.reduceAdd, Nat.reduceSub, Nat.reduceEqDiff, Nat.reduceLT, Nat.reduceLeDiff, Int.reduceNatCast, Int.reduceNatCast', Int.reduceAdd, Int.reduceNeg, Int.reduceToNat, Int.reduceLE, Int.reduceLT, Int.reduceEq, Nat.zero_add, Nat.add_zero, and_true, true_and, ne_eq, not_false_eq_true, not_true_eq_false, and_self, implies_true, Bool.false_eq_true, Nat.reduceBEq, Int32.reduceOfInt, Int32.reduceAdd, Int32.reduceSub, Int32.reduceMul, Int32.reduceLE, Int32.reduceLT, Int32.reduceToNatClampNeg, Option.some.injEq, exists_eq_left, exists_eq_left', Option.isSome_some, Option.getD_some, vp_nar_int, pbi, eq_self, forall_const, false_implies, true_implies, false_and, and_false, uD_s, uG_s, uD_o, ad_nw, ad_wn, ad_ns, ad_sn, ad_ss, ad_ww, ad_sw, ad_ws, Int32.reduceToInt, Classical.not_not, d1n, d2n, d3n, d4n, d5n, d6n, d10n, inr, nL17, nL20, nL21, nL30, nL100, nL462, nL773, nL4638, bp6, bp7, bp8, bp9, bp10, bp11, bp12, bp13, bp14, bp15, bp16, bp17, bp20, bp21, bp29, bp30, bp31, bp33, bp45, bp48, bp49, bp50, bp57, bp59, bp97, bp99, bp100, bp102, spm1000, sp137, sp255, sp257, sp300, sp400, sp462, sp771, sp772, sp773, sp999, sp3865, sp4638, bX6_tooHigh_0, bX6_tooHigh_13, bX6_tooHigh_51, bX6_tooHigh_52, bX6_tooHigh_59, eX6_7, t_X6_isPlan, ↓x_inv2 naX6_133, x_inv2 naX6_133, rcX6_133, kcX6_38, kcX6_76, kcX6_77, kcX6_78, k0, g0, g1, g2, g4, g8, g9, g10, g11, g12, k1, k2, k3, k4, k5, k6, k7, k8, k9, c1']
        exact back _ (Or.inr ⟨rfl, hok⟩)
    · rcases Nat.lt_or_ge l 10 with h | h
      · have c1' : ¬ 10 ≤ nI l := Int32.not_le.mpr ((nI_ltI (b := 10) (by omega) (by decide)).mpr h)
        simp only [↓x_iconst, ↓x_bipush, ↓x_sipush, ↓x_ldc, ↓x_iload_n, ↓x_iload, ↓x_aload_n, ↓x_aload, ↓x_istore_n, ↓x_istore, ↓x_astore_n, ↓x_astore, ↓x_iinc, ↓x_iadd, ↓x_isub, ↓x_imul, ↓x_iand, ↓x_idiv, ↓x_ineg, ↓x_i2c, ↓x_dupI, ↓x_dupA, ↓x_dup2, ↓x_goto, ↓x_get, ↓x_put, ↓x_gets, ↓x_iald, ↓x_bald, ↓x_cald, ↓x_aald, ↓x_iast, ↓x_bast, ↓x_cast, ↓x_aast, ↓x_alen, ↓x_iret, ↓x_vret, ↓x_nil, ↓x_jmp, ↓x_ldI0, ↓x_ldIs, ↓x_ldA0, ↓x_ldAs, ↓x_icmpT, ↓x_icmpF, ↓x_ifT, ↓x_ifF, x_iconst, x_bipush, x_sipush, x_ldc, x_iload_n, x_iload, x_aload_n, x_aload, x_istore_n, x_istore, x_astore_n, x_astore, x_iinc, x_iadd, x_isub, x_imul, x_iand, x_idiv, x_ineg, x_i2c, x_dupI, x_dupA, x_dup2, x_goto, x_if, x_icmp, x_get, x_put, x_gets, x_iald, x_bald, x_cald, x_aald, x_iast, x_bast, x_cast, x_aast, x_alen, x_iret, x_vret, x_nil, x_jmp, x_ldI0, x_ldIs, x_ldA0, x_ldAs, x_cad, x_cad2, x_fv0, x_fv1, x_fv2, x_fv3, cnd, fI, L0, c1, nL0, nL1, nL2, nL3, nL4, nL5, nL6, nL7, nL8, nL9, nL10, nL11, nL12, List.map_cons, List.map_nil, List.length_cons, List.length_nil, List.cons_append, List.nil_append, List.replicate_succ, List.replicate_zero, List.set_cons_zero, List.set_cons_succ, List.mem_cons, List.not_mem_nil, or_false, false_or, Option.toList_some, Option.toList_none, ↓reduceIte, if_true, if_false, Nat.reduceAdd, Nat.reduceSub, Nat.reduceEqDiff, Nat.reduceLT, Nat.reduceLeDiff, Int.reduceNatCast, Int.reduceNatCast', Int.reduceAdd, Int.reduceNeg, Int.reduceToNat, Int.reduceLE, Int.reduceLT, Int.reduceEq, Nat.zero_add, Nat.add_zero, and_true, true_and, ne_eq, not_false_eq_true, not_true_eq_false, and_self, implies_true, Bool.false_eq_true, Nat.reduceBEq, Int32.reduceOfInt, Int32.reduceAdd, Int32.reduceSub, Int32.reduceMul, Int32.reduceLE, Int32.reduceLT, Int32.reduceToNatClampNeg, Option.some.injEq, exists_eq_left, exists_eq_left', Option.isSome_some, Option.getD_some, vp_nar_int, pbi, eq_self, forall_const, false_implies, true_implies, false_and, and_false, uD_s, uG_s, uD_o, ad_nw, ad_wn, ad_ns, ad_sn, ad_ss, ad_ww, ad_sw, ad_ws, Int32.reduceToInt, Classical.not_not, d1n, d2n, d3n, d4n, d5n, d6n, d10n, inr, nL17, nL20, nL21, nL30, nL100, nL462, nL773, nL4638, bp6, bp7, bp8, bp9, bp10, bp11, bp12, bp13, bp14, bp15, bp16, bp17, bp20, bp21, bp29, bp30, bp31, bp33, bp45, bp48, bp49, bp50, bp57, bp59, bp97, bp99, bp100, bp102, spm1000, sp137, sp255, sp257, sp300, sp400, sp462, sp771, sp772, sp773, sp999, sp3865, sp4638, bX6_tooHigh_0, bX6_tooHigh_13, bX6_tooHigh_51, bX6_tooHigh_52, bX6_tooHigh_59, eX6_7, t_X6_isPlan, ↓x_inv2 naX6_133, x_inv2 naX6_133, rcX6_133, kcX6_38, kcX6_76, kcX6_77, kcX6_78, k0, g0, g1, g2, g4, g8, g9, g10, g11, g12, k1, k2, k3, k4, k5, k6, k7, k8, k9, c1', hf]
        exact back _ hHi
      · obtain rfl : l = 10 := by omega
        have c1' : (10 : Int32) ≤ nI 10 := by decide
        simp only [↓x_iconst, ↓x_bipush, ↓x_sipush, ↓x_ldc, ↓x_iload_n, ↓x_iload, ↓x_aload_n, ↓x_aload, ↓x_istore_n, ↓x_istore, ↓x_astore_n, ↓x_astore, ↓x_iinc, ↓x_iadd, ↓x_isub, ↓x_imul, ↓x_iand, ↓x_idiv, ↓x_ineg, ↓x_i2c, ↓x_dupI, ↓x_dupA, ↓x_dup2, ↓x_goto, ↓x_get, ↓x_put, ↓x_gets, ↓x_iald, ↓x_bald, ↓x_cald, ↓x_aald, ↓x_iast, ↓x_bast, ↓x_cast, ↓x_aast, ↓x_alen, ↓x_iret, ↓x_vret, ↓x_nil, ↓x_jmp, ↓x_ldI0, ↓x_ldIs, ↓x_ldA0, ↓x_ldAs, ↓x_icmpT, ↓x_icmpF, ↓x_ifT, ↓x_ifF, x_iconst, x_bipush, x_sipush, x_ldc, x_iload_n, x_iload, x_aload_n, x_aload, x_istore_n, x_istore, x_astore_n, x_astore, x_iinc, x_iadd, x_isub, x_imul, x_iand, x_idiv, x_ineg, x_i2c, x_dupI, x_dupA, x_dup2, x_goto, x_if, x_icmp, x_get, x_put, x_gets, x_iald, x_bald, x_cald, x_aald, x_iast, x_bast, x_cast, x_aast, x_alen, x_iret, x_vret, x_nil, x_jmp, x_ldI0, x_ldIs, x_ldA0, x_ldAs, x_cad, x_cad2, x_fv0, x_fv1, x_fv2, x_fv3, cnd, fI, L0, c1, nL0, nL1, nL2, nL3, nL4, nL5, nL6, nL7, nL8, nL9, nL10, nL11, nL12, List.map_cons, List.map_nil, List.length_cons, List.length_nil, List.cons_append, List.nil_append, List.replicate_succ, List.replicate_zero, List.set_cons_zero, List.set_cons_succ, List.mem_cons, List.not_mem_nil, or_false, false_or, Option.toList_some, Option.toList_none, ↓reduceIte, if_true, if_false, Nat.reduceAdd, Nat.reduceSub, Nat.reduceEqDiff, Nat.reduceLT, Nat.reduceLeDiff, Int.reduceNatCast, Int.reduceNatCast', Int.reduceAdd, Int.reduceNeg, Int.reduceToNat, Int.reduceLE, Int.reduceLT, Int.reduceEq, Nat.zero_add, Nat.add_zero, and_true, true_and, ne_eq, not_false_eq_true, not_true_eq_false, and_self, implies_true, Bool.false_eq_true, Nat.reduceBEq, Int32.reduceOfInt, Int32.reduceAdd, Int32.reduceSub, Int32.reduceMul, Int32.reduceLE, Int32.reduceLT, Int32.reduceToNatClampNeg, Option.some.injEq, exists_eq_left, exists_eq_left', Option.isSome_some, Option.getD_some, vp_nar_int, pbi, eq_self, forall_const, false_implies, true_implies, false_and, and_false, uD_s, uG_s, uD_o, ad_nw, ad_wn, ad_ns, ad_sn, ad_ss, ad_ww, ad_sw, ad_ws, Int32.reduceToInt, Classical.not_not, d1n, d2n, d3n, d4n, d5n, d6n, d10n, inr, nL17, nL20, nL21, nL30, nL100, nL462, nL773, nL4638, bp6, bp7, bp8, bp9, bp10, bp11, bp12, bp13, bp14, bp15, bp16, bp17, bp20, bp21, bp29, bp30, bp31, bp33, bp45, bp48, bp49, bp50, bp57, bp59, bp97, bp99, bp100, bp102, spm1000, sp137, sp255, sp257, sp300, sp400, sp462, sp771, sp772, sp773, sp999, sp3865, sp4638, bX6_tooHigh_0, bX6_tooHigh_13, bX6_tooHigh_51, bX6_tooHigh_52, bX6_tooHigh_59, eX6_7, t_X6_isPlan, ↓x_inv2 naX6_133, x_inv2 naX6_133, rcX6_133, kcX6_38, kcX6_76, kcX6_77, kcX6_78, k0, g0, g1, g2, g4, g8, g9, g10, g11, g12, k1, k2, k3, k4, k5, k6, k7, k8, k9, c1']
        exact back _ hHi
