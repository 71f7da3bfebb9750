/-! ### the model's print -/
theorem yS_n {D : DT} {a : Nat} (r j : Nat) : yS D a (nI r) (nI j) = D (ms a) (nI (137 + 6 * j + r)) := by
  unfold yS
  rw [show (137 : Int32) = nI 137 from rfl, show (6 : Int32) = nI 6 from rfl, pk_mul, nI_add, nI_add]
def prS (S : Int32 → Int32 → Int32) (s : Nat → Int32) (w c : Int32) (f q e : Nat) (i : Nat) : Int32 :=
  if 137 ≤ i ∧ i < 257 ∧ f ≤ (i - 137) / 6 ∧ (i - 137) / 6 < q then (if (i - 137) % 6 = 3 then tenF S (nI ((i - 137) / 6)) (cutF S (nI ((i - 137) / 6)) (nI e) c) else if (i - 137) % 6 = 4 then cutF S (nI ((i - 137) / 6)) (nI e) c else if (i - 137) % 6 = 5 then w else s i) else s i
def PrA (D E : DT) (a f q e : Nat) : Prop := Only D E a ∧ ∀ i, i < 773 → E (ms a) (nI i) = prS (yS D a) (sN D a) (D (ms a) 2) (D (ms a) 3) f q e i
theorem PrA_0 {D : DT} {a f e : Nat} : PrA D (kD D a) a f f e := ⟨Only.k, fun i hi => by
  unfold prS
  rw [if_neg (by omega), kd_s]
  rfl⟩
theorem PrA_s {D E : DT} {a f q e : Nat} (h : PrA D E a f q e) (hf : f ≤ q) (hq : q < 20) : PrA D (uD (uD (uD E (ms a) (nI (137 + 6 * q + 4)) (cutF (yS D a) (nI q) (nI e) (D (ms a) 3))) (ms a) (nI (137 + 6 * q + 5)) (D (ms a) 2)) (ms a) (nI (137 + 6 * q + 3)) (tenF (yS D a) (nI q) (cutF (yS D a) (nI q) (nI e) (D (ms a) 3)))) a f (q + 1) e := by
  obtain ⟨h1, h2⟩ := h
  refine ⟨h1.u.u.u, fun i hi => ?_⟩
  by_cases q3 : i = 137 + 6 * q + 3
  · subst q3
    rw [uD_eq]
    unfold prS
    rw [if_pos (by omega), if_pos (by omega), show (137 + 6 * q + 3 - 137) / 6 = q by omega]
  · rw [uD_at' (by omega) (by omega) (fun _ => q3)]
    by_cases q5 : i = 137 + 6 * q + 5
    · subst q5
      rw [uD_eq]
      unfold prS
      rw [if_pos (by omega), if_neg (by omega), if_neg (by omega), if_pos (by omega)]
    · rw [uD_at' (by omega) (by omega) (fun _ => q5)]
      by_cases q4 : i = 137 + 6 * q + 4
      · subst q4
        rw [uD_eq]
        unfold prS
        rw [if_pos (by omega), if_neg (by omega), if_pos (by omega), show (137 + 6 * q + 4 - 137) / 6 = q by omega]
      · rw [uD_at' (by omega) (by omega) (fun _ => q4), h2 i hi]
        unfold prS
        by_cases c1' : 137 ≤ i ∧ i < 257 ∧ f ≤ (i - 137) / 6 ∧ (i - 137) / 6 < q
        · have c3' : 137 ≤ i ∧ i < 257 ∧ f ≤ (i - 137) / 6 ∧ (i - 137) / 6 < q + 1 := by omega
          rw [if_pos c1', if_pos c3']
        · rw [if_neg c1']
          by_cases c2' : 137 ≤ i ∧ i < 257 ∧ f ≤ (i - 137) / 6 ∧ (i - 137) / 6 < q + 1
          · rw [if_pos c2', if_neg (by omega), if_neg (by omega), if_neg (by omega)]
          · rw [if_neg c2']
theorem PrA.n {D E : DT} {a f q e : Nat} (h : PrA D E a f q e) {i : Nat} (hi : i < 137) : E (ms a) (nI i) = D (ms a) (nI i) := by
  rw [h.2 i (by omega)]
  unfold prS
  rw [if_neg (by omega)]
  rfl
theorem PrA.r {D E : DT} {a f q e : Nat} (h : PrA D E a f q e) {r j : Nat} (hr : r < 3) (hj : j < 20) : yS E a (nI r) (nI j) = yS D a (nI r) (nI j) := by
  rw [yS_n, yS_n, h.2 _ (by omega)]
  unfold prS
  by_cases c : 137 ≤ 137 + 6 * j + r ∧ 137 + 6 * j + r < 257 ∧ f ≤ (137 + 6 * j + r - 137) / 6 ∧ (137 + 6 * j + r - 137) / 6 < q
  · rw [if_pos c, if_neg (by omega), if_neg (by omega), if_neg (by omega)]
    rfl
  · rw [if_neg c]
    rfl
theorem PrA.t {D E : DT} {a f q e : Nat} (h : PrA D E a f q e) {j : Nat} (hj : j < 20) : yS E a 3 (nI j) = if f ≤ j ∧ j < q then tenF (yS D a) (nI j) (cutF (yS D a) (nI j) (nI e) (D (ms a) 3)) else yS D a 3 (nI j) := by
  have e3 : ∀ D : DT, yS D a 3 (nI j) = D (ms a) (nI (137 + 6 * j + 3)) := fun D => yS_n 3 j
  rw [e3, e3, h.2 _ (by omega)]
  unfold prS
  by_cases c : f ≤ j ∧ j < q
  · rw [if_pos c, if_pos (by omega), if_pos (by omega), show (137 + 6 * j + 3 - 137) / 6 = j by omega]
  · rw [if_neg c, if_neg (by omega)]
    rfl
theorem ten_b {S : Int32 → Int32 → Int32} {x c : Int32} (h : 0 ≤ S 3 x ∧ S 3 x ≤ 9) : 0 ≤ tenF S x c ∧ tenF S x c ≤ 9 := by
  unfold tenF
  split
  · split
    · exact ⟨by decide, by decide⟩
    · rename_i h2
      obtain ⟨h0, h1⟩ := h
      refine ⟨?_, ?_⟩ <;> (simp only [i_lt, i_le, i_eq, i_cl, Int32.reduceToInt, ne_eq] at * <;> (first | omega | (simp (disch := (first | omega | (simp (disch := (first | omega | (simp (disch := (first | omega | (simp only [Int32.reduceToInt]; omega))) only [a_add, a_sub, a_mul, a_neg, i_lt, i_le, i_eq, i_cl, Int32.reduceToInt, Int32.reduceToNatClampNeg]; omega))) only [a_add, a_sub, a_mul, a_neg, i_lt, i_le, i_eq, i_cl, Int32.reduceToInt, Int32.reduceToNatClampNeg]; omega))) only [a_add, a_sub, a_mul, a_neg, i_lt, i_le, i_eq, i_cl, Int32.reduceToInt, Int32.reduceToNatClampNeg] at * <;> (first | omega | (simp (disch := (first | omega | (simp (disch := (first | omega | (simp (disch := (first | omega | (simp only [Int32.reduceToInt]; omega))) only [a_add, a_sub, a_mul, a_neg, i_lt, i_le, i_eq, i_cl, Int32.reduceToInt, Int32.reduceToNatClampNeg]; omega))) only [a_add, a_sub, a_mul, a_neg, i_lt, i_le, i_eq, i_cl, Int32.reduceToInt, Int32.reduceToNatClampNeg]; omega))) only [a_add, a_sub, a_mul, a_neg, i_lt, i_le, i_eq, i_cl, Int32.reduceToInt, Int32.reduceToNatClampNeg] at * <;> omega)))))
  · exact h
theorem PrA.b {D E : DT} {a f q e : Nat} (h : PrA D E a f q e) (hB : Bnd (yS D a)) : Bnd (yS E a) := by
  intro i i0 i1
  obtain ⟨b0, b1, b2, b3⟩ := hB i i0 i1
  obtain ⟨j, hj, rfl⟩ := nI_of (x := i) (Int32.not_lt.mpr i0)
  have hj20 := (nI_ltI (b := 20) hj (by decide)).mp i1
  have r0 : yS E a 0 (nI j) = yS D a 0 (nI j) := h.r (r := 0) (by omega) hj20
  have r1 : yS E a 1 (nI j) = yS D a 1 (nI j) := h.r (r := 1) (by omega) hj20
  have r2 : yS E a 2 (nI j) = yS D a 2 (nI j) := h.r (r := 2) (by omega) hj20
  rw [r0, r1, r2, h.t hj20]
  refine ⟨b0, b1, b2, ?_⟩
  split
  · exact ten_b b3
  · exact b3
theorem cutF_c {S S' : Int32 → Int32 → Int32} {x e c : Int32} (h : ∀ i : Int32, 0 ≤ i → i < 20 → S 1 i = S' 1 i) (h0 : 0 ≤ x) (h1 : x < e) (h2 : e ≤ 20) : cutF S x e c = cutF S' x e c := by
  have h3 : 0 ≤ x + 1 ∧ 0 ≤ e := by
    refine ⟨?_, ?_⟩ <;> (simp only [i_lt, i_le, i_eq, i_cl, Int32.reduceToInt, ne_eq] at * <;> (first | omega | (simp (disch := (first | omega | (simp (disch := (first | omega | (simp (disch := (first | omega | (simp only [Int32.reduceToInt]; omega))) only [a_add, a_sub, a_mul, a_neg, i_lt, i_le, i_eq, i_cl, Int32.reduceToInt, Int32.reduceToNatClampNeg]; omega))) only [a_add, a_sub, a_mul, a_neg, i_lt, i_le, i_eq, i_cl, Int32.reduceToInt, Int32.reduceToNatClampNeg]; omega))) only [a_add, a_sub, a_mul, a_neg, i_lt, i_le, i_eq, i_cl, Int32.reduceToInt, Int32.reduceToNatClampNeg] at * <;> (first | omega | (simp (disch := (first | omega | (simp (disch := (first | omega | (simp (disch := (first | omega | (simp only [Int32.reduceToInt]; omega))) only [a_add, a_sub, a_mul, a_neg, i_lt, i_le, i_eq, i_cl, Int32.reduceToInt, Int32.reduceToNatClampNeg]; omega))) only [a_add, a_sub, a_mul, a_neg, i_lt, i_le, i_eq, i_cl, Int32.reduceToInt, Int32.reduceToNatClampNeg]; omega))) only [a_add, a_sub, a_mul, a_neg, i_lt, i_le, i_eq, i_cl, Int32.reduceToInt, Int32.reduceToNatClampNeg] at * <;> omega)))))
  unfold cutF
  rw [sumI_c h3.1 h3.2 h2 h, h x h0 (Int32.lt_of_lt_of_le h1 h2)]
/-- what print leaves, P being the printed scenes -/
def prE (D P : DT) (a : Nat) (w e : Int32) : DT := uD (uD (uD (uD (uD P (ms a) 10 (D (ms a) 10 + w)) (ms a) 11 (D (ms a) 11 + D (ms a) 3)) (ms a) 12 (D (ms a) 12 + 1)) (ms a) 15 (D (ms a) 15 + (D (ms a) 8 * w + 10 * yS P a 3 (e - 1)))) (ms a) 1 e
def t_X6_print : TR := fun K _ _ As G D Q => match As with
  | [.ref a] => MActS K G D a ∧ (if setV (yN D a) = 0 then Q (some (.int (-100002))) G D else if gooD (yN D a) (yS D a) (yW D a) (yN D a 4) = 0 then Q (some (.int (-100002))) G D else ∀ P E, PrA D P a (yN D a 1).toNatClampNeg (yN D a 1 + yN D a 4).toNatClampNeg (yN D a 1 + yN D a 4).toNatClampNeg → MRec D E a (fun k => passM (prE D P a (wdF (yN D a) (yS D a) (yN D a 4)) (yN D a 1 + yN D a 4)) a (wdF (yN D a) (yS D a) (yN D a 4)) (yN D a 4) (ms a) (nI k)) → Q (some (.int (wdF (yN D a) (yS D a) (yN D a 4)))) G E)
  | _ => False
theorem passM_a {D : DT} {a : Nat} {w m : Int32} : passM D a w m a = D a := by
  have na : a ≠ ms a := by unfold ms; omega
  unfold passM
  rw [uD_o na, uD_o na, uD_o na, uD_o na, uD_o na, uD_o na, uD_o na]
set_option maxRecDepth 100000 in
set_option maxHeartbeats 4000000 in
theorem s_X6_print (l : Launch) : Sat l yX6_print cX6_print 6 (some .int) 6 t_X6_print := by
  refine satb (own := RX6) (fl := flX6) (sg := sgX6) (kc := kcX6) (na := naX6) (rc := rcX6) (cv := (cAdd 43 t_X6_of (cAdd 47 t_X6_cutOf (cAdd 51 t_X6_tensionOf (cAdd 57 t_X6_sumOf (cAdd 79 t_X6_keeps (cAdd 86 t_X6_acted (cAdd 101 t_X6_reasonNow (cAdd 104 t_X6_weekPasses cNone))))))))) (cs := cNone) (bl := bX6_print) (by decide +kernel) rfl envX6 bokX6_print (cvAdd (s_X6_of l) lkX6_43 rfl rfl (by decide) (cvAdd (s_X6_cutOf l) lkX6_47 rfl rfl (by decide) (cvAdd (s_X6_tensionOf l) lkX6_51 rfl rfl (by decide) (cvAdd (s_X6_sumOf l) lkX6_57 rfl rfl (by decide) (cvAdd (s_X6_keeps l) lkX6_79 rfl rfl (by decide) (cvAdd (s_X6_acted l) lkX6_86 rfl rfl (by decide) (cvAdd (s_X6_reasonNow l) lkX6_101 rfl rfl (by decide) (cvAdd (s_X6_weekPasses l) lkX6_104 rfl rfl (by decide) cvNone)))))))) csNone ?_
  intro L K R0 sa hPp As G D Q htr
  unfold t_X6_print at htr
  split at htr
  case h_2 => exact htr.elim
  rename_i a
  obtain ⟨⟨⟨hM, hI⟩, st1, st2⟩, hQ⟩ := htr
  obtain ⟨a, rfl⟩ : ∃ q : Nat, q = a := ⟨_, rfl⟩
  obtain ⟨⟨k0, g0, g1, g2, g4, g8, g9, g10, g11, g12⟩, k1, k2, k3, k4, k5, k6, k7, k8, k9⟩ := id hM
  obtain ⟨⟨y1, y2, y3, y4, y5, y6⟩, ⟨w1, w2, w3, w4, w5, w6⟩, hset, hB, hW⟩ := id hI
  unfold yN at y1 y2 y3 y4 y5 y6 w1 w2 w3 w4 w5 w6 hset hQ
  have na : a ≠ ms a := by unfold ms; omega
  have ua : ∀ (E : DT) i x, uD E (ms a) i x a = E a := fun E i x => uD_o na
  refine ⟨by simp, by simp [cat1], [68], fun k pc LL stk G' P => ∃ (f q e : Nat) (z : Option Value), LL = [some (.ref a), some (.int (nI f)), some (.int (nI e)), some (.int (wdF (D (ms a)) (yS D a) (D (ms a) 4))), some (.int (nI q)), z] ∧ stk = [] ∧ G' = G ∧ PrA D P a f q e ∧ f ≤ q ∧ q ≤ e ∧ (D (ms a) 1 = nI f ∧ D (ms a) 1 + D (ms a) 4 = nI e ∧ f < e ∧ e ≤ 20) ∧ (¬ setV (D (ms a)) = 0 ∧ ¬ gooD (D (ms a)) (yS D a) (yW D a) (D (ms a) 4) = 0) ∧ k = e - q, 40, 40, ?_, ?_⟩
  · by_cases h3 : setV (D (ms a)) = 0
    · rw [if_pos h3] at hQ
      have h3' := eq_true ((set_z y6).1 h3)
      simp only [↓x_iconst, ↓x_bipush, ↓x_sipush, ↓x_ldc, ↓x_iload_n, ↓x_iload, ↓x_aload_n, ↓x_aload, ↓x_istore_n, ↓x_istore, ↓x_astore_n, ↓x_astore, ↓x_iinc, ↓x_iadd, ↓x_isub, ↓x_imul, ↓x_iand, ↓x_idiv, ↓x_ineg, ↓x_i2c, ↓x_dupI, ↓x_dupA, ↓x_dup2, ↓x_goto, ↓x_get, ↓x_put, ↓x_gets, ↓x_iald, ↓x_bald, ↓x_cald, ↓x_aald, ↓x_iast, ↓x_bast, ↓x_cast, ↓x_aast, ↓x_alen, ↓x_iret, ↓x_vret, ↓x_nil, ↓x_jmp, ↓x_ldI0, ↓x_ldIs, ↓x_ldA0, ↓x_ldAs, ↓x_icmpT, ↓x_icmpF, ↓x_ifT, ↓x_ifF, x_iconst, x_bipush, x_sipush, x_ldc, x_iload_n, x_iload, x_aload_n, x_aload, x_istore_n, x_istore, x_astore_n, x_astore, x_iinc, x_iadd, x_isub, x_imul, x_iand, x_idiv, x_ineg, x_i2c, x_dupI, x_dupA, x_dup2, x_goto, x_if, x_icmp, x_get, x_put, x_gets, x_iald, x_bald, x_cald, x_aald, x_iast, x_bast, x_cast, x_aast, x_alen, x_iret, x_vret, x_nil, x_jmp, x_ldI0, x_ldIs, x_ldA0, x_ldAs, x_cad, x_cad2, x_fv0, x_fv1, x_fv2, x_fv3, cnd, fI, L0, c1, nL0, nL1, nL2, nL3, nL4, nL5, nL6, nL7, nL8, nL9, nL10, nL11, nL12, List.map_cons, List.map_nil, List.length_cons, List.length_nil, List.cons_append, List.nil_append, List.replicate_succ, List.replicate_zero, List.set_cons_zero, List.set_cons_succ, List.mem_cons, List.not_mem_nil, or_false, false_or, Option.toList_some, Option.toList_none, ↓reduceIte, if_true, if_false, Nat.reduceAdd, Nat.reduceSub, Nat.reduceEqDiff, Nat.reduceLT, Nat.reduceLeDiff, Int.reduceNatCast, Int.reduceNatCast', Int.reduceAdd, Int.reduceNeg, Int.reduceToNat, Int.reduceLE, Int.reduceLT, Int.reduceEq, Nat.zero_add, Nat.add_zero, and_true, true_and, ne_eq, not_false_eq_true, not_true_eq_false, and_self, implies_true, Bool.false_eq_true, Nat.reduceBEq, Int32.reduceOfInt, Int32.reduceAdd, Int32.reduceSub, Int32.reduceMul, Int32.reduceLE, Int32.reduceLT, Int32.reduceToNatClampNeg, Option.some.injEq, exists_eq_left, exists_eq_left', Option.isSome_some, Option.getD_some, vp_nar_int, pbi, eq_self, forall_const, false_implies, true_implies, false_and, and_false, uD_s, uG_s, uD_o, ad_nw, ad_wn, ad_ns, ad_sn, ad_ss, ad_ww, ad_sw, ad_ws, Int32.reduceToInt, Classical.not_not, d1n, d2n, d3n, d4n, d5n, d6n, d10n, inr, nL17, nL20, nL21, nL30, nL100, nL462, nL773, nL4638, bp6, bp7, bp8, bp9, bp10, bp11, bp12, bp13, bp14, bp15, bp16, bp17, bp20, bp21, bp29, bp30, bp31, bp33, bp45, bp48, bp49, bp50, bp57, bp59, bp97, bp99, bp100, bp102, spm1000, sp137, sp255, sp257, sp300, sp400, sp462, sp771, sp772, sp773, sp999, sp3865, sp4638, bX6_print_0, bX6_print_22, bX6_print_25, bX6_print_68, bX6_print_159, eX6_7, t_X6_of, ↓x_inv3 naX6_43, x_inv3 naX6_43, rcX6_43, t_X6_cutOf, ↓x_inv4 naX6_47, x_inv4 naX6_47, rcX6_47, t_X6_tensionOf, ↓x_inv3 naX6_51, x_inv3 naX6_51, rcX6_51, t_X6_sumOf, ↓x_inv4 naX6_57, x_inv4 naX6_57, rcX6_57, t_X6_keeps, ↓x_inv1 naX6_79, x_inv1 naX6_79, rcX6_79, t_X6_acted, ↓x_inv2 naX6_86, x_inv2 naX6_86, rcX6_86, t_X6_reasonNow, ↓x_inv2 naX6_101, x_inv2 naX6_101, rcX6_101, t_X6_weekPasses, ↓x_inv3 naX6_104, x_inv3 naX6_104, rcX6_104, kcX6_38, kcX6_76, kcX6_77, kcX6_78, k0, g0, g1, g2, g4, g8, g9, g10, g11, g12, k1, k2, k3, k4, k5, k6, k7, k8, k9, kd_e, kd_s, kd_a, ua, st1, st2, u1n, hM, h3']
      exact hQ
    · rw [if_neg h3] at hQ
      obtain ⟨h3', h3''⟩ := (set_z y6).2 h3
      have h30 := hset h3''
      by_cases h4 : gooD (D (ms a)) (yS D a) (yW D a) (D (ms a) 4) = 0
      · rw [if_pos h4] at hQ
        have h4' := (goo_r h30).mp h4
        simp only [↓x_iconst, ↓x_bipush, ↓x_sipush, ↓x_ldc, ↓x_iload_n, ↓x_iload, ↓x_aload_n, ↓x_aload, ↓x_istore_n, ↓x_istore, ↓x_astore_n, ↓x_astore, ↓x_iinc, ↓x_iadd, ↓x_isub, ↓x_imul, ↓x_iand, ↓x_idiv, ↓x_ineg, ↓x_i2c, ↓x_dupI, ↓x_dupA, ↓x_dup2, ↓x_goto, ↓x_get, ↓x_put, ↓x_gets, ↓x_iald, ↓x_bald, ↓x_cald, ↓x_aald, ↓x_iast, ↓x_bast, ↓x_cast, ↓x_aast, ↓x_alen, ↓x_iret, ↓x_vret, ↓x_nil, ↓x_jmp, ↓x_ldI0, ↓x_ldIs, ↓x_ldA0, ↓x_ldAs, ↓x_icmpT, ↓x_icmpF, ↓x_ifT, ↓x_ifF, x_iconst, x_bipush, x_sipush, x_ldc, x_iload_n, x_iload, x_aload_n, x_aload, x_istore_n, x_istore, x_astore_n, x_astore, x_iinc, x_iadd, x_isub, x_imul, x_iand, x_idiv, x_ineg, x_i2c, x_dupI, x_dupA, x_dup2, x_goto, x_if, x_icmp, x_get, x_put, x_gets, x_iald, x_bald, x_cald, x_aald, x_iast, x_bast, x_cast, x_aast, x_alen, x_iret, x_vret, x_nil, x_jmp, x_ldI0, x_ldIs, x_ldA0, x_ldAs, x_cad, x_cad2, x_fv0, x_fv1, x_fv2, x_fv3, cnd, fI, L0, c1, nL0, nL1, nL2, nL3, nL4, nL5, nL6, nL7, nL8, nL9, nL10, nL11, nL12, List.map_cons, List.map_nil, List.length_cons, List.length_nil, List.cons_append, List.nil_append, List.replicate_succ, List.replicate_zero, List.set_cons_zero, List.set_cons_succ, List.mem_cons, List.not_mem_nil, or_false, false_or, Option.toList_some, Option.toList_none, ↓reduceIte, if_true, if_false, Nat.reduceAdd, Nat.reduceSub, Nat.reduceEqDiff, Nat.reduceLT, Nat.reduceLeDiff, Int.reduceNatCast, Int.reduceNatCast', Int.reduceAdd, Int.reduceNeg, Int.reduceToNat, Int.reduceLE, Int.reduceLT, Int.reduceEq, Nat.zero_add, Nat.add_zero, and_true, true_and, ne_eq, not_false_eq_true, not_true_eq_false, and_self, implies_true, Bool.false_eq_true, Nat.reduceBEq, Int32.reduceOfInt, Int32.reduceAdd, Int32.reduceSub, Int32.reduceMul, Int32.reduceLE, Int32.reduceLT, Int32.reduceToNatClampNeg, Option.some.injEq, exists_eq_left, exists_eq_left', Option.isSome_some, Option.getD_some, vp_nar_int, pbi, eq_self, forall_const, false_implies, true_implies, false_and, and_false, uD_s, uG_s, uD_o, ad_nw, ad_wn, ad_ns, ad_sn, ad_ss, ad_ww, ad_sw, ad_ws, Int32.reduceToInt, Classical.not_not, d1n, d2n, d3n, d4n, d5n, d6n, d10n, inr, nL17, nL20, nL21, nL30, nL100, nL462, nL773, nL4638, bp6, bp7, bp8, bp9, bp10, bp11, bp12, bp13, bp14, bp15, bp16, bp17, bp20, bp21, bp29, bp30, bp31, bp33, bp45, bp48, bp49, bp50, bp57, bp59, bp97, bp99, bp100, bp102, spm1000, sp137, sp255, sp257, sp300, sp400, sp462, sp771, sp772, sp773, sp999, sp3865, sp4638, bX6_print_0, bX6_print_22, bX6_print_25, bX6_print_68, bX6_print_159, eX6_7, t_X6_of, ↓x_inv3 naX6_43, x_inv3 naX6_43, rcX6_43, t_X6_cutOf, ↓x_inv4 naX6_47, x_inv4 naX6_47, rcX6_47, t_X6_tensionOf, ↓x_inv3 naX6_51, x_inv3 naX6_51, rcX6_51, t_X6_sumOf, ↓x_inv4 naX6_57, x_inv4 naX6_57, rcX6_57, t_X6_keeps, ↓x_inv1 naX6_79, x_inv1 naX6_79, rcX6_79, t_X6_acted, ↓x_inv2 naX6_86, x_inv2 naX6_86, rcX6_86, t_X6_reasonNow, ↓x_inv2 naX6_101, x_inv2 naX6_101, rcX6_101, t_X6_weekPasses, ↓x_inv3 naX6_104, x_inv3 naX6_104, rcX6_104, kcX6_38, kcX6_76, kcX6_77, kcX6_78, k0, g0, g1, g2, g4, g8, g9, g10, g11, g12, k1, k2, k3, k4, k5, k6, k7, k8, k9, kd_e, kd_s, kd_a, ua, st1, st2, u1n, hM, hB, yN, h3', h4', y1, y2, y3, y4, y5, w1, w2]
        exact hQ
      · have h4' := Decidable.not_not.mp (fun q => h4 ((goo_r h30).mpr q))
        obtain ⟨-, g2', g3', g4', g5', g6'⟩ := goo_in h4 ⟨y1, y2, y3, y4, y5, y6⟩
        simp only [↓x_iconst, ↓x_bipush, ↓x_sipush, ↓x_ldc, ↓x_iload_n, ↓x_iload, ↓x_aload_n, ↓x_aload, ↓x_istore_n, ↓x_istore, ↓x_astore_n, ↓x_astore, ↓x_iinc, ↓x_iadd, ↓x_isub, ↓x_imul, ↓x_iand, ↓x_idiv, ↓x_ineg, ↓x_i2c, ↓x_dupI, ↓x_dupA, ↓x_dup2, ↓x_goto, ↓x_get, ↓x_put, ↓x_gets, ↓x_iald, ↓x_bald, ↓x_cald, ↓x_aald, ↓x_iast, ↓x_bast, ↓x_cast, ↓x_aast, ↓x_alen, ↓x_iret, ↓x_vret, ↓x_nil, ↓x_jmp, ↓x_ldI0, ↓x_ldIs, ↓x_ldA0, ↓x_ldAs, ↓x_icmpT, ↓x_icmpF, ↓x_ifT, ↓x_ifF, x_iconst, x_bipush, x_sipush, x_ldc, x_iload_n, x_iload, x_aload_n, x_aload, x_istore_n, x_istore, x_astore_n, x_astore, x_iinc, x_iadd, x_isub, x_imul, x_iand, x_idiv, x_ineg, x_i2c, x_dupI, x_dupA, x_dup2, x_goto, x_if, x_icmp, x_get, x_put, x_gets, x_iald, x_bald, x_cald, x_aald, x_iast, x_bast, x_cast, x_aast, x_alen, x_iret, x_vret, x_nil, x_jmp, x_ldI0, x_ldIs, x_ldA0, x_ldAs, x_cad, x_cad2, x_fv0, x_fv1, x_fv2, x_fv3, cnd, fI, L0, c1, nL0, nL1, nL2, nL3, nL4, nL5, nL6, nL7, nL8, nL9, nL10, nL11, nL12, List.map_cons, List.map_nil, List.length_cons, List.length_nil, List.cons_append, List.nil_append, List.replicate_succ, List.replicate_zero, List.set_cons_zero, List.set_cons_succ, List.mem_cons, List.not_mem_nil, or_false, false_or, Option.toList_some, Option.toList_none, ↓reduceIte, if_true, if_false, Nat.reduceAdd, Nat.reduceSub, Nat.reduceEqDiff, Nat.reduceLT, Nat.reduceLeDiff, Int.reduceNatCast, Int.reduceNatCast', Int.reduceAdd, Int.reduceNeg, Int.reduceToNat, Int.reduceLE, Int.reduceLT, Int.reduceEq, Nat.zero_add, Nat.add_zero, and_true, true_and, ne_eq, not_false_eq_true, not_true_eq_false, and_self, implies_true, Bool.false_eq_true, Nat.reduceBEq, Int32.reduceOfInt, Int32.reduceAdd, Int32.reduceSub, Int32.reduceMul, Int32.reduceLE, Int32.reduceLT, Int32.reduceToNatClampNeg, Option.some.injEq, exists_eq_left, exists_eq_left', Option.isSome_some, Option.getD_some, vp_nar_int, pbi, eq_self, forall_const, false_implies, true_implies, false_and, and_false, uD_s, uG_s, uD_o, ad_nw, ad_wn, ad_ns, ad_sn, ad_ss, ad_ww, ad_sw, ad_ws, Int32.reduceToInt, Classical.not_not, d1n, d2n, d3n, d4n, d5n, d6n, d10n, inr, nL17, nL20, nL21, nL30, nL100, nL462, nL773, nL4638, bp6, bp7, bp8, bp9, bp10, bp11, bp12, bp13, bp14, bp15, bp16, bp17, bp20, bp21, bp29, bp30, bp31, bp33, bp45, bp48, bp49, bp50, bp57, bp59, bp97, bp99, bp100, bp102, spm1000, sp137, sp255, sp257, sp300, sp400, sp462, sp771, sp772, sp773, sp999, sp3865, sp4638, bX6_print_0, bX6_print_22, bX6_print_25, bX6_print_68, bX6_print_159, eX6_7, t_X6_of, ↓x_inv3 naX6_43, x_inv3 naX6_43, rcX6_43, t_X6_cutOf, ↓x_inv4 naX6_47, x_inv4 naX6_47, rcX6_47, t_X6_tensionOf, ↓x_inv3 naX6_51, x_inv3 naX6_51, rcX6_51, t_X6_sumOf, ↓x_inv4 naX6_57, x_inv4 naX6_57, rcX6_57, t_X6_keeps, ↓x_inv1 naX6_79, x_inv1 naX6_79, rcX6_79, t_X6_acted, ↓x_inv2 naX6_86, x_inv2 naX6_86, rcX6_86, t_X6_reasonNow, ↓x_inv2 naX6_101, x_inv2 naX6_101, rcX6_101, t_X6_weekPasses, ↓x_inv3 naX6_104, x_inv3 naX6_104, rcX6_104, kcX6_38, kcX6_76, kcX6_77, kcX6_78, k0, g0, g1, g2, g4, g8, g9, g10, g11, g12, k1, k2, k3, k4, k5, k6, k7, k8, k9, kd_e, kd_s, kd_a, ua, st1, st2, u1n, hM, hB, yN, yS_kD, h3', h4', y1, y2, y3, y4, y5, w1, w2, g5', g6']
        obtain ⟨f, hf, hf2⟩ := nI_of (x := D (ms a) 1) (Int32.not_lt.mpr y1)
        obtain ⟨e, he, he2⟩ := nI_of (x := D (ms a) 1 + D (ms a) 4) (Int32.not_lt.mpr g6')
        have hfe : f < e := by
          rw [he2, hf2] at g3'
          exact (nI_ltI hf he).mp g3'
        have he20 : e ≤ 20 := by
          rw [he2] at g5'
          exact (nI_leI (b := 20) he (by decide)).mp g5'
        refine ⟨_, f, f, e, none, ?_, PrA_0, by omega, by omega, ⟨hf2, he2, hfe, he20⟩, ⟨h3, h4⟩, rfl⟩
        unfold wdF
        rw [he2, hf2]
  · rintro k pc hpc LL stk G' P ⟨f, q, e, z, rfl, rfl, rfl, hI, hf, hq, ⟨hf2, he2, hfe, he20⟩, ⟨h3, h4⟩, rfl⟩
    obtain rfl := List.mem_singleton.mp hpc
    have hB' := hI.b hB
    have o1 : P a = D a := (hI.1 a na).trans kd_a
    have n2 : P (ms a) 2 = D (ms a) 2 := hI.n (i := 2) (by omega)
    have n3 : P (ms a) 3 = D (ms a) 3 := hI.n (i := 3) (by omega)
    have n8 : P (ms a) 8 = D (ms a) 8 := hI.n (i := 8) (by omega)
    have n10 : P (ms a) 10 = D (ms a) 10 := hI.n (i := 10) (by omega)
    have n11 : P (ms a) 11 = D (ms a) 11 := hI.n (i := 11) (by omega)
    have n12 : P (ms a) 12 = D (ms a) 12 := hI.n (i := 12) (by omega)
    have n15 : P (ms a) 15 = D (ms a) 15 := hI.n (i := 15) (by omega)
    have u1 : nI q + 1 = nI (q + 1) := nI_1 q
    have s137 : (137 : Int32) = nI 137 := rfl
    have s6 : (6 : Int32) = nI 6 := rfl
    have b0 : 137 + 6 * nI q = nI (137 + 6 * q) := by rw [s137, s6, pk_mul, nI_add]
    rcases Nat.lt_or_ge q e with h | h
    · have c1' : ¬ nI e ≤ nI q := Int32.not_le.mpr ((nI_ltI (by omega) (by omega)).mpr h)
      have c2' : nI q < nI e := Int32.not_le.mp c1'
      have z1 : 0 ≤ nI q := nI_pos' (by omega)
      have z2 : nI e ≤ 20 := (nI_leI (b := 20) (by omega) (by decide)).mpr he20
      have z3 : nI q ≤ 20 := Int32.le_trans (Int32.le_of_lt c2') z2
      have b3 : nI (137 + 6 * q) + 3 = nI (137 + 6 * q + 3) := by rw [show (3 : Int32) = nI 3 from rfl, nI_add]
      have b4 : nI (137 + 6 * q) + 4 = nI (137 + 6 * q + 4) := by rw [show (4 : Int32) = nI 4 from rfl, nI_add]
      have b5 : nI (137 + 6 * q) + 5 = nI (137 + 6 * q + 5) := by rw [show (5 : Int32) = nI 5 from rfl, nI_add]
      have zz : ∀ j, j < 6 → 0 ≤ nI (137 + 6 * q + j) ∧ nI (137 + 6 * q + j) < 773 := fun j hj => ⟨nI_pos' (by omega), (nI_ltI (b := 773) (by omega) (by decide)).mpr (by omega)⟩
      obtain ⟨x3, x3'⟩ := zz 3 (by omega)
      obtain ⟨x4, x4'⟩ := zz 4 (by omega)
      obtain ⟨x5, x5'⟩ := zz 5 (by omega)
      have s1 : ∀ i : Int32, 0 ≤ i → i < 20 → yS P a 1 i = yS D a 1 i := by
        intro i i0 i1
        obtain ⟨j, hj, rfl⟩ := nI_of (x := i) (Int32.not_lt.mpr i0)
        exact hI.r (r := 1) (by omega) ((nI_ltI (b := 20) hj (by decide)).mp i1)
      have ec : cutF (yS P a) (nI q) (nI e) (D (ms a) 3) = cutF (yS D a) (nI q) (nI e) (D (ms a) 3) := cutF_c s1 z1 c2' z2
      have ne2 : ((nI (137 + 6 * q + 4)).toInt = 2) = False := eq_false (by rw [nI_toInt (by omega)]; omega)
      have et : tenF (yS (uD (uD P (ms a) (nI (137 + 6 * q + 4)) (cutF (yS D a) (nI q) (nI e) (D (ms a) 3))) (ms a) (nI (137 + 6 * q + 5)) (D (ms a) 2)) a) (nI q) (cutF (yS D a) (nI q) (nI e) (D (ms a) 3)) = tenF (yS D a) (nI q) (cutF (yS D a) (nI q) (nI e) (D (ms a) 3)) := by
        have e1 : yS (uD (uD P (ms a) (nI (137 + 6 * q + 4)) (cutF (yS D a) (nI q) (nI e) (D (ms a) 3))) (ms a) (nI (137 + 6 * q + 5)) (D (ms a) 2)) a 1 (nI q) = yS D a 1 (nI q) := by
          have ee : ∀ D : DT, yS D a 1 (nI q) = D (ms a) (nI (137 + 6 * q + 1)) := fun D => yS_n 1 q
          rw [ee, uD_at' (by omega) (by omega) (fun _ => by omega), uD_at' (by omega) (by omega) (fun _ => by omega), ← ee P]
          exact hI.r (r := 1) (by omega) (by omega)
        have e3 : yS (uD (uD P (ms a) (nI (137 + 6 * q + 4)) (cutF (yS D a) (nI q) (nI e) (D (ms a) 3))) (ms a) (nI (137 + 6 * q + 5)) (D (ms a) 2)) a 3 (nI q) = yS D a 3 (nI q) := by
          have ee : ∀ D : DT, yS D a 3 (nI q) = D (ms a) (nI (137 + 6 * q + 3)) := fun D => yS_n 3 q
          rw [ee, uD_at' (by omega) (by omega) (fun _ => by omega), uD_at' (by omega) (by omega) (fun _ => by omega), ← ee P]
          have := hI.t (j := q) (by omega)
          rw [if_neg (by omega)] at this
          exact this
        unfold tenF
        rw [e1, e3]
      simp (maxSteps := 2000000) only [↓x_iconst, ↓x_bipush, ↓x_sipush, ↓x_ldc, ↓x_iload_n, ↓x_iload, ↓x_aload_n, ↓x_aload, ↓x_istore_n, ↓x_istore, ↓x_astore_n, ↓x_astore, ↓x_iinc, ↓x_iadd, ↓x_isub, ↓x_imul, ↓x_iand, ↓x_idiv, ↓x_ineg, ↓x_i2c, ↓x_dupI, ↓x_dupA, ↓x_dup2, ↓x_goto, ↓x_get, ↓x_put, ↓x_gets, ↓x_iald, ↓x_bald, ↓x_cald, ↓x_aald, ↓x_iast, ↓x_bast, ↓x_cast, ↓x_aast, ↓x_alen, ↓x_iret, ↓x_vret, ↓x_nil, ↓x_jmp, ↓x_ldI0, ↓x_ldIs, ↓x_ldA0, ↓x_ldAs, ↓x_icmpT, ↓x_icmpF, ↓x_ifT, ↓x_ifF, x_iconst, x_bipush, x_sipush, x_ldc, x_iload_n, x_iload, x_aload_n, x_aload, x_istore_n, x_istore, x_astore_n, x_astore, x_iinc, x_iadd, x_isub, x_imul, x_iand, x_idiv, x_ineg, x_i2c, x_dupI, x_dupA, x_dup2, x_goto, x_if, x_icmp, x_get, x_put, x_gets, x_iald, x_bald, x_cald, x_aald, x_iast, x_bast, x_cast, x_aast, x_alen, x_iret, x_vret, x_nil, x_jmp, x_ldI0, x_ldIs, x_ldA0, x_ldAs, x_cad, x_cad2, x_fv0, x_fv1, x_fv2, x_fv3, cnd, fI, L0, c1, nL0, nL1, nL2, nL3, nL4, nL5, nL6, nL7, nL8, nL9, nL10, nL11, nL12, List.map_cons, List.map_nil, List.length_cons, List.length_nil, List.cons_append, List.nil_append, List.replicate_succ, List.replicate_zero, List.set_cons_zero, List.set_cons_succ, List.mem_cons, List.not_mem_nil, or_false, false_or, Option.toList_some, Option.toList_none, ↓reduceIte, if_true, if_false, Nat.reduceAdd, Nat.reduceSub, Nat.reduceEqDiff, Nat.reduceLT, Nat.reduceLeDiff, Int.reduceNatCast, Int.reduceNatCast', Int.reduceAdd, Int.reduceNeg, Int.reduceToNat, Int.reduceLE, Int.reduceLT, Int.reduceEq, Nat.zero_add, Nat.add_zero, and_true, true_and, ne_eq, not_false_eq_true, not_true_eq_false, and_self, implies_true, Bool.false_eq_true, Nat.reduceBEq, Int32.reduceOfInt, Int32.reduceAdd, Int32.reduceSub, Int32.reduceMul, Int32.reduceLE, Int32.reduceLT, Int32.reduceToNatClampNeg, Option.some.injEq, exists_eq_left, exists_eq_left', Option.isSome_some, Option.getD_some, vp_nar_int, pbi, eq_self, forall_const, false_implies, true_implies, false_and, and_false, uD_s, uG_s, uD_o, ad_nw, ad_wn, ad_ns, ad_sn, ad_ss, ad_ww, ad_sw, ad_ws, Int32.reduceToInt, Classical.not_not, d1n, d2n, d3n, d4n, d5n, d6n, d10n, inr, nL17, nL20, nL21, nL30, nL100, nL462, nL773, nL4638, bp6, bp7, bp8, bp9, bp10, bp11, bp12, bp13, bp14, bp15, bp16, bp17, bp20, bp21, bp29, bp30, bp31, bp33, bp45, bp48, bp49, bp50, bp57, bp59, bp97, bp99, bp100, bp102, spm1000, sp137, sp255, sp257, sp300, sp400, sp462, sp771, sp772, sp773, sp999, sp3865, sp4638, bX6_print_0, bX6_print_22, bX6_print_25, bX6_print_68, bX6_print_159, eX6_7, t_X6_of, ↓x_inv3 naX6_43, x_inv3 naX6_43, rcX6_43, t_X6_cutOf, ↓x_inv4 naX6_47, x_inv4 naX6_47, rcX6_47, t_X6_tensionOf, ↓x_inv3 naX6_51, x_inv3 naX6_51, rcX6_51, t_X6_sumOf, ↓x_inv4 naX6_57, x_inv4 naX6_57, rcX6_57, t_X6_keeps, ↓x_inv1 naX6_79, x_inv1 naX6_79, rcX6_79, t_X6_acted, ↓x_inv2 naX6_86, x_inv2 naX6_86, rcX6_86, t_X6_reasonNow, ↓x_inv2 naX6_101, x_inv2 naX6_101, rcX6_101, t_X6_weekPasses, ↓x_inv3 naX6_104, x_inv3 naX6_104, rcX6_104, kcX6_38, kcX6_76, kcX6_77, kcX6_78, k0, g0, g1, g2, g4, g8, g9, g10, g11, g12, k1, k2, k3, k4, k5, k6, k7, k8, k9, kd_e, kd_s, kd_a, ua, st1, st2, u1n, hM, hB', o1, n2, n3, u1, b0, b3, b4, b5, c1', c2', z1, z2, z3, x3, x3', x4, x4', x5, x5', ec, et, ne2, w1, w2]
      exact ⟨_, by omega, f, q + 1, e, _, rfl, PrA_s hI hf (by omega), by omega, by omega, ⟨hf2, he2, hfe, he20⟩, ⟨h3, h4⟩, rfl⟩
    · obtain rfl : q = e := by omega
      rw [if_neg h3, if_neg h4, hf2, nI_clamp (by omega), ← hf2, he2, nI_clamp (by omega)] at hQ
      have c1' : nI q ≤ nI q := Int32.le_refl _
      have z0 : 0 ≤ nI q - 1 ∧ nI q - 1 ≤ 20 ∧ nI q - 1 < 20 := by
        obtain ⟨q', rfl⟩ : ∃ q', q = q' + 1 := ⟨q - 1, by omega⟩
        rw [nI_pred]
        obtain ⟨r1, r2, -⟩ := z_n (k := q') (by omega)
        exact ⟨r1, r2, (nI_ltI (b := 20) (by omega) (by decide)).mpr (by omega)⟩
      obtain ⟨z1, z2, z3⟩ := z0
      have em : nI q - nI f = D (ms a) 4 := by
        rw [← he2, ← hf2, Int32.add_comm, Int32.add_sub_cancel]
      have h30 := hset ((set_z y6).2 h3).2
      have yu : ∀ (E : DT) (j m : Int32), j < 137 → yS (uD E (ms a) j m) a 3 (nI q - 1) = yS E a 3 (nI q - 1) := fun E j m hj => yS_u hj (by decide) (by decide) z1 z3
      simp (maxSteps := 2000000) only [↓x_iconst, ↓x_bipush, ↓x_sipush, ↓x_ldc, ↓x_iload_n, ↓x_iload, ↓x_aload_n, ↓x_aload, ↓x_istore_n, ↓x_istore, ↓x_astore_n, ↓x_astore, ↓x_iinc, ↓x_iadd, ↓x_isub, ↓x_imul, ↓x_iand, ↓x_idiv, ↓x_ineg, ↓x_i2c, ↓x_dupI, ↓x_dupA, ↓x_dup2, ↓x_goto, ↓x_get, ↓x_put, ↓x_gets, ↓x_iald, ↓x_bald, ↓x_cald, ↓x_aald, ↓x_iast, ↓x_bast, ↓x_cast, ↓x_aast, ↓x_alen, ↓x_iret, ↓x_vret, ↓x_nil, ↓x_jmp, ↓x_ldI0, ↓x_ldIs, ↓x_ldA0, ↓x_ldAs, ↓x_icmpT, ↓x_icmpF, ↓x_ifT, ↓x_ifF, x_iconst, x_bipush, x_sipush, x_ldc, x_iload_n, x_iload, x_aload_n, x_aload, x_istore_n, x_istore, x_astore_n, x_astore, x_iinc, x_iadd, x_isub, x_imul, x_iand, x_idiv, x_ineg, x_i2c, x_dupI, x_dupA, x_dup2, x_goto, x_if, x_icmp, x_get, x_put, x_gets, x_iald, x_bald, x_cald, x_aald, x_iast, x_bast, x_cast, x_aast, x_alen, x_iret, x_vret, x_nil, x_jmp, x_ldI0, x_ldIs, x_ldA0, x_ldAs, x_cad, x_cad2, x_fv0, x_fv1, x_fv2, x_fv3, cnd, fI, L0, c1, nL0, nL1, nL2, nL3, nL4, nL5, nL6, nL7, nL8, nL9, nL10, nL11, nL12, List.map_cons, List.map_nil, List.length_cons, List.length_nil, List.cons_append, List.nil_append, List.replicate_succ, List.replicate_zero, List.set_cons_zero, List.set_cons_succ, List.mem_cons, List.not_mem_nil, or_false, false_or, Option.toList_some, Option.toList_none, ↓reduceIte, if_true, if_false, Nat.reduceAdd, Nat.reduceSub, Nat.reduceEqDiff, Nat.reduceLT, Nat.reduceLeDiff, Int.reduceNatCast, Int.reduceNatCast', Int.reduceAdd, Int.reduceNeg, Int.reduceToNat, Int.reduceLE, Int.reduceLT, Int.reduceEq, Nat.zero_add, Nat.add_zero, and_true, true_and, ne_eq, not_false_eq_true, not_true_eq_false, and_self, implies_true, Bool.false_eq_true, Nat.reduceBEq, Int32.reduceOfInt, Int32.reduceAdd, Int32.reduceSub, Int32.reduceMul, Int32.reduceLE, Int32.reduceLT, Int32.reduceToNatClampNeg, Option.some.injEq, exists_eq_left, exists_eq_left', Option.isSome_some, Option.getD_some, vp_nar_int, pbi, eq_self, forall_const, false_implies, true_implies, false_and, and_false, uD_s, uG_s, uD_o, ad_nw, ad_wn, ad_ns, ad_sn, ad_ss, ad_ww, ad_sw, ad_ws, Int32.reduceToInt, Classical.not_not, d1n, d2n, d3n, d4n, d5n, d6n, d10n, inr, nL17, nL20, nL21, nL30, nL100, nL462, nL773, nL4638, bp6, bp7, bp8, bp9, bp10, bp11, bp12, bp13, bp14, bp15, bp16, bp17, bp20, bp21, bp29, bp30, bp31, bp33, bp45, bp48, bp49, bp50, bp57, bp59, bp97, bp99, bp100, bp102, spm1000, sp137, sp255, sp257, sp300, sp400, sp462, sp771, sp772, sp773, sp999, sp3865, sp4638, bX6_print_0, bX6_print_22, bX6_print_25, bX6_print_68, bX6_print_159, eX6_7, t_X6_of, ↓x_inv3 naX6_43, x_inv3 naX6_43, rcX6_43, t_X6_cutOf, ↓x_inv4 naX6_47, x_inv4 naX6_47, rcX6_47, t_X6_tensionOf, ↓x_inv3 naX6_51, x_inv3 naX6_51, rcX6_51, t_X6_sumOf, ↓x_inv4 naX6_57, x_inv4 naX6_57, rcX6_57, t_X6_keeps, ↓x_inv1 naX6_79, x_inv1 naX6_79, rcX6_79, t_X6_acted, ↓x_inv2 naX6_86, x_inv2 naX6_86, rcX6_86, t_X6_reasonNow, ↓x_inv2 naX6_101, x_inv2 naX6_101, rcX6_101, t_X6_weekPasses, ↓x_inv3 naX6_104, x_inv3 naX6_104, rcX6_104, kcX6_38, kcX6_76, kcX6_77, kcX6_78, k0, g0, g1, g2, g4, g8, g9, g10, g11, g12, k1, k2, k3, k4, k5, k6, k7, k8, k9, kd_e, kd_s, kd_a, ua, st1, st2, u1n, hM, o1, n2, n3, n8, n10, n11, n12, n15, c1', z1, z2, em, yu, y4, h30, passM_a]
      intro E hE
      exact hQ P E hI (rec_on (passM_on hI.1.u.u.u.u.u) (fun k hk => rfl) hE)
