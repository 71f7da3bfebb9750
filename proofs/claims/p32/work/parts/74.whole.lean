/-! ===== the law's first instructions, and the whole ===== -/
theorem ClsP.c {x : Nat} {G G' : GT} {D D' : DT} (h : ClsP x G D) (e : ∀ z, x ≤ z → z < x + 414 → G' z = G z ∧ D' z = D z) : ClsP x G' D' := by
  obtain ⟨⟨g0, g1, g2, g3⟩, h1, h2, h3, h4⟩ := h
  have e0 := (e x (Nat.le_refl _) (by omega)).1
  refine ⟨⟨by rw [e0]; exact g0, by rw [e0]; exact g1, by rw [e0]; exact g2, by rw [e0]; exact g3⟩, h1.c (fun z z0 z1 => ?_), h2.c (fun z z0 z1 => ?_), h3.c (fun z z0 z1 => ?_), h4.c (fun z z0 z1 => ?_)⟩
  · unfold xN at z0 z1
    exact e z (by omega) (by omega)
  · unfold xH at z0 z1
    exact e z (by omega) (by omega)
  · unfold xT at z0 z1
    exact e z (by omega) (by omega)
  · unfold xP at z0 z1
    exact (e z (by omega) (by omega)).1
theorem init_v {D : DT} {n : Nat} (h : ∀ k, k < 257 → novI D (xv n) k = iv k) : vI D n ∧ New D n ∧ D (nu (xv n)) 5 = 300 ∧ D (nu (xv n)) 6 = 5 := by
  have hN : ∀ i, i < 17 → D (nu (xv n)) (nI i) = iv i := fun i hi => (novI_n hi).symm.trans (h i (by omega))
  have hW : ∀ r j, r < 4 → j < 30 → D (wk (xv n) (nI r)) (nI j) = iv (17 + 4 * j + r) := fun r j hr hj => by
    rw [wk_n hr]
    exact (novI_w hr hj).symm.trans (h _ (by omega))
  have e0 : D (nu (xv n)) 0 = 0 := (hN 0 (by omega)).trans (by decide)
  have e1 : D (nu (xv n)) 1 = 0 := (hN 1 (by omega)).trans (by decide)
  have e2 : D (nu (xv n)) 2 = 0 := (hN 2 (by omega)).trans (by decide)
  have e3 : D (nu (xv n)) 3 = 0 := (hN 3 (by omega)).trans (by decide)
  have e4 : D (nu (xv n)) 4 = 0 := (hN 4 (by omega)).trans (by decide)
  have e5 : D (nu (xv n)) 5 = 300 := (hN 5 (by omega)).trans (by decide)
  have e6 : D (nu (xv n)) 6 = 5 := (hN 6 (by omega)).trans (by decide)
  have e7 : D (nu (xv n)) 7 = 400 := (hN 7 (by omega)).trans (by decide)
  have e9 : D (nu (xv n)) 9 = 0 := (hN 9 (by omega)).trans (by decide)
  have e10 : D (nu (xv n)) 10 = 0 := (hN 10 (by omega)).trans (by decide)
  have e11 : D (nu (xv n)) 11 = 0 := (hN 11 (by omega)).trans (by decide)
  have e12 : D (nu (xv n)) 12 = 0 := (hN 12 (by omega)).trans (by decide)
  have e13 : D (nu (xv n)) 13 = 0 := (hN 13 (by omega)).trans (by decide)
  refine ⟨⟨0, 0, 0, ⟨e0, e1, e2, Nat.le_refl _, by omega, by omega⟩, ?_⟩, ⟨e0, e1, e4⟩, e5, e6⟩
  rw [e3, e4, e5, e7, e9, e10, e11, e12, e13]
  refine ⟨by decide, ⟨rfl, by decide, by decide⟩, by decide, ⟨fun j hj => absurd hj (Nat.not_lt_zero _), fun j hj => absurd hj (Nat.not_lt_zero _), fun j _ hj => absurd hj (Nat.not_lt_zero _), fun j hj => absurd hj (by omega)⟩, fun j hj => ?_, rfl, rfl, rfl, rfl⟩
  have w0 : D (wk (xv n) 0) (nI j) = 2 := (hW 0 j (by omega) hj).trans (by
    unfold iv
    rw [if_neg (by omega), if_neg (by omega), if_neg (by omega), if_neg (by omega), if_pos (by omega), if_pos (by omega)])
  have w1 : D (wk (xv n) 1) (nI j) = 0 := (hW 1 j (by omega) hj).trans (by
    unfold iv
    rw [if_neg (by omega), if_neg (by omega), if_neg (by omega), if_neg (by omega), if_pos (by omega), if_neg (by omega), if_pos (by omega)])
  have w2 : D (wk (xv n) 2) (nI j) = -100009 := (hW 2 j (by omega) hj).trans (by
    unfold iv
    rw [if_neg (by omega), if_neg (by omega), if_neg (by omega), if_neg (by omega), if_pos (by omega), if_neg (by omega), if_neg (by omega)])
  refine ⟨?_, ?_, fun hl => absurd hl (Nat.not_lt_zero _), fun _ => w2⟩
  · unfold zR
    show 1 ≤ (D (wk (xv n) 0) (nI j)).toInt ∧ (D (wk (xv n) 0) (nI j)).toInt ≤ 4
    rw [w0]
    decide
  · unfold zR
    show 0 ≤ (D (wk (xv n) 1) (nI j)).toInt ∧ (D (wk (xv n) 1) (nI j)).toInt ≤ 999
    rw [w1]
    decide
theorem init_w {K : KT} {G : GT} {D : DT} {n : Nat} (hK : ClsK K n) (pc : ClsP n G D) : Wld K G D n ∧ vI D n ∧ New D n ∧ D (nu (xv n)) 5 = 300 ∧ D (nu (xv n)) 6 = 5 ∧ D (xH n) 1 = 0 := by
  obtain ⟨k0, km, ⟨kh0, kh1, kh2⟩, ⟨kt0, kt1, kt2, kt3⟩, ⟨kp0, ⟨kp1, kp2, kp3, kp4⟩, kp5, kp6, kp7, kp8⟩⟩ := hK
  obtain ⟨⟨g0, g1, g2, g3⟩, p1, ⟨ph0, ph1, ph2, ph3⟩, ⟨⟨pt0, pt1⟩, pt2, pt3, pt4⟩, ⟨pp0, pp1, pp2, pp3, pp4⟩⟩ := pc
  have hs : ∀ i, i < 6 → sta G (xH n) (nI i) = n + 48 + 45 * i := fun i hi => by
    unfold sta
    rw [ph1 i hi]
    show xH n + 2 + 45 * i = _
    unfold xH
    omega
  obtain ⟨hv, hn, h5, h6⟩ := init_v (D := D) (n := n) (fun k hk => p1.2.2.1.2 k hk)
  have htk : D (mt (xN n)) = fun _ => 0 := p1.2.2.2.2.2
  refine ⟨⟨⟨⟨⟨k0, g0, g1, g2, g3⟩, km.mom p1, ⟨⟨kh0, ph0, kh1⟩, fun i hi => ?_, fun i hi => ?_⟩, ⟨⟨kt0, pt0, pt1⟩, ⟨kt1, kt2⟩, pt2, fun r hr => ?_⟩, ⟨⟨kp0, pp0⟩, ⟨kp1, kp2, kp3, kp4⟩, ⟨pp1, pp2, pp3, pp4⟩, fun r hr => ?_, fun r hr => ?_, fun r hr => ?_, fun r hr => ?_⟩, fun i hi => ?_⟩, hv.num, by rw [ph3]; decide, by unfold Boo; rw [htk]; exact ⟨Or.inl rfl, Or.inl rfl⟩⟩, fun i j hi hj hij => ?_, fun i hi => ?_⟩, hv, hn, h5, h6, ph3⟩
  · obtain ⟨j, hj, rfl⟩ := in_n (N := 6) (by omega) hi
    unfold sta
    rw [ph1 j hj]
    rfl
  · obtain ⟨j, hj, rfl⟩ := in_n (N := 6) (by omega) hi
    have e : sta G (xH n) (nI j) = xH n + 2 + 45 * j := by
      unfold sta
      rw [ph1 j hj]
      rfl
    rw [e]
    exact (kh2 j hj).mom (ph2 j hj)
  · obtain ⟨j, hj, rfl⟩ := in_n (N := 4) (by omega) hr
    unfold tr
    rw [nI_clamp (by omega)]
    exact kt3 j hj
  · obtain ⟨j, hj, rfl⟩ := in_n (N := 21) (by omega) hr
    unfold tP
    rw [nI_clamp (by omega)]
    exact kp5 j hj
  · obtain ⟨j, hj, rfl⟩ := in_n (N := 21) (by omega) hr
    unfold tF
    rw [nI_clamp (by omega)]
    exact kp6 j hj
  · obtain ⟨j, hj, rfl⟩ := in_n (N := 21) (by omega) hr
    unfold tG
    rw [nI_clamp (by omega)]
    exact kp7 j hj
  · obtain ⟨j, hj, rfl⟩ := in_n (N := 21) (by omega) hr
    unfold tC
    rw [nI_clamp (by omega)]
    exact kp8 j hj
  · obtain ⟨j, hj, rfl⟩ := in_n (N := 6) (by omega) hi
    rw [hs j hj]
    omega
  · rw [hs i hi, hs j hj]
    unfold Mdis
    omega
  · rw [ph3] at hi
    exact absurd (Int32.lt_of_le_of_lt hi.1 hi.2) (by decide)
set_option maxRecDepth 100000 in
set_option maxHeartbeats 4000000 in
theorem law_start {p : Program} {l : Launch} {e : Env} {s : State} {m : MethodId} {below : List Frame} {meth : Method} {c : Code} {Q0 : State → Prop} {dC : Nat → ClassId} {dI : Nat → Nat → Nat} {cy : Nat → ClassId} {K : KT} {sa : Nat → Nat} {n b : Nat} (X : CxA p s m #[Value.ref b] c dC dI cy K sa cL_law RL 8 n 0) (hk5 : ClsK K n)
    (fin : ∀ G D, ClsP n G D → SJ p l e room_1 s m #[Value.ref b] below meth c Q0 dC dI cy K 8 n 0 414 7774 8 [some (.ref b), some (.ref n), none, none, none, none, none, none] [] G D) : SJ p l e room_1 s m #[Value.ref b] below meth c Q0 dC dI cy K 8 n 0 0 0 0 (L0 [.ref b] 8) [] G00 D00 := by
  rw [show L0 [.ref b] 8 = [some (.ref b), none, none, none, none, none, none, none] from rfl]
  refine sj_new X (ty := tyX5) cl_L_10 ins_X5 ini_X5 rfl inG5 tyX5_ok rfl (by decide) (by decide) hk5.1 rfl rfl (by decide) (by decide) (by decide) dL_law_0 ?_
  refine sj_old X envL (na := naL) (rc := rcL) (R0 := D00) (okc_c dL_law_3 (okc_e)) ?_
  simp only [↓x_iconst, ↓x_bipush, ↓x_sipush, ↓x_ldc, ↓x_iload_n, ↓x_iload, ↓x_aload_n, ↓x_aload, ↓x_istore_n, ↓x_istore, ↓x_astore_n, ↓x_astore, ↓x_iinc, ↓x_iadd, ↓x_isub, ↓x_imul, ↓x_iand, ↓x_idiv, ↓x_irem, ↓x_ineg, ↓x_i2c, ↓x_dupI, ↓x_dupA, ↓x_dup2, ↓x_goto, ↓x_get, ↓x_put, ↓x_gets, ↓x_iald, ↓x_bald, ↓x_aald, ↓x_iast, ↓x_bast, ↓x_aast, ↓x_alen, ↓x_iret, ↓x_vret, ↓x_nil, ↓x_jmp, ↓x_ldI0, ↓x_ldIs, ↓x_ldA0, ↓x_ldAs, ↓x_icmpT, ↓x_icmpF, ↓x_ifT, ↓x_ifF, x_iconst, x_bipush, x_sipush, x_ldc, x_iload_n, x_iload, x_aload_n, x_aload, x_istore_n, x_istore, x_astore_n, x_astore, x_iinc, x_iadd, x_isub, x_imul, x_iand, x_idiv, x_irem, x_ineg, x_i2c, x_dupI, x_dupA, x_dup2, x_goto, x_if, x_icmp, x_get, x_put, x_gets, x_iald, x_bald, x_aald, x_iast, x_bast, x_aast, x_alen, x_iret, x_vret, x_nil, x_jmp, x_ldI0, x_ldIs, x_ldA0, x_ldAs, x_cad, x_cad2, x_fv0, x_fv1, x_fv2, x_fv3, cnd, fI, L0, c1, nL0, nL1, nL2, nL3, nL4, nL5, nL6, nL7, nL8, nL9, nL10, nL11, nL12, List.map_cons, List.map_nil, List.length_cons, List.length_nil, List.cons_append, List.nil_append, List.replicate_succ, List.replicate_zero, List.set_cons_zero, List.set_cons_succ, List.mem_cons, List.not_mem_nil, or_false, false_or, Option.toList_some, Option.toList_none, ↓reduceIte, if_true, if_false, Nat.reduceAdd, Nat.reduceSub, Nat.reduceEqDiff, Nat.reduceLT, Nat.reduceLeDiff, Int.reduceNatCast, Int.reduceNatCast', Int.reduceAdd, Int.reduceNeg, Int.reduceToNat, Int.reduceLE, Int.reduceLT, Int.reduceEq, Nat.zero_add, Nat.add_zero, and_true, true_and, ne_eq, not_false_eq_true, not_true_eq_false, and_self, implies_true, Bool.false_eq_true, Nat.reduceBEq, Int32.reduceOfInt, Int32.reduceAdd, Int32.reduceSub, Int32.reduceMul, Int32.reduceLE, Int32.reduceLT, Int32.reduceToNatClampNeg, Option.some.injEq, exists_eq_left, exists_eq_left', Option.isSome_some, Option.getD_some, vp_nar_int, pbi, eq_self, forall_const, false_implies, true_implies, false_and, and_false, uD_s, uG_s, uD_o, ad_nw, ad_wn, ad_ns, ad_sn, ad_ss, ad_ww, ad_sw, ad_ws, Int32.reduceToInt, Classical.not_not, d1n, d2n, d3n, d4n, d5n, d6n, d10n, inr, nL17, nL20, nL21, nL30, nL100, nL462, nL773, nL4638, bp6, bp7, bp8, bp9, bp10, bp11, bp12, bp13, bp14, bp15, bp16, bp17, bp20, bp21, bp26, bp30, bp40, bp60, bp80, bp90, bp100, spm1000, spm999, sp128, sp150, sp200, sp256, sp300, sp400, sp999, sp1024, sp4096, sp8192, kcL_22, kcL_32, kcL_36, kcL_7, kcL_8, kcL_89]
  refine sj_call X (j := 0) (c_X5 l) il_L_60 iy_X5.1 iy_X5.2.1 iy_X5.2.2 rfl (by decide +kernel) (by decide +kernel) hk5 rfl rfl (by decide) (by decide) (by decide) (by decide) (by decide) trivial dL_law_4 ?_
  intro Ga Da ⟨pa, fa⟩
  have p1 : ClsP n (mrG (n + 0) G00 Ga) (mrD (n + 0) D00 Da) := ClsP.c pa (fun z z0 z1 => ⟨mrG_ge z0, mrD_ge z0⟩)
  generalize mrG (n + 0) G00 Ga = G1 at p1 ⊢
  generalize mrD (n + 0) D00 Da = D1 at p1 ⊢
  refine sj_old X envL (na := naL) (rc := rcL) (R0 := D00) (okc_c dL_law_7 (okc_e)) ?_
  simp only [↓x_iconst, ↓x_bipush, ↓x_sipush, ↓x_ldc, ↓x_iload_n, ↓x_iload, ↓x_aload_n, ↓x_aload, ↓x_istore_n, ↓x_istore, ↓x_astore_n, ↓x_astore, ↓x_iinc, ↓x_iadd, ↓x_isub, ↓x_imul, ↓x_iand, ↓x_idiv, ↓x_irem, ↓x_ineg, ↓x_i2c, ↓x_dupI, ↓x_dupA, ↓x_dup2, ↓x_goto, ↓x_get, ↓x_put, ↓x_gets, ↓x_iald, ↓x_bald, ↓x_aald, ↓x_iast, ↓x_bast, ↓x_aast, ↓x_alen, ↓x_iret, ↓x_vret, ↓x_nil, ↓x_jmp, ↓x_ldI0, ↓x_ldIs, ↓x_ldA0, ↓x_ldAs, ↓x_icmpT, ↓x_icmpF, ↓x_ifT, ↓x_ifF, x_iconst, x_bipush, x_sipush, x_ldc, x_iload_n, x_iload, x_aload_n, x_aload, x_istore_n, x_istore, x_astore_n, x_astore, x_iinc, x_iadd, x_isub, x_imul, x_iand, x_idiv, x_irem, x_ineg, x_i2c, x_dupI, x_dupA, x_dup2, x_goto, x_if, x_icmp, x_get, x_put, x_gets, x_iald, x_bald, x_aald, x_iast, x_bast, x_aast, x_alen, x_iret, x_vret, x_nil, x_jmp, x_ldI0, x_ldIs, x_ldA0, x_ldAs, x_cad, x_cad2, x_fv0, x_fv1, x_fv2, x_fv3, cnd, fI, L0, c1, nL0, nL1, nL2, nL3, nL4, nL5, nL6, nL7, nL8, nL9, nL10, nL11, nL12, List.map_cons, List.map_nil, List.length_cons, List.length_nil, List.cons_append, List.nil_append, List.replicate_succ, List.replicate_zero, List.set_cons_zero, List.set_cons_succ, List.mem_cons, List.not_mem_nil, or_false, false_or, Option.toList_some, Option.toList_none, ↓reduceIte, if_true, if_false, Nat.reduceAdd, Nat.reduceSub, Nat.reduceEqDiff, Nat.reduceLT, Nat.reduceLeDiff, Int.reduceNatCast, Int.reduceNatCast', Int.reduceAdd, Int.reduceNeg, Int.reduceToNat, Int.reduceLE, Int.reduceLT, Int.reduceEq, Nat.zero_add, Nat.add_zero, and_true, true_and, ne_eq, not_false_eq_true, not_true_eq_false, and_self, implies_true, Bool.false_eq_true, Nat.reduceBEq, Int32.reduceOfInt, Int32.reduceAdd, Int32.reduceSub, Int32.reduceMul, Int32.reduceLE, Int32.reduceLT, Int32.reduceToNatClampNeg, Option.some.injEq, exists_eq_left, exists_eq_left', Option.isSome_some, Option.getD_some, vp_nar_int, pbi, eq_self, forall_const, false_implies, true_implies, false_and, and_false, uD_s, uG_s, uD_o, ad_nw, ad_wn, ad_ns, ad_sn, ad_ss, ad_ww, ad_sw, ad_ws, Int32.reduceToInt, Classical.not_not, d1n, d2n, d3n, d4n, d5n, d6n, d10n, inr, nL17, nL20, nL21, nL30, nL100, nL462, nL773, nL4638, bp6, bp7, bp8, bp9, bp10, bp11, bp12, bp13, bp14, bp15, bp16, bp17, bp20, bp21, bp26, bp30, bp40, bp60, bp80, bp90, bp100, spm1000, spm999, sp128, sp150, sp200, sp256, sp300, sp400, sp999, sp1024, sp4096, sp8192, kcL_22, kcL_32, kcL_36, kcL_7, kcL_8, kcL_89]
  exact fin _ _ p1
set_option maxRecDepth 100000 in
set_option maxHeartbeats 4000000 in
theorem whole_start {p : Program} {e : Env} {s : State} {m : MethodId} {below : List Frame} {meth : Method} {c : Code} (l : Launch) (hflags : l.flags = flags0) {b L : Nat} {xs : Nat → Int32} (hL : L ≤ 260) (C0 : lw_At p s m meth c b L xs) : W p l e room_1 s m #[Value.ref b] below meth c s.heap [] 0 0 (lw_Z below #[Value.ref b] s) (entryFrame m ([Value.ref b] : List Value).toArray 8) := by
  obtain ⟨hx, hb, hr, hml, hown, hts, ⟨scr, x1, x2, x3, x4, x5⟩, hbl, hlocks, hgv⟩ := C0
  have hg : ∀ w ∈ gT, w.before #[Value.ref b] s = true := fun w hw => hts w (List.mem_filter.mp hw).1
  obtain ⟨dC, dI, cy, hK⟩ := law_know hts
  obtain ⟨sa, hz, ⟨T0, T1, T2, T3⟩, n0, n1, n2, n3⟩ := law_stat hts hgv
  have hN : va_Nw (.methodLinkNest RX2 83 yX5_fineFor RX5) s := va_Nw.of rfl (hts _ (List.mem_of_getElem? (i := 244) (by decide +kernel)))
  have lt : ∀ {t : Nat} {f : Nat → Value}, va_T .int t 4 f (fun q => s.heap.size ≤ q) s s.heap → t < s.heap.size := fun h => Nat.not_le.mp h.out
  have X : CxA p s m #[Value.ref b] c dC dI cy (KA s.heap.size b L sa) sa cL_law RL 8 s.heap.size 0 := ⟨⟨hx, hb, hml, hown, hg⟩, ⟨hK, hN, hz, va_AO.of (hts _ (List.mem_of_getElem? (i := 72) (by decide +kernel))), va_AO.of (hts _ (List.mem_of_getElem? (i := 50) (by decide +kernel))), (show aoI s from hts (.arrayOver (.array .int)) (List.mem_of_getElem? (i := 34) (by decide +kernel))), va_Nw.of rfl (hts _ (List.mem_of_getElem? (i := 84) (by decide +kernel))), va_Nw.of rfl (hts _ (List.mem_of_getElem? (i := 108) (by decide +kernel)))⟩, rfl, KA_ok hL⟩
  have TB : va_T .int b L (fun j => .int (xs j)) (fun q => s.heap.size ≤ q) s s.heap := ⟨scr, x1, x2, x3, by omega, congrArg Nat.toInt32 x4, x5, by omega⟩
  have hA : ∀ q, q ∈ wL s.heap.size 414 → s.heap.size ≤ q := fun q hq => (mem_wL.mp hq).1
  have XL : Cx p s m #[Value.ref b] c dC dI cy (wL s.heap.size 414) (KA s.heap.size b L sa) (rdI s.heap) sa cL_law RL 8 := by
    refine ⟨X.1, KA_pp hL, hK, hN, fun a ha => ?_, fun i hi => (hz i hi).narrow hA⟩
    rcases KA_20 ha with ⟨rfl, e⟩ | ⟨hm, e⟩
    · rw [e]
      exact (T_rd TB (by omega)).narrow hA
    · rw [e]
      rcases hm with rfl | rfl | rfl | rfl
      · exact (T_rd T0 (by decide)).narrow hA
      · exact (T_rd T1 (by decide)).narrow hA
      · exact (T_rd T2 (by decide)).narrow hA
      · exact (T_rd T3 (by decide)).narrow hA
  have hst : Stt (KA s.heap.size b L sa) (rdI s.heap) sa := by
    refine ⟨⟨KA_s (lt T0) n0 (Or.inl rfl), KA_s (lt T1) n1 (Or.inr (Or.inl rfl)), KA_s (lt T2) n2 (Or.inr (Or.inr (Or.inl rfl))), KA_s (lt T3) n3 (Or.inr (Or.inr (Or.inr rfl)))⟩, ⟨?_, ?_, ?_, ?_⟩, ⟨?_, ?_, ?_, ?_⟩, ⟨?_, ?_, ?_, ?_⟩, ?_, ?_, ?_, ?_⟩
    · exact rdI_T T0 (j := 0) (by decide) (by decide)
    · exact rdI_T T0 (j := 1) (by decide) (by decide)
    · exact rdI_T T0 (j := 2) (by decide) (by decide)
    · exact rdI_T T0 (j := 3) (by decide) (by decide)
    · exact rdI_T T1 (j := 0) (by decide) (by decide)
    · exact rdI_T T1 (j := 1) (by decide) (by decide)
    · exact rdI_T T1 (j := 2) (by decide) (by decide)
    · exact rdI_T T1 (j := 3) (by decide) (by decide)
    · exact rdI_T T2 (j := 0) (by decide) (by decide)
    · exact rdI_T T2 (j := 1) (by decide) (by decide)
    · exact rdI_T T2 (j := 2) (by decide) (by decide)
    · exact rdI_T T2 (j := 3) (by decide) (by decide)
    · exact rdI_T T3 (j := 0) (by decide) (by decide)
    · exact rdI_T T3 (j := 1) (by decide) (by decide)
    · exact rdI_T T3 (j := 2) (by decide) (by decide)
    · exact rdI_T T3 (j := 3) (by decide) (by decide)
  rw [lg_entry_eq]
  have hl := lsOK.entry (As := [.ref b]) (n := 8) (Nat.le_of_ble_eq_true rfl) (fun v hv => by
    rw [List.mem_singleton.mp hv]
    trivial)
  refine law_start X KA_cls (Q0 := lw_Z below #[Value.ref b] s) (fun G D pc => ?_) _ hl s.heap [] (Rp_i.mpr (fun a h1 h2 => absurd h2 (by omega))) va_S.rf
  obtain ⟨hW, hI, hNw, h5, h6, hk⟩ := init_w (K := KA s.heap.size b L sa) KA_cls pc
  intro ls hls H locs hP hS
  refine go_b (l := l) (e := e) (below := below) (meth := meth) (R := room_1) (cells := 414) (slots := 7774) (Q0 := lw_Z below #[Value.ref b] s) (rt := some .boolean) (Q := fun r _ _ => r = some (.int 1)) XL envL bokL_law (lawV l) (lawS l) (by decide) (by decide) ?_ ?_ (hd := lwH) (I := Ilw (KA s.heap.size b L sa) b s.heap.size) (N := 30) (M := 30) (lw_all hst (KA_b hbl) hL (by rw [KA_cls.1])) (lw_8 hst (KA_b hbl) hL (by rw [KA_cls.1]) hW hI hNw h5 h6 hk) hls H locs (vP_of fun q hq => ?_) hS
  · intro pc ls v G D hdg _ hq H locs hP hS
    cases hq
    refine va_forget (fun q hq => ?_) (W.widen (by decide) (by decide) (lw_ret hx hb hr hlocks hdg))
    exact (mem_wL.mp (hS.2.2 q hq)).1
  · intro pc ls G D hdg h0
    cases h0
  · obtain ⟨a, ha, rfl⟩ := List.mem_map.mp hq
    obtain ⟨h1, h2⟩ := mem_wL.mp ha
    exact (Rp_i.mp hP) a h1 h2
-- ===== YOUR PART ENDS =====
set_option maxHeartbeats 4000000 in
theorem lw_walk (l : Launch) (hflags : l.flags = flags0) (b : Addr) (xs : List Int32) : MetFree l x (headSpec (Jvm.Cond.code x code maxLocals ret :: tables_1) room_1) (lw_P b xs) (fun _ _ _ _ _ => True) lw_Q := by
  refine MetFree.of_bodyS (code := code) (maxLocals := maxLocals) (ret := ret) (by decide) ?_ ?_
  · intro args s m h hn
    obtain ⟨meth, c, h1, h2, h3, h4, h5, h6, -, -⟩ := Cond.code_spec hn (atoms_spec (ws := Jvm.Cond.code x code maxLocals ret :: tables_1) h _ List.mem_cons_self)
    exact ⟨meth, c, h1, h2, h3, h4, h5, h6⟩
  · intro p e s m args below meth c s₁ B hml0 hP _
    obtain ⟨rfl, hx, hbd, hgv⟩ := hP
    obtain ⟨scr, harrAt, hlist, hof, hsmall⟩ := hx
    obtain ⟨hcb, hkn, -, -⟩ := State.arrayAt?_spec harrAt
    have hown : s.vm.findClass R_law = some m.cls := findClass_of_methodNamed B.named
    have hts0 : ∀ c ∈ (Jvm.Cond.code x code maxLocals ret :: tables_1), c.before #[Value.ref b] s = true := atoms_spec (ws := Jvm.Cond.code x code maxLocals ret :: tables_1) B.pre
    have hts : ∀ w ∈ lw_tbl, w.before #[Value.ref b] s = true := k2_hts_sels lw_privs (fun w hw => hts0 w (List.mem_cons_of_mem _ hw)) lw_privs_ok
    have hml : c.maxLocals = 8 := B.maxLocals_eq (hts0 _ List.mem_cons_self)
    have X₀ : Stand p l e room_1 s m #[Value.ref b] below meth c s₁ [] 0 0 := Stand.of_body B
    have hh0 : s₁.heap = s.heap := by rw [B.state]; rfl
    have hsz : scr.slots.size = xs.length := by rw [← Array.length_toList, hlist, List.length_map]
    have hval : ∀ j : Nat, j < xs.length → scr.slots[j]? = some (.int (xs.getD j 0)) := fun j hj => by
      rw [← Array.getElem?_toList, hlist]
      simp [hj]
    have hbl : b < s.heap.size := (Array.getElem?_eq_some_iff.mp hcb).1
    have hX : va_X b xs.length (fun j => xs.getD j 0) s s.heap := ⟨scr, hcb, hof, hkn, hsz, hval⟩
    have K : W p l e room_1 s m #[Value.ref b] below meth c s₁.heap [] 0 0 (lw_Z below #[Value.ref b] s) (entryFrame m ([Value.ref b] : List Value).toArray 8) := by
      rw [hh0]
      exact whole_start l hflags hbd ⟨B.exec, B.bytes, B.returns, hml, hown, hts, hX, hbl, B.notSynchronized, hgv⟩
    obtain ⟨t, a1, o, b1, b2, b3⟩ := K s₁ rfl X₀
    exact ⟨t, o, a1, b1, b2, b3⟩
theorem lw_pre_spec {args : Array Value} {s : State} (h : (Jvm.Cond.and given_1 narrow_1).before args s = true) (hr : rest_1_c.before args s = true) : ∃ (b : Addr) (xs : List Int32), lw_P b xs args s := by
  have hs := flat_of_before _ h
  have hq := flat_of_before _ hr
  have hc : (Cond.count 1).before args s = true := hs _ (by decide +kernel)
  have harr : (Cond.arrayOf (.arg 0) .int).before args s = true := hs _ (by decide +kernel)
  have hle : (Cond.le (.length (.arg 0)) (.int 260)).before args s = true := hs _ (by decide +kernel)
  have hlen : (Cond.isInt (.length (.arg 0))).before args s = true := hq _ (by decide +kernel)
  have hall : (Cond.all (.arg 0) (.isInt (.elem (.arg 0) (.index 0)))).before args s = true := hq _ (by decide +kernel)
  obtain ⟨b, xs, hb, hx⟩ := State.ints_of_pre rfl harr hlen hall
  have hsm : xs.length < 2 ^ 31 := hx.choose_spec.2.2.2
  have hev : (Term.length (.arg 0)).eval args s none [] s = some (.int xs.length.toInt32) := hx.length_eval hb
  have hv := Cond.le_ints hev (show (Term.int 260).eval args s none [] s = some (.int 260) from rfl)
  have hd : xs.length.toInt32 ≤ 260 := by
    simpa [Cond.before, Cond.holds, hv] using hle
  have hN : xs.length ≤ 260 := (Int32.ofNat_le_ofNat hsm (by decide)).mp (show Int32.ofNat xs.length ≤ Int32.ofNat 260 from hd)
  exact ⟨b, xs, Cond.one_arg hc (show args[0]? = some (.ref b) from hb), hx, hN, h⟩
theorem lw_comes (l : Launch) (hflags : l.flags = flags0) : Comes l x (Jvm.Cond.code x code maxLocals ret :: tables_1) room_1 (fun tb e args s => Calls_1 tb e args s ∧ rest_1 tb e args s ∧ Pre_1 tb e args s)
    (fun _ _ args s o t => lw_Q args s o t) := by
  intro p e ha hc hk s m args below hf hfit hheap happ hpre
  obtain ⟨b, xs, hP⟩ := lw_pre_spec hpre.2.2 hpre.2.1
  obtain ⟨k, o, h1, h2, h3, hQ⟩ := lw_walk l hflags b xs p e ha hc hk s m args below hf ((Spec.applies_iff_loose hf).mp happ).1 hP trivial
  exact ⟨k, o, h1, h2, h3, hQ⟩
theorem lw_frame {s t : State} {o : Outcome} {args : Array Value} (h : Framed s o t [] 600000 7302250) :
    Framed s o t (fieldLocs frame_1_writes args s ++ arrayLocs frame_1_arrays args s ++ staticLocs frame_1_statics s) 600000 7302250 := h
theorem lw_limb (L : Cond) (hL : ∀ (args : Array Value) (s t : State), L.after args s (.returned (some (.int 1))) t = true) :
    ArmFor flags0 classFile x code maxLocals ret World_1 tables_1 room_1 Calls_1 rest_1 Pre_1
      (fun tb e a s o t => postC L tb e a s o t ∧ Framed s o t (fieldLocs frame_1_writes a s ++ arrayLocs frame_1_arrays a s ++ staticLocs frame_1_statics s) 600000 7302250) := by
  intro l hflags _ _ p e ha hc hk s m args below hf hfit hheap happ hpre
  obtain ⟨k, o, h1, h2, h3, rfl, hF⟩ := lw_comes l hflags p e ha hc hk s m args below hf hfit hheap happ hpre
  exact ⟨k, _, h1, h2, h3, hL args s _, lw_frame hF⟩
theorem i_vc : Claimed_1_1 ∧ Claimed_1_2 := ⟨lw_limb limb_1_1 (fun args s t => by simp [limb_1_1, Cond.after, Cond.holds, Cond.value]), lw_limb limb_1_2 (fun args s t => Cond.after_iff.mpr (by
  first | (rw [show limb_1_2 = Cond.eq .result (.int 1) from rfl, Cond.eq_ints (x := 1) (y := 1) rfl rfl]; simp; done) | (simp [limb_1_2, Cond.value, Term.eval]; done)))⟩
