/-! ===== the law's first instructions, and the whole ===== -/
theorem ClsP.c {x : Nat} {G G' : GT} {D D' : DT} (h : ClsP x G D) (e : ∀ z, x ≤ z → z < x + 414 → G' z = G z ∧ D' z = D z) : ClsP x G' D' := by
  obtain ⟨⟨g0, g1, g2, g3⟩, h1, h2, h3, h4⟩ := h
  have e0 := (e x (Nat.le_refl _) (by omega)).1
  refine ⟨⟨by rw [e0]; exact g0, by rw [e0]; exact g1, by rw [e0]; exact g2, by rw [e0]; exact g3⟩, h1.c (fun z z0 z1 => ?_), h2.c (fun z z0 z1 => ?_), h3.c (fun z z0 z1 => ?_), h4.c (fun z z0 z1 => ?_)⟩
  · unfold xN at z0 z1
    exact e z (by omega) (by omega)
  · unfold xH at z0 z1
    exact e z (by omega) (by omega)
  · unfold xT at z0 z1
    exact e z (by omega) (by omega)
  · unfold xP at z0 z1
    exact (e z (by omega) (by omega)).1
theorem ModP.c {a : Nat} {G G' : GT} {D D' : DT} (h : ModP a G D) (e : ∀ z, a ≤ z → z < a + 10 → G' z = G z ∧ D' z = D z) : ModP a G' D' := by
  obtain ⟨g, d1, d2, d3, d4⟩ := h
  obtain ⟨e0, f0⟩ := e a (Nat.le_refl _) (by omega)
  have f1 := (e (ms a) (by unfold ms; omega) (by unfold ms; omega)).2
  have f4 := (e (mx a) (by unfold mx; omega) (by unfold mx; omega)).2
  refine ⟨?_, by rw [f1]; exact d1, by rw [f0]; exact d2, by rw [f0]; exact d3, by rw [f4]; exact d4⟩
  unfold ModG at g ⊢
  rw [e0]
  exact g
theorem iv_inv : InvI iv := by
  unfold InvI
  decide +kernel
theorem rel_init {K : KT} {G : GT} {D : DT} {n : Nat} (hK : ClsK K n) (hM : ModK K (n + 414)) (pc : ClsP n G D) (pm : ModP (n + 414) G D) : Rel K G D n (n + 414) := by
  obtain ⟨k0, km, ⟨kh0, kh1, kh2⟩, ⟨kt0, kt1, kt2, kt3⟩, ⟨kp0, ⟨kp1, kp2, kp3, kp4⟩, kp5, kp6, kp7, kp8⟩⟩ := hK
  obtain ⟨⟨g0, g1, g2, g3⟩, p1, ⟨ph0, ph1, ph2, ph3⟩, ⟨⟨pt0, pt1⟩, pt2, pt3, pt4⟩, ⟨pp0, pp1, pp2, pp3, pp4⟩⟩ := pc
  obtain ⟨gm, pm1, pm2, pm3, pm4⟩ := pm
  obtain ⟨j0, j1, j2, j3, j4, j5, j6, j7, j8, j9⟩ := hM
  have hs : ∀ i, i < 6 → sta G (xH n) (nI i) = n + 48 + 45 * i := fun i hi => by
    unfold sta
    rw [ph1 i hi]
    show xH n + 2 + 45 * i = _
    unfold xH
    omega
  have hnv : ∀ k, k < 257 → novI D (mv (xN n)) k = iv k := p1.2.2.1.2
  have htk : D (mt (xN n)) = fun _ => 0 := p1.2.2.2.2.2
  have hms : ∀ k, k < 257 → D (ms (n + 414)) (nI k) = iv k := fun k hk => by rw [pm1 k (by omega), if_pos hk]
  refine ⟨⟨⟨⟨k0, g0, g1, g2, g3⟩, km.mom p1, ⟨⟨kh0, ph0, kh1⟩, fun i hi => ?_, fun i hi => ?_⟩, ⟨⟨kt0, pt0, pt1⟩, ⟨kt1, kt2⟩, pt2, fun r hr => ?_⟩, ⟨⟨kp0, pp0⟩, ⟨kp1, kp2, kp3, kp4⟩, ⟨pp1, pp2, pp3, pp4⟩, fun r hr => ?_, fun r hr => ?_, fun r hr => ?_, fun r hr => ?_⟩, fun i hi => ?_⟩, ⟨⟨j0, gm⟩, j1, j2, j3, j4, j5, j6, j7, j8, j9⟩, Nat.le_refl _, fun i j hi hj hij => ?_⟩, ⟨MomEq.of (fun k hk => ?_) (fun j hj => ?_), inv_of (iv_inv.c hnv), fun j hj h => ?_⟩, ⟨0, by omega, ph3, pm2, fun i hi => absurd hi (by omega)⟩, ?_, ?_, ?_, ?_⟩
  · obtain ⟨j, hj, rfl⟩ := in_n (N := 6) (by omega) hi
    unfold sta
    rw [ph1 j hj]
    rfl
  · obtain ⟨j, hj, rfl⟩ := in_n (N := 6) (by omega) hi
    have e : sta G (xH n) (nI j) = xH n + 2 + 45 * j := by
      unfold sta
      rw [ph1 j hj]
      rfl
    rw [e]
    exact (kh2 j hj).mom (ph2 j hj)
  · obtain ⟨j, hj, rfl⟩ := in_n (N := 4) (by omega) hr
    unfold tr
    rw [nI_clamp (by omega)]
    exact kt3 j hj
  · obtain ⟨j, hj, rfl⟩ := in_n (N := 21) (by omega) hr
    unfold tP
    rw [nI_clamp (by omega)]
    exact kp5 j hj
  · obtain ⟨j, hj, rfl⟩ := in_n (N := 21) (by omega) hr
    unfold tF
    rw [nI_clamp (by omega)]
    exact kp6 j hj
  · obtain ⟨j, hj, rfl⟩ := in_n (N := 21) (by omega) hr
    unfold tG
    rw [nI_clamp (by omega)]
    exact kp7 j hj
  · obtain ⟨j, hj, rfl⟩ := in_n (N := 21) (by omega) hr
    unfold tC
    rw [nI_clamp (by omega)]
    exact kp8 j hj
  · obtain ⟨j, hj, rfl⟩ := in_n (N := 6) (by omega) hi
    rw [hs j hj]
    omega
  · rw [hs i hi, hs j hj]
    unfold Mdis
    omega
  · rw [hnv k hk, Nat.zero_add, hms k hk]
  · rw [htk]
    refine ⟨?_, Or.inl rfl, fun h => absurd h (show ¬ (0 : Int32) = 1 by decide)⟩
    rw [pm1 (0 + 771 + j) (by omega), if_neg (by omega)]
  · rw [htk] at h
    exact absurd h (show ¬ (0 : Int32) = 1 by decide)
  · rw [pt3, pm3]
  · rw [pm3]
    decide
  · rw [pm3]
    decide
  · rw [pt4, pm4]
set_option maxRecDepth 100000 in
set_option maxHeartbeats 4000000 in
theorem law_start {p : Program} {l : Launch} {e : Env} {s : State} {m : MethodId} {below : List Frame} {meth : Method} {c : Code} {Q0 : State → Prop} {dC : Nat → ClassId} {dI : Nat → Nat → Nat} {cy : Nat → ClassId} {K : KT} {sa : Nat → Nat} {n b : Nat} (X : CxA p s m #[Value.ref b] c dC dI cy K sa cL_law RL 4 n 0) (hk5 : ClsK K n) (hk6 : ModK K (n + 414))
    (fin : ∀ G D, ClsP n G D → ModP (n + 414) G D → SJ p l e room_1 s m #[Value.ref b] below meth c Q0 dC dI cy K 4 n 0 424 16019 18 [some (.ref b), some (.ref n), some (.ref (n + 414)), some (.int 0)] [] G D) : SJ p l e room_1 s m #[Value.ref b] below meth c Q0 dC dI cy K 4 n 0 0 0 0 (L0 [.ref b] 4) [] G00 D00 := by
  rw [show L0 [.ref b] 4 = [some (.ref b), none, none, none] from rfl]
  refine sj_new X (ty := tyX5) cl_L_7 ins_X5 ini_X5 rfl inG5 tyX5_ok rfl (by decide) (by decide) hk5.1 rfl rfl (by decide) (by decide) (by decide) dL_law_0 ?_
  refine sj_old X envL (na := naL) (rc := rcL) (R0 := D00) (okc_c dL_law_3 (okc_e)) ?_
  simp only [↓x_iconst, ↓x_bipush, ↓x_sipush, ↓x_ldc, ↓x_iload_n, ↓x_iload, ↓x_aload_n, ↓x_aload, ↓x_istore_n, ↓x_istore, ↓x_astore_n, ↓x_astore, ↓x_iinc, ↓x_iadd, ↓x_isub, ↓x_imul, ↓x_iand, ↓x_idiv, ↓x_ineg, ↓x_i2c, ↓x_dupI, ↓x_dupA, ↓x_dup2, ↓x_goto, ↓x_get, ↓x_put, ↓x_gets, ↓x_iald, ↓x_bald, ↓x_cald, ↓x_aald, ↓x_iast, ↓x_bast, ↓x_cast, ↓x_aast, ↓x_alen, ↓x_iret, ↓x_vret, ↓x_nil, ↓x_jmp, ↓x_ldI0, ↓x_ldIs, ↓x_ldA0, ↓x_ldAs, ↓x_icmpT, ↓x_icmpF, ↓x_ifT, ↓x_ifF, x_iconst, x_bipush, x_sipush, x_ldc, x_iload_n, x_iload, x_aload_n, x_aload, x_istore_n, x_istore, x_astore_n, x_astore, x_iinc, x_iadd, x_isub, x_imul, x_iand, x_idiv, x_ineg, x_i2c, x_dupI, x_dupA, x_dup2, x_goto, x_if, x_icmp, x_get, x_put, x_gets, x_iald, x_bald, x_cald, x_aald, x_iast, x_bast, x_cast, x_aast, x_alen, x_iret, x_vret, x_nil, x_jmp, x_ldI0, x_ldIs, x_ldA0, x_ldAs, x_cad, x_cad2, x_fv0, x_fv1, x_fv2, x_fv3, cnd, fI, L0, c1, nL0, nL1, nL2, nL3, nL4, nL5, nL6, nL7, nL8, nL9, nL10, nL11, nL12, List.map_cons, List.map_nil, List.length_cons, List.length_nil, List.cons_append, List.nil_append, List.replicate_succ, List.replicate_zero, List.set_cons_zero, List.set_cons_succ, List.mem_cons, List.not_mem_nil, or_false, false_or, Option.toList_some, Option.toList_none, ↓reduceIte, if_true, if_false, Nat.reduceAdd, Nat.reduceSub, Nat.reduceEqDiff, Nat.reduceLT, Nat.reduceLeDiff, Int.reduceNatCast, Int.reduceNatCast', Int.reduceAdd, Int.reduceNeg, Int.reduceToNat, Int.reduceLE, Int.reduceLT, Int.reduceEq, Nat.zero_add, Nat.add_zero, and_true, true_and, ne_eq, not_false_eq_true, not_true_eq_false, and_self, implies_true, Bool.false_eq_true, Nat.reduceBEq, Int32.reduceOfInt, Int32.reduceAdd, Int32.reduceSub, Int32.reduceMul, Int32.reduceLE, Int32.reduceLT, Int32.reduceToNatClampNeg, Option.some.injEq, exists_eq_left, exists_eq_left', Option.isSome_some, Option.getD_some, vp_nar_int, pbi, eq_self, forall_const, false_implies, true_implies, false_and, and_false, uD_s, uG_s, uD_o, ad_nw, ad_wn, ad_ns, ad_sn, ad_ss, ad_ww, ad_sw, ad_ws, Int32.reduceToInt, Classical.not_not, d1n, d2n, d3n, d4n, d5n, d6n, d10n, inr, nL17, nL20, nL21, nL30, nL100, nL462, nL773, nL4638, bp6, bp7, bp8, bp9, bp10, bp11, bp12, bp13, bp14, bp15, bp16, bp17, bp20, bp21, bp29, bp30, bp31, bp33, bp45, bp48, bp49, bp50, bp57, bp59, bp97, bp99, bp100, bp102, spm1000, sp137, sp255, sp257, sp300, sp400, sp462, sp771, sp772, sp773, sp999, sp3865, sp4638]
  refine sj_call X (j := 0) (c_X5 l) il_L_9 iy_X5.1 iy_X5.2.1 iy_X5.2.2 rfl (by decide +kernel) (by decide +kernel) hk5 rfl rfl (by decide) (by decide) (by decide) (by decide) (by decide) trivial dL_law_4 ?_
  intro Ga Da ⟨pa, fa⟩
  have f1 : FrP n 414 (mrG (n + 0) G00 Ga) (mrD (n + 0) D00 Da) := (FrP.c (j := 0) (sz := 414) fa).m (by omega)
  have p1 : ClsP n (mrG (n + 0) G00 Ga) (mrD (n + 0) D00 Da) := ClsP.c pa (fun z z0 z1 => ⟨mrG_ge z0, mrD_ge z0⟩)
  generalize mrG (n + 0) G00 Ga = G1 at f1 p1 ⊢
  generalize mrD (n + 0) D00 Da = D1 at f1 p1 ⊢
  refine sj_old X envL (na := naL) (rc := rcL) (R0 := D00) (okc_c dL_law_7 (okc_e)) ?_
  simp only [↓x_iconst, ↓x_bipush, ↓x_sipush, ↓x_ldc, ↓x_iload_n, ↓x_iload, ↓x_aload_n, ↓x_aload, ↓x_istore_n, ↓x_istore, ↓x_astore_n, ↓x_astore, ↓x_iinc, ↓x_iadd, ↓x_isub, ↓x_imul, ↓x_iand, ↓x_idiv, ↓x_ineg, ↓x_i2c, ↓x_dupI, ↓x_dupA, ↓x_dup2, ↓x_goto, ↓x_get, ↓x_put, ↓x_gets, ↓x_iald, ↓x_bald, ↓x_cald, ↓x_aald, ↓x_iast, ↓x_bast, ↓x_cast, ↓x_aast, ↓x_alen, ↓x_iret, ↓x_vret, ↓x_nil, ↓x_jmp, ↓x_ldI0, ↓x_ldIs, ↓x_ldA0, ↓x_ldAs, ↓x_icmpT, ↓x_icmpF, ↓x_ifT, ↓x_ifF, x_iconst, x_bipush, x_sipush, x_ldc, x_iload_n, x_iload, x_aload_n, x_aload, x_istore_n, x_istore, x_astore_n, x_astore, x_iinc, x_iadd, x_isub, x_imul, x_iand, x_idiv, x_ineg, x_i2c, x_dupI, x_dupA, x_dup2, x_goto, x_if, x_icmp, x_get, x_put, x_gets, x_iald, x_bald, x_cald, x_aald, x_iast, x_bast, x_cast, x_aast, x_alen, x_iret, x_vret, x_nil, x_jmp, x_ldI0, x_ldIs, x_ldA0, x_ldAs, x_cad, x_cad2, x_fv0, x_fv1, x_fv2, x_fv3, cnd, fI, L0, c1, nL0, nL1, nL2, nL3, nL4, nL5, nL6, nL7, nL8, nL9, nL10, nL11, nL12, List.map_cons, List.map_nil, List.length_cons, List.length_nil, List.cons_append, List.nil_append, List.replicate_succ, List.replicate_zero, List.set_cons_zero, List.set_cons_succ, List.mem_cons, List.not_mem_nil, or_false, false_or, Option.toList_some, Option.toList_none, ↓reduceIte, if_true, if_false, Nat.reduceAdd, Nat.reduceSub, Nat.reduceEqDiff, Nat.reduceLT, Nat.reduceLeDiff, Int.reduceNatCast, Int.reduceNatCast', Int.reduceAdd, Int.reduceNeg, Int.reduceToNat, Int.reduceLE, Int.reduceLT, Int.reduceEq, Nat.zero_add, Nat.add_zero, and_true, true_and, ne_eq, not_false_eq_true, not_true_eq_false, and_self, implies_true, Bool.false_eq_true, Nat.reduceBEq, Int32.reduceOfInt, Int32.reduceAdd, Int32.reduceSub, Int32.reduceMul, Int32.reduceLE, Int32.reduceLT, Int32.reduceToNatClampNeg, Option.some.injEq, exists_eq_left, exists_eq_left', Option.isSome_some, Option.getD_some, vp_nar_int, pbi, eq_self, forall_const, false_implies, true_implies, false_and, and_false, uD_s, uG_s, uD_o, ad_nw, ad_wn, ad_ns, ad_sn, ad_ss, ad_ww, ad_sw, ad_ws, Int32.reduceToInt, Classical.not_not, d1n, d2n, d3n, d4n, d5n, d6n, d10n, inr, nL17, nL20, nL21, nL30, nL100, nL462, nL773, nL4638, bp6, bp7, bp8, bp9, bp10, bp11, bp12, bp13, bp14, bp15, bp16, bp17, bp20, bp21, bp29, bp30, bp31, bp33, bp45, bp48, bp49, bp50, bp57, bp59, bp97, bp99, bp100, bp102, spm1000, sp137, sp255, sp257, sp300, sp400, sp462, sp771, sp772, sp773, sp999, sp3865, sp4638]
  refine sj_new X (ty := tyX6) cl_L_10 ins_X6 ini_X6 rfl inG6 tyX6_ok rfl (by decide) (by decide) hk6.1 (f1 _ (by omega)).1 (f1 _ (by omega)).2 (by decide) (by decide) (by decide) dL_law_8 ?_
  refine sj_old X envL (na := naL) (rc := rcL) (R0 := D00) (okc_c dL_law_11 (okc_e)) ?_
  simp only [↓x_iconst, ↓x_bipush, ↓x_sipush, ↓x_ldc, ↓x_iload_n, ↓x_iload, ↓x_aload_n, ↓x_aload, ↓x_istore_n, ↓x_istore, ↓x_astore_n, ↓x_astore, ↓x_iinc, ↓x_iadd, ↓x_isub, ↓x_imul, ↓x_iand, ↓x_idiv, ↓x_ineg, ↓x_i2c, ↓x_dupI, ↓x_dupA, ↓x_dup2, ↓x_goto, ↓x_get, ↓x_put, ↓x_gets, ↓x_iald, ↓x_bald, ↓x_cald, ↓x_aald, ↓x_iast, ↓x_bast, ↓x_cast, ↓x_aast, ↓x_alen, ↓x_iret, ↓x_vret, ↓x_nil, ↓x_jmp, ↓x_ldI0, ↓x_ldIs, ↓x_ldA0, ↓x_ldAs, ↓x_icmpT, ↓x_icmpF, ↓x_ifT, ↓x_ifF, x_iconst, x_bipush, x_sipush, x_ldc, x_iload_n, x_iload, x_aload_n, x_aload, x_istore_n, x_istore, x_astore_n, x_astore, x_iinc, x_iadd, x_isub, x_imul, x_iand, x_idiv, x_ineg, x_i2c, x_dupI, x_dupA, x_dup2, x_goto, x_if, x_icmp, x_get, x_put, x_gets, x_iald, x_bald, x_cald, x_aald, x_iast, x_bast, x_cast, x_aast, x_alen, x_iret, x_vret, x_nil, x_jmp, x_ldI0, x_ldIs, x_ldA0, x_ldAs, x_cad, x_cad2, x_fv0, x_fv1, x_fv2, x_fv3, cnd, fI, L0, c1, nL0, nL1, nL2, nL3, nL4, nL5, nL6, nL7, nL8, nL9, nL10, nL11, nL12, List.map_cons, List.map_nil, List.length_cons, List.length_nil, List.cons_append, List.nil_append, List.replicate_succ, List.replicate_zero, List.set_cons_zero, List.set_cons_succ, List.mem_cons, List.not_mem_nil, or_false, false_or, Option.toList_some, Option.toList_none, ↓reduceIte, if_true, if_false, Nat.reduceAdd, Nat.reduceSub, Nat.reduceEqDiff, Nat.reduceLT, Nat.reduceLeDiff, Int.reduceNatCast, Int.reduceNatCast', Int.reduceAdd, Int.reduceNeg, Int.reduceToNat, Int.reduceLE, Int.reduceLT, Int.reduceEq, Nat.zero_add, Nat.add_zero, and_true, true_and, ne_eq, not_false_eq_true, not_true_eq_false, and_self, implies_true, Bool.false_eq_true, Nat.reduceBEq, Int32.reduceOfInt, Int32.reduceAdd, Int32.reduceSub, Int32.reduceMul, Int32.reduceLE, Int32.reduceLT, Int32.reduceToNatClampNeg, Option.some.injEq, exists_eq_left, exists_eq_left', Option.isSome_some, Option.getD_some, vp_nar_int, pbi, eq_self, forall_const, false_implies, true_implies, false_and, and_false, uD_s, uG_s, uD_o, ad_nw, ad_wn, ad_ns, ad_sn, ad_ss, ad_ww, ad_sw, ad_ws, Int32.reduceToInt, Classical.not_not, d1n, d2n, d3n, d4n, d5n, d6n, d10n, inr, nL17, nL20, nL21, nL30, nL100, nL462, nL773, nL4638, bp6, bp7, bp8, bp9, bp10, bp11, bp12, bp13, bp14, bp15, bp16, bp17, bp20, bp21, bp29, bp30, bp31, bp33, bp45, bp48, bp49, bp50, bp57, bp59, bp97, bp99, bp100, bp102, spm1000, sp137, sp255, sp257, sp300, sp400, sp462, sp771, sp772, sp773, sp999, sp3865, sp4638]
  refine sj_call X (j := 414) (c_X6 l) il_L_12 iy_X6.1 iy_X6.2.1 iy_X6.2.2 rfl (by decide +kernel) (by decide +kernel) hk6 (f1 _ (by omega)).1 (f1 _ (by omega)).2 (by decide) (by decide) (by decide) (by decide) (by decide) trivial dL_law_12 ?_
  intro Gb Db ⟨pb, fb⟩
  have p2 : ClsP n (mrG (n + 414) G1 Gb) (mrD (n + 414) D1 Db) := ClsP.c p1 (fun z z0 z1 => ⟨mrG_lt (by omega), mrD_lt (by omega)⟩)
  have q2 : ModP (n + 414) (mrG (n + 414) G1 Gb) (mrD (n + 414) D1 Db) := ModP.c pb (fun z z0 z1 => ⟨mrG_ge z0, mrD_ge z0⟩)
  generalize mrG (n + 414) G1 Gb = G2 at p2 q2 ⊢
  generalize mrD (n + 414) D1 Db = D2 at p2 q2 ⊢
  refine sj_old X envL (na := naL) (rc := rcL) (R0 := D00) (okc_c dL_law_15 (okc_c dL_law_16 (okc_c dL_law_17 (okc_e)))) ?_
  simp only [↓x_iconst, ↓x_bipush, ↓x_sipush, ↓x_ldc, ↓x_iload_n, ↓x_iload, ↓x_aload_n, ↓x_aload, ↓x_istore_n, ↓x_istore, ↓x_astore_n, ↓x_astore, ↓x_iinc, ↓x_iadd, ↓x_isub, ↓x_imul, ↓x_iand, ↓x_idiv, ↓x_ineg, ↓x_i2c, ↓x_dupI, ↓x_dupA, ↓x_dup2, ↓x_goto, ↓x_get, ↓x_put, ↓x_gets, ↓x_iald, ↓x_bald, ↓x_cald, ↓x_aald, ↓x_iast, ↓x_bast, ↓x_cast, ↓x_aast, ↓x_alen, ↓x_iret, ↓x_vret, ↓x_nil, ↓x_jmp, ↓x_ldI0, ↓x_ldIs, ↓x_ldA0, ↓x_ldAs, ↓x_icmpT, ↓x_icmpF, ↓x_ifT, ↓x_ifF, x_iconst, x_bipush, x_sipush, x_ldc, x_iload_n, x_iload, x_aload_n, x_aload, x_istore_n, x_istore, x_astore_n, x_astore, x_iinc, x_iadd, x_isub, x_imul, x_iand, x_idiv, x_ineg, x_i2c, x_dupI, x_dupA, x_dup2, x_goto, x_if, x_icmp, x_get, x_put, x_gets, x_iald, x_bald, x_cald, x_aald, x_iast, x_bast, x_cast, x_aast, x_alen, x_iret, x_vret, x_nil, x_jmp, x_ldI0, x_ldIs, x_ldA0, x_ldAs, x_cad, x_cad2, x_fv0, x_fv1, x_fv2, x_fv3, cnd, fI, L0, c1, nL0, nL1, nL2, nL3, nL4, nL5, nL6, nL7, nL8, nL9, nL10, nL11, nL12, List.map_cons, List.map_nil, List.length_cons, List.length_nil, List.cons_append, List.nil_append, List.replicate_succ, List.replicate_zero, List.set_cons_zero, List.set_cons_succ, List.mem_cons, List.not_mem_nil, or_false, false_or, Option.toList_some, Option.toList_none, ↓reduceIte, if_true, if_false, Nat.reduceAdd, Nat.reduceSub, Nat.reduceEqDiff, Nat.reduceLT, Nat.reduceLeDiff, Int.reduceNatCast, Int.reduceNatCast', Int.reduceAdd, Int.reduceNeg, Int.reduceToNat, Int.reduceLE, Int.reduceLT, Int.reduceEq, Nat.zero_add, Nat.add_zero, and_true, true_and, ne_eq, not_false_eq_true, not_true_eq_false, and_self, implies_true, Bool.false_eq_true, Nat.reduceBEq, Int32.reduceOfInt, Int32.reduceAdd, Int32.reduceSub, Int32.reduceMul, Int32.reduceLE, Int32.reduceLT, Int32.reduceToNatClampNeg, Option.some.injEq, exists_eq_left, exists_eq_left', Option.isSome_some, Option.getD_some, vp_nar_int, pbi, eq_self, forall_const, false_implies, true_implies, false_and, and_false, uD_s, uG_s, uD_o, ad_nw, ad_wn, ad_ns, ad_sn, ad_ss, ad_ww, ad_sw, ad_ws, Int32.reduceToInt, Classical.not_not, d1n, d2n, d3n, d4n, d5n, d6n, d10n, inr, nL17, nL20, nL21, nL30, nL100, nL462, nL773, nL4638, bp6, bp7, bp8, bp9, bp10, bp11, bp12, bp13, bp14, bp15, bp16, bp17, bp20, bp21, bp29, bp30, bp31, bp33, bp45, bp48, bp49, bp50, bp57, bp59, bp97, bp99, bp100, bp102, spm1000, sp137, sp255, sp257, sp300, sp400, sp462, sp771, sp772, sp773, sp999, sp3865, sp4638]
  exact fin _ _ p2 q2
theorem sj_sl {p : Program} {l : Launch} {e : Env} {s : State} {m : MethodId} {below : List Frame} {meth : Method} {c : Code} {Q0 : State → Prop} {dC : Nat → ClassId} {dI : Nat → Nat → Nat} {cy : Nat → ClassId} {K : KT} {n b sl pc : Nat} {LL : LT} {st : List Value} {G : GT} {D : DT} (h : SL p l e s m below meth c Q0 dC dI cy K n b 424 sl pc LL st G D) : SJ p l e room_1 s m #[Value.ref b] below meth c Q0 dC dI cy K 4 n 0 424 sl pc LL st G D := by
  intro ls hl H locs hP hS
  refine h ls hl H locs (vP_of fun q hq => ?_) hS
  obtain ⟨a, ha, rfl⟩ := List.mem_map.mp hq
  obtain ⟨h1, h2⟩ := mem_wL.mp ha
  exact (Rp_i.mp hP) a h1 h2
set_option maxRecDepth 100000 in
set_option maxHeartbeats 4000000 in
theorem whole_start {p : Program} {e : Env} {s : State} {m : MethodId} {below : List Frame} {meth : Method} {c : Code} (l : Launch) (hflags : l.flags = flags0) {b L : Nat} {xs : Nat → Int32} (hL : L ≤ 3072) (C0 : lw_At p s m meth c b L xs) : W p l e room_1 s m #[Value.ref b] below meth c s.heap [] 0 0 (lw_Z below #[Value.ref b] s) (entryFrame m ([Value.ref b] : List Value).toArray 4) := by
  obtain ⟨hx, hb, hr, hml, hown, hts, ⟨scr, x1, x2, x3, x4, x5⟩, hbl, hlocks, hgv⟩ := C0
  have hg : ∀ w ∈ gT, w.before #[Value.ref b] s = true := fun w hw => hts w (List.mem_filter.mp hw).1
  obtain ⟨dC, dI, cy, hK⟩ := law_know hts
  obtain ⟨sa, hz, ⟨T0, T1, T2, T3⟩, n0, n1, n2, n3⟩ := law_stat hts hgv
  have hN : va_Nw (.methodLinkNest RX2 83 yX5_fineFor RX5) s := va_Nw.of rfl (hts _ (List.mem_of_getElem? (i := 355) (by decide +kernel)))
  have lt : ∀ {t : Nat} {f : Nat → Value}, va_T .int t 4 f (fun q => s.heap.size ≤ q) s s.heap → t < s.heap.size := fun h => Nat.not_le.mp h.out
  have X : CxA p s m #[Value.ref b] c dC dI cy (KA s.heap.size b L sa) sa cL_law RL 4 s.heap.size 0 := ⟨⟨hx, hb, hml, hown, hg⟩, ⟨hK, hN, hz, va_AO.of (hts _ (List.mem_of_getElem? (i := 107) (by decide +kernel))), va_AO.of (hts _ (List.mem_of_getElem? (i := 85) (by decide +kernel))), (show aoI s from hts (.arrayOver (.array .int)) (List.mem_of_getElem? (i := 68) (by decide +kernel))), va_Nw.of rfl (hts _ (List.mem_of_getElem? (i := 119) (by decide +kernel))), va_Nw.of rfl (hts _ (List.mem_of_getElem? (i := 146) (by decide +kernel)))⟩, rfl, KA_ok hL⟩
  have TB : va_T .int b L (fun j => .int (xs j)) (fun q => s.heap.size ≤ q) s s.heap := ⟨scr, x1, x2, x3, by omega, congrArg Nat.toInt32 x4, x5, by omega⟩
  have hA : ∀ q, q ∈ wL s.heap.size 424 → s.heap.size ≤ q := fun q hq => (mem_wL.mp hq).1
  have XL : Cx p s m #[Value.ref b] c dC dI cy (wL s.heap.size 424) (KA s.heap.size b L sa) (rdI s.heap) sa cL_law RL 4 := by
    refine ⟨X.1, KA_pp hL, hK, hN, fun a ha => ?_, fun i hi => (hz i hi).narrow hA⟩
    rcases KA_20 ha with ⟨rfl, e⟩ | ⟨hm, e⟩
    · rw [e]
      exact (T_rd TB (by omega)).narrow hA
    · rw [e]
      rcases hm with rfl | rfl | rfl | rfl
      · exact (T_rd T0 (by decide)).narrow hA
      · exact (T_rd T1 (by decide)).narrow hA
      · exact (T_rd T2 (by decide)).narrow hA
      · exact (T_rd T3 (by decide)).narrow hA
  have hst : Stt (KA s.heap.size b L sa) (rdI s.heap) sa := by
    refine ⟨⟨KA_s (lt T0) n0 (Or.inl rfl), KA_s (lt T1) n1 (Or.inr (Or.inl rfl)), KA_s (lt T2) n2 (Or.inr (Or.inr (Or.inl rfl))), KA_s (lt T3) n3 (Or.inr (Or.inr (Or.inr rfl)))⟩, ⟨?_, ?_, ?_, ?_⟩, ⟨?_, ?_, ?_, ?_⟩, ⟨?_, ?_, ?_, ?_⟩, ?_, ?_, ?_, ?_⟩
    · exact rdI_T T0 (j := 0) (by decide) (by decide)
    · exact rdI_T T0 (j := 1) (by decide) (by decide)
    · exact rdI_T T0 (j := 2) (by decide) (by decide)
    · exact rdI_T T0 (j := 3) (by decide) (by decide)
    · exact rdI_T T1 (j := 0) (by decide) (by decide)
    · exact rdI_T T1 (j := 1) (by decide) (by decide)
    · exact rdI_T T1 (j := 2) (by decide) (by decide)
    · exact rdI_T T1 (j := 3) (by decide) (by decide)
    · exact rdI_T T2 (j := 0) (by decide) (by decide)
    · exact rdI_T T2 (j := 1) (by decide) (by decide)
    · exact rdI_T T2 (j := 2) (by decide) (by decide)
    · exact rdI_T T2 (j := 3) (by decide) (by decide)
    · exact rdI_T T3 (j := 0) (by decide) (by decide)
    · exact rdI_T T3 (j := 1) (by decide) (by decide)
    · exact rdI_T T3 (j := 2) (by decide) (by decide)
    · exact rdI_T T3 (j := 3) (by decide) (by decide)
  rw [lg_entry_eq]
  have hl := lsOK.entry (As := [.ref b]) (n := 4) (Nat.le_of_ble_eq_true rfl) (fun v hv => by
    rw [List.mem_singleton.mp hv]
    trivial)
  refine law_start X KA_cls KA_mod (Q0 := lw_Z below #[Value.ref b] s) (fun G D pc pm => sj_sl ?_) _ hl s.heap [] (Rp_i.mpr (fun a h1 h2 => absurd h2 (by omega))) va_S.rf
  have h := law_loop (l := l) (e := e) (below := below) (meth := meth) (Q0 := lw_Z below #[Value.ref b] s) (cells := 424) (slots := 16019) XL hst (by decide) (by decide) (by rw [KA_cls.1]) (by rw [KA_mod.1]) hL (KA_b hbl) (fun LL G D => law_end XL rfl hx hb hr hlocks (by decide) (by decide)) (L + 1) 0 (Nat.zero_le _) (by omega) G D (rel_init KA_cls KA_mod pc pm)
  exact h
-- ===== YOUR PART ENDS =====
set_option maxHeartbeats 4000000 in
theorem lw_walk (l : Launch) (hflags : l.flags = flags0) (b : Addr) (xs : List Int32) : MetFree l x (headSpec (Jvm.Cond.code x code maxLocals ret :: tables_1) room_1) (lw_P b xs) (fun _ _ _ _ _ => True) lw_Q := by
  refine MetFree.of_bodyS (code := code) (maxLocals := maxLocals) (ret := ret) (by decide) ?_ ?_
  · intro args s m h hn
    obtain ⟨meth, c, h1, h2, h3, h4, h5, h6, -, -⟩ := Cond.code_spec hn (atoms_spec (ws := Jvm.Cond.code x code maxLocals ret :: tables_1) h _ List.mem_cons_self)
    exact ⟨meth, c, h1, h2, h3, h4, h5, h6⟩
  · intro p e s m args below meth c s₁ B hml0 hP _
    obtain ⟨rfl, hx, hbd, hgv⟩ := hP
    obtain ⟨scr, harrAt, hlist, hof, hsmall⟩ := hx
    obtain ⟨hcb, hkn, -, -⟩ := State.arrayAt?_spec harrAt
    have hown : s.vm.findClass R_law = some m.cls := findClass_of_methodNamed B.named
    have hts0 : ∀ c ∈ (Jvm.Cond.code x code maxLocals ret :: tables_1), c.before #[Value.ref b] s = true := atoms_spec (ws := Jvm.Cond.code x code maxLocals ret :: tables_1) B.pre
    have hts : ∀ w ∈ lw_tbl, w.before #[Value.ref b] s = true := k2_hts_sels lw_privs (fun w hw => hts0 w (List.mem_cons_of_mem _ hw)) lw_privs_ok
    have hml : c.maxLocals = 4 := B.maxLocals_eq (hts0 _ List.mem_cons_self)
    have X₀ : Stand p l e room_1 s m #[Value.ref b] below meth c s₁ [] 0 0 := Stand.of_body B
    have hh0 : s₁.heap = s.heap := by rw [B.state]; rfl
    have hsz : scr.slots.size = xs.length := by rw [← Array.length_toList, hlist, List.length_map]
    have hval : ∀ j : Nat, j < xs.length → scr.slots[j]? = some (.int (xs.getD j 0)) := fun j hj => by
      rw [← Array.getElem?_toList, hlist]
      simp [hj]
    have hbl : b < s.heap.size := (Array.getElem?_eq_some_iff.mp hcb).1
    have hX : va_X b xs.length (fun j => xs.getD j 0) s s.heap := ⟨scr, hcb, hof, hkn, hsz, hval⟩
    have K : W p l e room_1 s m #[Value.ref b] below meth c s₁.heap [] 0 0 (lw_Z below #[Value.ref b] s) (entryFrame m ([Value.ref b] : List Value).toArray 4) := by
      rw [hh0]
      exact whole_start l hflags hbd ⟨B.exec, B.bytes, B.returns, hml, hown, hts, hX, hbl, B.notSynchronized, hgv⟩
    obtain ⟨t, a1, o, b1, b2, b3⟩ := K s₁ rfl X₀
    exact ⟨t, o, a1, b1, b2, b3⟩
theorem lw_pre_spec {args : Array Value} {s : State} (h : (Jvm.Cond.and given_1 narrow_1).before args s = true) (hr : rest_1_c.before args s = true) : ∃ (b : Addr) (xs : List Int32), lw_P b xs args s := by
  have hs := flat_of_before _ h
  have hq := flat_of_before _ hr
  have hc : (Cond.count 1).before args s = true := hs _ (by decide +kernel)
  have harr : (Cond.arrayOf (.arg 0) .int).before args s = true := hs _ (by decide +kernel)
  have hle : (Cond.le (.length (.arg 0)) (.int 3072)).before args s = true := hs _ (by decide +kernel)
  have hlen : (Cond.isInt (.length (.arg 0))).before args s = true := hq _ (by decide +kernel)
  have hall : (Cond.all (.arg 0) (.isInt (.elem (.arg 0) (.index 0)))).before args s = true := hq _ (by decide +kernel)
  obtain ⟨b, xs, hb, hx⟩ := State.ints_of_pre rfl harr hlen hall
  have hsm : xs.length < 2 ^ 31 := hx.choose_spec.2.2.2
  have hev : (Term.length (.arg 0)).eval args s none [] s = some (.int xs.length.toInt32) := hx.length_eval hb
  have hv := Cond.le_ints hev (show (Term.int 3072).eval args s none [] s = some (.int 3072) from rfl)
  have hd : xs.length.toInt32 ≤ 3072 := by
    simpa [Cond.before, Cond.holds, hv] using hle
  have hN : xs.length ≤ 3072 := (Int32.ofNat_le_ofNat hsm (by decide)).mp (show Int32.ofNat xs.length ≤ Int32.ofNat 3072 from hd)
  exact ⟨b, xs, Cond.one_arg hc (show args[0]? = some (.ref b) from hb), hx, hN, h⟩
theorem lw_comes (l : Launch) (hflags : l.flags = flags0) : Comes l x (Jvm.Cond.code x code maxLocals ret :: tables_1) room_1 (fun tb e args s => Calls_1 tb e args s ∧ rest_1 tb e args s ∧ Pre_1 tb e args s)
    (fun _ _ args s o t => lw_Q args s o t) := by
  intro p e ha hc hk s m args below hf hfit hheap happ hpre
  obtain ⟨b, xs, hP⟩ := lw_pre_spec hpre.2.2 hpre.2.1
  obtain ⟨k, o, h1, h2, h3, hQ⟩ := lw_walk l hflags b xs p e ha hc hk s m args below hf ((Spec.applies_iff_loose hf).mp happ).1 hP trivial
  exact ⟨k, o, h1, h2, h3, hQ⟩
theorem lw_frame {s t : State} {o : Outcome} {args : Array Value} (h : Framed s o t [] 600000 7302250) :
    Framed s o t (fieldLocs frame_1_writes args s ++ arrayLocs frame_1_arrays args s ++ staticLocs frame_1_statics s) 600000 7302250 := h
theorem lw_limb (L : Cond) (hL : ∀ (args : Array Value) (s t : State), L.after args s (.returned (some (.int 1))) t = true) :
    ArmFor flags0 classFile x code maxLocals ret World_1 tables_1 room_1 Calls_1 rest_1 Pre_1
      (fun tb e a s o t => postC L tb e a s o t ∧ Framed s o t (fieldLocs frame_1_writes a s ++ arrayLocs frame_1_arrays a s ++ staticLocs frame_1_statics s) 600000 7302250) := by
  intro l hflags _ _ p e ha hc hk s m args below hf hfit hheap happ hpre
  obtain ⟨k, o, h1, h2, h3, rfl, hF⟩ := lw_comes l hflags p e ha hc hk s m args below hf hfit hheap happ hpre
  exact ⟨k, _, h1, h2, h3, hL args s _, lw_frame hF⟩
theorem i_vc : Claimed_1_1 ∧ Claimed_1_2 := ⟨lw_limb limb_1_1 (fun args s t => by simp [limb_1_1, Cond.after, Cond.holds, Cond.value]), lw_limb limb_1_2 (fun args s t => Cond.after_iff.mpr (by
  first | (rw [show limb_1_2 = Cond.eq .result (.int 1) from rfl, Cond.eq_ints (x := 1) (y := 1) rfl rfl]; simp; done) | (simp [limb_1_2, Cond.value, Term.eval]; done)))⟩
