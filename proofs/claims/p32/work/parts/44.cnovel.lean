/-! ### Novel's constructor -/
/-- the numbers of a fresh novel -/
def iv (k : Nat) : Int32 := if k = 5 then 300 else if k = 6 then 5 else if k = 7 then 400 else if k = 8 then 2 else if 17 ≤ k ∧ k < 137 then (if (k - 17) % 4 = 0 then 2 else if (k - 17) % 4 = 1 then 0 else -100009) else 0
def FrP (n k : Nat) (G : GT) (D : DT) : Prop := ∀ z, n + k ≤ z → (G z = fun _ => none) ∧ D z = fun _ => 0
theorem FrP.o {n k : Nat} : FrP n k G00 D00 := fun _ _ => ⟨rfl, rfl⟩
theorem FrP.g {n k a v : Nat} {i : Int32} {G : GT} {D : DT} (h : FrP n k G D) (ha : a < n + k) : FrP n k (uG G a i v) D := fun z hz => by
  rw [uG_o (by omega)]
  exact h z hz
theorem rowG_o {G : GT} {a N b : Nat} (h : b ≠ a) : rowG G a N b = G b := by
  funext j
  unfold rowG
  rw [if_neg (fun q => h q.1)]
theorem FrP.r {n k a N : Nat} {G : GT} {D : DT} (h : FrP n k G D) (ha : a < n + k) : FrP n k (rowG G a N) D := fun z hz => by
  rw [rowG_o (by omega)]
  exact h z hz
theorem FrP.m {n k k' : Nat} {G : GT} {D : DT} (h : FrP n k G D) (hk : k ≤ k') : FrP n k' G D := fun z hz => h z (by omega)
theorem FrP.c {n j sz : Nat} {G Gc : GT} {D Dc : DT} (h : FrP (n + j) sz Gc Dc) : FrP n (j + sz) (mrG (n + j) G Gc) (mrD (n + j) D Dc) := fun z hz => by
  rw [show mrG (n + j) G Gc z = Gc z from if_neg (by omega), show mrD (n + j) D Dc z = Dc z from if_neg (by omega)]
  exact h z (by omega)
def NovK (K : KT) (n : Nat) : Prop := K n = (2, 0) ∧ K (nu n) = (10, 17) ∧ K (sO n) = (13, 6) ∧ K (wO n) = (13, 4) ∧ (∀ j, j < 6 → K (n + 3 + j) = (10, 20)) ∧ ∀ j, j < 4 → K (n + 10 + j) = (10, 30)
def NovG (n : Nat) (G : GT) : Prop := (G n 0 = some (nu n) ∧ G n 1 = some (sO n) ∧ G n 2 = some (wO n)) ∧ (∀ r : Int32, 0 ≤ r ∧ r < 6 → G (sO n) r = some (sc n r)) ∧ ∀ r : Int32, 0 ≤ r ∧ r < 4 → G (wO n) r = some (wk n r)
def NovP (n : Nat) (G : GT) (D : DT) : Prop := NovG n G ∧ ∀ k, k < 257 → novI D n k = iv k
theorem in_n {r : Int32} {N : Nat} (hN : N < 1000) (h : 0 ≤ r ∧ r < nI N) : ∃ j, j < N ∧ r = nI j := by
  obtain ⟨j, hj, rfl⟩ := nI_of (x := r) (Int32.not_lt.mpr h.1)
  exact ⟨j, (nI_ltI hj (by omega)).mp h.2, rfl⟩
theorem NovK.nov {K : KT} {G : GT} {n : Nat} (h : NovK K n) (hG : NovG n G) : Nov K G n := by
  obtain ⟨k0, k1, k2, k3, k4, k5⟩ := h
  obtain ⟨⟨g0, g1, g2⟩, g3, g4⟩ := hG
  refine ⟨⟨k0, g0, g1, g2⟩, ⟨k1, k2, k3⟩, g3, fun r hr => ?_, g4, fun r hr => ?_⟩
  · obtain ⟨j, hj, rfl⟩ := in_n (N := 6) (by omega) hr
    rw [sc_n hj]
    exact k4 j hj
  · obtain ⟨j, hj, rfl⟩ := in_n (N := 4) (by omega) hr
    rw [wk_n hj]
    exact k5 j hj
theorem NovK.tr {K : KT} {n k : Nat} (h : NovK K n) (hk : 14 ≤ k) : NovK (trK K n k) n := by
  obtain ⟨k0, k1, k2, k3, k4, k5⟩ := h
  refine ⟨?_, ?_, ?_, ?_, fun j hj => ?_, fun j hj => ?_⟩
  · rw [trK_in (by omega) (by omega)]; exact k0
  · rw [trK_in (by unfold nu; omega) (by unfold nu; omega)]; exact k1
  · rw [trK_in (by unfold sO; omega) (by unfold sO; omega)]; exact k2
  · rw [trK_in (by unfold wO; omega) (by unfold wO; omega)]; exact k3
  · rw [trK_in (by omega) (by omega)]; exact k4 j hj
  · rw [trK_in (by omega) (by omega)]; exact k5 j hj
theorem rowG_at {G : GT} {a N : Nat} {r : Int32} (h : 0 ≤ r ∧ r < nI N) : rowG G a N a r = some (a + 1 + r.toNatClampNeg) := if_pos ⟨rfl, h⟩
/-- the weeks of a fresh novel, the first j being laid -/
def NvA (D4 D : DT) (n j : Nat) : Prop := (∀ b, b ≠ n + 10 → b ≠ n + 12 → b ≠ n + 13 → D b = D4 b) ∧ ∀ w, w < 30 → D (n + 10) (nI w) = (if w < j then 2 else 0) ∧ D (n + 12) (nI w) = (if w < j then -100009 else 0) ∧ D (n + 13) (nI w) = (if w < j then -100009 else 0)
theorem uD_if {D : DT} {a j w : Nat} {v : Int32} (hj : j < 1000) (hw : w < 1000) : uD D a (nI j) v a (nI w) = if w = j then v else D a (nI w) := by
  by_cases e : w = j
  · subst e
    rw [uD_eq, if_pos rfl]
  · rw [uD_at' (by omega) (by omega) (fun _ => e), if_neg e]
theorem NvA_s {D4 D : DT} {n j : Nat} (h : NvA D4 D n j) (hj : j < 30) : NvA D4 (uD (uD (uD D (wk n 0) (nI j) 2) (wk n 2) (nI j) (-100009)) (wk n 3) (nI j) (-100009)) n (j + 1) := by
  obtain ⟨h1, h2⟩ := h
  have e0 : wk n 0 = n + 10 := wk_n (r := 0) (by omega)
  have e2 : wk n 2 = n + 12 := wk_n (r := 2) (by omega)
  have e3 : wk n 3 = n + 13 := wk_n (r := 3) (by omega)
  rw [e0, e2, e3]
  refine ⟨fun b b1 b2 b3 => by rw [uD_o b3, uD_o b2, uD_o b1]; exact h1 b b1 b2 b3, fun w hw => ?_⟩
  obtain ⟨a1, a2, a3⟩ := h2 w hw
  rw [uD_o (show n + 10 ≠ n + 13 by omega), uD_o (show n + 10 ≠ n + 12 by omega), uD_o (show n + 12 ≠ n + 13 by omega), uD_if (by omega) (by omega), uD_if (by omega) (by omega), uD_if (by omega) (by omega), uD_o (show n + 12 ≠ n + 10 by omega), uD_o (show n + 13 ≠ n + 12 by omega), uD_o (show n + 13 ≠ n + 10 by omega), a1, a2, a3]
  by_cases e : w = j
  · rw [if_pos e, if_pos e, if_pos (by omega), if_pos (by omega)]
    exact ⟨rfl, rfl, rfl⟩
  · rw [if_neg e, if_neg e]
    by_cases q : w < j
    · rw [if_pos q, if_pos q, if_pos (by omega), if_pos (by omega)]
      exact ⟨rfl, rfl, rfl⟩
    · rw [if_neg q, if_neg q, if_neg (by omega), if_neg (by omega)]
      exact ⟨rfl, rfl, rfl⟩
def D4N (n : Nat) : DT := uD (uD (uD (uD D00 (nu n) 5 300) (nu n) 6 5) (nu n) 7 400) (nu n) 8 2
theorem NvA_0 {n : Nat} : NvA (D4N n) (D4N n) n 0 := by
  refine ⟨fun _ _ _ _ => rfl, fun w hw => ?_⟩
  unfold D4N
  rw [uD_o (show n + 10 ≠ nu n by unfold nu; omega), uD_o (show n + 10 ≠ nu n by unfold nu; omega), uD_o (show n + 10 ≠ nu n by unfold nu; omega), uD_o (show n + 10 ≠ nu n by unfold nu; omega), uD_o (show n + 12 ≠ nu n by unfold nu; omega), uD_o (show n + 12 ≠ nu n by unfold nu; omega), uD_o (show n + 12 ≠ nu n by unfold nu; omega), uD_o (show n + 12 ≠ nu n by unfold nu; omega), uD_o (show n + 13 ≠ nu n by unfold nu; omega), uD_o (show n + 13 ≠ nu n by unfold nu; omega), uD_o (show n + 13 ≠ nu n by unfold nu; omega), uD_o (show n + 13 ≠ nu n by unfold nu; omega), if_neg (Nat.not_lt_zero _), if_neg (Nat.not_lt_zero _)]
  exact ⟨rfl, rfl, rfl⟩
theorem NvA_e {D : DT} {n : Nat} (h : NvA (D4N n) D n 30) : (∀ k, k < 257 → novI D n k = iv k) ∧ ∀ z, n + 14 ≤ z → D z = fun _ => 0 := by
  obtain ⟨h1, h2⟩ := h
  refine ⟨fun k hk => ?_, fun z hz => ?_⟩
  · by_cases c1' : k < 17
    · rw [novI_n c1', h1 (nu n) (by unfold nu; omega) (by unfold nu; omega) (by unfold nu; omega)]
      have e1 : D4N n = uD (uD (uD (uD D00 (nu n) (nI 5) 300) (nu n) (nI 6) 5) (nu n) (nI 7) 400) (nu n) (nI 8) 2 := rfl
      unfold iv
      rw [e1]
      refine (novI_n c1').symm.trans ?_
      rw [novI_N (by omega) hk, novI_N (by omega) hk, novI_N (by omega) hk, novI_N (by omega) hk, novI_n c1', if_neg (show ¬ (17 ≤ k ∧ k < 137) by omega)]
      repeat' split
      all_goals first | rfl | omega
    · by_cases c2' : k < 137
      · obtain ⟨j, r, hj, hr, rfl⟩ : ∃ j r, j < 30 ∧ r < 4 ∧ k = 17 + 4 * j + r := ⟨(k - 17) / 4, (k - 17) % 4, by omega, by omega, by omega⟩
        obtain ⟨a1, a2, a3⟩ := h2 j hj
        rw [if_pos hj] at a1 a2 a3
        rw [novI_w hr hj]
        unfold iv
        rw [if_neg (by omega), if_neg (by omega), if_neg (by omega), if_neg (by omega), if_pos (by omega), show (17 + 4 * j + r - 17) % 4 = r by omega]
        obtain rfl | rfl | rfl | rfl : r = 0 ∨ r = 1 ∨ r = 2 ∨ r = 3 := by omega
        · exact a1
        · rw [h1 _ (by omega) (by omega) (by omega)]
          unfold D4N
          rw [uD_o (by unfold nu; omega), uD_o (by unfold nu; omega), uD_o (by unfold nu; omega), uD_o (by unfold nu; omega)]
          rfl
        · exact a2
        · exact a3
      · obtain ⟨j, r, hj, hr, rfl⟩ : ∃ j r, j < 20 ∧ r < 6 ∧ k = 137 + 6 * j + r := ⟨(k - 137) / 6, (k - 137) % 6, by omega, by omega, by omega⟩
        rw [novI_s hr hj, h1 _ (by omega) (by omega) (by omega)]
        unfold D4N iv
        rw [uD_o (by unfold nu; omega), uD_o (by unfold nu; omega), uD_o (by unfold nu; omega), uD_o (by unfold nu; omega), if_neg (by omega), if_neg (by omega), if_neg (by omega), if_neg (by omega), if_neg (by omega)]
  · rw [h1 z (by omega) (by omega) (by omega)]
    unfold D4N
    rw [uD_o (by unfold nu; omega), uD_o (by unfold nu; omega), uD_o (by unfold nu; omega), uD_o (by unfold nu; omega)]
set_option maxRecDepth 100000 in
set_option maxHeartbeats 4000000 in
theorem c_X2 (l : Launch) : SatC l yX2_init cX2_init 2 1 14 267 NovK (fun n G D => NovP n G D ∧ FrP n 14 G D) := by
  refine satC_of (own := RX2) (by decide +kernel) rfl rfl (by decide) ?_
  intro p e s m args below meth c dC dI cy K sa n hkp X hin hret hlk
  have hK14 := hkp.tr (k := 14) (Nat.le_refl _)
  obtain ⟨k0, k1, k2, k3, k4, k5⟩ := hkp
  rw [show L0 [.ref n] 2 = [some (.ref n), none] from rfl]
  refine sj_old X envX2 (na := naX2) (rc := rcX2) (R0 := D00) (okc_c dX2_init_0 (okc_e)) ?_
  simp only [↓x_iconst, ↓x_bipush, ↓x_sipush, ↓x_ldc, ↓x_iload_n, ↓x_iload, ↓x_aload_n, ↓x_aload, ↓x_istore_n, ↓x_istore, ↓x_astore_n, ↓x_astore, ↓x_iinc, ↓x_iadd, ↓x_isub, ↓x_imul, ↓x_iand, ↓x_idiv, ↓x_irem, ↓x_ineg, ↓x_i2c, ↓x_dupI, ↓x_dupA, ↓x_dup2, ↓x_goto, ↓x_get, ↓x_put, ↓x_gets, ↓x_iald, ↓x_bald, ↓x_aald, ↓x_iast, ↓x_bast, ↓x_aast, ↓x_alen, ↓x_iret, ↓x_vret, ↓x_nil, ↓x_jmp, ↓x_ldI0, ↓x_ldIs, ↓x_ldA0, ↓x_ldAs, ↓x_icmpT, ↓x_icmpF, ↓x_ifT, ↓x_ifF, x_iconst, x_bipush, x_sipush, x_ldc, x_iload_n, x_iload, x_aload_n, x_aload, x_istore_n, x_istore, x_astore_n, x_astore, x_iinc, x_iadd, x_isub, x_imul, x_iand, x_idiv, x_irem, x_ineg, x_i2c, x_dupI, x_dupA, x_dup2, x_goto, x_if, x_icmp, x_get, x_put, x_gets, x_iald, x_bald, x_aald, x_iast, x_bast, x_aast, x_alen, x_iret, x_vret, x_nil, x_jmp, x_ldI0, x_ldIs, x_ldA0, x_ldAs, x_cad, x_cad2, x_fv0, x_fv1, x_fv2, x_fv3, cnd, fI, L0, c1, nL0, nL1, nL2, nL3, nL4, nL5, nL6, nL7, nL8, nL9, nL10, nL11, nL12, List.map_cons, List.map_nil, List.length_cons, List.length_nil, List.cons_append, List.nil_append, List.replicate_succ, List.replicate_zero, List.set_cons_zero, List.set_cons_succ, List.mem_cons, List.not_mem_nil, or_false, false_or, Option.toList_some, Option.toList_none, ↓reduceIte, if_true, if_false, Nat.reduceAdd, Nat.reduceSub, Nat.reduceEqDiff, Nat.reduceLT, Nat.reduceLeDiff, Int.reduceNatCast, Int.reduceNatCast', Int.reduceAdd, Int.reduceNeg, Int.reduceToNat, Int.reduceLE, Int.reduceLT, Int.reduceEq, Nat.zero_add, Nat.add_zero, and_true, true_and, ne_eq, not_false_eq_true, not_true_eq_false, and_self, implies_true, Bool.false_eq_true, Nat.reduceBEq, Int32.reduceOfInt, Int32.reduceAdd, Int32.reduceSub, Int32.reduceMul, Int32.reduceLE, Int32.reduceLT, Int32.reduceToNatClampNeg, Option.some.injEq, exists_eq_left, exists_eq_left', Option.isSome_some, Option.getD_some, vp_nar_int, pbi, eq_self, forall_const, false_implies, true_implies, false_and, and_false, uD_s, uG_s, uD_o, ad_nw, ad_wn, ad_ns, ad_sn, ad_ss, ad_ww, ad_sw, ad_ws, Int32.reduceToInt, Classical.not_not, d1n, d2n, d3n, d4n, d5n, d6n, d10n, inr, nL17, nL20, nL21, nL30, nL100, nL462, nL773, nL4638, bp6, bp7, bp8, bp9, bp10, bp11, bp12, bp13, bp14, bp15, bp16, bp17, bp20, bp21, bp26, bp30, bp40, bp60, bp80, bp90, bp100, spm1000, spm999, sp128, sp150, sp200, sp256, sp300, sp400, sp999, sp1024, sp4096, sp8192, eX2_17, eX2_20, eX2_9, kcX2_23]
  refine sj_obj X ol_X2 oi_m oi_c (by decide) (by decide) trivial dX2_init_1 ?_
  refine sj_old X envX2 (na := naX2) (rc := rcX2) (R0 := D00) (okc_c dX2_init_4 (okc_c dX2_init_5 (okc_e))) ?_
  simp only [↓x_iconst, ↓x_bipush, ↓x_sipush, ↓x_ldc, ↓x_iload_n, ↓x_iload, ↓x_aload_n, ↓x_aload, ↓x_istore_n, ↓x_istore, ↓x_astore_n, ↓x_astore, ↓x_iinc, ↓x_iadd, ↓x_isub, ↓x_imul, ↓x_iand, ↓x_idiv, ↓x_irem, ↓x_ineg, ↓x_i2c, ↓x_dupI, ↓x_dupA, ↓x_dup2, ↓x_goto, ↓x_get, ↓x_put, ↓x_gets, ↓x_iald, ↓x_bald, ↓x_aald, ↓x_iast, ↓x_bast, ↓x_aast, ↓x_alen, ↓x_iret, ↓x_vret, ↓x_nil, ↓x_jmp, ↓x_ldI0, ↓x_ldIs, ↓x_ldA0, ↓x_ldAs, ↓x_icmpT, ↓x_icmpF, ↓x_ifT, ↓x_ifF, x_iconst, x_bipush, x_sipush, x_ldc, x_iload_n, x_iload, x_aload_n, x_aload, x_istore_n, x_istore, x_astore_n, x_astore, x_iinc, x_iadd, x_isub, x_imul, x_iand, x_idiv, x_irem, x_ineg, x_i2c, x_dupI, x_dupA, x_dup2, x_goto, x_if, x_icmp, x_get, x_put, x_gets, x_iald, x_bald, x_aald, x_iast, x_bast, x_aast, x_alen, x_iret, x_vret, x_nil, x_jmp, x_ldI0, x_ldIs, x_ldA0, x_ldAs, x_cad, x_cad2, x_fv0, x_fv1, x_fv2, x_fv3, cnd, fI, L0, c1, nL0, nL1, nL2, nL3, nL4, nL5, nL6, nL7, nL8, nL9, nL10, nL11, nL12, List.map_cons, List.map_nil, List.length_cons, List.length_nil, List.cons_append, List.nil_append, List.replicate_succ, List.replicate_zero, List.set_cons_zero, List.set_cons_succ, List.mem_cons, List.not_mem_nil, or_false, false_or, Option.toList_some, Option.toList_none, ↓reduceIte, if_true, if_false, Nat.reduceAdd, Nat.reduceSub, Nat.reduceEqDiff, Nat.reduceLT, Nat.reduceLeDiff, Int.reduceNatCast, Int.reduceNatCast', Int.reduceAdd, Int.reduceNeg, Int.reduceToNat, Int.reduceLE, Int.reduceLT, Int.reduceEq, Nat.zero_add, Nat.add_zero, and_true, true_and, ne_eq, not_false_eq_true, not_true_eq_false, and_self, implies_true, Bool.false_eq_true, Nat.reduceBEq, Int32.reduceOfInt, Int32.reduceAdd, Int32.reduceSub, Int32.reduceMul, Int32.reduceLE, Int32.reduceLT, Int32.reduceToNatClampNeg, Option.some.injEq, exists_eq_left, exists_eq_left', Option.isSome_some, Option.getD_some, vp_nar_int, pbi, eq_self, forall_const, false_implies, true_implies, false_and, and_false, uD_s, uG_s, uD_o, ad_nw, ad_wn, ad_ns, ad_sn, ad_ss, ad_ww, ad_sw, ad_ws, Int32.reduceToInt, Classical.not_not, d1n, d2n, d3n, d4n, d5n, d6n, d10n, inr, nL17, nL20, nL21, nL30, nL100, nL462, nL773, nL4638, bp6, bp7, bp8, bp9, bp10, bp11, bp12, bp13, bp14, bp15, bp16, bp17, bp20, bp21, bp26, bp30, bp40, bp60, bp80, bp90, bp100, spm1000, spm999, sp128, sp150, sp200, sp256, sp300, sp400, sp999, sp1024, sp4096, sp8192, eX2_17, eX2_20, eX2_9, kcX2_23]
  refine sj_newa X (ty := .int) (κ := 10) (N := 17) rfl ac_int (by decide) (by decide) rfl (fun _ _ h => h) rfl rfl (by decide) (by decide) k1 rfl (by decide) (by decide) (by decide) dX2_init_7 ?_
  refine sj_put X fr_X2_9 hin (Nat.le_refl _) (by omega) (by rw [k0]) dX2_init_9 ?_
  refine sj_old X envX2 (na := naX2) (rc := rcX2) (R0 := D00) (okc_c dX2_init_12 (okc_c dX2_init_13 (okc_c dX2_init_15 (okc_e)))) ?_
  simp only [↓x_iconst, ↓x_bipush, ↓x_sipush, ↓x_ldc, ↓x_iload_n, ↓x_iload, ↓x_aload_n, ↓x_aload, ↓x_istore_n, ↓x_istore, ↓x_astore_n, ↓x_astore, ↓x_iinc, ↓x_iadd, ↓x_isub, ↓x_imul, ↓x_iand, ↓x_idiv, ↓x_irem, ↓x_ineg, ↓x_i2c, ↓x_dupI, ↓x_dupA, ↓x_dup2, ↓x_goto, ↓x_get, ↓x_put, ↓x_gets, ↓x_iald, ↓x_bald, ↓x_aald, ↓x_iast, ↓x_bast, ↓x_aast, ↓x_alen, ↓x_iret, ↓x_vret, ↓x_nil, ↓x_jmp, ↓x_ldI0, ↓x_ldIs, ↓x_ldA0, ↓x_ldAs, ↓x_icmpT, ↓x_icmpF, ↓x_ifT, ↓x_ifF, x_iconst, x_bipush, x_sipush, x_ldc, x_iload_n, x_iload, x_aload_n, x_aload, x_istore_n, x_istore, x_astore_n, x_astore, x_iinc, x_iadd, x_isub, x_imul, x_iand, x_idiv, x_irem, x_ineg, x_i2c, x_dupI, x_dupA, x_dup2, x_goto, x_if, x_icmp, x_get, x_put, x_gets, x_iald, x_bald, x_aald, x_iast, x_bast, x_aast, x_alen, x_iret, x_vret, x_nil, x_jmp, x_ldI0, x_ldIs, x_ldA0, x_ldAs, x_cad, x_cad2, x_fv0, x_fv1, x_fv2, x_fv3, cnd, fI, L0, c1, nL0, nL1, nL2, nL3, nL4, nL5, nL6, nL7, nL8, nL9, nL10, nL11, nL12, List.map_cons, List.map_nil, List.length_cons, List.length_nil, List.cons_append, List.nil_append, List.replicate_succ, List.replicate_zero, List.set_cons_zero, List.set_cons_succ, List.mem_cons, List.not_mem_nil, or_false, false_or, Option.toList_some, Option.toList_none, ↓reduceIte, if_true, if_false, Nat.reduceAdd, Nat.reduceSub, Nat.reduceEqDiff, Nat.reduceLT, Nat.reduceLeDiff, Int.reduceNatCast, Int.reduceNatCast', Int.reduceAdd, Int.reduceNeg, Int.reduceToNat, Int.reduceLE, Int.reduceLT, Int.reduceEq, Nat.zero_add, Nat.add_zero, and_true, true_and, ne_eq, not_false_eq_true, not_true_eq_false, and_self, implies_true, Bool.false_eq_true, Nat.reduceBEq, Int32.reduceOfInt, Int32.reduceAdd, Int32.reduceSub, Int32.reduceMul, Int32.reduceLE, Int32.reduceLT, Int32.reduceToNatClampNeg, Option.some.injEq, exists_eq_left, exists_eq_left', Option.isSome_some, Option.getD_some, vp_nar_int, pbi, eq_self, forall_const, false_implies, true_implies, false_and, and_false, uD_s, uG_s, uD_o, ad_nw, ad_wn, ad_ns, ad_sn, ad_ss, ad_ww, ad_sw, ad_ws, Int32.reduceToInt, Classical.not_not, d1n, d2n, d3n, d4n, d5n, d6n, d10n, inr, nL17, nL20, nL21, nL30, nL100, nL462, nL773, nL4638, bp6, bp7, bp8, bp9, bp10, bp11, bp12, bp13, bp14, bp15, bp16, bp17, bp20, bp21, bp26, bp30, bp40, bp60, bp80, bp90, bp100, spm1000, spm999, sp128, sp150, sp200, sp256, sp300, sp400, sp999, sp1024, sp4096, sp8192, eX2_17, eX2_20, eX2_9, kcX2_23]
  refine sj_mna X cl_X2_15 ac_int (N := 6) (M := 20) rfl rfl (by decide) (by decide) k2 (fun j hj => by rw [show n + 2 + 1 + j = n + 3 + j by omega]; exact k4 j hj) (uG_o (by omega)) (fun _ _ => rfl) (by decide) (by decide) (by decide) dX2_init_17 ?_
  refine sj_put X fr_X2_17 hin (Nat.le_refl _) (by omega) (by rw [k0]) dX2_init_21 ?_
  refine sj_old X envX2 (na := naX2) (rc := rcX2) (R0 := D00) (okc_c dX2_init_24 (okc_c dX2_init_25 (okc_c dX2_init_26 (okc_e)))) ?_
  simp only [↓x_iconst, ↓x_bipush, ↓x_sipush, ↓x_ldc, ↓x_iload_n, ↓x_iload, ↓x_aload_n, ↓x_aload, ↓x_istore_n, ↓x_istore, ↓x_astore_n, ↓x_astore, ↓x_iinc, ↓x_iadd, ↓x_isub, ↓x_imul, ↓x_iand, ↓x_idiv, ↓x_irem, ↓x_ineg, ↓x_i2c, ↓x_dupI, ↓x_dupA, ↓x_dup2, ↓x_goto, ↓x_get, ↓x_put, ↓x_gets, ↓x_iald, ↓x_bald, ↓x_aald, ↓x_iast, ↓x_bast, ↓x_aast, ↓x_alen, ↓x_iret, ↓x_vret, ↓x_nil, ↓x_jmp, ↓x_ldI0, ↓x_ldIs, ↓x_ldA0, ↓x_ldAs, ↓x_icmpT, ↓x_icmpF, ↓x_ifT, ↓x_ifF, x_iconst, x_bipush, x_sipush, x_ldc, x_iload_n, x_iload, x_aload_n, x_aload, x_istore_n, x_istore, x_astore_n, x_astore, x_iinc, x_iadd, x_isub, x_imul, x_iand, x_idiv, x_irem, x_ineg, x_i2c, x_dupI, x_dupA, x_dup2, x_goto, x_if, x_icmp, x_get, x_put, x_gets, x_iald, x_bald, x_aald, x_iast, x_bast, x_aast, x_alen, x_iret, x_vret, x_nil, x_jmp, x_ldI0, x_ldIs, x_ldA0, x_ldAs, x_cad, x_cad2, x_fv0, x_fv1, x_fv2, x_fv3, cnd, fI, L0, c1, nL0, nL1, nL2, nL3, nL4, nL5, nL6, nL7, nL8, nL9, nL10, nL11, nL12, List.map_cons, List.map_nil, List.length_cons, List.length_nil, List.cons_append, List.nil_append, List.replicate_succ, List.replicate_zero, List.set_cons_zero, List.set_cons_succ, List.mem_cons, List.not_mem_nil, or_false, false_or, Option.toList_some, Option.toList_none, ↓reduceIte, if_true, if_false, Nat.reduceAdd, Nat.reduceSub, Nat.reduceEqDiff, Nat.reduceLT, Nat.reduceLeDiff, Int.reduceNatCast, Int.reduceNatCast', Int.reduceAdd, Int.reduceNeg, Int.reduceToNat, Int.reduceLE, Int.reduceLT, Int.reduceEq, Nat.zero_add, Nat.add_zero, and_true, true_and, ne_eq, not_false_eq_true, not_true_eq_false, and_self, implies_true, Bool.false_eq_true, Nat.reduceBEq, Int32.reduceOfInt, Int32.reduceAdd, Int32.reduceSub, Int32.reduceMul, Int32.reduceLE, Int32.reduceLT, Int32.reduceToNatClampNeg, Option.some.injEq, exists_eq_left, exists_eq_left', Option.isSome_some, Option.getD_some, vp_nar_int, pbi, eq_self, forall_const, false_implies, true_implies, false_and, and_false, uD_s, uG_s, uD_o, ad_nw, ad_wn, ad_ns, ad_sn, ad_ss, ad_ww, ad_sw, ad_ws, Int32.reduceToInt, Classical.not_not, d1n, d2n, d3n, d4n, d5n, d6n, d10n, inr, nL17, nL20, nL21, nL30, nL100, nL462, nL773, nL4638, bp6, bp7, bp8, bp9, bp10, bp11, bp12, bp13, bp14, bp15, bp16, bp17, bp20, bp21, bp26, bp30, bp40, bp60, bp80, bp90, bp100, spm1000, spm999, sp128, sp150, sp200, sp256, sp300, sp400, sp999, sp1024, sp4096, sp8192, eX2_17, eX2_20, eX2_9, kcX2_23]
  refine sj_mna X cl_X2_15 ac_int (N := 4) (M := 30) rfl rfl (by decide) (by decide) k3 (fun j hj => by rw [show n + 9 + 1 + j = n + 10 + j by omega]; exact k5 j hj) ?_ (fun _ _ => rfl) (by decide) (by decide) (by decide) dX2_init_28 ?_
  · rw [uG_o (by omega), rowG_o (by omega), uG_o (by omega)]
  refine sj_put X fr_X2_20 hin (Nat.le_refl _) (by omega) (by rw [k0]) dX2_init_32 ?_
  generalize hG1 : uG (rowG (uG (rowG (uG G00 n 0 (n + 1)) (n + 2) 6) n 1 (n + 2)) (n + 9) 4) n (nI 2) (n + 9) = G1
  have g0 : G1 n 0 = some (nu n) := by
    rw [← hG1, uG_s, if_neg (by decide), rowG_o (by omega), uG_s, if_neg (by decide), rowG_o (by omega), uG_s, if_pos (by decide)]
    rfl
  have g1 : G1 n 1 = some (sO n) := by
    rw [← hG1, uG_s, if_neg (by decide), rowG_o (by omega), uG_s, if_pos (by decide)]
    rfl
  have g2 : G1 n 2 = some (wO n) := by
    rw [← hG1, uG_s, if_pos (by decide)]
    rfl
  have g3 : ∀ r : Int32, 0 ≤ r ∧ r < 6 → G1 (sO n) r = some (sc n r) := fun r hr => by
    rw [← hG1, uG_o (by unfold sO; omega), rowG_o (by unfold sO; omega), uG_o (by unfold sO; omega)]
    exact rowG_at (N := 6) hr
  have g4 : ∀ r : Int32, 0 ≤ r ∧ r < 4 → G1 (wO n) r = some (wk n r) := fun r hr => by
    rw [← hG1, uG_o (by unfold wO; omega)]
    exact rowG_at (N := 4) hr
  have gf : ∀ z, n + 14 ≤ z → G1 z = fun _ => none := fun z hz => by
    rw [← hG1, uG_o (by omega), rowG_o (by omega), uG_o (by omega), rowG_o (by omega), uG_o (by omega)]
  have hNG : NovG n G1 := ⟨⟨g0, g1, g2⟩, g3, g4⟩
  obtain ⟨⟨t0, -⟩, ⟨t1, t2, t3⟩, -, t4, -, t5⟩ := hK14.nov hNG
  refine sj_old X envX2 (na := naX2) (rc := rcX2) (R0 := D00) (okc_c dX2_init_35 (okc_c dX2_init_36 (okc_c dX2_init_39 (okc_c dX2_init_40 (okc_c dX2_init_43 (okc_c dX2_init_44 (okc_c dX2_init_45 (okc_c dX2_init_48 (okc_c dX2_init_50 (okc_c dX2_init_51 (okc_c dX2_init_52 (okc_c dX2_init_53 (okc_c dX2_init_56 (okc_c dX2_init_58 (okc_c dX2_init_61 (okc_c dX2_init_62 (okc_c dX2_init_63 (okc_c dX2_init_66 (okc_c dX2_init_68 (okc_c dX2_init_69 (okc_c dX2_init_70 (okc_c dX2_init_71 (okc_e))))))))))))))))))))))) ?_
  simp only [↓x_iconst, ↓x_bipush, ↓x_sipush, ↓x_ldc, ↓x_iload_n, ↓x_iload, ↓x_aload_n, ↓x_aload, ↓x_istore_n, ↓x_istore, ↓x_astore_n, ↓x_astore, ↓x_iinc, ↓x_iadd, ↓x_isub, ↓x_imul, ↓x_iand, ↓x_idiv, ↓x_irem, ↓x_ineg, ↓x_i2c, ↓x_dupI, ↓x_dupA, ↓x_dup2, ↓x_goto, ↓x_get, ↓x_put, ↓x_gets, ↓x_iald, ↓x_bald, ↓x_aald, ↓x_iast, ↓x_bast, ↓x_aast, ↓x_alen, ↓x_iret, ↓x_vret, ↓x_nil, ↓x_jmp, ↓x_ldI0, ↓x_ldIs, ↓x_ldA0, ↓x_ldAs, ↓x_icmpT, ↓x_icmpF, ↓x_ifT, ↓x_ifF, x_iconst, x_bipush, x_sipush, x_ldc, x_iload_n, x_iload, x_aload_n, x_aload, x_istore_n, x_istore, x_astore_n, x_astore, x_iinc, x_iadd, x_isub, x_imul, x_iand, x_idiv, x_irem, x_ineg, x_i2c, x_dupI, x_dupA, x_dup2, x_goto, x_if, x_icmp, x_get, x_put, x_gets, x_iald, x_bald, x_aald, x_iast, x_bast, x_aast, x_alen, x_iret, x_vret, x_nil, x_jmp, x_ldI0, x_ldIs, x_ldA0, x_ldAs, x_cad, x_cad2, x_fv0, x_fv1, x_fv2, x_fv3, cnd, fI, L0, c1, nL0, nL1, nL2, nL3, nL4, nL5, nL6, nL7, nL8, nL9, nL10, nL11, nL12, List.map_cons, List.map_nil, List.length_cons, List.length_nil, List.cons_append, List.nil_append, List.replicate_succ, List.replicate_zero, List.set_cons_zero, List.set_cons_succ, List.mem_cons, List.not_mem_nil, or_false, false_or, Option.toList_some, Option.toList_none, ↓reduceIte, if_true, if_false, Nat.reduceAdd, Nat.reduceSub, Nat.reduceEqDiff, Nat.reduceLT, Nat.reduceLeDiff, Int.reduceNatCast, Int.reduceNatCast', Int.reduceAdd, Int.reduceNeg, Int.reduceToNat, Int.reduceLE, Int.reduceLT, Int.reduceEq, Nat.zero_add, Nat.add_zero, and_true, true_and, ne_eq, not_false_eq_true, not_true_eq_false, and_self, implies_true, Bool.false_eq_true, Nat.reduceBEq, Int32.reduceOfInt, Int32.reduceAdd, Int32.reduceSub, Int32.reduceMul, Int32.reduceLE, Int32.reduceLT, Int32.reduceToNatClampNeg, Option.some.injEq, exists_eq_left, exists_eq_left', Option.isSome_some, Option.getD_some, vp_nar_int, pbi, eq_self, forall_const, false_implies, true_implies, false_and, and_false, uD_s, uG_s, uD_o, ad_nw, ad_wn, ad_ns, ad_sn, ad_ss, ad_ww, ad_sw, ad_ws, Int32.reduceToInt, Classical.not_not, d1n, d2n, d3n, d4n, d5n, d6n, d10n, inr, nL17, nL20, nL21, nL30, nL100, nL462, nL773, nL4638, bp6, bp7, bp8, bp9, bp10, bp11, bp12, bp13, bp14, bp15, bp16, bp17, bp20, bp21, bp26, bp30, bp40, bp60, bp80, bp90, bp100, spm1000, spm999, sp128, sp150, sp200, sp256, sp300, sp400, sp999, sp1024, sp4096, sp8192, eX2_17, eX2_20, eX2_9, kcX2_23, t0, t1, g0]
  have loop : ∀ i j, i + j = 30 → ∀ D, NvA (D4N n) D n j → SJ p l e (rmC 1 14 267) s m args below meth c (MQ below (QcC dC dI cy K n 14 (fun G D => NovP n G D ∧ FrP n 14 G D)) args s (14 - 1) 267 (aL (wL n 14))) dC dI cy K 2 n 1 14 267 72 [some (.ref n), some (.int (nI j))] [] G1 D := by
    intro i
    induction i with
    | zero =>
      intro j hj D hD
      obtain rfl : j = 30 := by omega
      refine sj_old X envX2 (na := naX2) (rc := rcX2) (R0 := D00) (okc_c dX2_init_72 (okc_c dX2_init_73 (okc_c dX2_init_75 (okc_e)))) ?_
      have c1' : (30 : Int32) ≤ nI 30 := by decide
      simp only [↓x_iconst, ↓x_bipush, ↓x_sipush, ↓x_ldc, ↓x_iload_n, ↓x_iload, ↓x_aload_n, ↓x_aload, ↓x_istore_n, ↓x_istore, ↓x_astore_n, ↓x_astore, ↓x_iinc, ↓x_iadd, ↓x_isub, ↓x_imul, ↓x_iand, ↓x_idiv, ↓x_irem, ↓x_ineg, ↓x_i2c, ↓x_dupI, ↓x_dupA, ↓x_dup2, ↓x_goto, ↓x_get, ↓x_put, ↓x_gets, ↓x_iald, ↓x_bald, ↓x_aald, ↓x_iast, ↓x_bast, ↓x_aast, ↓x_alen, ↓x_iret, ↓x_vret, ↓x_nil, ↓x_jmp, ↓x_ldI0, ↓x_ldIs, ↓x_ldA0, ↓x_ldAs, ↓x_icmpT, ↓x_icmpF, ↓x_ifT, ↓x_ifF, x_iconst, x_bipush, x_sipush, x_ldc, x_iload_n, x_iload, x_aload_n, x_aload, x_istore_n, x_istore, x_astore_n, x_astore, x_iinc, x_iadd, x_isub, x_imul, x_iand, x_idiv, x_irem, x_ineg, x_i2c, x_dupI, x_dupA, x_dup2, x_goto, x_if, x_icmp, x_get, x_put, x_gets, x_iald, x_bald, x_aald, x_iast, x_bast, x_aast, x_alen, x_iret, x_vret, x_nil, x_jmp, x_ldI0, x_ldIs, x_ldA0, x_ldAs, x_cad, x_cad2, x_fv0, x_fv1, x_fv2, x_fv3, cnd, fI, L0, c1, nL0, nL1, nL2, nL3, nL4, nL5, nL6, nL7, nL8, nL9, nL10, nL11, nL12, List.map_cons, List.map_nil, List.length_cons, List.length_nil, List.cons_append, List.nil_append, List.replicate_succ, List.replicate_zero, List.set_cons_zero, List.set_cons_succ, List.mem_cons, List.not_mem_nil, or_false, false_or, Option.toList_some, Option.toList_none, ↓reduceIte, if_true, if_false, Nat.reduceAdd, Nat.reduceSub, Nat.reduceEqDiff, Nat.reduceLT, Nat.reduceLeDiff, Int.reduceNatCast, Int.reduceNatCast', Int.reduceAdd, Int.reduceNeg, Int.reduceToNat, Int.reduceLE, Int.reduceLT, Int.reduceEq, Nat.zero_add, Nat.add_zero, and_true, true_and, ne_eq, not_false_eq_true, not_true_eq_false, and_self, implies_true, Bool.false_eq_true, Nat.reduceBEq, Int32.reduceOfInt, Int32.reduceAdd, Int32.reduceSub, Int32.reduceMul, Int32.reduceLE, Int32.reduceLT, Int32.reduceToNatClampNeg, Option.some.injEq, exists_eq_left, exists_eq_left', Option.isSome_some, Option.getD_some, vp_nar_int, pbi, eq_self, forall_const, false_implies, true_implies, false_and, and_false, uD_s, uG_s, uD_o, ad_nw, ad_wn, ad_ns, ad_sn, ad_ss, ad_ww, ad_sw, ad_ws, Int32.reduceToInt, Classical.not_not, d1n, d2n, d3n, d4n, d5n, d6n, d10n, inr, nL17, nL20, nL21, nL30, nL100, nL462, nL773, nL4638, bp6, bp7, bp8, bp9, bp10, bp11, bp12, bp13, bp14, bp15, bp16, bp17, bp20, bp21, bp26, bp30, bp40, bp60, bp80, bp90, bp100, spm1000, spm999, sp128, sp150, sp200, sp256, sp300, sp400, sp999, sp1024, sp4096, sp8192, eX2_17, eX2_20, eX2_9, kcX2_23, c1']
      obtain ⟨q1, q2⟩ := NvA_e hD
      exact sj_ret X hret hlk ⟨⟨hNG, q1⟩, fun z hz => ⟨gf z hz, q2 z hz⟩⟩ dX2_init_113
    | succ i ih =>
      intro j hj D hD
      have z0 : 0 ≤ nI j := nI_pos' (by omega)
      have z1 : nI j < 30 := (nI_ltI (b := 30) (by omega) (by decide)).mpr (by omega)
      have c1' : ¬ (30 : Int32) ≤ nI j := Int32.not_le.mpr z1
      have u1 : nI j + 1 = nI (j + 1) := nI_1 j
      refine sj_old X envX2 (na := naX2) (rc := rcX2) (R0 := D00) (okc_c dX2_init_72 (okc_c dX2_init_73 (okc_c dX2_init_75 (okc_c dX2_init_78 (okc_c dX2_init_79 (okc_c dX2_init_82 (okc_c dX2_init_83 (okc_c dX2_init_84 (okc_c dX2_init_85 (okc_c dX2_init_86 (okc_c dX2_init_87 (okc_c dX2_init_88 (okc_c dX2_init_91 (okc_c dX2_init_92 (okc_c dX2_init_93 (okc_c dX2_init_94 (okc_c dX2_init_96 (okc_c dX2_init_97 (okc_c dX2_init_98 (okc_c dX2_init_101 (okc_c dX2_init_102 (okc_c dX2_init_103 (okc_c dX2_init_104 (okc_c dX2_init_106 (okc_c dX2_init_107 (okc_c dX2_init_110 (okc_e))))))))))))))))))))))))))) ?_
      simp only [↓x_iconst, ↓x_bipush, ↓x_sipush, ↓x_ldc, ↓x_iload_n, ↓x_iload, ↓x_aload_n, ↓x_aload, ↓x_istore_n, ↓x_istore, ↓x_astore_n, ↓x_astore, ↓x_iinc, ↓x_iadd, ↓x_isub, ↓x_imul, ↓x_iand, ↓x_idiv, ↓x_irem, ↓x_ineg, ↓x_i2c, ↓x_dupI, ↓x_dupA, ↓x_dup2, ↓x_goto, ↓x_get, ↓x_put, ↓x_gets, ↓x_iald, ↓x_bald, ↓x_aald, ↓x_iast, ↓x_bast, ↓x_aast, ↓x_alen, ↓x_iret, ↓x_vret, ↓x_nil, ↓x_jmp, ↓x_ldI0, ↓x_ldIs, ↓x_ldA0, ↓x_ldAs, ↓x_icmpT, ↓x_icmpF, ↓x_ifT, ↓x_ifF, x_iconst, x_bipush, x_sipush, x_ldc, x_iload_n, x_iload, x_aload_n, x_aload, x_istore_n, x_istore, x_astore_n, x_astore, x_iinc, x_iadd, x_isub, x_imul, x_iand, x_idiv, x_irem, x_ineg, x_i2c, x_dupI, x_dupA, x_dup2, x_goto, x_if, x_icmp, x_get, x_put, x_gets, x_iald, x_bald, x_aald, x_iast, x_bast, x_aast, x_alen, x_iret, x_vret, x_nil, x_jmp, x_ldI0, x_ldIs, x_ldA0, x_ldAs, x_cad, x_cad2, x_fv0, x_fv1, x_fv2, x_fv3, cnd, fI, L0, c1, nL0, nL1, nL2, nL3, nL4, nL5, nL6, nL7, nL8, nL9, nL10, nL11, nL12, List.map_cons, List.map_nil, List.length_cons, List.length_nil, List.cons_append, List.nil_append, List.replicate_succ, List.replicate_zero, List.set_cons_zero, List.set_cons_succ, List.mem_cons, List.not_mem_nil, or_false, false_or, Option.toList_some, Option.toList_none, ↓reduceIte, if_true, if_false, Nat.reduceAdd, Nat.reduceSub, Nat.reduceEqDiff, Nat.reduceLT, Nat.reduceLeDiff, Int.reduceNatCast, Int.reduceNatCast', Int.reduceAdd, Int.reduceNeg, Int.reduceToNat, Int.reduceLE, Int.reduceLT, Int.reduceEq, Nat.zero_add, Nat.add_zero, and_true, true_and, ne_eq, not_false_eq_true, not_true_eq_false, and_self, implies_true, Bool.false_eq_true, Nat.reduceBEq, Int32.reduceOfInt, Int32.reduceAdd, Int32.reduceSub, Int32.reduceMul, Int32.reduceLE, Int32.reduceLT, Int32.reduceToNatClampNeg, Option.some.injEq, exists_eq_left, exists_eq_left', Option.isSome_some, Option.getD_some, vp_nar_int, pbi, eq_self, forall_const, false_implies, true_implies, false_and, and_false, uD_s, uG_s, uD_o, ad_nw, ad_wn, ad_ns, ad_sn, ad_ss, ad_ww, ad_sw, ad_ws, Int32.reduceToInt, Classical.not_not, d1n, d2n, d3n, d4n, d5n, d6n, d10n, inr, nL17, nL20, nL21, nL30, nL100, nL462, nL773, nL4638, bp6, bp7, bp8, bp9, bp10, bp11, bp12, bp13, bp14, bp15, bp16, bp17, bp20, bp21, bp26, bp30, bp40, bp60, bp80, bp90, bp100, spm1000, spm999, sp128, sp150, sp200, sp256, sp300, sp400, sp999, sp1024, sp4096, sp8192, eX2_17, eX2_20, eX2_9, kcX2_23, c1', t0, t3, t5, g2, g4, z0, z1, u1]
      exact ih (j + 1) (by omega) _ (NvA_s hD (by omega))
  exact loop 30 0 rfl _ NvA_0
