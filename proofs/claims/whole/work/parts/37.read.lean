/-! ### read -/
theorem slkD_o {D : DT} {t a : Nat} (h : a < t ∨ t + 7 ≤ a) : slkD D t a = D a := by
  have h0 : a ≠ t := by omega
  have h1 : a ≠ tr t 1 := by unfold tr; rw [show (1 : Int32).toNatClampNeg = 1 from rfl]; omega
  unfold slkD
  split
  · rw [uD_o h1, uD_o h0, uD_o h1]
  · rw [uD_o h1]
theorem tnsD_o {D : DT} {t a : Nat} (h : a < t ∨ t + 7 ≤ a) : tnsD D t a = D a := by
  have h0 : a ≠ t := by omega
  have h1 : a ≠ tr t 3 := by unfold tr; rw [show (3 : Int32).toNatClampNeg = 3 from rfl]; omega
  unfold tnsD
  repeat' split
  all_goals first | rfl | rw [uD_o h0] | rw [uD_o h1, uD_o h0]
theorem scA_o {D : DT} {t a : Nat} (h : a < t ∨ t + 7 ≤ a) : scA D t a = D a := by
  have h0 : a ≠ t := by omega
  have h1 : a ≠ tr t 0 := by unfold tr; rw [show (0 : Int32).toNatClampNeg = 0 from rfl]; omega
  have h2 : a ≠ tr t 2 := by unfold tr; rw [show (2 : Int32).toNatClampNeg = 2 from rfl]; omega
  unfold scA
  rw [uD_o h1, uD_o h0, uD_o h2, uD_o h0]
theorem scnD_o {D : DT} {t a : Nat} (h : a < t ∨ t + 7 ≤ a) : scnD D t a = D a := by
  unfold scnD
  split
  · rfl
  · split
    · split
      · exact scA_o h
      · split
        · rw [slkD_o h, scA_o h]
        · rw [tnsD_o h, slkD_o h, scA_o h]
    · rfl
theorem scanF_o {t a : Nat} (h : a < t ∨ t + 7 ≤ a) : ∀ (n : Nat) (D : DT), (scanF t n D).2 a = D a
  | 0, D => rfl
  | n + 1, D => by
    have h0 : a ≠ t := by omega
    rw [scanF]
    split
    · exact scnD_o h
    · split
      · show uD (scnD D t) t 3 (D t 3 + 1) a = D a
        rw [uD_o h0, scnD_o h]
      · split
        · rw [scanF_o h n, uD_o h0, uD_o h0, scnD_o h]
        · exact scnD_o h
theorem scanF_3 {t : Nat} : ∀ (n : Nat) (D : DT), n ≤ 20 → D t 3 = nI (20 - n) → ∃ k : Nat, k ≤ 20 ∧ (scanF t n D).2 t 3 = nI k
  | 0, D, _, h => ⟨20, by omega, h⟩
  | n + 1, D, hn, h => by
    have e : D t 3 + 1 = nI (20 - n) := by
      rw [h, nI_1]
      exact congrArg nI (by omega)
    rw [scanF]
    split
    · exact ⟨20 - (n + 1), by omega, by show scnD D t t 3 = _; rw [scnD_3, h]⟩
    · split
      · exact ⟨20 - n, by omega, by show uD (scnD D t) t 3 (D t 3 + 1) t 3 = _; rw [uD_eq, e]⟩
      · split
        · exact scanF_3 n _ (by omega) (by rw [uD_eq, e])
        · exact ⟨20 - (n + 1), by omega, by show scnD D t t 3 = _; rw [scnD_3, h]⟩
def scX (D : DT) (t : Nat) : Int32 × DT := scanF t 20 (uD (uD D t 4 0) t 3 0)
theorem scX_e {D : DT} {t : Nat} : scanF t 20 (uD (uD D t 4 0) t 3 0) = scX D t := rfl
theorem scX_o {D : DT} {t a : Nat} (h : a < t ∨ t + 7 ≤ a) : (scX D t).2 a = D a := by
  unfold scX
  rw [scanF_o h, uD_o (by omega), uD_o (by omega)]
theorem scX_3 {D : DT} {t : Nat} : ∃ k : Nat, k ≤ 20 ∧ (scX D t).2 t 3 = nI k := scanF_3 20 _ (by omega) (by rw [uD_eq]; rfl)
/-- the first k scenes of the text added -/
def adR (E T : DT) (t n : Nat) : Nat → DT
  | 0 => E
  | k + 1 => addD (adR E T t n k) n (adR E T t n k (nu n) 0) (T (tr t 0) (nI k)) (T (tr t 1) (nI k)) (T (tr t 2) (nI k)) (T (tr t 3) (nI k))
theorem sc_6 {n : Nat} {r : Int32} (h : r.toNatClampNeg < 6) : n + 3 ≤ sc n r ∧ sc n r < n + 9 := by unfold sc; omega
theorem addD_o {D : DT} {n a : Nat} {x w s st t : Int32} (h0 : a ≠ nu n) (h : a < n + 3 ∨ n + 9 ≤ a) : addD D n x w s st t a = D a := by
  have k : ∀ r : Int32, r.toNatClampNeg < 6 → a ≠ sc n r := fun r hr => by
    have := sc_6 (n := n) hr
    omega
  unfold addD
  rw [uD_o h0, uD_o (k 5 (by decide)), uD_o (k 4 (by decide)), uD_o (k 3 (by decide)), uD_o (k 2 (by decide)), uD_o (k 1 (by decide)), uD_o (k 0 (by decide))]
  funext j
  unfold shU
  rw [if_neg (by omega)]
  split
  · rename_i q
    exact absurd (Int32.lt_of_lt_of_le q.2.1 q.2.2) Int32.lt_irrefl
  · rfl
theorem addD_0 {D : DT} {n : Nat} {x w s st t : Int32} : addD D n x w s st t (nu n) 0 = D (nu n) 0 + 1 := by
  unfold addD
  rw [uD_eq]
theorem adR_o {E T : DT} {t n a : Nat} (h0 : a ≠ nu n) (h : a < n + 3 ∨ n + 9 ≤ a) : ∀ k, adR E T t n k a = E a
  | 0 => rfl
  | k + 1 => by rw [adR, addD_o h0 h, adR_o h0 h k]
theorem adR_0 {E T : DT} {t n : Nat} : ∀ k, adR E T t n k (nu n) 0 = E (nu n) 0 + nI k
  | 0 => (Int32.add_zero _).symm
  | k + 1 => by rw [adR, addD_0, adR_0 k, ← nI_1, Int32.add_assoc]
def t_X5_read : TR := fun K _ _ As G D Q => match As with
  | [.ref x] => (Act K G D x ∧ D (xT x) 2 ≤ 100) ∧ (∀ F E, (scX D (xT x)).1 = F → (scX D (xT x)).2 = E → (if F = -100009 then (if slkF (TS E (xT x)) (E (xT x) 3).toNatClampNeg 0 = 0 then Q (some (.int (-100001))) G E else if setV (E (nu (xv x))) = 0 then (if E (nu (xv x)) 0 + E (xT x) 3 ≤ 20 then Q (some (.int (E (xT x) 3))) (recG G E (xH x)) (uD (adR (rD G E x) E (xT x) (xv x) (E (xT x) 3).toNatClampNeg) (xT x) 2 0) else Q (some (.int (-100003))) G E) else Q (some (.int (-100002))) G E) else Q (some (.int (-1000 - F))) G E))
  | _ => False
set_option maxRecDepth 100000 in
set_option maxHeartbeats 4000000 in
theorem s_X5_read (l : Launch) : Sat l yX5_read cX5_read 5 (some .int) 5 t_X5_read := by
  refine satb (own := RX5) (fl := flX5) (sg := sgX5) (kc := kcX5) (na := naX5) (rc := rcX5) (cv := (cAdd 52 t_X5_isSet (cAdd 58 t_X0_record (cAdd 62 t_X2_addScene (cAdd 150 t_X4_findFault (cAdd 154 t_X4_slacksFit cNone)))))) (cs := cNone) (bl := bX5_read) (by decide +kernel) rfl envX5 bokX5_read (cvAdd (s_X5_isSet l) lkX5_52 rfl rfl (by decide) (cvAdd (s_X0_record l) lkX5_58 rfl rfl (by decide) (cvAdd (s_X2_addScene l) lkX5_62 rfl rfl (by decide) (cvAdd (s_X4_findFault l) lkX5_150 rfl rfl (by decide) (cvAdd (s_X4_slacksFit l) lkX5_154 rfl rfl (by decide) cvNone))))) csNone ?_
  intro L K R0 sa hPp As G D Q htr
  unfold t_X5_read at htr
  split at htr
  case h_2 => exact htr.elim
  rename_i x
  obtain ⟨D0, rfl⟩ : ∃ z, z = D := ⟨_, rfl⟩
  obtain ⟨x, rfl⟩ : ∃ q : Nat, q = x := ⟨_, rfl⟩
  obtain ⟨⟨hA, ht100⟩, hQ⟩ := htr
  have hT0 : Txt K G (xT x) := hA.1.2.2.2.1
  obtain ⟨nk, hnk, hn3⟩ := scX_3 (D := D0) (t := xT x)
  have hout : ∀ a, (a < xT x ∨ xT x + 7 ≤ a) → (scX D0 (xT x)).2 a = D0 a := fun a h => scX_o h
  obtain ⟨F, hF⟩ : ∃ F, (scX D0 (xT x)).1 = F := ⟨_, rfl⟩
  obtain ⟨D, hD⟩ : ∃ E, (scX D0 (xT x)).2 = E := ⟨_, rfl⟩
  have hQ := hQ F D hF hD
  rw [hD] at hn3 hout
  have hA : Act K G D x := by
    have n0 := hout (nu (xv x)) (Or.inl (by unfold nu xv mv xN xT; omega))
    have n1 := hout (xH x) (Or.inl (by unfold xH xT; omega))
    have n2 := hout (mt (xN x)) (Or.inl (by unfold mt xN xT; omega))
    unfold Act Boo at hA ⊢
    rw [n0, n1, n2]
    exact hA
  have htr := And.intro hA hQ
  obtain ⟨b, e, w, hb, he, hw, q1, q2, q3, -⟩ := Num.nats hA.2.1
  clear hA hQ
  obtain ⟨⟨hC, ⟨y1, y2, y3, y4, y5, y6⟩, ⟨y7, y8⟩, hB⟩, hQ⟩ := htr
  obtain ⟨⟨k0, g0, g1, g2, g3⟩, hM, hH, hT, hP, hst⟩ := id hC
  obtain ⟨⟨m0, m1, m2, m3⟩, -, hN, -⟩ := id hM
  have hN : Nov K G (xv x) := hN
  obtain ⟨⟨n0, n1, n2, n3⟩, ⟨n4, n5, n6⟩, v1, v2, v3, v4⟩ := id hN
  obtain ⟨⟨l0, -⟩, -⟩ := id hH
  obtain ⟨⟨t0, t1, t2⟩, ⟨t3, t4⟩, t5, t6⟩ := id hT
  have hd := x_dis hC
  have e1 : recG G D (xH x) x = G x := recG_o (by rw [hS_x]; omega)
  have e2 : recG G D (xH x) (xN x) = G (xN x) := recG_o (by rw [hS_x]; unfold xN; omega)
  have e3 : recD G D (xH x) (xN x) (nu (xv x)) = D (nu (xv x)) := recD_o hC y7 y8 (by unfold nu xv mv xN; omega)
  have e4 : recG G D (xH x) (xv x) = G (xv x) := recG_o (by rw [hS_x]; unfold xv mv xN; omega)
  have e6 : Cls K (recG G D (xH x)) x := hC.rec
  have e7 : Nov K (recG G D (xH x)) (xv x) := hN.rot (fun a h1 h2 => recG_o (by rw [hS_x]; unfold xv mv xN at h1 h2; omega))
  have e8 : recG G D (xH x) (wO (xv x)) = G (wO (xv x)) := recG_o (by rw [hS_x]; unfold wO xv mv xN; omega)
  have e9 : recG G D (xH x) (sO (xv x)) = G (sO (xv x)) := recG_o (by rw [hS_x]; unfold sO xv mv xN; omega)
  have p3 : 0 ≤ D (xT x) 3 ∧ D (xT x) 3 ≤ 20 := by
    rw [hn3]
    obtain ⟨q1, q2, -⟩ := z_n hnk
    exact ⟨q1, q2⟩
  obtain ⟨p3, p4⟩ := p3
  have hT3 : Txt K (recG G D (xH x)) (xT x) := e6.2.2.2.1
  obtain ⟨⟨t0', t1', t2'⟩, -, t5', -⟩ := id hT3
  have nk' : (D (xT x) 3).toNatClampNeg = nk := by rw [hn3, nI_clamp (by omega)]
  have hG3 : ∀ r : Int32, 0 ≤ r ∧ r < 4 → recG G D (xH x) (tO (xT x)) r = some (tr (xT x) r) := t5'
  refine ⟨by simp, by simp [cat1], [95], fun k pc LL stk G' D' => ∃ j : Nat, LL = [some (.ref x), some (.int F), some (.ref (nu (xv x))), some (.ref (tO (xT x))), some (.int (nI j))] ∧ stk = [] ∧ G' = recG G D (xH x) ∧ D' = adR (rD G D x) D (xT x) (xv x) j ∧ j ≤ nk ∧ (F = -100009 ∧ ¬ slkF (TS D (xT x)) nk 0 = 0 ∧ setV (D (nu (xv x))) = 0 ∧ D (nu (xv x)) 0 + D (xT x) 3 ≤ 20) ∧ k = nk - j, 40, 40, ?_, ?_⟩
  · by_cases h1 : F = -100009
    · rw [if_pos h1] at hQ
      by_cases h2 : slkF (TS D (xT x)) nk 0 = 0
      · rw [nk', if_pos h2] at hQ
        simp only [↓x_iconst, ↓x_bipush, ↓x_sipush, ↓x_ldc, ↓x_iload_n, ↓x_iload, ↓x_aload_n, ↓x_aload, ↓x_istore_n, ↓x_istore, ↓x_astore_n, ↓x_astore, ↓x_iinc, ↓x_iadd, ↓x_isub, ↓x_imul, ↓x_iand, ↓x_idiv, ↓x_ineg, ↓x_i2c, ↓x_dupI, ↓x_dupA, ↓x_dup2, ↓x_goto, ↓x_get, ↓x_put, ↓x_gets, ↓x_iald, ↓x_bald, ↓x_cald, ↓x_aald, ↓x_iast, ↓x_bast, ↓x_cast, ↓x_aast, ↓x_alen, ↓x_iret, ↓x_vret, ↓x_nil, ↓x_jmp, ↓x_ldI0, ↓x_ldIs, ↓x_ldA0, ↓x_ldAs, ↓x_icmpT, ↓x_icmpF, ↓x_ifT, ↓x_ifF, x_iconst, x_bipush, x_sipush, x_ldc, x_iload_n, x_iload, x_aload_n, x_aload, x_istore_n, x_istore, x_astore_n, x_astore, x_iinc, x_iadd, x_isub, x_imul, x_iand, x_idiv, x_ineg, x_i2c, x_dupI, x_dupA, x_dup2, x_goto, x_if, x_icmp, x_get, x_put, x_gets, x_iald, x_bald, x_cald, x_aald, x_iast, x_bast, x_cast, x_aast, x_alen, x_iret, x_vret, x_nil, x_jmp, x_ldI0, x_ldIs, x_ldA0, x_ldAs, x_cad, x_cad2, x_fv0, x_fv1, x_fv2, x_fv3, cnd, fI, L0, c1, nL0, nL1, nL2, nL3, nL4, nL5, nL6, nL7, nL8, nL9, nL10, nL11, nL12, List.map_cons, List.map_nil, List.length_cons, List.length_nil, List.cons_append, List.nil_append, List.replicate_succ, List.replicate_zero, List.set_cons_zero, List.set_cons_succ, List.mem_cons, List.not_mem_nil, or_false, false_or, Option.toList_some, Option.toList_none, ↓reduceIte, if_true, if_false, Nat.reduceAdd, Nat.reduceSub, Nat.reduceEqDiff, Nat.reduceLT, Nat.reduceLeDiff, Int.reduceNatCast, Int.reduceNatCast', Int.reduceAdd, Int.reduceNeg, Int.reduceToNat, Int.reduceLE, Int.reduceLT, Int.reduceEq, Nat.zero_add, Nat.add_zero, and_true, true_and, ne_eq, not_false_eq_true, not_true_eq_false, and_self, implies_true, Bool.false_eq_true, Nat.reduceBEq, Int32.reduceOfInt, Int32.reduceAdd, Int32.reduceSub, Int32.reduceMul, Int32.reduceLE, Int32.reduceLT, Int32.reduceToNatClampNeg, Option.some.injEq, exists_eq_left, exists_eq_left', Option.isSome_some, Option.getD_some, vp_nar_int, pbi, eq_self, forall_const, false_implies, true_implies, false_and, and_false, uD_s, uG_s, uD_o, ad_nw, ad_wn, ad_ns, ad_sn, ad_ss, ad_ww, ad_sw, ad_ws, Int32.reduceToInt, Classical.not_not, d1n, d2n, d3n, d4n, d5n, d6n, d10n, inr, nL17, nL20, nL21, nL30, nL100, nL462, nL773, nL4638, bp6, bp7, bp8, bp9, bp10, bp11, bp12, bp13, bp14, bp15, bp16, bp17, bp20, bp21, bp29, bp30, bp31, bp33, bp45, bp48, bp49, bp50, bp57, bp59, bp97, bp99, bp100, bp102, spm1000, sp137, sp255, sp257, sp300, sp400, sp462, sp771, sp772, sp773, sp999, sp3865, sp4638, bX5_read_0, bX5_read_20, bX5_read_33, bX5_read_43, bX5_read_73, bX5_read_95, bX5_read_150, eX5_10, eX5_19, eX5_26, eX5_37, eX5_41, eX5_144, eX5_157, eX5_160, t_X5_isSet, ↓x_inv1 naX5_52, x_inv1 naX5_52, rcX5_52, t_X0_record, ↓x_inv2 naX5_58, x_inv2 naX5_58, rcX5_58, t_X2_addScene, ↓x_inv6 naX5_62, x_inv6 naX5_62, rcX5_62, t_X4_findFault, ↓x_inv1 naX5_150, x_inv1 naX5_150, rcX5_150, t_X4_slacksFit, ↓x_inv1 naX5_154, x_inv1 naX5_154, rcX5_154, kcX5_153, kcX5_51, kcX5_56, kcX5_57, sgX5_102, sgX5_86, sgX5_89, sgX5_99, xv_e, k0, g0, g1, g2, g3, m0, m1, n0, n1, n2, n3, n4, n5, n6, v1, v2, v3, v4, t0, t1, t2, t3, t4, hC, hH, hM, hB, hN, hd, l0, y7, y8, e1, e2, e3, e4, e6, e7, e8, e9, nz0, nz1, hT0, ht100, scX_e, hF, hD, h1, nk', h2, p3, p4]
        exact hQ
      · rw [nk', if_neg h2] at hQ
        by_cases h3 : setV (D (nu (xv x))) = 0
        · rw [if_pos h3] at hQ
          by_cases h4 : D (nu (xv x)) 0 + D (xT x) 3 ≤ 20
          · simp only [↓x_iconst, ↓x_bipush, ↓x_sipush, ↓x_ldc, ↓x_iload_n, ↓x_iload, ↓x_aload_n, ↓x_aload, ↓x_istore_n, ↓x_istore, ↓x_astore_n, ↓x_astore, ↓x_iinc, ↓x_iadd, ↓x_isub, ↓x_imul, ↓x_iand, ↓x_idiv, ↓x_ineg, ↓x_i2c, ↓x_dupI, ↓x_dupA, ↓x_dup2, ↓x_goto, ↓x_get, ↓x_put, ↓x_gets, ↓x_iald, ↓x_bald, ↓x_cald, ↓x_aald, ↓x_iast, ↓x_bast, ↓x_cast, ↓x_aast, ↓x_alen, ↓x_iret, ↓x_vret, ↓x_nil, ↓x_jmp, ↓x_ldI0, ↓x_ldIs, ↓x_ldA0, ↓x_ldAs, ↓x_icmpT, ↓x_icmpF, ↓x_ifT, ↓x_ifF, x_iconst, x_bipush, x_sipush, x_ldc, x_iload_n, x_iload, x_aload_n, x_aload, x_istore_n, x_istore, x_astore_n, x_astore, x_iinc, x_iadd, x_isub, x_imul, x_iand, x_idiv, x_ineg, x_i2c, x_dupI, x_dupA, x_dup2, x_goto, x_if, x_icmp, x_get, x_put, x_gets, x_iald, x_bald, x_cald, x_aald, x_iast, x_bast, x_cast, x_aast, x_alen, x_iret, x_vret, x_nil, x_jmp, x_ldI0, x_ldIs, x_ldA0, x_ldAs, x_cad, x_cad2, x_fv0, x_fv1, x_fv2, x_fv3, cnd, fI, L0, c1, nL0, nL1, nL2, nL3, nL4, nL5, nL6, nL7, nL8, nL9, nL10, nL11, nL12, List.map_cons, List.map_nil, List.length_cons, List.length_nil, List.cons_append, List.nil_append, List.replicate_succ, List.replicate_zero, List.set_cons_zero, List.set_cons_succ, List.mem_cons, List.not_mem_nil, or_false, false_or, Option.toList_some, Option.toList_none, ↓reduceIte, if_true, if_false, Nat.reduceAdd, Nat.reduceSub, Nat.reduceEqDiff, Nat.reduceLT, Nat.reduceLeDiff, Int.reduceNatCast, Int.reduceNatCast', Int.reduceAdd, Int.reduceNeg, Int.reduceToNat, Int.reduceLE, Int.reduceLT, Int.reduceEq, Nat.zero_add, Nat.add_zero, and_true, true_and, ne_eq, not_false_eq_true, not_true_eq_false, and_self, implies_true, Bool.false_eq_true, Nat.reduceBEq, Int32.reduceOfInt, Int32.reduceAdd, Int32.reduceSub, Int32.reduceMul, Int32.reduceLE, Int32.reduceLT, Int32.reduceToNatClampNeg, Option.some.injEq, exists_eq_left, exists_eq_left', Option.isSome_some, Option.getD_some, vp_nar_int, pbi, eq_self, forall_const, false_implies, true_implies, false_and, and_false, uD_s, uG_s, uD_o, ad_nw, ad_wn, ad_ns, ad_sn, ad_ss, ad_ww, ad_sw, ad_ws, Int32.reduceToInt, Classical.not_not, d1n, d2n, d3n, d4n, d5n, d6n, d10n, inr, nL17, nL20, nL21, nL30, nL100, nL462, nL773, nL4638, bp6, bp7, bp8, bp9, bp10, bp11, bp12, bp13, bp14, bp15, bp16, bp17, bp20, bp21, bp29, bp30, bp31, bp33, bp45, bp48, bp49, bp50, bp57, bp59, bp97, bp99, bp100, bp102, spm1000, sp137, sp255, sp257, sp300, sp400, sp462, sp771, sp772, sp773, sp999, sp3865, sp4638, bX5_read_0, bX5_read_20, bX5_read_33, bX5_read_43, bX5_read_73, bX5_read_95, bX5_read_150, eX5_10, eX5_19, eX5_26, eX5_37, eX5_41, eX5_144, eX5_157, eX5_160, t_X5_isSet, ↓x_inv1 naX5_52, x_inv1 naX5_52, rcX5_52, t_X0_record, ↓x_inv2 naX5_58, x_inv2 naX5_58, rcX5_58, t_X2_addScene, ↓x_inv6 naX5_62, x_inv6 naX5_62, rcX5_62, t_X4_findFault, ↓x_inv1 naX5_150, x_inv1 naX5_150, rcX5_150, t_X4_slacksFit, ↓x_inv1 naX5_154, x_inv1 naX5_154, rcX5_154, kcX5_153, kcX5_51, kcX5_56, kcX5_57, sgX5_102, sgX5_86, sgX5_89, sgX5_99, xv_e, k0, g0, g1, g2, g3, m0, m1, n0, n1, n2, n3, n4, n5, n6, v1, v2, v3, v4, t0, t1, t2, t3, t4, hC, hH, hM, hB, hN, hd, l0, y7, y8, e1, e2, e3, e4, e6, e7, e8, e9, nz0, nz1, hT0, ht100, scX_e, hF, hD, h1, nk', h2, h3, h4, p3, p4, t1', t2']
            exact ⟨_, 0, rfl, rfl, by omega, rfl⟩
          · rw [if_neg h4] at hQ
            simp only [↓x_iconst, ↓x_bipush, ↓x_sipush, ↓x_ldc, ↓x_iload_n, ↓x_iload, ↓x_aload_n, ↓x_aload, ↓x_istore_n, ↓x_istore, ↓x_astore_n, ↓x_astore, ↓x_iinc, ↓x_iadd, ↓x_isub, ↓x_imul, ↓x_iand, ↓x_idiv, ↓x_ineg, ↓x_i2c, ↓x_dupI, ↓x_dupA, ↓x_dup2, ↓x_goto, ↓x_get, ↓x_put, ↓x_gets, ↓x_iald, ↓x_bald, ↓x_cald, ↓x_aald, ↓x_iast, ↓x_bast, ↓x_cast, ↓x_aast, ↓x_alen, ↓x_iret, ↓x_vret, ↓x_nil, ↓x_jmp, ↓x_ldI0, ↓x_ldIs, ↓x_ldA0, ↓x_ldAs, ↓x_icmpT, ↓x_icmpF, ↓x_ifT, ↓x_ifF, x_iconst, x_bipush, x_sipush, x_ldc, x_iload_n, x_iload, x_aload_n, x_aload, x_istore_n, x_istore, x_astore_n, x_astore, x_iinc, x_iadd, x_isub, x_imul, x_iand, x_idiv, x_ineg, x_i2c, x_dupI, x_dupA, x_dup2, x_goto, x_if, x_icmp, x_get, x_put, x_gets, x_iald, x_bald, x_cald, x_aald, x_iast, x_bast, x_cast, x_aast, x_alen, x_iret, x_vret, x_nil, x_jmp, x_ldI0, x_ldIs, x_ldA0, x_ldAs, x_cad, x_cad2, x_fv0, x_fv1, x_fv2, x_fv3, cnd, fI, L0, c1, nL0, nL1, nL2, nL3, nL4, nL5, nL6, nL7, nL8, nL9, nL10, nL11, nL12, List.map_cons, List.map_nil, List.length_cons, List.length_nil, List.cons_append, List.nil_append, List.replicate_succ, List.replicate_zero, List.set_cons_zero, List.set_cons_succ, List.mem_cons, List.not_mem_nil, or_false, false_or, Option.toList_some, Option.toList_none, ↓reduceIte, if_true, if_false, Nat.reduceAdd, Nat.reduceSub, Nat.reduceEqDiff, Nat.reduceLT, Nat.reduceLeDiff, Int.reduceNatCast, Int.reduceNatCast', Int.reduceAdd, Int.reduceNeg, Int.reduceToNat, Int.reduceLE, Int.reduceLT, Int.reduceEq, Nat.zero_add, Nat.add_zero, and_true, true_and, ne_eq, not_false_eq_true, not_true_eq_false, and_self, implies_true, Bool.false_eq_true, Nat.reduceBEq, Int32.reduceOfInt, Int32.reduceAdd, Int32.reduceSub, Int32.reduceMul, Int32.reduceLE, Int32.reduceLT, Int32.reduceToNatClampNeg, Option.some.injEq, exists_eq_left, exists_eq_left', Option.isSome_some, Option.getD_some, vp_nar_int, pbi, eq_self, forall_const, false_implies, true_implies, false_and, and_false, uD_s, uG_s, uD_o, ad_nw, ad_wn, ad_ns, ad_sn, ad_ss, ad_ww, ad_sw, ad_ws, Int32.reduceToInt, Classical.not_not, d1n, d2n, d3n, d4n, d5n, d6n, d10n, inr, nL17, nL20, nL21, nL30, nL100, nL462, nL773, nL4638, bp6, bp7, bp8, bp9, bp10, bp11, bp12, bp13, bp14, bp15, bp16, bp17, bp20, bp21, bp29, bp30, bp31, bp33, bp45, bp48, bp49, bp50, bp57, bp59, bp97, bp99, bp100, bp102, spm1000, sp137, sp255, sp257, sp300, sp400, sp462, sp771, sp772, sp773, sp999, sp3865, sp4638, bX5_read_0, bX5_read_20, bX5_read_33, bX5_read_43, bX5_read_73, bX5_read_95, bX5_read_150, eX5_10, eX5_19, eX5_26, eX5_37, eX5_41, eX5_144, eX5_157, eX5_160, t_X5_isSet, ↓x_inv1 naX5_52, x_inv1 naX5_52, rcX5_52, t_X0_record, ↓x_inv2 naX5_58, x_inv2 naX5_58, rcX5_58, t_X2_addScene, ↓x_inv6 naX5_62, x_inv6 naX5_62, rcX5_62, t_X4_findFault, ↓x_inv1 naX5_150, x_inv1 naX5_150, rcX5_150, t_X4_slacksFit, ↓x_inv1 naX5_154, x_inv1 naX5_154, rcX5_154, kcX5_153, kcX5_51, kcX5_56, kcX5_57, sgX5_102, sgX5_86, sgX5_89, sgX5_99, xv_e, k0, g0, g1, g2, g3, m0, m1, n0, n1, n2, n3, n4, n5, n6, v1, v2, v3, v4, t0, t1, t2, t3, t4, hC, hH, hM, hB, hN, hd, l0, y7, y8, e1, e2, e3, e4, e6, e7, e8, e9, nz0, nz1, hT0, ht100, scX_e, hF, hD, h1, nk', h2, h3, h4, p3, p4]
            exact hQ
        · rw [if_neg h3] at hQ
          simp only [↓x_iconst, ↓x_bipush, ↓x_sipush, ↓x_ldc, ↓x_iload_n, ↓x_iload, ↓x_aload_n, ↓x_aload, ↓x_istore_n, ↓x_istore, ↓x_astore_n, ↓x_astore, ↓x_iinc, ↓x_iadd, ↓x_isub, ↓x_imul, ↓x_iand, ↓x_idiv, ↓x_ineg, ↓x_i2c, ↓x_dupI, ↓x_dupA, ↓x_dup2, ↓x_goto, ↓x_get, ↓x_put, ↓x_gets, ↓x_iald, ↓x_bald, ↓x_cald, ↓x_aald, ↓x_iast, ↓x_bast, ↓x_cast, ↓x_aast, ↓x_alen, ↓x_iret, ↓x_vret, ↓x_nil, ↓x_jmp, ↓x_ldI0, ↓x_ldIs, ↓x_ldA0, ↓x_ldAs, ↓x_icmpT, ↓x_icmpF, ↓x_ifT, ↓x_ifF, x_iconst, x_bipush, x_sipush, x_ldc, x_iload_n, x_iload, x_aload_n, x_aload, x_istore_n, x_istore, x_astore_n, x_astore, x_iinc, x_iadd, x_isub, x_imul, x_iand, x_idiv, x_ineg, x_i2c, x_dupI, x_dupA, x_dup2, x_goto, x_if, x_icmp, x_get, x_put, x_gets, x_iald, x_bald, x_cald, x_aald, x_iast, x_bast, x_cast, x_aast, x_alen, x_iret, x_vret, x_nil, x_jmp, x_ldI0, x_ldIs, x_ldA0, x_ldAs, x_cad, x_cad2, x_fv0, x_fv1, x_fv2, x_fv3, cnd, fI, L0, c1, nL0, nL1, nL2, nL3, nL4, nL5, nL6, nL7, nL8, nL9, nL10, nL11, nL12, List.map_cons, List.map_nil, List.length_cons, List.length_nil, List.cons_append, List.nil_append, List.replicate_succ, List.replicate_zero, List.set_cons_zero, List.set_cons_succ, List.mem_cons, List.not_mem_nil, or_false, false_or, Option.toList_some, Option.toList_none, ↓reduceIte, if_true, if_false, Nat.reduceAdd, Nat.reduceSub, Nat.reduceEqDiff, Nat.reduceLT, Nat.reduceLeDiff, Int.reduceNatCast, Int.reduceNatCast', Int.reduceAdd, Int.reduceNeg, Int.reduceToNat, Int.reduceLE, Int.reduceLT, Int.reduceEq, Nat.zero_add, Nat.add_zero, and_true, true_and, ne_eq, not_false_eq_true, not_true_eq_false, and_self, implies_true, Bool.false_eq_true, Nat.reduceBEq, Int32.reduceOfInt, Int32.reduceAdd, Int32.reduceSub, Int32.reduceMul, Int32.reduceLE, Int32.reduceLT, Int32.reduceToNatClampNeg, Option.some.injEq, exists_eq_left, exists_eq_left', Option.isSome_some, Option.getD_some, vp_nar_int, pbi, eq_self, forall_const, false_implies, true_implies, false_and, and_false, uD_s, uG_s, uD_o, ad_nw, ad_wn, ad_ns, ad_sn, ad_ss, ad_ww, ad_sw, ad_ws, Int32.reduceToInt, Classical.not_not, d1n, d2n, d3n, d4n, d5n, d6n, d10n, inr, nL17, nL20, nL21, nL30, nL100, nL462, nL773, nL4638, bp6, bp7, bp8, bp9, bp10, bp11, bp12, bp13, bp14, bp15, bp16, bp17, bp20, bp21, bp29, bp30, bp31, bp33, bp45, bp48, bp49, bp50, bp57, bp59, bp97, bp99, bp100, bp102, spm1000, sp137, sp255, sp257, sp300, sp400, sp462, sp771, sp772, sp773, sp999, sp3865, sp4638, bX5_read_0, bX5_read_20, bX5_read_33, bX5_read_43, bX5_read_73, bX5_read_95, bX5_read_150, eX5_10, eX5_19, eX5_26, eX5_37, eX5_41, eX5_144, eX5_157, eX5_160, t_X5_isSet, ↓x_inv1 naX5_52, x_inv1 naX5_52, rcX5_52, t_X0_record, ↓x_inv2 naX5_58, x_inv2 naX5_58, rcX5_58, t_X2_addScene, ↓x_inv6 naX5_62, x_inv6 naX5_62, rcX5_62, t_X4_findFault, ↓x_inv1 naX5_150, x_inv1 naX5_150, rcX5_150, t_X4_slacksFit, ↓x_inv1 naX5_154, x_inv1 naX5_154, rcX5_154, kcX5_153, kcX5_51, kcX5_56, kcX5_57, sgX5_102, sgX5_86, sgX5_89, sgX5_99, xv_e, k0, g0, g1, g2, g3, m0, m1, n0, n1, n2, n3, n4, n5, n6, v1, v2, v3, v4, t0, t1, t2, t3, t4, hC, hH, hM, hB, hN, hd, l0, y7, y8, e1, e2, e3, e4, e6, e7, e8, e9, nz0, nz1, hT0, ht100, scX_e, hF, hD, h1, nk', h2, h3, p3, p4]
          exact hQ
    · rw [if_neg h1] at hQ
      simp only [↓x_iconst, ↓x_bipush, ↓x_sipush, ↓x_ldc, ↓x_iload_n, ↓x_iload, ↓x_aload_n, ↓x_aload, ↓x_istore_n, ↓x_istore, ↓x_astore_n, ↓x_astore, ↓x_iinc, ↓x_iadd, ↓x_isub, ↓x_imul, ↓x_iand, ↓x_idiv, ↓x_ineg, ↓x_i2c, ↓x_dupI, ↓x_dupA, ↓x_dup2, ↓x_goto, ↓x_get, ↓x_put, ↓x_gets, ↓x_iald, ↓x_bald, ↓x_cald, ↓x_aald, ↓x_iast, ↓x_bast, ↓x_cast, ↓x_aast, ↓x_alen, ↓x_iret, ↓x_vret, ↓x_nil, ↓x_jmp, ↓x_ldI0, ↓x_ldIs, ↓x_ldA0, ↓x_ldAs, ↓x_icmpT, ↓x_icmpF, ↓x_ifT, ↓x_ifF, x_iconst, x_bipush, x_sipush, x_ldc, x_iload_n, x_iload, x_aload_n, x_aload, x_istore_n, x_istore, x_astore_n, x_astore, x_iinc, x_iadd, x_isub, x_imul, x_iand, x_idiv, x_ineg, x_i2c, x_dupI, x_dupA, x_dup2, x_goto, x_if, x_icmp, x_get, x_put, x_gets, x_iald, x_bald, x_cald, x_aald, x_iast, x_bast, x_cast, x_aast, x_alen, x_iret, x_vret, x_nil, x_jmp, x_ldI0, x_ldIs, x_ldA0, x_ldAs, x_cad, x_cad2, x_fv0, x_fv1, x_fv2, x_fv3, cnd, fI, L0, c1, nL0, nL1, nL2, nL3, nL4, nL5, nL6, nL7, nL8, nL9, nL10, nL11, nL12, List.map_cons, List.map_nil, List.length_cons, List.length_nil, List.cons_append, List.nil_append, List.replicate_succ, List.replicate_zero, List.set_cons_zero, List.set_cons_succ, List.mem_cons, List.not_mem_nil, or_false, false_or, Option.toList_some, Option.toList_none, ↓reduceIte, if_true, if_false, Nat.reduceAdd, Nat.reduceSub, Nat.reduceEqDiff, Nat.reduceLT, Nat.reduceLeDiff, Int.reduceNatCast, Int.reduceNatCast', Int.reduceAdd, Int.reduceNeg, Int.reduceToNat, Int.reduceLE, Int.reduceLT, Int.reduceEq, Nat.zero_add, Nat.add_zero, and_true, true_and, ne_eq, not_false_eq_true, not_true_eq_false, and_self, implies_true, Bool.false_eq_true, Nat.reduceBEq, Int32.reduceOfInt, Int32.reduceAdd, Int32.reduceSub, Int32.reduceMul, Int32.reduceLE, Int32.reduceLT, Int32.reduceToNatClampNeg, Option.some.injEq, exists_eq_left, exists_eq_left', Option.isSome_some, Option.getD_some, vp_nar_int, pbi, eq_self, forall_const, false_implies, true_implies, false_and, and_false, uD_s, uG_s, uD_o, ad_nw, ad_wn, ad_ns, ad_sn, ad_ss, ad_ww, ad_sw, ad_ws, Int32.reduceToInt, Classical.not_not, d1n, d2n, d3n, d4n, d5n, d6n, d10n, inr, nL17, nL20, nL21, nL30, nL100, nL462, nL773, nL4638, bp6, bp7, bp8, bp9, bp10, bp11, bp12, bp13, bp14, bp15, bp16, bp17, bp20, bp21, bp29, bp30, bp31, bp33, bp45, bp48, bp49, bp50, bp57, bp59, bp97, bp99, bp100, bp102, spm1000, sp137, sp255, sp257, sp300, sp400, sp462, sp771, sp772, sp773, sp999, sp3865, sp4638, bX5_read_0, bX5_read_20, bX5_read_33, bX5_read_43, bX5_read_73, bX5_read_95, bX5_read_150, eX5_10, eX5_19, eX5_26, eX5_37, eX5_41, eX5_144, eX5_157, eX5_160, t_X5_isSet, ↓x_inv1 naX5_52, x_inv1 naX5_52, rcX5_52, t_X0_record, ↓x_inv2 naX5_58, x_inv2 naX5_58, rcX5_58, t_X2_addScene, ↓x_inv6 naX5_62, x_inv6 naX5_62, rcX5_62, t_X4_findFault, ↓x_inv1 naX5_150, x_inv1 naX5_150, rcX5_150, t_X4_slacksFit, ↓x_inv1 naX5_154, x_inv1 naX5_154, rcX5_154, kcX5_153, kcX5_51, kcX5_56, kcX5_57, sgX5_102, sgX5_86, sgX5_89, sgX5_99, xv_e, k0, g0, g1, g2, g3, m0, m1, n0, n1, n2, n3, n4, n5, n6, v1, v2, v3, v4, t0, t1, t2, t3, t4, hC, hH, hM, hB, hN, hd, l0, y7, y8, e1, e2, e3, e4, e6, e7, e8, e9, nz0, nz1, hT0, ht100, scX_e, hF, hD, h1]
      exact hQ
  · rintro k pc hpc LL stk G' D' ⟨j, rfl, rfl, rfl, rfl, hj, ⟨h1, h2, h3, h4⟩, rfl⟩
    obtain rfl := List.mem_singleton.mp hpc
    rw [if_pos h1, nk', if_neg h2, if_pos h3, if_pos h4] at hQ
    have o0 : ∀ a, a ≠ nu (xv x) → (a < xv x + 3 ∨ xv x + 9 ≤ a) → adR (rD G D x) D (xT x) (xv x) j a = rD G D x a := fun a a1 a2 => adR_o a1 a2 j
    have o1 : ∀ a, xT x ≤ a → adR (rD G D x) D (xT x) (xv x) j a = D a := fun a ha => by
      rw [o0 a (by unfold nu xv mv xN; unfold xT at ha; omega) (Or.inr (by unfold xv mv xN; unfold xT at ha; omega))]
      exact recD_o hC y7 y8 (Or.inr ha)
    have o2 : adR (rD G D x) D (xT x) (xv x) j (xT x) = D (xT x) := o1 _ (Nat.le_refl _)
    have o3 : ∀ r, adR (rD G D x) D (xT x) (xv x) j (tr (xT x) r) = D (tr (xT x) r) := fun r => o1 _ (by unfold tr; omega)
    have o4 : adR (rD G D x) D (xT x) (xv x) j (nu (xv x)) 0 = D (nu (xv x)) 0 + nI j := by
      rw [adR_0]
      unfold rD
      rw [e3]
    have n1' : recG G D (xH x) (xv x) 0 = some (nu (xv x)) := e7.1.2.1
    have u1 : nI j + 1 = nI (j + 1) := nI_1 j
    obtain ⟨s3, s4⟩ : (∀ r : Int32, 0 ≤ r ∧ r < 4 → G (tO (xT x)) r = some (tr (xT x) r)) ∧ ∀ r : Int32, 0 ≤ r ∧ r < 4 → K (tr (xT x) r) = (10, 20) := hT.2.2
    rcases Nat.lt_or_ge j nk with h | h
    · have c1' : ¬ nI nk ≤ nI j := Int32.not_le.mpr ((nI_ltI (by omega) (by omega)).mpr h)
      have z1 : 0 ≤ nI j := nI_pos' (by omega)
      have z2 : nI j < 20 := (nI_ltI (b := 20) (by omega) (by decide)).mpr (by omega)
      have z3 : 0 ≤ D (nu (xv x)) 0 + nI j ∧ D (nu (xv x)) 0 + nI j ≤ D (nu (xv x)) 0 + nI j ∧ D (nu (xv x)) 0 + nI j < 20 := by
        rw [hn3, he, nI_add] at h4
        rw [he, nI_add]
        have := (nI_leI (a := e + nk) (b := 20) (by omega) (by decide)).mp h4
        exact ⟨nI_pos' (by omega), Int32.le_refl _, (nI_ltI (b := 20) (by omega) (by decide)).mpr (by omega)⟩
      obtain ⟨z3, z4, z5⟩ := z3
      simp only [↓x_iconst, ↓x_bipush, ↓x_sipush, ↓x_ldc, ↓x_iload_n, ↓x_iload, ↓x_aload_n, ↓x_aload, ↓x_istore_n, ↓x_istore, ↓x_astore_n, ↓x_astore, ↓x_iinc, ↓x_iadd, ↓x_isub, ↓x_imul, ↓x_iand, ↓x_idiv, ↓x_ineg, ↓x_i2c, ↓x_dupI, ↓x_dupA, ↓x_dup2, ↓x_goto, ↓x_get, ↓x_put, ↓x_gets, ↓x_iald, ↓x_bald, ↓x_cald, ↓x_aald, ↓x_iast, ↓x_bast, ↓x_cast, ↓x_aast, ↓x_alen, ↓x_iret, ↓x_vret, ↓x_nil, ↓x_jmp, ↓x_ldI0, ↓x_ldIs, ↓x_ldA0, ↓x_ldAs, ↓x_icmpT, ↓x_icmpF, ↓x_ifT, ↓x_ifF, x_iconst, x_bipush, x_sipush, x_ldc, x_iload_n, x_iload, x_aload_n, x_aload, x_istore_n, x_istore, x_astore_n, x_astore, x_iinc, x_iadd, x_isub, x_imul, x_iand, x_idiv, x_ineg, x_i2c, x_dupI, x_dupA, x_dup2, x_goto, x_if, x_icmp, x_get, x_put, x_gets, x_iald, x_bald, x_cald, x_aald, x_iast, x_bast, x_cast, x_aast, x_alen, x_iret, x_vret, x_nil, x_jmp, x_ldI0, x_ldIs, x_ldA0, x_ldAs, x_cad, x_cad2, x_fv0, x_fv1, x_fv2, x_fv3, cnd, fI, L0, c1, nL0, nL1, nL2, nL3, nL4, nL5, nL6, nL7, nL8, nL9, nL10, nL11, nL12, List.map_cons, List.map_nil, List.length_cons, List.length_nil, List.cons_append, List.nil_append, List.replicate_succ, List.replicate_zero, List.set_cons_zero, List.set_cons_succ, List.mem_cons, List.not_mem_nil, or_false, false_or, Option.toList_some, Option.toList_none, ↓reduceIte, if_true, if_false, Nat.reduceAdd, Nat.reduceSub, Nat.reduceEqDiff, Nat.reduceLT, Nat.reduceLeDiff, Int.reduceNatCast, Int.reduceNatCast', Int.reduceAdd, Int.reduceNeg, Int.reduceToNat, Int.reduceLE, Int.reduceLT, Int.reduceEq, Nat.zero_add, Nat.add_zero, and_true, true_and, ne_eq, not_false_eq_true, not_true_eq_false, and_self, implies_true, Bool.false_eq_true, Nat.reduceBEq, Int32.reduceOfInt, Int32.reduceAdd, Int32.reduceSub, Int32.reduceMul, Int32.reduceLE, Int32.reduceLT, Int32.reduceToNatClampNeg, Option.some.injEq, exists_eq_left, exists_eq_left', Option.isSome_some, Option.getD_some, vp_nar_int, pbi, eq_self, forall_const, false_implies, true_implies, false_and, and_false, uD_s, uG_s, uD_o, ad_nw, ad_wn, ad_ns, ad_sn, ad_ss, ad_ww, ad_sw, ad_ws, Int32.reduceToInt, Classical.not_not, d1n, d2n, d3n, d4n, d5n, d6n, d10n, inr, nL17, nL20, nL21, nL30, nL100, nL462, nL773, nL4638, bp6, bp7, bp8, bp9, bp10, bp11, bp12, bp13, bp14, bp15, bp16, bp17, bp20, bp21, bp29, bp30, bp31, bp33, bp45, bp48, bp49, bp50, bp57, bp59, bp97, bp99, bp100, bp102, spm1000, sp137, sp255, sp257, sp300, sp400, sp462, sp771, sp772, sp773, sp999, sp3865, sp4638, bX5_read_0, bX5_read_20, bX5_read_33, bX5_read_43, bX5_read_73, bX5_read_95, bX5_read_150, eX5_10, eX5_19, eX5_26, eX5_37, eX5_41, eX5_144, eX5_157, eX5_160, t_X5_isSet, ↓x_inv1 naX5_52, x_inv1 naX5_52, rcX5_52, t_X0_record, ↓x_inv2 naX5_58, x_inv2 naX5_58, rcX5_58, t_X2_addScene, ↓x_inv6 naX5_62, x_inv6 naX5_62, rcX5_62, t_X4_findFault, ↓x_inv1 naX5_150, x_inv1 naX5_150, rcX5_150, t_X4_slacksFit, ↓x_inv1 naX5_154, x_inv1 naX5_154, rcX5_154, kcX5_153, kcX5_51, kcX5_56, kcX5_57, sgX5_102, sgX5_86, sgX5_89, sgX5_99, xv_e, k0, g0, g1, g2, g3, m0, m1, n0, n1, n2, n3, n4, n5, n6, v1, v2, v3, v4, t0, t1, t2, t3, t4, hC, hH, hM, hB, hN, hd, l0, y7, y8, e1, e2, e3, e4, e6, e7, e8, e9, nz0, nz1, t0', t1', t2', hG3, s4, n1', o2, o3, o4, hn3, u1, c1', z1, z2, z3, z4, z5]
      rw [hn3] at h4
      refine ⟨_, by omega, j + 1, rfl, ?_, by omega, ⟨h1, h2, h3, h4⟩, rfl⟩
      rw [adR, o4]
    · obtain rfl : j = nk := by omega
      have c1' : nI j ≤ nI j := Int32.le_refl _
      simp only [↓x_iconst, ↓x_bipush, ↓x_sipush, ↓x_ldc, ↓x_iload_n, ↓x_iload, ↓x_aload_n, ↓x_aload, ↓x_istore_n, ↓x_istore, ↓x_astore_n, ↓x_astore, ↓x_iinc, ↓x_iadd, ↓x_isub, ↓x_imul, ↓x_iand, ↓x_idiv, ↓x_ineg, ↓x_i2c, ↓x_dupI, ↓x_dupA, ↓x_dup2, ↓x_goto, ↓x_get, ↓x_put, ↓x_gets, ↓x_iald, ↓x_bald, ↓x_cald, ↓x_aald, ↓x_iast, ↓x_bast, ↓x_cast, ↓x_aast, ↓x_alen, ↓x_iret, ↓x_vret, ↓x_nil, ↓x_jmp, ↓x_ldI0, ↓x_ldIs, ↓x_ldA0, ↓x_ldAs, ↓x_icmpT, ↓x_icmpF, ↓x_ifT, ↓x_ifF, x_iconst, x_bipush, x_sipush, x_ldc, x_iload_n, x_iload, x_aload_n, x_aload, x_istore_n, x_istore, x_astore_n, x_astore, x_iinc, x_iadd, x_isub, x_imul, x_iand, x_idiv, x_ineg, x_i2c, x_dupI, x_dupA, x_dup2, x_goto, x_if, x_icmp, x_get, x_put, x_gets, x_iald, x_bald, x_cald, x_aald, x_iast, x_bast, x_cast, x_aast, x_alen, x_iret, x_vret, x_nil, x_jmp, x_ldI0, x_ldIs, x_ldA0, x_ldAs, x_cad, x_cad2, x_fv0, x_fv1, x_fv2, x_fv3, cnd, fI, L0, c1, nL0, nL1, nL2, nL3, nL4, nL5, nL6, nL7, nL8, nL9, nL10, nL11, nL12, List.map_cons, List.map_nil, List.length_cons, List.length_nil, List.cons_append, List.nil_append, List.replicate_succ, List.replicate_zero, List.set_cons_zero, List.set_cons_succ, List.mem_cons, List.not_mem_nil, or_false, false_or, Option.toList_some, Option.toList_none, ↓reduceIte, if_true, if_false, Nat.reduceAdd, Nat.reduceSub, Nat.reduceEqDiff, Nat.reduceLT, Nat.reduceLeDiff, Int.reduceNatCast, Int.reduceNatCast', Int.reduceAdd, Int.reduceNeg, Int.reduceToNat, Int.reduceLE, Int.reduceLT, Int.reduceEq, Nat.zero_add, Nat.add_zero, and_true, true_and, ne_eq, not_false_eq_true, not_true_eq_false, and_self, implies_true, Bool.false_eq_true, Nat.reduceBEq, Int32.reduceOfInt, Int32.reduceAdd, Int32.reduceSub, Int32.reduceMul, Int32.reduceLE, Int32.reduceLT, Int32.reduceToNatClampNeg, Option.some.injEq, exists_eq_left, exists_eq_left', Option.isSome_some, Option.getD_some, vp_nar_int, pbi, eq_self, forall_const, false_implies, true_implies, false_and, and_false, uD_s, uG_s, uD_o, ad_nw, ad_wn, ad_ns, ad_sn, ad_ss, ad_ww, ad_sw, ad_ws, Int32.reduceToInt, Classical.not_not, d1n, d2n, d3n, d4n, d5n, d6n, d10n, inr, nL17, nL20, nL21, nL30, nL100, nL462, nL773, nL4638, bp6, bp7, bp8, bp9, bp10, bp11, bp12, bp13, bp14, bp15, bp16, bp17, bp20, bp21, bp29, bp30, bp31, bp33, bp45, bp48, bp49, bp50, bp57, bp59, bp97, bp99, bp100, bp102, spm1000, sp137, sp255, sp257, sp300, sp400, sp462, sp771, sp772, sp773, sp999, sp3865, sp4638, bX5_read_0, bX5_read_20, bX5_read_33, bX5_read_43, bX5_read_73, bX5_read_95, bX5_read_150, eX5_10, eX5_19, eX5_26, eX5_37, eX5_41, eX5_144, eX5_157, eX5_160, t_X5_isSet, ↓x_inv1 naX5_52, x_inv1 naX5_52, rcX5_52, t_X0_record, ↓x_inv2 naX5_58, x_inv2 naX5_58, rcX5_58, t_X2_addScene, ↓x_inv6 naX5_62, x_inv6 naX5_62, rcX5_62, t_X4_findFault, ↓x_inv1 naX5_150, x_inv1 naX5_150, rcX5_150, t_X4_slacksFit, ↓x_inv1 naX5_154, x_inv1 naX5_154, rcX5_154, kcX5_153, kcX5_51, kcX5_56, kcX5_57, sgX5_102, sgX5_86, sgX5_89, sgX5_99, xv_e, k0, g0, g1, g2, g3, m0, m1, n0, n1, n2, n3, n4, n5, n6, v1, v2, v3, v4, t0, t1, t2, t3, t4, hC, hH, hM, hB, hN, hd, l0, y7, y8, e1, e2, e3, e4, e6, e7, e8, e9, nz0, nz1, t0', t1', t2', o2, hn3, c1']
      rw [hn3] at hQ
      exact hQ
