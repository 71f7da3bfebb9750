/-! ### the class's own plans -/
theorem foR_c {P1 F1 G1 P1' F1' G1' rea t rea' t' : Int32 → Int32} {f : Nat} {T : T4} {n : Nat} (h : ∀ m, 1 ≤ m → m ≤ n → P1 (nI (f + m)) = P1' (nI (f + m)) ∧ F1 (nI (f + m)) = F1' (nI (f + m)) ∧ G1 (nI (f + m)) = G1' (nI (f + m)) ∧ rea (nI m) = rea' (nI m) ∧ t (nI m) = t' (nI m)) :
    ∀ k, k ≤ n → foR P1 F1 G1 rea t (nI f) T k = foR P1' F1' G1' rea' t' (nI f) T k
  | 0, _ => rfl
  | k + 1, hk => by
    obtain ⟨h1, h2, h3, h4, h5⟩ := h (k + 1) (by omega) hk
    rw [foR, foR, foR_c h k (by omega)]
    unfold foS foO
    rw [nI_add, h1, h2, h3, h4, h5]
def reaT (N : Int32 → Int32) (S W : Int32 → Int32 → Int32) (c v : Int32) : Nat → Nat → Int32 → Int32 := fun j f m => reaF N S W (nI f) m (N 2 + nI j) (if j = 0 then c else 0) v
def lasT (S : Int32 → Int32 → Int32) (c : Int32) : Nat → Nat → Int32 → Int32 := fun j f m => lastF S (nI f + m) (if j = 0 then c else 0)
def cP (E : DT) (p j f : Nat) : Int32 := E (p + 2 + j) (nI f)
def cF (E : DT) (p j f : Nat) : Int32 := E (p + 24 + j) (nI f)
def cG (E : DT) (p j f : Nat) : Int32 := E (p + 46 + j) (nI f)
def cC (E : DT) (p j f : Nat) : Int32 := E (p + 68 + j) (nI f)
theorem FilP.tab {N : Int32 → Int32} {S W : Int32 → Int32 → Int32} {D E : DT} {p b e mo : Nat} {c v : Int32} (h : FilP N S W D E p b e mo c v) (he : e ≤ 20) : TabP (reaT N S W c v) (lasT S c) (cP E p) (cF E p) (cG E p) (cC E p) b e mo := by
  obtain ⟨h1, h2, h3, h4, h5, h6⟩ := h
  refine ⟨fun j hj => h3 j hj, fun f f1 f2 => h4 f f1 f2, fun j f j1 f1 f2 f3 => ?_⟩
  have key : Cel N S W E p e (if j = 0 then c else 0) v j f := by
    rcases Nat.eq_zero_or_pos j with q | q
    · subst q
      rw [if_pos rfl, f3 rfl]
      exact h5 j1
    · rw [if_neg (by omega)]
      exact h6 j f q j1 f1 f2
  obtain ⟨x, hx⟩ := key
  refine ⟨x, hx.trans (foR_c (fun m m1 m2 => ?_) (e - f) (Nat.le_refl _))⟩
  unfold cP cF cG
  rw [nI_clamp (by omega)]
  exact ⟨rfl, rfl, rfl, rfl, rfl⟩
def pfV (E : DT) (p : Nat) : Int32 := if E p 5 ≤ E p 4 then 0 else E (tP p 0) (E p 4)
def PlanOK (E : DT) (p i : Nat) : Prop := i ≤ 20 ∧ E (tF p 0) (E p 4) = nI i ∧ (0 ≤ E p 4 ∧ E p 4 < 21) ∧ ∀ k, k ≤ i → 0 ≤ stR E p k ∧ stR E p k ≤ 20
theorem stR_n {E : DT} {p b i : Nat} (h0 : E p 4 = nI b) (h : ∀ k, k < i → stA (cC E p) b k < stA (cC E p) b (k + 1) ∧ stA (cC E p) b (k + 1) ≤ 20 ∧ cC E p k (stA (cC E p) b k) = nI (stA (cC E p) b (k + 1) - stA (cC E p) b k)) (hi : i ≤ 20) : ∀ k, k ≤ i → stR E p k = nI (stA (cC E p) b k)
  | 0, _ => h0
  | k + 1, hk => by
    obtain ⟨h1, h2, h3⟩ := h k (by omega)
    rw [stR, stR_n h0 h hi k (by omega), tC_n (by omega)]
    have h3' : E (p + 68 + k) (nI (stA (cC E p) b k)) = nI (stA (cC E p) b (k + 1) - stA (cC E p) b k) := h3
    rw [h3', nI_add]
    exact congrArg nI (by omega)
theorem z_n {k : Nat} (h : k ≤ 20) : 0 ≤ nI k ∧ nI k ≤ 20 ∧ nI k < 21 := ⟨nI_pos' (by omega), (nI_leI (b := 20) (by omega) (by decide)).mpr h, (nI_ltI (b := 21) (by omega) (by decide)).mpr (by omega)⟩
theorem plan_ok {N : Int32 → Int32} {S W : Int32 → Int32 → Int32} {D E : DT} {p b e mo : Nat} {c v : Int32} (h : FilP N S W D E p b e mo c v) (he : e ≤ 20) (hm : b + mo ≤ e) (hp : ¬ pfV E p = 0) : b < e ∧ ¬ cP E p 0 b = 0 ∧ ∃ i, PlanOK E p i ∧ cF E p 0 b = nI i ∧ 1 ≤ i ∧ i ≤ mo ∧ (∀ k, k ≤ i → stR E p k = nI (stA (cC E p) b k)) ∧ (∀ k, k < i → stA (cC E p) b k < stA (cC E p) b (k + 1) ∧ stA (cC E p) b (k + 1) ≤ e) := by
  have ht := h.tab he
  obtain ⟨h1, ⟨h2, h3⟩, -⟩ := h
  have t1 : tP p 0 = p + 2 + 0 := by rw [← nL0]; exact tP_n (by omega)
  have t2 : tF p 0 = p + 24 + 0 := by rw [← nL0]; exact tF_n (by omega)
  unfold pfV at hp
  rw [h2, h3, t1] at hp
  by_cases hbe : nI e ≤ nI b
  · rw [if_pos hbe] at hp
    exact absurd rfl hp
  · rw [if_neg hbe] at hp
    have hb : b < e := by
      rcases Nat.lt_or_ge b e with q | q
      · exact q
      · exact absurd ((nI_leI (a := e) (b := b) (by omega) (by omega)).mpr q) hbe
    have hp' : ¬ cP E p 0 b = 0 := hp
    obtain ⟨-, tb⟩ := tab_b he hm ht _ 0 b (Nat.le_refl _) ⟨by omega, by omega, by omega, fun _ => rfl⟩
    obtain ⟨i, g1, g2, g3, g4⟩ := tb hp'
    obtain ⟨p1, p2, p3, p4, p5⟩ := tab_path he hm ht hp' g1 (by omega)
    have hR := stR_n (E := E) (p := p) (b := b) (i := i) h2 (fun k hk => ⟨(p4 k hk).1, by have := (p4 k hk).2.1; omega, (p4 k hk).2.2⟩) (by omega)
    refine ⟨hb, hp', i, ⟨by omega, ?_, ?_, fun k hk => ?_⟩, g1, p2 hb, p1, hR, fun k hk => ⟨(p4 k hk).1, (p4 k hk).2.1⟩⟩
    · rw [h2, t2]
      exact g1
    · rw [h2]
      obtain ⟨q1, -, q2⟩ := z_n (k := b) (by omega)
      exact ⟨q1, q2⟩
    · rw [hR k hk]
      obtain ⟨⟨-, -, q, -⟩, -⟩ := p3 k hk
      obtain ⟨q1, q2, -⟩ := z_n (k := stA (cC E p) b k) (by omega)
      exact ⟨q1, q2⟩
/-- the table filled for the present novel -/
def FilX (D E : DT) (x : Nat) (c v : Int32) : Prop := FilP (D (nu (xv x))) (SS D (xv x)) (WW D (xv x)) D E (xP x) (D (nu (xv x)) 1).toNatClampNeg (D (nu (xv x)) 0).toNatClampNeg (moN (D (nu (xv x)))) c v
theorem xP_v {x : Nat} : xv x + 14 ≤ xP x := by unfold xv mv xN xP; omega
def t_X5_fillTable : TR := fun K _ _ As G D Q => match As with
  | [.ref x] => Act K G D x ∧ ∀ E, FilX D E x (D (nu (xv x)) 3) (D (nu (xv x)) 6) → Q none G E
  | _ => False
set_option maxRecDepth 100000 in
set_option maxHeartbeats 4000000 in
theorem s_X5_fillTable (l : Launch) : Sat l yX5_fillTable cX5_fillTable 1 none 5 t_X5_fillTable := by
  refine satb (own := RX5) (fl := flX5) (sg := sgX5) (kc := kcX5) (na := naX5) (rc := rcX5) (cv := (cAdd 205 t_X3_fill cNone)) (cs := cNone) (bl := bX5_fillTable) (by decide +kernel) rfl envX5 bokX5_fillTable (cvAdd (s_X3_fill l) lkX5_205 rfl rfl (by decide) cvNone) csNone ?_
  intro L K R0 sa hPp As G D Q htr
  unfold t_X5_fillTable at htr
  split at htr
  case h_2 => exact htr.elim
  rename_i x
  have hNum := htr.1.2.1
  obtain ⟨⟨hC, ⟨y1, y2, y3, y4, y5, y6⟩, ⟨y7, y8⟩, hB⟩, hQ⟩ := htr
  obtain ⟨⟨k0, g0, g1, g2, g3⟩, hM, hH, hT, hP, hst⟩ := id hC
  obtain ⟨⟨m0, m1, m2, m3⟩, -, hN, -⟩ := id hM
  have hN : Nov K G (xv x) := hN
  obtain ⟨⟨n0, n1, n2, n3⟩, ⟨n4, n5, n6⟩, v1, v2, v3, v4⟩ := id hN
  obtain ⟨⟨l0, -⟩, -⟩ := id hH
  obtain ⟨⟨t0, t1, t2⟩, ⟨t3, t4⟩, t5, t6⟩ := id hT
  have hd := x_dis hC
  have e1 : recG G D (xH x) x = G x := recG_o (by rw [hS_x]; omega)
  have e2 : recG G D (xH x) (xN x) = G (xN x) := recG_o (by rw [hS_x]; unfold xN; omega)
  have e3 : recD G D (xH x) (xN x) (nu (xv x)) = D (nu (xv x)) := recD_o hC y7 y8 (by unfold nu xv mv xN; omega)
  have e4 : recG G D (xH x) (xv x) = G (xv x) := recG_o (by rw [hS_x]; unfold xv mv xN; omega)
  have e6 : Cls K (recG G D (xH x)) x := hC.rec
  have e7 : Nov K (recG G D (xH x)) (xv x) := hN.rot (fun a h1 h2 => recG_o (by rw [hS_x]; unfold xv mv xN at h1 h2; omega))
  have e8 : recG G D (xH x) (wO (xv x)) = G (wO (xv x)) := recG_o (by rw [hS_x]; unfold wO xv mv xN; omega)
  have e9 : recG G D (xH x) (sO (xv x)) = G (sO (xv x)) := recG_o (by rw [hS_x]; unfold sO xv mv xN; omega)
  refine ⟨by simp, by simp [cat1], [], noI, 20, 0, ?_, nohd⟩
  have hle := xP_v (x := x)
  unfold FilX at hQ
  have p0 : K (xP x) = (3, 0) := hP.1.1
  simp only [↓x_iconst, ↓x_bipush, ↓x_sipush, ↓x_ldc, ↓x_iload_n, ↓x_iload, ↓x_aload_n, ↓x_aload, ↓x_istore_n, ↓x_istore, ↓x_astore_n, ↓x_astore, ↓x_iinc, ↓x_iadd, ↓x_isub, ↓x_imul, ↓x_iand, ↓x_idiv, ↓x_ineg, ↓x_i2c, ↓x_dupI, ↓x_dupA, ↓x_dup2, ↓x_goto, ↓x_get, ↓x_put, ↓x_gets, ↓x_iald, ↓x_bald, ↓x_cald, ↓x_aald, ↓x_iast, ↓x_bast, ↓x_cast, ↓x_aast, ↓x_alen, ↓x_iret, ↓x_vret, ↓x_nil, ↓x_jmp, ↓x_ldI0, ↓x_ldIs, ↓x_ldA0, ↓x_ldAs, ↓x_icmpT, ↓x_icmpF, ↓x_ifT, ↓x_ifF, x_iconst, x_bipush, x_sipush, x_ldc, x_iload_n, x_iload, x_aload_n, x_aload, x_istore_n, x_istore, x_astore_n, x_astore, x_iinc, x_iadd, x_isub, x_imul, x_iand, x_idiv, x_ineg, x_i2c, x_dupI, x_dupA, x_dup2, x_goto, x_if, x_icmp, x_get, x_put, x_gets, x_iald, x_bald, x_cald, x_aald, x_iast, x_bast, x_cast, x_aast, x_alen, x_iret, x_vret, x_nil, x_jmp, x_ldI0, x_ldIs, x_ldA0, x_ldAs, x_cad, x_cad2, x_fv0, x_fv1, x_fv2, x_fv3, cnd, fI, L0, c1, nL0, nL1, nL2, nL3, nL4, nL5, nL6, nL7, nL8, nL9, nL10, nL11, nL12, List.map_cons, List.map_nil, List.length_cons, List.length_nil, List.cons_append, List.nil_append, List.replicate_succ, List.replicate_zero, List.set_cons_zero, List.set_cons_succ, List.mem_cons, List.not_mem_nil, or_false, false_or, Option.toList_some, Option.toList_none, ↓reduceIte, if_true, if_false, Nat.reduceAdd, Nat.reduceSub, Nat.reduceEqDiff, Nat.reduceLT, Nat.reduceLeDiff, Int.reduceNatCast, Int.reduceNatCast', Int.reduceAdd, Int.reduceNeg, Int.reduceToNat, Int.reduceLE, Int.reduceLT, Int.reduceEq, Nat.zero_add, Nat.add_zero, and_true, true_and, ne_eq, not_false_eq_true, not_true_eq_false, and_self, implies_true, Bool.false_eq_true, Nat.reduceBEq, Int32.reduceOfInt, Int32.reduceAdd, Int32.reduceSub, Int32.reduceMul, Int32.reduceLE, Int32.reduceLT, Int32.reduceToNatClampNeg, Option.some.injEq, exists_eq_left, exists_eq_left', Option.isSome_some, Option.getD_some, vp_nar_int, pbi, eq_self, forall_const, false_implies, true_implies, false_and, and_false, uD_s, uG_s, uD_o, ad_nw, ad_wn, ad_ns, ad_sn, ad_ss, ad_ww, ad_sw, ad_ws, Int32.reduceToInt, Classical.not_not, d1n, d2n, d3n, d4n, d5n, d6n, d10n, inr, nL17, nL20, nL21, nL30, nL100, nL462, nL773, nL4638, bp6, bp7, bp8, bp9, bp10, bp11, bp12, bp13, bp14, bp15, bp16, bp17, bp20, bp21, bp29, bp30, bp31, bp33, bp45, bp48, bp49, bp50, bp57, bp59, bp97, bp99, bp100, bp102, spm1000, sp137, sp255, sp257, sp300, sp400, sp462, sp771, sp772, sp773, sp999, sp3865, sp4638, bX5_fillTable_0, eX5_10, eX5_33, eX5_37, eX5_41, t_X3_fill, ↓x_inv4 naX5_205, x_inv4 naX5_205, rcX5_205, kcX5_153, kcX5_51, kcX5_56, kcX5_57, sgX5_102, sgX5_86, sgX5_89, sgX5_99, xv_e, k0, g0, g1, g2, g3, m0, m1, n0, n1, n2, n3, n4, n5, n6, v1, v2, v3, v4, t0, t1, t2, t3, t4, hC, hH, hM, hB, hN, hd, l0, y7, y8, e1, e2, e3, e4, e6, e7, e8, e9, nz0, nz1, hP, hNum, hle, p0]
  exact hQ
theorem FilX.at {D E : DT} {x : Nat} {c v : Int32} (h : FilX D E x c v) (hN : Num (D (nu (xv x)))) : (0 ≤ E (xP x) 4 ∧ E (xP x) 4 < 21) ∧ (∀ a, a < xP x → E a = D a) ∧ E (xP x) 4 = D (nu (xv x)) 1 ∧ E (xP x) 5 = D (nu (xv x)) 0 := by
  obtain ⟨b, e, w, hb, he, hw, q1, q2, q3, hmo, hmo2, hb', he', -⟩ := Num.nats hN
  obtain ⟨h1, ⟨h2, h3⟩, -⟩ := h
  rw [hb'] at h2
  rw [he'] at h3
  refine ⟨?_, fun a ha => h1 a (by omega) (Or.inl (by omega)), by rw [h2, hb], by rw [h3, he]⟩
  rw [h2]
  obtain ⟨z1, -, z2⟩ := z_n (k := b) (by omega)
  exact ⟨z1, z2⟩
theorem FilX.ok {D E : DT} {x : Nat} {c v : Int32} (h : FilX D E x c v) (hN : Num (D (nu (xv x)))) (hp : ¬ pfV E (xP x) = 0) : ∃ i, PlanOK E (xP x) i ∧ 1 ≤ i ∧ i ≤ moN (D (nu (xv x))) := by
  obtain ⟨b, e, w, hb, he, hw, q1, q2, q3, hmo, hmo2, hb', he', -⟩ := Num.nats hN
  obtain ⟨-, -, i, h1, -, h2, h3, -⟩ := plan_ok h (by omega) (by omega) hp
  exact ⟨i, h1, h2, h3⟩
def t_X5_plans : TR := fun K _ _ As G D Q => match As with
  | [.ref x] => Act K G D x ∧ ∀ E, FilX D E x (D (nu (xv x)) 3) (D (nu (xv x)) 6) → Q (some (.int (pfV E (xP x)))) G E
  | _ => False
set_option maxRecDepth 100000 in
set_option maxHeartbeats 4000000 in
theorem s_X5_plans (l : Launch) : Sat l yX5_plans cX5_plans 1 (some .int) 6 t_X5_plans := by
  refine satb (own := RX5) (fl := flX5) (sg := sgX5) (kc := kcX5) (na := naX5) (rc := rcX5) (cv := (cAdd 184 t_X5_fillTable (cAdd 187 t_X3_plansFound cNone))) (cs := cNone) (bl := bX5_plans) (by decide +kernel) rfl envX5 bokX5_plans (cvAdd (s_X5_fillTable l) lkX5_184 rfl rfl (by decide) (cvAdd (s_X3_plansFound l) lkX5_187 rfl rfl (by decide) cvNone)) csNone ?_
  intro L K R0 sa hPp As G D Q htr
  unfold t_X5_plans at htr
  split at htr
  case h_2 => exact htr.elim
  rename_i x
  have hA := htr.1
  have hNum := htr.1.2.1
  obtain ⟨⟨hC, ⟨y1, y2, y3, y4, y5, y6⟩, ⟨y7, y8⟩, hB⟩, hQ⟩ := htr
  obtain ⟨⟨k0, g0, g1, g2, g3⟩, hM, hH, hT, hP, hst⟩ := id hC
  obtain ⟨⟨m0, m1, m2, m3⟩, -, hN, -⟩ := id hM
  have hN : Nov K G (xv x) := hN
  obtain ⟨⟨n0, n1, n2, n3⟩, ⟨n4, n5, n6⟩, v1, v2, v3, v4⟩ := id hN
  obtain ⟨⟨l0, -⟩, -⟩ := id hH
  obtain ⟨⟨t0, t1, t2⟩, ⟨t3, t4⟩, t5, t6⟩ := id hT
  have hd := x_dis hC
  have e1 : recG G D (xH x) x = G x := recG_o (by rw [hS_x]; omega)
  have e2 : recG G D (xH x) (xN x) = G (xN x) := recG_o (by rw [hS_x]; unfold xN; omega)
  have e3 : recD G D (xH x) (xN x) (nu (xv x)) = D (nu (xv x)) := recD_o hC y7 y8 (by unfold nu xv mv xN; omega)
  have e4 : recG G D (xH x) (xv x) = G (xv x) := recG_o (by rw [hS_x]; unfold xv mv xN; omega)
  have e6 : Cls K (recG G D (xH x)) x := hC.rec
  have e7 : Nov K (recG G D (xH x)) (xv x) := hN.rot (fun a h1 h2 => recG_o (by rw [hS_x]; unfold xv mv xN at h1 h2; omega))
  have e8 : recG G D (xH x) (wO (xv x)) = G (wO (xv x)) := recG_o (by rw [hS_x]; unfold wO xv mv xN; omega)
  have e9 : recG G D (xH x) (sO (xv x)) = G (sO (xv x)) := recG_o (by rw [hS_x]; unfold sO xv mv xN; omega)
  refine ⟨by simp, by simp [cat1], [], noI, 20, 0, ?_, nohd⟩
  have p0 : K (xP x) = (3, 0) := hP.1.1
  simp only [↓x_iconst, ↓x_bipush, ↓x_sipush, ↓x_ldc, ↓x_iload_n, ↓x_iload, ↓x_aload_n, ↓x_aload, ↓x_istore_n, ↓x_istore, ↓x_astore_n, ↓x_astore, ↓x_iinc, ↓x_iadd, ↓x_isub, ↓x_imul, ↓x_iand, ↓x_idiv, ↓x_ineg, ↓x_i2c, ↓x_dupI, ↓x_dupA, ↓x_dup2, ↓x_goto, ↓x_get, ↓x_put, ↓x_gets, ↓x_iald, ↓x_bald, ↓x_cald, ↓x_aald, ↓x_iast, ↓x_bast, ↓x_cast, ↓x_aast, ↓x_alen, ↓x_iret, ↓x_vret, ↓x_nil, ↓x_jmp, ↓x_ldI0, ↓x_ldIs, ↓x_ldA0, ↓x_ldAs, ↓x_icmpT, ↓x_icmpF, ↓x_ifT, ↓x_ifF, x_iconst, x_bipush, x_sipush, x_ldc, x_iload_n, x_iload, x_aload_n, x_aload, x_istore_n, x_istore, x_astore_n, x_astore, x_iinc, x_iadd, x_isub, x_imul, x_iand, x_idiv, x_ineg, x_i2c, x_dupI, x_dupA, x_dup2, x_goto, x_if, x_icmp, x_get, x_put, x_gets, x_iald, x_bald, x_cald, x_aald, x_iast, x_bast, x_cast, x_aast, x_alen, x_iret, x_vret, x_nil, x_jmp, x_ldI0, x_ldIs, x_ldA0, x_ldAs, x_cad, x_cad2, x_fv0, x_fv1, x_fv2, x_fv3, cnd, fI, L0, c1, nL0, nL1, nL2, nL3, nL4, nL5, nL6, nL7, nL8, nL9, nL10, nL11, nL12, List.map_cons, List.map_nil, List.length_cons, List.length_nil, List.cons_append, List.nil_append, List.replicate_succ, List.replicate_zero, List.set_cons_zero, List.set_cons_succ, List.mem_cons, List.not_mem_nil, or_false, false_or, Option.toList_some, Option.toList_none, ↓reduceIte, if_true, if_false, Nat.reduceAdd, Nat.reduceSub, Nat.reduceEqDiff, Nat.reduceLT, Nat.reduceLeDiff, Int.reduceNatCast, Int.reduceNatCast', Int.reduceAdd, Int.reduceNeg, Int.reduceToNat, Int.reduceLE, Int.reduceLT, Int.reduceEq, Nat.zero_add, Nat.add_zero, and_true, true_and, ne_eq, not_false_eq_true, not_true_eq_false, and_self, implies_true, Bool.false_eq_true, Nat.reduceBEq, Int32.reduceOfInt, Int32.reduceAdd, Int32.reduceSub, Int32.reduceMul, Int32.reduceLE, Int32.reduceLT, Int32.reduceToNatClampNeg, Option.some.injEq, exists_eq_left, exists_eq_left', Option.isSome_some, Option.getD_some, vp_nar_int, pbi, eq_self, forall_const, false_implies, true_implies, false_and, and_false, uD_s, uG_s, uD_o, ad_nw, ad_wn, ad_ns, ad_sn, ad_ss, ad_ww, ad_sw, ad_ws, Int32.reduceToInt, Classical.not_not, d1n, d2n, d3n, d4n, d5n, d6n, d10n, inr, nL17, nL20, nL21, nL30, nL100, nL462, nL773, nL4638, bp6, bp7, bp8, bp9, bp10, bp11, bp12, bp13, bp14, bp15, bp16, bp17, bp20, bp21, bp29, bp30, bp31, bp33, bp45, bp48, bp49, bp50, bp57, bp59, bp97, bp99, bp100, bp102, spm1000, sp137, sp255, sp257, sp300, sp400, sp462, sp771, sp772, sp773, sp999, sp3865, sp4638, bX5_plans_0, eX5_33, t_X5_fillTable, ↓x_inv1 naX5_184, x_inv1 naX5_184, rcX5_184, t_X3_plansFound, ↓x_inv1 naX5_187, x_inv1 naX5_187, rcX5_187, kcX5_153, kcX5_51, kcX5_56, kcX5_57, sgX5_102, sgX5_86, sgX5_89, sgX5_99, xv_e, k0, g0, g1, g2, g3, m0, m1, n0, n1, n2, n3, n4, n5, n6, v1, v2, v3, v4, t0, t1, t2, t3, t4, hC, hH, hM, hB, hN, hd, l0, y7, y8, e1, e2, e3, e4, e6, e7, e8, e9, nz0, nz1, hA, hP, p0]
  intro E hE
  exact ⟨(hE.at hNum).1, hQ E hE⟩
/-- the words of an instalment of the plan -/
def pwF (E : DT) (x k : Nat) : Int32 := if k = 0 then sumI (SS E (xv x) 0) (stR E (xP x) k) (stR E (xP x) (k + 1)) - E (nu (xv x)) 3 else sumI (SS E (xv x) 0) (stR E (xP x) k) (stR E (xP x) (k + 1))
def t_X5_plannedWords : TR := fun K _ _ As G D Q => match As with
  | [.ref x, .int m] => Cls K G x ∧ (0 ≤ m ∧ ∃ i : Nat, m.toNatClampNeg < i ∧ PlanOK D (xP x) i) ∧ Q (some (.int (pwF D x m.toNatClampNeg))) G D
  | _ => False
set_option maxRecDepth 100000 in
set_option maxHeartbeats 4000000 in
theorem s_X5_plannedWords (l : Launch) : Sat l yX5_plannedWords cX5_plannedWords 3 (some .int) 1 t_X5_plannedWords := by
  refine satb (own := RX5) (fl := flX5) (sg := sgX5) (kc := kcX5) (na := naX5) (rc := rcX5) (cv := (cAdd 174 t_X2_sum (cAdd 199 t_X3_startOf cNone))) (cs := cNone) (bl := bX5_plannedWords) (by decide +kernel) rfl envX5 bokX5_plannedWords (cvAdd (s_X2_sum l) lkX5_174 rfl rfl (by decide) (cvAdd (s_X3_startOf l) lkX5_199 rfl rfl (by decide) cvNone)) csNone ?_
  intro L K R0 sa hPp As G D Q htr
  unfold t_X5_plannedWords at htr
  split at htr
  case h_2 => exact htr.elim
  rename_i x m
  obtain ⟨hC, ⟨hm, i, hk, ⟨hi, -, -, hs⟩⟩, hQ⟩ := htr
  obtain ⟨k, ek⟩ : ∃ k, m.toNatClampNeg = k := ⟨_, rfl⟩
  have em := nI_of' hm
  rw [ek] at hk hQ em
  subst em
  obtain ⟨⟨k0, g0, g1, g2, g3⟩, hM, hH, hT, hP, hst⟩ := id hC
  obtain ⟨⟨m0, m1, m2, m3⟩, -, hN, -⟩ := id hM
  have hN : Nov K G (xv x) := hN
  obtain ⟨⟨n0, n1, n2, n3⟩, ⟨n4, n5, n6⟩, v1, v2, v3, v4⟩ := id hN
  have p0 : K (xP x) = (3, 0) := hP.1.1
  have w1 : nI k + 1 = nI (k + 1) := nI_1 k
  have w2 : (nI k).toNatClampNeg = k := nI_clamp (by omega)
  have w3 : (nI (k + 1)).toNatClampNeg = k + 1 := nI_clamp (by omega)
  have w4 : ∃ j : Nat, j ≤ 21 ∧ nI k = nI j ∧ ∀ q, q < j → 0 ≤ stR D (xP x) q ∧ stR D (xP x) q < 21 := ⟨k, by omega, rfl, fun q hq => ⟨(hs q (by omega)).1, Int32.lt_of_le_of_lt (hs q (by omega)).2 (by decide)⟩⟩
  have w5 : ∃ j : Nat, j ≤ 21 ∧ nI (k + 1) = nI j ∧ ∀ q, q < j → 0 ≤ stR D (xP x) q ∧ stR D (xP x) q < 21 := ⟨k + 1, by omega, rfl, fun q hq => ⟨(hs q (by omega)).1, Int32.lt_of_le_of_lt (hs q (by omega)).2 (by decide)⟩⟩
  obtain ⟨w6, -⟩ := hs k (by omega)
  obtain ⟨w7, w8⟩ := hs (k + 1) (by omega)
  refine ⟨by simp, by simp [cat1], [], noI, 20, 0, ?_, nohd⟩
  by_cases h0 : k = 0
  · subst h0
    have h0' : nI 0 = 0 := rfl
    have w4 : ∃ j : Nat, j ≤ 21 ∧ (0 : Int32) = nI j ∧ ∀ q, q < j → 0 ≤ stR D (xP x) q ∧ stR D (xP x) q < 21 := w4
    have w5 : ∃ j : Nat, j ≤ 21 ∧ (1 : Int32) = nI j ∧ ∀ q, q < j → 0 ≤ stR D (xP x) q ∧ stR D (xP x) q < 21 := w5
    simp only [↓x_iconst, ↓x_bipush, ↓x_sipush, ↓x_ldc, ↓x_iload_n, ↓x_iload, ↓x_aload_n, ↓x_aload, ↓x_istore_n, ↓x_istore, ↓x_astore_n, ↓x_astore, ↓x_iinc, ↓x_iadd, ↓x_isub, ↓x_imul, ↓x_iand, ↓x_idiv, ↓x_ineg, ↓x_i2c, ↓x_dupI, ↓x_dupA, ↓x_dup2, ↓x_goto, ↓x_get, ↓x_put, ↓x_gets, ↓x_iald, ↓x_bald, ↓x_cald, ↓x_aald, ↓x_iast, ↓x_bast, ↓x_cast, ↓x_aast, ↓x_alen, ↓x_iret, ↓x_vret, ↓x_nil, ↓x_jmp, ↓x_ldI0, ↓x_ldIs, ↓x_ldA0, ↓x_ldAs, ↓x_icmpT, ↓x_icmpF, ↓x_ifT, ↓x_ifF, x_iconst, x_bipush, x_sipush, x_ldc, x_iload_n, x_iload, x_aload_n, x_aload, x_istore_n, x_istore, x_astore_n, x_astore, x_iinc, x_iadd, x_isub, x_imul, x_iand, x_idiv, x_ineg, x_i2c, x_dupI, x_dupA, x_dup2, x_goto, x_if, x_icmp, x_get, x_put, x_gets, x_iald, x_bald, x_cald, x_aald, x_iast, x_bast, x_cast, x_aast, x_alen, x_iret, x_vret, x_nil, x_jmp, x_ldI0, x_ldIs, x_ldA0, x_ldAs, x_cad, x_cad2, x_fv0, x_fv1, x_fv2, x_fv3, cnd, fI, L0, c1, nL0, nL1, nL2, nL3, nL4, nL5, nL6, nL7, nL8, nL9, nL10, nL11, nL12, List.map_cons, List.map_nil, List.length_cons, List.length_nil, List.cons_append, List.nil_append, List.replicate_succ, List.replicate_zero, List.set_cons_zero, List.set_cons_succ, List.mem_cons, List.not_mem_nil, or_false, false_or, Option.toList_some, Option.toList_none, ↓reduceIte, if_true, if_false, Nat.reduceAdd, Nat.reduceSub, Nat.reduceEqDiff, Nat.reduceLT, Nat.reduceLeDiff, Int.reduceNatCast, Int.reduceNatCast', Int.reduceAdd, Int.reduceNeg, Int.reduceToNat, Int.reduceLE, Int.reduceLT, Int.reduceEq, Nat.zero_add, Nat.add_zero, and_true, true_and, ne_eq, not_false_eq_true, not_true_eq_false, and_self, implies_true, Bool.false_eq_true, Nat.reduceBEq, Int32.reduceOfInt, Int32.reduceAdd, Int32.reduceSub, Int32.reduceMul, Int32.reduceLE, Int32.reduceLT, Int32.reduceToNatClampNeg, Option.some.injEq, exists_eq_left, exists_eq_left', Option.isSome_some, Option.getD_some, vp_nar_int, pbi, eq_self, forall_const, false_implies, true_implies, false_and, and_false, uD_s, uG_s, uD_o, ad_nw, ad_wn, ad_ns, ad_sn, ad_ss, ad_ww, ad_sw, ad_ws, Int32.reduceToInt, Classical.not_not, d1n, d2n, d3n, d4n, d5n, d6n, d10n, inr, nL17, nL20, nL21, nL30, nL100, nL462, nL773, nL4638, bp6, bp7, bp8, bp9, bp10, bp11, bp12, bp13, bp14, bp15, bp16, bp17, bp20, bp21, bp29, bp30, bp31, bp33, bp45, bp48, bp49, bp50, bp57, bp59, bp97, bp99, bp100, bp102, spm1000, sp137, sp255, sp257, sp300, sp400, sp462, sp771, sp772, sp773, sp999, sp3865, sp4638, bX5_plannedWords_0, bX5_plannedWords_51, bX5_plannedWords_52, eX5_10, eX5_33, eX5_37, eX5_41, t_X2_sum, ↓x_inv4 naX5_174, x_inv4 naX5_174, rcX5_174, t_X3_startOf, ↓x_inv2 naX5_199, x_inv2 naX5_199, rcX5_199, kcX5_153, kcX5_51, kcX5_56, kcX5_57, sgX5_102, sgX5_86, sgX5_89, sgX5_99, xv_e, k0, g0, g1, g2, g3, m0, m1, n0, n1, n4, hN, hP, p0, w1, w2, w3, w4, w5, w6, w7, w8, h0']
    exact hQ
  · have h0' : ¬ nI k = 0 := nI_ne0 (by omega) (by omega)
    simp only [↓x_iconst, ↓x_bipush, ↓x_sipush, ↓x_ldc, ↓x_iload_n, ↓x_iload, ↓x_aload_n, ↓x_aload, ↓x_istore_n, ↓x_istore, ↓x_astore_n, ↓x_astore, ↓x_iinc, ↓x_iadd, ↓x_isub, ↓x_imul, ↓x_iand, ↓x_idiv, ↓x_ineg, ↓x_i2c, ↓x_dupI, ↓x_dupA, ↓x_dup2, ↓x_goto, ↓x_get, ↓x_put, ↓x_gets, ↓x_iald, ↓x_bald, ↓x_cald, ↓x_aald, ↓x_iast, ↓x_bast, ↓x_cast, ↓x_aast, ↓x_alen, ↓x_iret, ↓x_vret, ↓x_nil, ↓x_jmp, ↓x_ldI0, ↓x_ldIs, ↓x_ldA0, ↓x_ldAs, ↓x_icmpT, ↓x_icmpF, ↓x_ifT, ↓x_ifF, x_iconst, x_bipush, x_sipush, x_ldc, x_iload_n, x_iload, x_aload_n, x_aload, x_istore_n, x_istore, x_astore_n, x_astore, x_iinc, x_iadd, x_isub, x_imul, x_iand, x_idiv, x_ineg, x_i2c, x_dupI, x_dupA, x_dup2, x_goto, x_if, x_icmp, x_get, x_put, x_gets, x_iald, x_bald, x_cald, x_aald, x_iast, x_bast, x_cast, x_aast, x_alen, x_iret, x_vret, x_nil, x_jmp, x_ldI0, x_ldIs, x_ldA0, x_ldAs, x_cad, x_cad2, x_fv0, x_fv1, x_fv2, x_fv3, cnd, fI, L0, c1, nL0, nL1, nL2, nL3, nL4, nL5, nL6, nL7, nL8, nL9, nL10, nL11, nL12, List.map_cons, List.map_nil, List.length_cons, List.length_nil, List.cons_append, List.nil_append, List.replicate_succ, List.replicate_zero, List.set_cons_zero, List.set_cons_succ, List.mem_cons, List.not_mem_nil, or_false, false_or, Option.toList_some, Option.toList_none, ↓reduceIte, if_true, if_false, Nat.reduceAdd, Nat.reduceSub, Nat.reduceEqDiff, Nat.reduceLT, Nat.reduceLeDiff, Int.reduceNatCast, Int.reduceNatCast', Int.reduceAdd, Int.reduceNeg, Int.reduceToNat, Int.reduceLE, Int.reduceLT, Int.reduceEq, Nat.zero_add, Nat.add_zero, and_true, true_and, ne_eq, not_false_eq_true, not_true_eq_false, and_self, implies_true, Bool.false_eq_true, Nat.reduceBEq, Int32.reduceOfInt, Int32.reduceAdd, Int32.reduceSub, Int32.reduceMul, Int32.reduceLE, Int32.reduceLT, Int32.reduceToNatClampNeg, Option.some.injEq, exists_eq_left, exists_eq_left', Option.isSome_some, Option.getD_some, vp_nar_int, pbi, eq_self, forall_const, false_implies, true_implies, false_and, and_false, uD_s, uG_s, uD_o, ad_nw, ad_wn, ad_ns, ad_sn, ad_ss, ad_ww, ad_sw, ad_ws, Int32.reduceToInt, Classical.not_not, d1n, d2n, d3n, d4n, d5n, d6n, d10n, inr, nL17, nL20, nL21, nL30, nL100, nL462, nL773, nL4638, bp6, bp7, bp8, bp9, bp10, bp11, bp12, bp13, bp14, bp15, bp16, bp17, bp20, bp21, bp29, bp30, bp31, bp33, bp45, bp48, bp49, bp50, bp57, bp59, bp97, bp99, bp100, bp102, spm1000, sp137, sp255, sp257, sp300, sp400, sp462, sp771, sp772, sp773, sp999, sp3865, sp4638, bX5_plannedWords_0, bX5_plannedWords_51, bX5_plannedWords_52, eX5_10, eX5_33, eX5_37, eX5_41, t_X2_sum, ↓x_inv4 naX5_174, x_inv4 naX5_174, rcX5_174, t_X3_startOf, ↓x_inv2 naX5_199, x_inv2 naX5_199, rcX5_199, kcX5_153, kcX5_51, kcX5_56, kcX5_57, sgX5_102, sgX5_86, sgX5_89, sgX5_99, xv_e, k0, g0, g1, g2, g3, m0, m1, n0, n1, n4, hN, hP, p0, w1, w2, w3, w4, w5, w6, w7, w8, h0']
    unfold pwF at hQ
    rw [if_neg h0] at hQ
    exact hQ
