/-! ### opens; what an action records -/
def sN (D : DT) (a i : Nat) : Int32 := D (ms a) (nI i)
def opF (s : Nat → Int32) (p e : Nat) (w sl st t : Int32) (i : Nat) : Int32 :=
  if i = 0 then nI (e + 1) else if i = 137 + 6 * p then w else if i = 137 + 6 * p + 1 then sl else if i = 137 + 6 * p + 2 then st else if i = 137 + 6 * p + 3 then t else if i = 137 + 6 * p + 4 then 0 else if i = 137 + 6 * p + 5 then -100009 else if 137 + 6 * p + 6 ≤ i ∧ i < 137 + 6 * e + 6 then s (i - 6) else s i
def OpA (D E : DT) (a e q : Nat) : Prop := (∀ b, b ≠ ms a → E b = D b) ∧ ∀ i, i < 773 → E (ms a) (nI i) = if 137 + q + 6 ≤ i ∧ i < 137 + 6 * e + 6 then D (ms a) (nI (i - 6)) else D (ms a) (nI i)
theorem OpA_0 {D : DT} {a e : Nat} : OpA D D a e (6 * e) := ⟨fun _ _ => rfl, fun i hi => by rw [if_neg (by omega)]⟩
theorem OpA_s {D E : DT} {a e q : Nat} (h : OpA D E a e (q + 1)) (hq : q < 6 * e) (he : e < 20) : OpA D (uD E (ms a) (nI (137 + q + 6)) (E (ms a) (nI (137 + q)))) a e q := by
  obtain ⟨h1, h2⟩ := h
  refine ⟨fun b hb => by rw [uD_o hb]; exact h1 b hb, fun i hi => ?_⟩
  by_cases q2 : i = 137 + q + 6
  · subst q2
    rw [uD_eq, h2 _ (by omega), if_neg (by omega), if_pos (by omega)]
    exact congrArg (fun z => D (ms a) (nI z)) (by omega)
  · rw [uD_at' (by omega) (by omega) (fun _ => q2), h2 i hi]
    by_cases q3 : 137 + q + 6 ≤ i ∧ i < 137 + 6 * e + 6
    · rw [if_pos q3, if_pos (by omega)]
    · rw [if_neg q3, if_neg (by omega)]
theorem OpA_e {D E : DT} {a e p : Nat} {w sl st t z : Int32} (h : OpA D E a e (6 * p)) (he : e < 20) (hp : p ≤ e) (hz : z = nI (e + 1)) : ∀ i, i < 773 → uD (uD (uD (uD (uD (uD (uD E (ms a) (nI (137 + 6 * p)) w) (ms a) (nI (137 + 6 * p + 1)) sl) (ms a) (nI (137 + 6 * p + 2)) st) (ms a) (nI (137 + 6 * p + 3)) t) (ms a) (nI (137 + 6 * p + 4)) 0) (ms a) (nI (137 + 6 * p + 5)) (-100009)) (ms a) (nI 0) z (ms a) (nI i) = opF (sN D a) p e w sl st t i := by
  obtain ⟨h1, h2⟩ := h
  intro i hi
  unfold opF
  by_cases q0 : i = 0
  · subst q0
    rw [uD_eq, if_pos rfl, hz]
  · rw [if_neg q0, uD_at' (by omega) (by omega) (fun _ => q0)]
    by_cases q1 : i = 137 + 6 * p
    · rw [if_pos q1, q1, uD_at' (by omega) (by omega) (fun _ => by omega), uD_at' (by omega) (by omega) (fun _ => by omega), uD_at' (by omega) (by omega) (fun _ => by omega), uD_at' (by omega) (by omega) (fun _ => by omega), uD_at' (by omega) (by omega) (fun _ => by omega), uD_eq]
    · rw [if_neg q1]
      by_cases q2 : i = 137 + 6 * p + 1
      · rw [if_pos q2, q2, uD_at' (by omega) (by omega) (fun _ => by omega), uD_at' (by omega) (by omega) (fun _ => by omega), uD_at' (by omega) (by omega) (fun _ => by omega), uD_at' (by omega) (by omega) (fun _ => by omega), uD_eq]
      · rw [if_neg q2]
        by_cases q3 : i = 137 + 6 * p + 2
        · rw [if_pos q3, q3, uD_at' (by omega) (by omega) (fun _ => by omega), uD_at' (by omega) (by omega) (fun _ => by omega), uD_at' (by omega) (by omega) (fun _ => by omega), uD_eq]
        · rw [if_neg q3]
          by_cases q4 : i = 137 + 6 * p + 3
          · rw [if_pos q4, q4, uD_at' (by omega) (by omega) (fun _ => by omega), uD_at' (by omega) (by omega) (fun _ => by omega), uD_eq]
          · rw [if_neg q4]
            by_cases q5 : i = 137 + 6 * p + 4
            · rw [if_pos q5, q5, uD_at' (by omega) (by omega) (fun _ => by omega), uD_eq]
            · rw [if_neg q5]
              by_cases q6 : i = 137 + 6 * p + 5
              · rw [if_pos q6, q6, uD_eq]
              · rw [if_neg q6, uD_at' (by omega) (by omega) (fun _ => q6), uD_at' (by omega) (by omega) (fun _ => q5), uD_at' (by omega) (by omega) (fun _ => q4), uD_at' (by omega) (by omega) (fun _ => q3), uD_at' (by omega) (by omega) (fun _ => q2), uD_at' (by omega) (by omega) (fun _ => q1), h2 i hi]
                rfl
def t_X6_opens : TR := fun K _ _ As G D Q => match As with
  | [.ref a, .int x, .int w, .int sl, .int st, .int t] => Mod K G a ∧ (0 ≤ x ∧ x ≤ D (ms a) 0 ∧ D (ms a) 0 < 20) ∧ ∀ E, (∀ b, b ≠ ms a → E b = D b) → (∀ i, i < 773 → E (ms a) (nI i) = opF (sN D a) x.toNatClampNeg (D (ms a) 0).toNatClampNeg w sl st t i) → Q none G E
  | _ => False
set_option maxRecDepth 100000 in
set_option maxHeartbeats 4000000 in
theorem s_X6_opens (l : Launch) : Sat l yX6_opens cX6_opens 7 none 0 t_X6_opens := by
  refine satb (own := RX6) (fl := flX6) (sg := sgX6) (kc := kcX6) (na := naX6) (rc := rcX6) (cv := cNone) (cs := cNone) (bl := bX6_opens) (by decide +kernel) rfl envX6 bokX6_opens cvNone csNone ?_
  intro L K R0 sa hPp As G D Q htr
  unfold t_X6_opens at htr
  split at htr
  case h_2 => exact htr.elim
  rename_i a x w sl st t
  obtain ⟨hM, ⟨b1, b2, b3⟩, hQ⟩ := htr
  obtain ⟨a, rfl⟩ : ∃ q : Nat, q = a := ⟨_, rfl⟩
  obtain ⟨⟨k0, g0, g1, g2, g4, g8, g9, g10, g11, g12⟩, k1, k2, k3, k4, k5, k6, k7, k8, k9⟩ := id hM
  have na : a ≠ ms a := by unfold ms; omega
  obtain ⟨p, hp, rfl⟩ := nI_of (x := x) (Int32.not_lt.mpr b1)
  obtain ⟨e, he, he2⟩ := nI_of (x := D (ms a) 0) (Int32.not_lt.mpr (Int32.le_trans b1 b2))
  rw [he2, nI_clamp hp, nI_clamp he] at hQ
  have he20 : e < 20 := by
    rw [he2] at b3
    exact (nI_ltI (b := 20) he (by decide)).mp b3
  have hpe : p ≤ e := by
    rw [he2] at b2
    exact (nI_leI hp he).mp b2
  have u0 : 6 * D (ms a) 0 - 1 = nI (6 * e) - 1 := by rw [he2, show (6 : Int32) = nI 6 from rfl, pk_mul]
  have u6 : 6 * nI p = nI (6 * p) := by rw [show (6 : Int32) = nI 6 from rfl, pk_mul]
  refine ⟨by simp, by simp [cat1], [13], fun k pc LL stk G' D' => ∃ q : Nat, LL = [some (.ref a), some (.int (nI p)), some (.int w), some (.int sl), some (.int st), some (.int t), some (.int (nI q - 1))] ∧ stk = [] ∧ G' = G ∧ OpA D D' a e q ∧ 6 * p ≤ q ∧ q ≤ 6 * e ∧ k = q, 30, 30, ?_, ?_⟩
  · simp only [↓x_iconst, ↓x_bipush, ↓x_sipush, ↓x_ldc, ↓x_iload_n, ↓x_iload, ↓x_aload_n, ↓x_aload, ↓x_istore_n, ↓x_istore, ↓x_astore_n, ↓x_astore, ↓x_iinc, ↓x_iadd, ↓x_isub, ↓x_imul, ↓x_iand, ↓x_idiv, ↓x_ineg, ↓x_i2c, ↓x_dupI, ↓x_dupA, ↓x_dup2, ↓x_goto, ↓x_get, ↓x_put, ↓x_gets, ↓x_iald, ↓x_bald, ↓x_cald, ↓x_aald, ↓x_iast, ↓x_bast, ↓x_cast, ↓x_aast, ↓x_alen, ↓x_iret, ↓x_vret, ↓x_nil, ↓x_jmp, ↓x_ldI0, ↓x_ldIs, ↓x_ldA0, ↓x_ldAs, ↓x_icmpT, ↓x_icmpF, ↓x_ifT, ↓x_ifF, x_iconst, x_bipush, x_sipush, x_ldc, x_iload_n, x_iload, x_aload_n, x_aload, x_istore_n, x_istore, x_astore_n, x_astore, x_iinc, x_iadd, x_isub, x_imul, x_iand, x_idiv, x_ineg, x_i2c, x_dupI, x_dupA, x_dup2, x_goto, x_if, x_icmp, x_get, x_put, x_gets, x_iald, x_bald, x_cald, x_aald, x_iast, x_bast, x_cast, x_aast, x_alen, x_iret, x_vret, x_nil, x_jmp, x_ldI0, x_ldIs, x_ldA0, x_ldAs, x_cad, x_cad2, x_fv0, x_fv1, x_fv2, x_fv3, cnd, fI, L0, c1, nL0, nL1, nL2, nL3, nL4, nL5, nL6, nL7, nL8, nL9, nL10, nL11, nL12, List.map_cons, List.map_nil, List.length_cons, List.length_nil, List.cons_append, List.nil_append, List.replicate_succ, List.replicate_zero, List.set_cons_zero, List.set_cons_succ, List.mem_cons, List.not_mem_nil, or_false, false_or, Option.toList_some, Option.toList_none, ↓reduceIte, if_true, if_false, Nat.reduceAdd, Nat.reduceSub, Nat.reduceEqDiff, Nat.reduceLT, Nat.reduceLeDiff, Int.reduceNatCast, Int.reduceNatCast', Int.reduceAdd, Int.reduceNeg, Int.reduceToNat, Int.reduceLE, Int.reduceLT, Int.reduceEq, Nat.zero_add, Nat.add_zero, and_true, true_and, ne_eq, not_false_eq_true, not_true_eq_false, and_self, implies_true, Bool.false_eq_true, Nat.reduceBEq, Int32.reduceOfInt, Int32.reduceAdd, Int32.reduceSub, Int32.reduceMul, Int32.reduceLE, Int32.reduceLT, Int32.reduceToNatClampNeg, Option.some.injEq, exists_eq_left, exists_eq_left', Option.isSome_some, Option.getD_some, vp_nar_int, pbi, eq_self, forall_const, false_implies, true_implies, false_and, and_false, uD_s, uG_s, uD_o, ad_nw, ad_wn, ad_ns, ad_sn, ad_ss, ad_ww, ad_sw, ad_ws, Int32.reduceToInt, Classical.not_not, d1n, d2n, d3n, d4n, d5n, d6n, d10n, inr, nL17, nL20, nL21, nL30, nL100, nL462, nL773, nL4638, bp6, bp7, bp8, bp9, bp10, bp11, bp12, bp13, bp14, bp15, bp16, bp17, bp20, bp21, bp29, bp30, bp31, bp33, bp45, bp48, bp49, bp50, bp57, bp59, bp97, bp99, bp100, bp102, spm1000, sp137, sp255, sp257, sp300, sp400, sp462, sp771, sp772, sp773, sp999, sp3865, sp4638, bX6_opens_0, bX6_opens_13, bX6_opens_53, eX6_7, kcX6_38, kcX6_76, kcX6_77, kcX6_78, k0, g0, g1, g2, g4, g8, g9, g10, g11, g12, k1, k2, k3, k4, k5, k6, k7, k8, k9, u0]
    exact ⟨_, 6 * e, rfl, OpA_0, by omega, by omega, rfl⟩
  · rintro k pc hpc LL stk G' D' ⟨q, rfl, rfl, rfl, hI, hq1, hq2, rfl⟩
    obtain rfl := List.mem_singleton.mp hpc
    rcases Nat.lt_or_ge (6 * p) k with h | h
    · obtain ⟨q, rfl⟩ : ∃ q, k = q + 1 := ⟨k - 1, by omega⟩
      have e1 : nI (q + 1) - 1 = nI q := nI_pred q
      rw [e1]
      have c1' : ¬ nI q < nI (6 * p) := Int32.not_lt.mpr ((nI_leI (by omega) (by omega)).mpr (by omega))
      have u1 : 137 + nI q = nI (137 + q) := by rw [show (137 : Int32) = nI 137 from rfl, nI_add]
      have u2 : nI (137 + q) + 6 = nI (137 + q + 6) := by rw [show (6 : Int32) = nI 6 from rfl, nI_add]
      have z1 : 0 ≤ nI (137 + q) := nI_pos' (by omega)
      have z2 : nI (137 + q) < 773 := (nI_ltI (b := 773) (by omega) (by decide)).mpr (by omega)
      have z3 : 0 ≤ nI (137 + q + 6) := nI_pos' (by omega)
      have z4 : nI (137 + q + 6) < 773 := (nI_ltI (b := 773) (by omega) (by decide)).mpr (by omega)
      have u3 : nI q + -1 = nI q - 1 := i_m1
      simp only [↓x_iconst, ↓x_bipush, ↓x_sipush, ↓x_ldc, ↓x_iload_n, ↓x_iload, ↓x_aload_n, ↓x_aload, ↓x_istore_n, ↓x_istore, ↓x_astore_n, ↓x_astore, ↓x_iinc, ↓x_iadd, ↓x_isub, ↓x_imul, ↓x_iand, ↓x_idiv, ↓x_ineg, ↓x_i2c, ↓x_dupI, ↓x_dupA, ↓x_dup2, ↓x_goto, ↓x_get, ↓x_put, ↓x_gets, ↓x_iald, ↓x_bald, ↓x_cald, ↓x_aald, ↓x_iast, ↓x_bast, ↓x_cast, ↓x_aast, ↓x_alen, ↓x_iret, ↓x_vret, ↓x_nil, ↓x_jmp, ↓x_ldI0, ↓x_ldIs, ↓x_ldA0, ↓x_ldAs, ↓x_icmpT, ↓x_icmpF, ↓x_ifT, ↓x_ifF, x_iconst, x_bipush, x_sipush, x_ldc, x_iload_n, x_iload, x_aload_n, x_aload, x_istore_n, x_istore, x_astore_n, x_astore, x_iinc, x_iadd, x_isub, x_imul, x_iand, x_idiv, x_ineg, x_i2c, x_dupI, x_dupA, x_dup2, x_goto, x_if, x_icmp, x_get, x_put, x_gets, x_iald, x_bald, x_cald, x_aald, x_iast, x_bast, x_cast, x_aast, x_alen, x_iret, x_vret, x_nil, x_jmp, x_ldI0, x_ldIs, x_ldA0, x_ldAs, x_cad, x_cad2, x_fv0, x_fv1, x_fv2, x_fv3, cnd, fI, L0, c1, nL0, nL1, nL2, nL3, nL4, nL5, nL6, nL7, nL8, nL9, nL10, nL11, nL12, List.map_cons, List.map_nil, List.length_cons, List.length_nil, List.cons_append, List.nil_append, List.replicate_succ, List.replicate_zero, List.set_cons_zero, List.set_cons_succ, List.mem_cons, List.not_mem_nil, or_false, false_or, Option.toList_some, Option.toList_none, ↓reduceIte, if_true, if_false, Nat.reduceAdd, Nat.reduceSub, Nat.reduceEqDiff, Nat.reduceLT, Nat.reduceLeDiff, Int.reduceNatCast, Int.reduceNatCast', Int.reduceAdd, Int.reduceNeg, Int.reduceToNat, Int.reduceLE, Int.reduceLT, Int.reduceEq, Nat.zero_add, Nat.add_zero, and_true, true_and, ne_eq, not_false_eq_true, not_true_eq_false, and_self, implies_true, Bool.false_eq_true, Nat.reduceBEq, Int32.reduceOfInt, Int32.reduceAdd, Int32.reduceSub, Int32.reduceMul, Int32.reduceLE, Int32.reduceLT, Int32.reduceToNatClampNeg, Option.some.injEq, exists_eq_left, exists_eq_left', Option.isSome_some, Option.getD_some, vp_nar_int, pbi, eq_self, forall_const, false_implies, true_implies, false_and, and_false, uD_s, uG_s, uD_o, ad_nw, ad_wn, ad_ns, ad_sn, ad_ss, ad_ww, ad_sw, ad_ws, Int32.reduceToInt, Classical.not_not, d1n, d2n, d3n, d4n, d5n, d6n, d10n, inr, nL17, nL20, nL21, nL30, nL100, nL462, nL773, nL4638, bp6, bp7, bp8, bp9, bp10, bp11, bp12, bp13, bp14, bp15, bp16, bp17, bp20, bp21, bp29, bp30, bp31, bp33, bp45, bp48, bp49, bp50, bp57, bp59, bp97, bp99, bp100, bp102, spm1000, sp137, sp255, sp257, sp300, sp400, sp462, sp771, sp772, sp773, sp999, sp3865, sp4638, bX6_opens_0, bX6_opens_13, bX6_opens_53, eX6_7, kcX6_38, kcX6_76, kcX6_77, kcX6_78, k0, g0, g1, g2, g4, g8, g9, g10, g11, g12, k1, k2, k3, k4, k5, k6, k7, k8, k9, u6, c1', u1, u2, u3, z1, z2, z3, z4]
      exact ⟨_, by omega, q, rfl, OpA_s hI (by omega) he20, by omega, by omega, rfl⟩
    · obtain rfl : k = 6 * p := by omega
      have c1' : nI (6 * p) - 1 < nI (6 * p) := by
        cases p with
        | zero => decide
        | succ p => 
          rw [show 6 * (p + 1) = 6 * p + 5 + 1 by omega, nI_pred]
          exact (nI_ltI (by omega) (by omega)).mpr (by omega)
      have u1 : 137 + nI (6 * p) = nI (137 + 6 * p) := by rw [show (137 : Int32) = nI 137 from rfl, nI_add]
      have v1 : nI (137 + 6 * p) + 1 = nI (137 + 6 * p + 1) := nI_1 _
      have v2 : nI (137 + 6 * p) + 2 = nI (137 + 6 * p + 2) := by rw [show (2 : Int32) = nI 2 from rfl, nI_add]
      have v3 : nI (137 + 6 * p) + 3 = nI (137 + 6 * p + 3) := by rw [show (3 : Int32) = nI 3 from rfl, nI_add]
      have v4 : nI (137 + 6 * p) + 4 = nI (137 + 6 * p + 4) := by rw [show (4 : Int32) = nI 4 from rfl, nI_add]
      have v5 : nI (137 + 6 * p) + 5 = nI (137 + 6 * p + 5) := by rw [show (5 : Int32) = nI 5 from rfl, nI_add]
      have zz : ∀ j, j < 6 → 0 ≤ nI (137 + 6 * p + j) ∧ nI (137 + 6 * p + j) < 773 := fun j hj => ⟨nI_pos' (by omega), (nI_ltI (b := 773) (by omega) (by decide)).mpr (by omega)⟩
      obtain ⟨y0, x0⟩ := zz 0 (by omega)
      obtain ⟨y1, x1⟩ := zz 1 (by omega)
      obtain ⟨y2, x2⟩ := zz 2 (by omega)
      obtain ⟨y3, x3⟩ := zz 3 (by omega)
      obtain ⟨y4, x4⟩ := zz 4 (by omega)
      obtain ⟨y5, x5⟩ := zz 5 (by omega)
      have y0 : 0 ≤ nI (137 + 6 * p) := y0
      have x0 : nI (137 + 6 * p) < 773 := x0
      have key := OpA_e (w := w) (sl := sl) (st := st) (t := t) hI he20 hpe rfl
      have d0 : D' (ms a) 0 = nI e := by
        rw [← he2, show (0 : Int32) = nI 0 from rfl, hI.2 0 (by omega), if_neg (by omega)]
      have nz : ∀ j, j < 6 → ((nI (137 + 6 * p + j)).toInt = 0) = False := fun j hj => eq_false (by rw [nI_toInt (by omega)]; omega)
      have n0 : ((nI (137 + 6 * p)).toInt = 0) = False := nz 0 (by omega)
      have n1 := nz 1 (by omega)
      have n2 := nz 2 (by omega)
      have n3 := nz 3 (by omega)
      have n4 := nz 4 (by omega)
      have n5 := nz 5 (by omega)
      have uo : ∀ (E : DT) i x, uD E (ms a) i x a = E a := fun E i x => uD_o na
      have hge : nI e + 1 = nI (e + 1) := nI_1 e
      generalize hE5 : uD (uD (uD (uD (uD (uD D' (ms a) (nI (137 + 6 * p)) w) (ms a) (nI (137 + 6 * p + 1)) sl) (ms a) (nI (137 + 6 * p + 2)) st) (ms a) (nI (137 + 6 * p + 3)) t) (ms a) (nI (137 + 6 * p + 4)) 0) (ms a) (nI (137 + 6 * p + 5)) (-100009) = E5 at key
      simp only [↓x_iconst, ↓x_bipush, ↓x_sipush, ↓x_ldc, ↓x_iload_n, ↓x_iload, ↓x_aload_n, ↓x_aload, ↓x_istore_n, ↓x_istore, ↓x_astore_n, ↓x_astore, ↓x_iinc, ↓x_iadd, ↓x_isub, ↓x_imul, ↓x_iand, ↓x_idiv, ↓x_ineg, ↓x_i2c, ↓x_dupI, ↓x_dupA, ↓x_dup2, ↓x_goto, ↓x_get, ↓x_put, ↓x_gets, ↓x_iald, ↓x_bald, ↓x_cald, ↓x_aald, ↓x_iast, ↓x_bast, ↓x_cast, ↓x_aast, ↓x_alen, ↓x_iret, ↓x_vret, ↓x_nil, ↓x_jmp, ↓x_ldI0, ↓x_ldIs, ↓x_ldA0, ↓x_ldAs, ↓x_icmpT, ↓x_icmpF, ↓x_ifT, ↓x_ifF, x_iconst, x_bipush, x_sipush, x_ldc, x_iload_n, x_iload, x_aload_n, x_aload, x_istore_n, x_istore, x_astore_n, x_astore, x_iinc, x_iadd, x_isub, x_imul, x_iand, x_idiv, x_ineg, x_i2c, x_dupI, x_dupA, x_dup2, x_goto, x_if, x_icmp, x_get, x_put, x_gets, x_iald, x_bald, x_cald, x_aald, x_iast, x_bast, x_cast, x_aast, x_alen, x_iret, x_vret, x_nil, x_jmp, x_ldI0, x_ldIs, x_ldA0, x_ldAs, x_cad, x_cad2, x_fv0, x_fv1, x_fv2, x_fv3, cnd, fI, L0, c1, nL0, nL1, nL2, nL3, nL4, nL5, nL6, nL7, nL8, nL9, nL10, nL11, nL12, List.map_cons, List.map_nil, List.length_cons, List.length_nil, List.cons_append, List.nil_append, List.replicate_succ, List.replicate_zero, List.set_cons_zero, List.set_cons_succ, List.mem_cons, List.not_mem_nil, or_false, false_or, Option.toList_some, Option.toList_none, ↓reduceIte, if_true, if_false, Nat.reduceAdd, Nat.reduceSub, Nat.reduceEqDiff, Nat.reduceLT, Nat.reduceLeDiff, Int.reduceNatCast, Int.reduceNatCast', Int.reduceAdd, Int.reduceNeg, Int.reduceToNat, Int.reduceLE, Int.reduceLT, Int.reduceEq, Nat.zero_add, Nat.add_zero, and_true, true_and, ne_eq, not_false_eq_true, not_true_eq_false, and_self, implies_true, Bool.false_eq_true, Nat.reduceBEq, Int32.reduceOfInt, Int32.reduceAdd, Int32.reduceSub, Int32.reduceMul, Int32.reduceLE, Int32.reduceLT, Int32.reduceToNatClampNeg, Option.some.injEq, exists_eq_left, exists_eq_left', Option.isSome_some, Option.getD_some, vp_nar_int, pbi, eq_self, forall_const, false_implies, true_implies, false_and, and_false, uD_s, uG_s, uD_o, ad_nw, ad_wn, ad_ns, ad_sn, ad_ss, ad_ww, ad_sw, ad_ws, Int32.reduceToInt, Classical.not_not, d1n, d2n, d3n, d4n, d5n, d6n, d10n, inr, nL17, nL20, nL21, nL30, nL100, nL462, nL773, nL4638, bp6, bp7, bp8, bp9, bp10, bp11, bp12, bp13, bp14, bp15, bp16, bp17, bp20, bp21, bp29, bp30, bp31, bp33, bp45, bp48, bp49, bp50, bp57, bp59, bp97, bp99, bp100, bp102, spm1000, sp137, sp255, sp257, sp300, sp400, sp462, sp771, sp772, sp773, sp999, sp3865, sp4638, bX6_opens_0, bX6_opens_13, bX6_opens_53, eX6_7, kcX6_38, kcX6_76, kcX6_77, kcX6_78, k0, g0, g1, g2, g4, g8, g9, g10, g11, g12, k1, k2, k3, k4, k5, k6, k7, k8, k9, u6, c1', u1, v1, v2, v3, v4, v5, y0, x0, y1, x1, y2, x2, y3, x3, y4, x4, y5, x5, hE5, d0, hge, n0, n1, n2, n3, n4, n5]
      refine hQ _ (fun b hb => ?_) key
      rw [uD_o hb, ← hE5, uD_o hb, uD_o hb, uD_o hb, uD_o hb, uD_o hb, uD_o hb]
      exact hI.1 b hb
def MRec (D E : DT) (a : Nat) (f : Nat → Int32) : Prop := (∀ b, b ≠ a → b ≠ ms a → b ≠ mw a → b ≠ mb a → E b = D b) ∧ (∀ i, ¬ i = 3 → E a i = D a i) ∧ E a 3 = nI (actN (D a 3) + 1) ∧ (∀ k, k < 773 → E (mw a) (nI (773 * actN (D a 3) + k)) = D (ms a) (nI k)) ∧ (∀ i k, i < actN (D a 3) → k < 773 → E (mw a) (nI (773 * i + k)) = D (mw a) (nI (773 * (i + actH (D a 3)) + k))) ∧ ∀ k, k < 773 → E (ms a) (nI k) = f k
theorem rec_mk {D D2 E : DT} {a : Nat} {f : Nat → Int32} (h1 : ∀ b, b ≠ ms a → b ≠ mb a → D2 b = D b) (h2 : ∀ k, k < 773 → D2 (mb a) (nI k) = D (ms a) (nI k)) (h3 : ∀ k, k < 773 → D2 (ms a) (nI k) = f k) (hE : ActP D2 E a (actN (D a 3)) (actH (D a 3))) : MRec D E a f := by
  obtain ⟨e1, e2, e3, e4, e5⟩ := hE
  have na : D2 a = D a := h1 a (by unfold ms; omega) (by unfold mb; omega)
  have nw : D2 (mw a) = D (mw a) := h1 (mw a) (by unfold mw ms; omega) (by unfold mw mb; omega)
  refine ⟨fun b b1 b2 b3 b4 => (e1 b b1 b3).trans (h1 b b2 b4), fun i hi => by rw [e3 i hi, na], e2, fun k hk => (e4 k hk).trans (h2 k hk), fun i k hi hk => by rw [e5 i k hi hk, nw], fun k hk => ?_⟩
  rw [e1 (ms a) (by unfold ms; omega) (by unfold mw ms; omega)]
  exact h3 k hk
def kD (D : DT) (a : Nat) : DT := cpD D (ms a) (mb a) 773
theorem kd_e {D : DT} {a : Nat} : cpD D (ms a) (mb a) 773 = kD D a := rfl
theorem kd_o {D : DT} {a b : Nat} (h : b ≠ mb a) : kD D a b = D b := by
  funext i
  unfold kD cpD
  rw [if_neg (fun q => h q.1)]
theorem kd_s {D : DT} {a : Nat} : kD D a (ms a) = D (ms a) := kd_o (by unfold ms mb; omega)
theorem kd_a {D : DT} {a : Nat} : kD D a a = D a := kd_o (by unfold mb; omega)
theorem kd_b {D : DT} {a k : Nat} (h : k < 773) : kD D a (mb a) (nI k) = D (ms a) (nI k) := by
  unfold kD cpD
  rw [if_pos ⟨rfl, nI_pos' (by omega), (nI_ltI (b := 773) (by omega) (by decide)).mpr h⟩]
theorem uD_sub {E D : DT} {b : Nat} {i x : Int32} (h : E b = D b) : uD E b i x b = uD D b i x b := by
  funext j
  unfold uD
  rw [h]
/-- D2 is what an action makes of the numbers: all else as it was kept -/
def Only (D D2 : DT) (a : Nat) : Prop := ∀ b, b ≠ ms a → D2 b = kD D a b
theorem Only.k {D : DT} {a : Nat} : Only D (kD D a) a := fun _ _ => rfl
theorem Only.u {D D2 : DT} {a : Nat} {i x : Int32} (h : Only D D2 a) : Only D (uD D2 (ms a) i x) a := fun b hb => by rw [uD_o hb]; exact h b hb
theorem rec_on {D D2 E : DT} {a : Nat} {f : Nat → Int32} (h1 : Only D D2 a) (h3 : ∀ k, k < 773 → D2 (ms a) (nI k) = f k) (hE : ActP D2 E a (actN (D a 3)) (actH (D a 3))) : MRec D E a f :=
  rec_mk (fun b b1 b2 => (h1 b b1).trans (kd_o b2)) (fun k hk => by rw [h1 (mb a) (by unfold ms mb; omega)]; exact kd_b hk) h3 hE
