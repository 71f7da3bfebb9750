/-! ### the model reads a scene -/
def slW (c : Int32 → Int32) (l x : Int32) : Int32 := if chF c l x = 45 then numV c l (x + 1) else 0
def tnP (c : Int32 → Int32) (l x : Int32) : Int32 := if chF c l x = 33 then (if inV (chF c l (x + 1)) 48 57 = 0 then x + 1 else x + 1 + 1) else x
/-- where a scene ends, or its fault lies -/
def scP (c : Int32 → Int32) (l x : Int32) : Int32 := if inV (chF c l x) 97 102 = 0 then x else if numV c l (x + 1) = 0 then numE c l (x + 1) else if slkV c l (numE c l (x + 1)) = 0 then slkE c l (numE c l (x + 1)) else tnP c l (slkE c l (numE c l (x + 1)))
def tnW (c : Int32 → Int32) (l x : Int32) : Int32 := chF c l (slkE c l (numE c l (x + 1)) + 1) - 48
theorem num_nn {c : Int32 → Int32} {l x : Int32} : 0 ≤ numV c l x ∧ numV c l x ≤ 999 := by
  rw [num_e.1]
  have d : ∀ (v lo : Int32), 48 ≤ lo → lo ≤ 49 → ¬ inV v lo 57 = 0 → (v - 48).toInt = v.toInt - 48 ∧ 48 ≤ v.toInt ∧ v.toInt ≤ 57 := by
    intro v lo h1 h2 h
    have := fun q => h (inV_p.mpr q)
    have a1 : ¬ v < lo := fun q => this (Or.inl q)
    have a2 : ¬ (57 : Int32) < v := fun q => this (Or.inr q)
    simp only [i_lt, i_le, Int32.reduceToInt] at a1 a2 h1 h2
    refine ⟨?_, by omega, by omega⟩
    rw [a_sub (by simp only [Int32.reduceToInt]; omega)]
    rfl
  by_cases h1 : inV (chF c l x) 49 57 = 0
  · rw [if_pos h1]
    exact ⟨by decide, by decide⟩
  · rw [if_neg h1]
    obtain ⟨e1, e2, e3⟩ := d _ _ (by decide) (by decide) h1
    have t10 : (10 : Int32).toInt = 10 := rfl
    have t48 : (48 : Int32).toInt = 48 := rfl
    have m1 : (10 * (chF c l x - 48)).toInt = 10 * (chF c l x - 48).toInt := by
      rw [a_mul (by rw [t10]; omega), t10]
    by_cases h2 : inV (chF c l (x + 1)) 48 57 = 0
    · rw [if_pos h2, i_le, i_le, e1]
      simp only [Int32.reduceToInt]
      omega
    · rw [if_neg h2]
      obtain ⟨f1, f2, f3⟩ := d _ _ (by decide) (by decide) h2
      have m2 : (10 * (chF c l x - 48) + chF c l (x + 1) - 48).toInt = 10 * (chF c l x).toInt - 480 + (chF c l (x + 1)).toInt - 48 := by
        have : (10 * (chF c l x - 48) + chF c l (x + 1)).toInt = 10 * (chF c l x).toInt - 480 + (chF c l (x + 1)).toInt := by
          rw [a_add (by omega), m1, e1]
          omega
        rw [a_sub (by rw [this, t48]; omega), this, t48]
      by_cases h3 : inV (chF c l (x + 1 + 1)) 48 57 = 0
      · rw [if_pos h3, i_le, i_le, m2]
        simp only [Int32.reduceToInt]
        omega
      · rw [if_neg h3]
        obtain ⟨g1, g2, g3⟩ := d _ _ (by decide) (by decide) h3
        have m3 : (10 * (10 * (chF c l x - 48) + chF c l (x + 1) - 48)).toInt = 10 * (10 * (chF c l x - 48) + chF c l (x + 1) - 48).toInt := by
          rw [a_mul (by rw [t10]; omega), t10]
        have m4 : (10 * (10 * (chF c l x - 48) + chF c l (x + 1) - 48) + chF c l (x + 1 + 1)).toInt = 10 * (10 * (chF c l x - 48) + chF c l (x + 1) - 48).toInt + (chF c l (x + 1 + 1)).toInt := by
          rw [a_add (by omega), m3]
        rw [i_le, i_le, a_sub (by rw [m4, t48]; omega), m4, t48, m2]
        simp only [Int32.reduceToInt]
        omega
def RsF (D E : DT) (a n : Nat) : Prop := (∀ b, b ≠ a → b ≠ mr a → E b = D b) ∧ (∀ i, ¬ i = 6 → ¬ i = 7 → E a i = D a i) ∧ ∀ j, j < 4 * n → E (mr a) (nI j) = D (mr a) (nI j)
def RsP (D E : DT) (a n : Nat) : Prop := RsF D E a n ∧ E a 6 = scP (D (mx a)) (D a 5) (D a 6) ∧ (scnV (D (mx a)) (D a 5) (D a 6) = 0 → E a 7 = D a 7) ∧ (¬ scnV (D (mx a)) (D a 5) (D a 6) = 0 → E a 7 = D a 7 + 1 ∧ E (mr a) (nI (4 * n)) = numV (D (mx a)) (D a 5) (D a 6 + 1) ∧ E (mr a) (nI (4 * n + 1)) = slW (D (mx a)) (D a 5) (numE (D (mx a)) (D a 5) (D a 6 + 1)) ∧ E (mr a) (nI (4 * n + 2)) = chF (D (mx a)) (D a 5) (D a 6) - 97 ∧ E (mr a) (nI (4 * n + 3)) = tnW (D (mx a)) (D a 5) (D a 6))
/-- ahead of the tension -/
def RsM (D E : DT) (a n : Nat) (is : Int32) : Prop := RsF D E a n ∧ E a 7 = D a 7 ∧ ¬ inV (chF (D (mx a)) (D a 5) (D a 6)) 97 102 = 0 ∧ ((is = 0 ∧ (numV (D (mx a)) (D a 5) (D a 6 + 1) = 0 ∨ slkV (D (mx a)) (D a 5) (numE (D (mx a)) (D a 5) (D a 6 + 1)) = 0) ∧ E a 6 = scP (D (mx a)) (D a 5) (D a 6)) ∨ (is = 1 ∧ ¬ numV (D (mx a)) (D a 5) (D a 6 + 1) = 0 ∧ ¬ slkV (D (mx a)) (D a 5) (numE (D (mx a)) (D a 5) (D a 6 + 1)) = 0 ∧ E a 6 = slkE (D (mx a)) (D a 5) (numE (D (mx a)) (D a 5) (D a 6 + 1)) ∧ E (mr a) (nI (4 * n)) = numV (D (mx a)) (D a 5) (D a 6 + 1) ∧ E (mr a) (nI (4 * n + 1)) = slW (D (mx a)) (D a 5) (numE (D (mx a)) (D a 5) (D a 6 + 1)) ∧ E (mr a) (nI (4 * n + 2)) = chF (D (mx a)) (D a 5) (D a 6) - 97))
theorem scn_e {c : Int32 → Int32} {l x : Int32} : scnV c l x = if inV (chF c l x) 97 102 = 0 then 0 else if numV c l (x + 1) = 0 then 0 else if slkV c l (numE c l (x + 1)) = 0 then 0 else if tnsV c l (slkE c l (numE c l (x + 1))) = 0 then 0 else 1 := by
  unfold scnV
  by_cases h1 : chF c l x < 97
  · rw [if_pos h1, if_pos (inV_l h1)]
  · rw [if_neg h1]
    by_cases h2 : chF c l x ≤ 102
    · rw [if_pos h2, inV_1 (Int32.not_lt.mp h1) h2]
      simp only [u1n, if_false]
    · rw [if_neg h2, inV_h (Int32.not_le.mp h2), if_pos rfl]
theorem tns_e {c : Int32 → Int32} {l x : Int32} : tnsV c l x = if chF c l x = 33 then inV (chF c l (x + 1)) 48 57 else 0 := by
  unfold tnsV
  by_cases h : chF c l x = 33
  · rw [if_pos h, if_pos h]
    by_cases h1 : chF c l (x + 1) < 48
    · rw [if_pos h1, inV_l h1]
    · rw [if_neg h1]
      by_cases h2 : chF c l (x + 1) ≤ 57
      · rw [if_pos h2, inV_1 (Int32.not_lt.mp h1) h2]
      · rw [if_neg h2, inV_h (Int32.not_le.mp h2)]
  · rw [if_neg h, if_neg h]
theorem in_one {v k : Int32} : inV v k k = 0 ↔ ¬ v = k := by
  rw [inV_p]
  refine ⟨fun h q => ?_, fun h => ?_⟩
  · rw [q] at h
    rcases h with h | h <;> exact absurd h Int32.lt_irrefl
  · simp only [i_lt, i_eq] at *
    omega
def t_X6_readsScene : TR := fun K _ _ As G D Q => match As with
  | [.ref a] => Mod K G a ∧ (0 ≤ D a 6 ∧ D a 6 ≤ 100 ∧ D a 5 ≤ 100 ∧ 0 ≤ D a 7 ∧ D a 7 ≤ 20) ∧ ∀ E, RsP D E a (D a 7).toNatClampNeg → Q (some (.int (scnV (D (mx a)) (D a 5) (D a 6)))) G E
  | _ => False
theorem nz_scn {c : Int32 → Int32} {l x : Int32} : scnV c l x = 0 ∨ scnV c l x = 1 := by
  rw [scn_e]
  repeat' split
  all_goals first | exact Or.inl rfl | exact Or.inr rfl
set_option maxRecDepth 100000 in
set_option maxHeartbeats 4000000 in
theorem s_X6_readsScene (l : Launch) : Sat l yX6_readsScene cX6_readsScene 3 (some .boolean) 3 t_X6_readsScene := by
  refine satb (own := RX6) (fl := flX6) (sg := sgX6) (kc := kcX6) (na := naX6) (rc := rcX6) (cv := (cAdd 114 t_X6_has (cAdd 120 t_X6_number cNone))) (cs := cNone) (bl := bX6_readsScene) (by decide +kernel) rfl envX6 bokX6_readsScene (cvAdd (s_X6_has l) lkX6_114 rfl rfl (by decide) (cvAdd (s_X6_number l) lkX6_120 rfl rfl (by decide) cvNone)) csNone ?_
  intro L K R0 sa hPp As G D Q htr
  unfold t_X6_readsScene at htr
  split at htr
  case h_2 => exact htr.elim
  rename_i a
  obtain ⟨hM, ⟨b1, b2, b3, b4, b5⟩, hQ⟩ := htr
  obtain ⟨a, rfl⟩ : ∃ q : Nat, q = a := ⟨_, rfl⟩
  obtain ⟨⟨k0, g0, g1, g2, g4, g8, g9, g10, g11, g12⟩, k1, k2, k3, k4, k5, k6, k7, k8, k9⟩ := id hM
  obtain ⟨n, hn, hn2⟩ := nI_of (x := D a 7) (Int32.not_lt.mpr b4)
  have n20 : n ≤ 20 := by
    rw [hn2] at b5
    exact (nI_leI (b := 20) hn (by decide)).mp b5
  rw [hn2, nI_clamp hn] at hQ
  have nx : (mx a = a) = False := eq_false (by unfold mx; omega)
  have nr : (mx a = mr a) = False := eq_false (by unfold mx mr; omega)
  have nr1 : (a = mr a) = False := eq_false (by unfold mr; omega)
  have nr2 : (mr a = a) = False := eq_false (by unfold mr; omega)
  have na1 : a ≠ mr a := of_eq_false nr1
  have na2 : mr a ≠ a := of_eq_false nr2
  have cs : ∀ x : Int32, x + 1 - 1 = x := fun x => i_cs
  have k44 : 4 * nI n = nI (4 * n) := by rw [show (4 : Int32) = nI 4 from rfl, pk_mul]
  have ka : nI (4 * n) + 1 = nI (4 * n + 1) := nI_1 _
  have kb : nI (4 * n) + 2 = nI (4 * n + 2) := by rw [show (2 : Int32) = nI 2 from rfl, nI_add]
  have kc : nI (4 * n) + 3 = nI (4 * n + 3) := by rw [show (3 : Int32) = nI 3 from rfl, nI_add]
  have zz : ∀ j, j < 4 → 0 ≤ nI (4 * n + j) ∧ nI (4 * n + j) < 100 := fun j hj => ⟨nI_pos' (by omega), (nI_ltI (b := 100) (by omega) (by decide)).mpr (by omega)⟩
  obtain ⟨x0, x0'⟩ := zz 0 (by omega)
  have x0 : 0 ≤ nI (4 * n) := x0
  have x0' : nI (4 * n) < 100 := x0'
  obtain ⟨x1, x1'⟩ := zz 1 (by omega)
  obtain ⟨x2, x2'⟩ := zz 2 (by omega)
  obtain ⟨x3, x3'⟩ := zz 3 (by omega)
  refine ⟨by simp, by simp [cat1], [120], fun k pc LL stk G' E => ∃ is : Int32, LL = [some (.ref a), some (.int (nI (4 * n))), some (.int is)] ∧ stk = [] ∧ G' = G ∧ RsM D E a n is ∧ k = 0, 6, 6, ?_, ?_⟩
  · by_cases h1 : inV (chF (D (mx a)) (D a 5) (D a 6)) 97 102 = 0
    · have e1 : scnV (D (mx a)) (D a 5) (D a 6) = 0 := by rw [scn_e, if_pos h1]
      rw [e1] at hQ
      simp only [↓x_iconst, ↓x_bipush, ↓x_sipush, ↓x_ldc, ↓x_iload_n, ↓x_iload, ↓x_aload_n, ↓x_aload, ↓x_istore_n, ↓x_istore, ↓x_astore_n, ↓x_astore, ↓x_iinc, ↓x_iadd, ↓x_isub, ↓x_imul, ↓x_iand, ↓x_idiv, ↓x_ineg, ↓x_i2c, ↓x_dupI, ↓x_dupA, ↓x_dup2, ↓x_goto, ↓x_get, ↓x_put, ↓x_gets, ↓x_iald, ↓x_bald, ↓x_cald, ↓x_aald, ↓x_iast, ↓x_bast, ↓x_cast, ↓x_aast, ↓x_alen, ↓x_iret, ↓x_vret, ↓x_nil, ↓x_jmp, ↓x_ldI0, ↓x_ldIs, ↓x_ldA0, ↓x_ldAs, ↓x_icmpT, ↓x_icmpF, ↓x_ifT, ↓x_ifF, x_iconst, x_bipush, x_sipush, x_ldc, x_iload_n, x_iload, x_aload_n, x_aload, x_istore_n, x_istore, x_astore_n, x_astore, x_iinc, x_iadd, x_isub, x_imul, x_iand, x_idiv, x_ineg, x_i2c, x_dupI, x_dupA, x_dup2, x_goto, x_if, x_icmp, x_get, x_put, x_gets, x_iald, x_bald, x_cald, x_aald, x_iast, x_bast, x_cast, x_aast, x_alen, x_iret, x_vret, x_nil, x_jmp, x_ldI0, x_ldIs, x_ldA0, x_ldAs, x_cad, x_cad2, x_fv0, x_fv1, x_fv2, x_fv3, cnd, fI, L0, c1, nL0, nL1, nL2, nL3, nL4, nL5, nL6, nL7, nL8, nL9, nL10, nL11, nL12, List.map_cons, List.map_nil, List.length_cons, List.length_nil, List.cons_append, List.nil_append, List.replicate_succ, List.replicate_zero, List.set_cons_zero, List.set_cons_succ, List.mem_cons, List.not_mem_nil, or_false, false_or, Option.toList_some, Option.toList_none, ↓reduceIte, if_true, if_false, Nat.reduceAdd, Nat.reduceSub, Nat.reduceEqDiff, Nat.reduceLT, Nat.reduceLeDiff, Int.reduceNatCast, Int.reduceNatCast', Int.reduceAdd, Int.reduceNeg, Int.reduceToNat, Int.reduceLE, Int.reduceLT, Int.reduceEq, Nat.zero_add, Nat.add_zero, and_true, true_and, ne_eq, not_false_eq_true, not_true_eq_false, and_self, implies_true, Bool.false_eq_true, Nat.reduceBEq, Int32.reduceOfInt, Int32.reduceAdd, Int32.reduceSub, Int32.reduceMul, Int32.reduceLE, Int32.reduceLT, Int32.reduceToNatClampNeg, Option.some.injEq, exists_eq_left, exists_eq_left', Option.isSome_some, Option.getD_some, vp_nar_int, pbi, eq_self, forall_const, false_implies, true_implies, false_and, and_false, uD_s, uG_s, uD_o, ad_nw, ad_wn, ad_ns, ad_sn, ad_ss, ad_ww, ad_sw, ad_ws, Int32.reduceToInt, Classical.not_not, d1n, d2n, d3n, d4n, d5n, d6n, d10n, inr, nL17, nL20, nL21, nL30, nL100, nL462, nL773, nL4638, bp6, bp7, bp8, bp9, bp10, bp11, bp12, bp13, bp14, bp15, bp16, bp17, bp20, bp21, bp29, bp30, bp31, bp33, bp45, bp48, bp49, bp50, bp57, bp59, bp97, bp99, bp100, bp102, spm1000, sp137, sp255, sp257, sp300, sp400, sp462, sp771, sp772, sp773, sp999, sp3865, sp4638, bX6_readsScene_0, bX6_readsScene_13, bX6_readsScene_65, bX6_readsScene_66, bX6_readsScene_118, bX6_readsScene_119, bX6_readsScene_120, bX6_readsScene_146, bX6_readsScene_148, eX6_19, eX6_23, eX6_111, eX6_117, t_X6_has, ↓x_inv3 naX6_114, x_inv3 naX6_114, rcX6_114, t_X6_number, ↓x_inv1 naX6_120, x_inv1 naX6_120, rcX6_120, kcX6_38, kcX6_76, kcX6_77, kcX6_78, k0, g0, g1, g2, g4, g8, g9, g10, g11, g12, k1, k2, k3, k4, k5, k6, k7, k8, k9, hM, xch, b1, b3, h1, nz0, nz1]
      exact hQ D ⟨⟨fun _ _ _ => rfl, fun _ _ _ => rfl, fun _ _ => rfl⟩, by rw [scP, if_pos h1], fun _ => rfl, fun q => absurd e1 q⟩
    · obtain ⟨l1, e1⟩ := chF_in h1 (by decide)
      obtain ⟨p0, p1, -⟩ := at1 b1 l1 b3
      have z1 : D a 6 < 100 := Int32.lt_of_lt_of_le l1 b3
      obtain ⟨q0, q1⟩ := numE_in (c := D (mx a)) p0 p1 b3
      have q2 := Int32.le_trans p0 q0
      generalize hv : numV (D (mx a)) (D a 5) (D a 6 + 1) = v
      generalize he : numE (D (mx a)) (D a 5) (D a 6 + 1) = e at q0 q1 q2
      have vn : 0 ≤ v := by rw [← hv]; exact num_nn.1
      have c01 : ¬ (1 : Int32) = 0 := by decide
      have t02 : ((nI (4 * n + 2)).toInt = (nI (4 * n)).toInt) = False := eq_false (by rw [nI_toInt (by omega), nI_toInt (by omega)]; omega)
      have t10 : ((nI (4 * n + 1)).toInt = (nI (4 * n)).toInt) = False := eq_false (by rw [nI_toInt (by omega), nI_toInt (by omega)]; omega)
      have t12 : ((nI (4 * n)).toInt = (nI (4 * n + 2)).toInt) = False := eq_false (by rw [nI_toInt (by omega), nI_toInt (by omega)]; omega)
      have t21 : ((nI (4 * n + 1)).toInt = (nI (4 * n + 2)).toInt) = False := eq_false (by rw [nI_toInt (by omega), nI_toInt (by omega)]; omega)
      have t22 : ((nI (4 * n)).toInt = (nI (4 * n + 1)).toInt) = False := eq_false (by rw [nI_toInt (by omega), nI_toInt (by omega)]; omega)
      have t23 : ((nI (4 * n + 2)).toInt = (nI (4 * n + 1)).toInt) = False := eq_false (by rw [nI_toInt (by omega), nI_toInt (by omega)]; omega)
      have fr : ∀ (E : DT) (x y : Int32) (i : Nat), RsF D E a n ∧ E a 7 = D a 7 → nI (4 * n + i) = y → i < 4 → RsF D (uD E (mr a) y x) a n ∧ uD E (mr a) y x a 7 = D a 7 := by
        intro E x y i ⟨⟨f1, f2, f3⟩, f4⟩ hy hi
        exact ⟨⟨fun b b1 b2 => by rw [uD_o b2]; exact f1 b b1 b2, fun j j1 j2 => by rw [uD_o na1]; exact f2 j j1 j2, fun j hj => by rw [← hy, uD_at' (by omega) (by omega) (fun _ => by omega)]; exact f3 j hj⟩, by rw [uD_o na1]; exact f4⟩
      have ga : ∀ (E : DT) (x : Int32), RsF D E a n ∧ E a 7 = D a 7 → RsF D (uD E a 6 x) a n ∧ uD E a 6 x a 7 = D a 7 := by
        intro E x ⟨⟨f1, f2, f3⟩, f4⟩
        refine ⟨⟨fun b b1 b2 => by rw [uD_o b1]; exact f1 b b1 b2, fun j j1 j2 => ?_, fun j hj => by rw [uD_o na2]; exact f3 j hj⟩, ?_⟩
        · unfold uD
          rw [if_neg (fun q => j1 q.2)]
          exact f2 j j1 j2
        · rw [uD_s, if_neg (by decide)]
          exact f4
      have f0 : RsF D D a n ∧ D a 7 = D a 7 := ⟨⟨fun _ _ _ => rfl, fun _ _ _ => rfl, fun _ _ => rfl⟩, rfl⟩
      by_cases h2 : v = 0
      · have h2' : v ≤ 0 := by rw [h2]; decide
        simp only [↓x_iconst, ↓x_bipush, ↓x_sipush, ↓x_ldc, ↓x_iload_n, ↓x_iload, ↓x_aload_n, ↓x_aload, ↓x_istore_n, ↓x_istore, ↓x_astore_n, ↓x_astore, ↓x_iinc, ↓x_iadd, ↓x_isub, ↓x_imul, ↓x_iand, ↓x_idiv, ↓x_ineg, ↓x_i2c, ↓x_dupI, ↓x_dupA, ↓x_dup2, ↓x_goto, ↓x_get, ↓x_put, ↓x_gets, ↓x_iald, ↓x_bald, ↓x_cald, ↓x_aald, ↓x_iast, ↓x_bast, ↓x_cast, ↓x_aast, ↓x_alen, ↓x_iret, ↓x_vret, ↓x_nil, ↓x_jmp, ↓x_ldI0, ↓x_ldIs, ↓x_ldA0, ↓x_ldAs, ↓x_icmpT, ↓x_icmpF, ↓x_ifT, ↓x_ifF, x_iconst, x_bipush, x_sipush, x_ldc, x_iload_n, x_iload, x_aload_n, x_aload, x_istore_n, x_istore, x_astore_n, x_astore, x_iinc, x_iadd, x_isub, x_imul, x_iand, x_idiv, x_ineg, x_i2c, x_dupI, x_dupA, x_dup2, x_goto, x_if, x_icmp, x_get, x_put, x_gets, x_iald, x_bald, x_cald, x_aald, x_iast, x_bast, x_cast, x_aast, x_alen, x_iret, x_vret, x_nil, x_jmp, x_ldI0, x_ldIs, x_ldA0, x_ldAs, x_cad, x_cad2, x_fv0, x_fv1, x_fv2, x_fv3, cnd, fI, L0, c1, nL0, nL1, nL2, nL3, nL4, nL5, nL6, nL7, nL8, nL9, nL10, nL11, nL12, List.map_cons, List.map_nil, List.length_cons, List.length_nil, List.cons_append, List.nil_append, List.replicate_succ, List.replicate_zero, List.set_cons_zero, List.set_cons_succ, List.mem_cons, List.not_mem_nil, or_false, false_or, Option.toList_some, Option.toList_none, ↓reduceIte, if_true, if_false, Nat.reduceAdd, Nat.reduceSub, Nat.reduceEqDiff, Nat.reduceLT, Nat.reduceLeDiff, Int.reduceNatCast, Int.reduceNatCast', Int.reduceAdd, Int.reduceNeg, Int.reduceToNat, Int.reduceLE, Int.reduceLT, Int.reduceEq, Nat.zero_add, Nat.add_zero, and_true, true_and, ne_eq, not_false_eq_true, not_true_eq_false, and_self, implies_true, Bool.false_eq_true, Nat.reduceBEq, Int32.reduceOfInt, Int32.reduceAdd, Int32.reduceSub, Int32.reduceMul, Int32.reduceLE, Int32.reduceLT, Int32.reduceToNatClampNeg, Option.some.injEq, exists_eq_left, exists_eq_left', Option.isSome_some, Option.getD_some, vp_nar_int, pbi, eq_self, forall_const, false_implies, true_implies, false_and, and_false, uD_s, uG_s, uD_o, ad_nw, ad_wn, ad_ns, ad_sn, ad_ss, ad_ww, ad_sw, ad_ws, Int32.reduceToInt, Classical.not_not, d1n, d2n, d3n, d4n, d5n, d6n, d10n, inr, nL17, nL20, nL21, nL30, nL100, nL462, nL773, nL4638, bp6, bp7, bp8, bp9, bp10, bp11, bp12, bp13, bp14, bp15, bp16, bp17, bp20, bp21, bp29, bp30, bp31, bp33, bp45, bp48, bp49, bp50, bp57, bp59, bp97, bp99, bp100, bp102, spm1000, sp137, sp255, sp257, sp300, sp400, sp462, sp771, sp772, sp773, sp999, sp3865, sp4638, bX6_readsScene_0, bX6_readsScene_13, bX6_readsScene_65, bX6_readsScene_66, bX6_readsScene_118, bX6_readsScene_119, bX6_readsScene_120, bX6_readsScene_146, bX6_readsScene_148, eX6_19, eX6_23, eX6_111, eX6_117, t_X6_has, ↓x_inv3 naX6_114, x_inv3 naX6_114, rcX6_114, t_X6_number, ↓x_inv1 naX6_120, x_inv1 naX6_120, rcX6_120, kcX6_38, kcX6_76, kcX6_77, kcX6_78, k0, g0, g1, g2, g4, g8, g9, g10, g11, g12, k1, k2, k3, k4, k5, k6, k7, k8, k9, hM, xch, nx, nr, nr1, nr2, cs, e1, hv, he, b1, b3, hn2, k44, ka, kb, h1, h2', z1, p0, p1, x0, x0', x1, x1', x2, x2', c01, t02, t10, nz0, nz1]
        have ff := fr _ (0 : Int32) _ 1 (fr _ v _ 0 (ga _ e (fr _ (chF (D (mx a)) (D a 5) (D a 6) - 97) _ 2 (ga D (D a 6 + 1) f0) rfl (by omega))) rfl (by omega)) rfl (by omega)
        refine ⟨0, 0, rfl, ⟨ff.1, ff.2, h1, Or.inl ⟨rfl, Or.inl (hv.trans h2), ?_⟩⟩, rfl⟩
        rw [scP, if_neg h1, if_pos (hv.trans h2), he]
        simp only [uD_s, uD_o na1, eq_self, if_true, Int32.reduceToInt]
      · have h2' : ¬ v ≤ 0 := fun q => h2 (Int32.le_antisymm q vn)
        by_cases h3 : inV (chF (D (mx a)) (D a 5) e) 45 45 = 0
        · simp only [↓x_iconst, ↓x_bipush, ↓x_sipush, ↓x_ldc, ↓x_iload_n, ↓x_iload, ↓x_aload_n, ↓x_aload, ↓x_istore_n, ↓x_istore, ↓x_astore_n, ↓x_astore, ↓x_iinc, ↓x_iadd, ↓x_isub, ↓x_imul, ↓x_iand, ↓x_idiv, ↓x_ineg, ↓x_i2c, ↓x_dupI, ↓x_dupA, ↓x_dup2, ↓x_goto, ↓x_get, ↓x_put, ↓x_gets, ↓x_iald, ↓x_bald, ↓x_cald, ↓x_aald, ↓x_iast, ↓x_bast, ↓x_cast, ↓x_aast, ↓x_alen, ↓x_iret, ↓x_vret, ↓x_nil, ↓x_jmp, ↓x_ldI0, ↓x_ldIs, ↓x_ldA0, ↓x_ldAs, ↓x_icmpT, ↓x_icmpF, ↓x_ifT, ↓x_ifF, x_iconst, x_bipush, x_sipush, x_ldc, x_iload_n, x_iload, x_aload_n, x_aload, x_istore_n, x_istore, x_astore_n, x_astore, x_iinc, x_iadd, x_isub, x_imul, x_iand, x_idiv, x_ineg, x_i2c, x_dupI, x_dupA, x_dup2, x_goto, x_if, x_icmp, x_get, x_put, x_gets, x_iald, x_bald, x_cald, x_aald, x_iast, x_bast, x_cast, x_aast, x_alen, x_iret, x_vret, x_nil, x_jmp, x_ldI0, x_ldIs, x_ldA0, x_ldAs, x_cad, x_cad2, x_fv0, x_fv1, x_fv2, x_fv3, cnd, fI, L0, c1, nL0, nL1, nL2, nL3, nL4, nL5, nL6, nL7, nL8, nL9, nL10, nL11, nL12, List.map_cons, List.map_nil, List.length_cons, List.length_nil, List.cons_append, List.nil_append, List.replicate_succ, List.replicate_zero, List.set_cons_zero, List.set_cons_succ, List.mem_cons, List.not_mem_nil, or_false, false_or, Option.toList_some, Option.toList_none, ↓reduceIte, if_true, if_false, Nat.reduceAdd, Nat.reduceSub, Nat.reduceEqDiff, Nat.reduceLT, Nat.reduceLeDiff, Int.reduceNatCast, Int.reduceNatCast', Int.reduceAdd, Int.reduceNeg, Int.reduceToNat, Int.reduceLE, Int.reduceLT, Int.reduceEq, Nat.zero_add, Nat.add_zero, and_true, true_and, ne_eq, not_false_eq_true, not_true_eq_false, and_self, implies_true, Bool.false_eq_true, Nat.reduceBEq, Int32.reduceOfInt, Int32.reduceAdd, Int32.reduceSub, Int32.reduceMul, Int32.reduceLE, Int32.reduceLT, Int32.reduceToNatClampNeg, Option.some.injEq, exists_eq_left, exists_eq_left', Option.isSome_some, Option.getD_some, vp_nar_int, pbi, eq_self, forall_const, false_implies, true_implies, false_and, and_false, uD_s, uG_s, uD_o, ad_nw, ad_wn, ad_ns, ad_sn, ad_ss, ad_ww, ad_sw, ad_ws, Int32.reduceToInt, Classical.not_not, d1n, d2n, d3n, d4n, d5n, d6n, d10n, inr, nL17, nL20, nL21, nL30, nL100, nL462, nL773, nL4638, bp6, bp7, bp8, bp9, bp10, bp11, bp12, bp13, bp14, bp15, bp16, bp17, bp20, bp21, bp29, bp30, bp31, bp33, bp45, bp48, bp49, bp50, bp57, bp59, bp97, bp99, bp100, bp102, spm1000, sp137, sp255, sp257, sp300, sp400, sp462, sp771, sp772, sp773, sp999, sp3865, sp4638, bX6_readsScene_0, bX6_readsScene_13, bX6_readsScene_65, bX6_readsScene_66, bX6_readsScene_118, bX6_readsScene_119, bX6_readsScene_120, bX6_readsScene_146, bX6_readsScene_148, eX6_19, eX6_23, eX6_111, eX6_117, t_X6_has, ↓x_inv3 naX6_114, x_inv3 naX6_114, rcX6_114, t_X6_number, ↓x_inv1 naX6_120, x_inv1 naX6_120, rcX6_120, kcX6_38, kcX6_76, kcX6_77, kcX6_78, k0, g0, g1, g2, g4, g8, g9, g10, g11, g12, k1, k2, k3, k4, k5, k6, k7, k8, k9, hM, xch, nx, nr, nr1, nr2, cs, e1, hv, he, b1, b3, hn2, k44, ka, kb, h1, h2', h3, z1, p0, p1, q1, q2, x0, x0', x1, x1', x2, x2', c01, t02, t10, nz0, nz1]
          have ff := fr _ (0 : Int32) _ 1 (fr _ v _ 0 (ga _ e (fr _ (chF (D (mx a)) (D a 5) (D a 6) - 97) _ 2 (ga D (D a 6 + 1) f0) rfl (by omega))) rfl (by omega)) rfl (by omega)
          have d := in_one.mp h3
          refine ⟨0, 1, rfl, ⟨ff.1, ff.2, h1, Or.inr ⟨rfl, by rw [hv]; exact h2, ?_, ?_, ?_, ?_, ?_⟩⟩, rfl⟩
          · rw [he, slkV, if_neg d]
            decide
          · rw [he, slkE, if_neg d]
            simp only [uD_s, uD_o na1, eq_self, if_true, Int32.reduceToInt]
          · rw [hv]
            simp only [uD_s, uD_o na2, eq_self, if_true, if_false, t10]
          · rw [he, slW, if_neg d]
            simp only [uD_s, uD_o na2, eq_self, if_true, if_false]
          · simp only [uD_s, uD_o na2, eq_self, if_true, if_false, t12, t21]
        · have d : chF (D (mx a)) (D a 5) e = 45 := Decidable.not_not.mp (fun q => h3 (in_one.mpr q))
          obtain ⟨l2, e2⟩ := chF_in h3 (by decide)
          obtain ⟨p2, p3, -⟩ := at1 q2 l2 b3
          generalize hv2 : numV (D (mx a)) (D a 5) (e + 1) = v2
          generalize he2 : numE (D (mx a)) (D a 5) (e + 1) = e2'
          have vn2 : 0 ≤ v2 := by rw [← hv2]; exact num_nn.1
          by_cases h4 : v2 ≤ 0
          · simp only [↓x_iconst, ↓x_bipush, ↓x_sipush, ↓x_ldc, ↓x_iload_n, ↓x_iload, ↓x_aload_n, ↓x_aload, ↓x_istore_n, ↓x_istore, ↓x_astore_n, ↓x_astore, ↓x_iinc, ↓x_iadd, ↓x_isub, ↓x_imul, ↓x_iand, ↓x_idiv, ↓x_ineg, ↓x_i2c, ↓x_dupI, ↓x_dupA, ↓x_dup2, ↓x_goto, ↓x_get, ↓x_put, ↓x_gets, ↓x_iald, ↓x_bald, ↓x_cald, ↓x_aald, ↓x_iast, ↓x_bast, ↓x_cast, ↓x_aast, ↓x_alen, ↓x_iret, ↓x_vret, ↓x_nil, ↓x_jmp, ↓x_ldI0, ↓x_ldIs, ↓x_ldA0, ↓x_ldAs, ↓x_icmpT, ↓x_icmpF, ↓x_ifT, ↓x_ifF, x_iconst, x_bipush, x_sipush, x_ldc, x_iload_n, x_iload, x_aload_n, x_aload, x_istore_n, x_istore, x_astore_n, x_astore, x_iinc, x_iadd, x_isub, x_imul, x_iand, x_idiv, x_ineg, x_i2c, x_dupI, x_dupA, x_dup2, x_goto, x_if, x_icmp, x_get, x_put, x_gets, x_iald, x_bald, x_cald, x_aald, x_iast, x_bast, x_cast, x_aast, x_alen, x_iret, x_vret, x_nil, x_jmp, x_ldI0, x_ldIs, x_ldA0, x_ldAs, x_cad, x_cad2, x_fv0, x_fv1, x_fv2, x_fv3, cnd, fI, L0, c1, nL0, nL1, nL2, nL3, nL4, nL5, nL6, nL7, nL8, nL9, nL10, nL11, nL12, List.map_cons, List.map_nil, List.length_cons, List.length_nil, List.cons_append, List.nil_append, List.replicate_succ, List.replicate_zero, List.set_cons_zero, List.set_cons_succ, List.mem_cons, List.not_mem_nil, or_false, false_or, Option.toList_some, Option.toList_none, ↓reduceIte, if_true, if_false, Nat.reduceAdd, Nat.reduceSub, Nat.reduceEqDiff, Nat.reduceLT, Nat.reduceLeDiff, Int.reduceNatCast, Int.reduceNatCast', Int.reduceAdd, Int.reduceNeg, Int.reduceToNat, Int.reduceLE, Int.reduceLT, Int.reduceEq, Nat.zero_add, Nat.add_zero, and_true, true_and, ne_eq, not_false_eq_true, not_true_eq_false, and_self, implies_true, Bool.false_eq_true, Nat.reduceBEq, Int32.reduceOfInt, Int32.reduceAdd, Int32.reduceSub, Int32.reduceMul, Int32.reduceLE, Int32.reduceLT, Int32.reduceToNatClampNeg, Option.some.injEq, exists_eq_left, exists_eq_left', Option.isSome_some, Option.getD_some, vp_nar_int, pbi, eq_self, forall_const, false_implies, true_implies, false_and, and_false, uD_s, uG_s, uD_o, ad_nw, ad_wn, ad_ns, ad_sn, ad_ss, ad_ww, ad_sw, ad_ws, Int32.reduceToInt, Classical.not_not, d1n, d2n, d3n, d4n, d5n, d6n, d10n, inr, nL17, nL20, nL21, nL30, nL100, nL462, nL773, nL4638, bp6, bp7, bp8, bp9, bp10, bp11, bp12, bp13, bp14, bp15, bp16, bp17, bp20, bp21, bp29, bp30, bp31, bp33, bp45, bp48, bp49, bp50, bp57, bp59, bp97, bp99, bp100, bp102, spm1000, sp137, sp255, sp257, sp300, sp400, sp462, sp771, sp772, sp773, sp999, sp3865, sp4638, bX6_readsScene_0, bX6_readsScene_13, bX6_readsScene_65, bX6_readsScene_66, bX6_readsScene_118, bX6_readsScene_119, bX6_readsScene_120, bX6_readsScene_146, bX6_readsScene_148, eX6_19, eX6_23, eX6_111, eX6_117, t_X6_has, ↓x_inv3 naX6_114, x_inv3 naX6_114, rcX6_114, t_X6_number, ↓x_inv1 naX6_120, x_inv1 naX6_120, rcX6_120, kcX6_38, kcX6_76, kcX6_77, kcX6_78, k0, g0, g1, g2, g4, g8, g9, g10, g11, g12, k1, k2, k3, k4, k5, k6, k7, k8, k9, hM, xch, nx, nr, nr1, nr2, cs, e1, hv, he, hv2, he2, b1, b3, hn2, k44, ka, kb, h1, h2', h3, h4, z1, p0, p1, p2, p3, q1, q2, x0, x0', x1, x1', x2, x2', c01, t02, t10, nz0, nz1]
            have ff := fr _ v2 _ 1 (ga _ e2' (ga _ (e + 1) (fr _ (0 : Int32) _ 1 (fr _ v _ 0 (ga _ e (fr _ (chF (D (mx a)) (D a 5) (D a 6) - 97) _ 2 (ga D (D a 6 + 1) f0) rfl (by omega))) rfl (by omega)) rfl (by omega)))) rfl (by omega)
            have sv : slkV (D (mx a)) (D a 5) e = 0 := by rw [slkV, if_pos d, hv2, if_pos h4]
            refine ⟨0, 0, rfl, ⟨ff.1, ff.2, h1, Or.inl ⟨rfl, Or.inr (by rw [he]; exact sv), ?_⟩⟩, rfl⟩
            rw [scP, if_neg h1, hv, if_neg h2, he, if_pos sv, slkE, if_pos d, he2]
            simp only [uD_s, uD_o na1, eq_self, if_true, Int32.reduceToInt]
          · simp only [↓x_iconst, ↓x_bipush, ↓x_sipush, ↓x_ldc, ↓x_iload_n, ↓x_iload, ↓x_aload_n, ↓x_aload, ↓x_istore_n, ↓x_istore, ↓x_astore_n, ↓x_astore, ↓x_iinc, ↓x_iadd, ↓x_isub, ↓x_imul, ↓x_iand, ↓x_idiv, ↓x_ineg, ↓x_i2c, ↓x_dupI, ↓x_dupA, ↓x_dup2, ↓x_goto, ↓x_get, ↓x_put, ↓x_gets, ↓x_iald, ↓x_bald, ↓x_cald, ↓x_aald, ↓x_iast, ↓x_bast, ↓x_cast, ↓x_aast, ↓x_alen, ↓x_iret, ↓x_vret, ↓x_nil, ↓x_jmp, ↓x_ldI0, ↓x_ldIs, ↓x_ldA0, ↓x_ldAs, ↓x_icmpT, ↓x_icmpF, ↓x_ifT, ↓x_ifF, x_iconst, x_bipush, x_sipush, x_ldc, x_iload_n, x_iload, x_aload_n, x_aload, x_istore_n, x_istore, x_astore_n, x_astore, x_iinc, x_iadd, x_isub, x_imul, x_iand, x_idiv, x_ineg, x_i2c, x_dupI, x_dupA, x_dup2, x_goto, x_if, x_icmp, x_get, x_put, x_gets, x_iald, x_bald, x_cald, x_aald, x_iast, x_bast, x_cast, x_aast, x_alen, x_iret, x_vret, x_nil, x_jmp, x_ldI0, x_ldIs, x_ldA0, x_ldAs, x_cad, x_cad2, x_fv0, x_fv1, x_fv2, x_fv3, cnd, fI, L0, c1, nL0, nL1, nL2, nL3, nL4, nL5, nL6, nL7, nL8, nL9, nL10, nL11, nL12, List.map_cons, List.map_nil, List.length_cons, List.length_nil, List.cons_append, List.nil_append, List.replicate_succ, List.replicate_zero, List.set_cons_zero, List.set_cons_succ, List.mem_cons, List.not_mem_nil, or_false, false_or, Option.toList_some, Option.toList_none, ↓reduceIte, if_true, if_false, Nat.reduceAdd, Nat.reduceSub, Nat.reduceEqDiff, Nat.reduceLT, Nat.reduceLeDiff, Int.reduceNatCast, Int.reduceNatCast', Int.reduceAdd, Int.reduceNeg, Int.reduceToNat, Int.reduceLE, Int.reduceLT, Int.reduceEq, Nat.zero_add, Nat.add_zero, and_true, true_and, ne_eq, not_false_eq_true, not_true_eq_false, and_self, implies_true, Bool.false_eq_true, Nat.reduceBEq, Int32.reduceOfInt, Int32.reduceAdd, Int32.reduceSub, Int32.reduceMul, Int32.reduceLE, Int32.reduceLT, Int32.reduceToNatClampNeg, Option.some.injEq, exists_eq_left, exists_eq_left', Option.isSome_some, Option.getD_some, vp_nar_int, pbi, eq_self, forall_const, false_implies, true_implies, false_and, and_false, uD_s, uG_s, uD_o, ad_nw, ad_wn, ad_ns, ad_sn, ad_ss, ad_ww, ad_sw, ad_ws, Int32.reduceToInt, Classical.not_not, d1n, d2n, d3n, d4n, d5n, d6n, d10n, inr, nL17, nL20, nL21, nL30, nL100, nL462, nL773, nL4638, bp6, bp7, bp8, bp9, bp10, bp11, bp12, bp13, bp14, bp15, bp16, bp17, bp20, bp21, bp29, bp30, bp31, bp33, bp45, bp48, bp49, bp50, bp57, bp59, bp97, bp99, bp100, bp102, spm1000, sp137, sp255, sp257, sp300, sp400, sp462, sp771, sp772, sp773, sp999, sp3865, sp4638, bX6_readsScene_0, bX6_readsScene_13, bX6_readsScene_65, bX6_readsScene_66, bX6_readsScene_118, bX6_readsScene_119, bX6_readsScene_120, bX6_readsScene_146, bX6_readsScene_148, eX6_19, eX6_23, eX6_111, eX6_117, t_X6_has, ↓x_inv3 naX6_114, x_inv3 naX6_114, rcX6_114, t_X6_number, ↓x_inv1 naX6_120, x_inv1 naX6_120, rcX6_120, kcX6_38, kcX6_76, kcX6_77, kcX6_78, k0, g0, g1, g2, g4, g8, g9, g10, g11, g12, k1, k2, k3, k4, k5, k6, k7, k8, k9, hM, xch, nx, nr, nr1, nr2, cs, e1, hv, he, hv2, he2, b1, b3, hn2, k44, ka, kb, h1, h2', h3, h4, z1, p0, p1, p2, p3, q1, q2, x0, x0', x1, x1', x2, x2', c01, t02, t10, nz0, nz1]
            have ff := fr _ v2 _ 1 (ga _ e2' (ga _ (e + 1) (fr _ (0 : Int32) _ 1 (fr _ v _ 0 (ga _ e (fr _ (chF (D (mx a)) (D a 5) (D a 6) - 97) _ 2 (ga D (D a 6 + 1) f0) rfl (by omega))) rfl (by omega)) rfl (by omega)))) rfl (by omega)
            refine ⟨0, 1, rfl, ⟨ff.1, ff.2, h1, Or.inr ⟨rfl, by rw [hv]; exact h2, ?_, ?_, ?_, ?_, ?_⟩⟩, rfl⟩
            · rw [he, slkV, if_pos d, hv2, if_neg h4]
              decide
            · rw [he, slkE, if_pos d, he2]
              simp only [uD_s, uD_o na1, eq_self, if_true, Int32.reduceToInt]
            · rw [hv]
              simp only [uD_s, uD_o na2, eq_self, if_true, if_false, t10]
            · rw [he, slW, if_pos d, hv2]
              simp only [uD_s, uD_o na2, eq_self, if_true, if_false]
            · simp only [uD_s, uD_o na2, eq_self, if_true, if_false, t12, t21]
  · rintro k pc hpc LL stk G' E ⟨is, rfl, rfl, rfl, ⟨⟨f1, f2, f3⟩, f4, h1, hc⟩, rfl⟩
    obtain rfl := List.mem_singleton.mp hpc
    obtain ⟨l1, e1⟩ := chF_in h1 (by decide)
    obtain ⟨p0, p1, -⟩ := at1 b1 l1 b3
    obtain ⟨q0, q1⟩ := numE_in (c := D (mx a)) p0 p1 b3
    have q2 := Int32.le_trans p0 q0
    have o1 : E (mx a) = D (mx a) := f1 _ (of_eq_false nx) (of_eq_false nr)
    have o2 : E a 5 = D a 5 := f2 5 (by decide) (by decide)
    have c01 : ¬ (1 : Int32) = 0 := by decide
    rcases hc with ⟨rfl, hc, g6'⟩ | ⟨rfl, g1', g2', g6', g3', g4', g5'⟩
    · have e0 : scnV (D (mx a)) (D a 5) (D a 6) = 0 := by
        rw [scn_e, if_neg h1]
        rcases hc with hc | hc
        · rw [if_pos hc]
        · rw [hc, if_pos rfl, ite_self]
      rw [e0] at hQ
      simp only [↓x_iconst, ↓x_bipush, ↓x_sipush, ↓x_ldc, ↓x_iload_n, ↓x_iload, ↓x_aload_n, ↓x_aload, ↓x_istore_n, ↓x_istore, ↓x_astore_n, ↓x_astore, ↓x_iinc, ↓x_iadd, ↓x_isub, ↓x_imul, ↓x_iand, ↓x_idiv, ↓x_ineg, ↓x_i2c, ↓x_dupI, ↓x_dupA, ↓x_dup2, ↓x_goto, ↓x_get, ↓x_put, ↓x_gets, ↓x_iald, ↓x_bald, ↓x_cald, ↓x_aald, ↓x_iast, ↓x_bast, ↓x_cast, ↓x_aast, ↓x_alen, ↓x_iret, ↓x_vret, ↓x_nil, ↓x_jmp, ↓x_ldI0, ↓x_ldIs, ↓x_ldA0, ↓x_ldAs, ↓x_icmpT, ↓x_icmpF, ↓x_ifT, ↓x_ifF, x_iconst, x_bipush, x_sipush, x_ldc, x_iload_n, x_iload, x_aload_n, x_aload, x_istore_n, x_istore, x_astore_n, x_astore, x_iinc, x_iadd, x_isub, x_imul, x_iand, x_idiv, x_ineg, x_i2c, x_dupI, x_dupA, x_dup2, x_goto, x_if, x_icmp, x_get, x_put, x_gets, x_iald, x_bald, x_cald, x_aald, x_iast, x_bast, x_cast, x_aast, x_alen, x_iret, x_vret, x_nil, x_jmp, x_ldI0, x_ldIs, x_ldA0, x_ldAs, x_cad, x_cad2, x_fv0, x_fv1, x_fv2, x_fv3, cnd, fI, L0, c1, nL0, nL1, nL2, nL3, nL4, nL5, nL6, nL7, nL8, nL9, nL10, nL11, nL12, List.map_cons, List.map_nil, List.length_cons, List.length_nil, List.cons_append, List.nil_append, List.replicate_succ, List.replicate_zero, List.set_cons_zero, List.set_cons_succ, List.mem_cons, List.not_mem_nil, or_false, false_or, Option.toList_some, Option.toList_none, ↓reduceIte, if_true, if_false, Nat.reduceAdd, Nat.reduceSub, Nat.reduceEqDiff, Nat.reduceLT, Nat.reduceLeDiff, Int.reduceNatCast, Int.reduceNatCast', Int.reduceAdd, Int.reduceNeg, Int.reduceToNat, Int.reduceLE, Int.reduceLT, Int.reduceEq, Nat.zero_add, Nat.add_zero, and_true, true_and, ne_eq, not_false_eq_true, not_true_eq_false, and_self, implies_true, Bool.false_eq_true, Nat.reduceBEq, Int32.reduceOfInt, Int32.reduceAdd, Int32.reduceSub, Int32.reduceMul, Int32.reduceLE, Int32.reduceLT, Int32.reduceToNatClampNeg, Option.some.injEq, exists_eq_left, exists_eq_left', Option.isSome_some, Option.getD_some, vp_nar_int, pbi, eq_self, forall_const, false_implies, true_implies, false_and, and_false, uD_s, uG_s, uD_o, ad_nw, ad_wn, ad_ns, ad_sn, ad_ss, ad_ww, ad_sw, ad_ws, Int32.reduceToInt, Classical.not_not, d1n, d2n, d3n, d4n, d5n, d6n, d10n, inr, nL17, nL20, nL21, nL30, nL100, nL462, nL773, nL4638, bp6, bp7, bp8, bp9, bp10, bp11, bp12, bp13, bp14, bp15, bp16, bp17, bp20, bp21, bp29, bp30, bp31, bp33, bp45, bp48, bp49, bp50, bp57, bp59, bp97, bp99, bp100, bp102, spm1000, sp137, sp255, sp257, sp300, sp400, sp462, sp771, sp772, sp773, sp999, sp3865, sp4638, bX6_readsScene_0, bX6_readsScene_13, bX6_readsScene_65, bX6_readsScene_66, bX6_readsScene_118, bX6_readsScene_119, bX6_readsScene_120, bX6_readsScene_146, bX6_readsScene_148, eX6_19, eX6_23, eX6_111, eX6_117, t_X6_has, ↓x_inv3 naX6_114, x_inv3 naX6_114, rcX6_114, t_X6_number, ↓x_inv1 naX6_120, x_inv1 naX6_120, rcX6_120, kcX6_38, kcX6_76, kcX6_77, kcX6_78, k0, g0, g1, g2, g4, g8, g9, g10, g11, g12, k1, k2, k3, k4, k5, k6, k7, k8, k9, nz0, nz1]
      exact hQ E ⟨⟨f1, f2, f3⟩, g6', fun _ => f4, fun q => absurd e0 q⟩
    · obtain ⟨s1, s2⟩ := slkE_in (c := D (mx a)) q2 q1 b3
      generalize he3 : slkE (D (mx a)) (D a 5) (numE (D (mx a)) (D a 5) (D a 6 + 1)) = e3 at g6' s1 s2
      by_cases h5 : inV (chF (D (mx a)) (D a 5) e3) 33 33 = 0
      · have d := in_one.mp h5
        have e0 : scnV (D (mx a)) (D a 5) (D a 6) = 0 := by
          rw [scn_e, if_neg h1, if_neg g1', if_neg g2', he3, tns_e, if_neg d, if_pos rfl]
        rw [e0] at hQ
        simp only [↓x_iconst, ↓x_bipush, ↓x_sipush, ↓x_ldc, ↓x_iload_n, ↓x_iload, ↓x_aload_n, ↓x_aload, ↓x_istore_n, ↓x_istore, ↓x_astore_n, ↓x_astore, ↓x_iinc, ↓x_iadd, ↓x_isub, ↓x_imul, ↓x_iand, ↓x_idiv, ↓x_ineg, ↓x_i2c, ↓x_dupI, ↓x_dupA, ↓x_dup2, ↓x_goto, ↓x_get, ↓x_put, ↓x_gets, ↓x_iald, ↓x_bald, ↓x_cald, ↓x_aald, ↓x_iast, ↓x_bast, ↓x_cast, ↓x_aast, ↓x_alen, ↓x_iret, ↓x_vret, ↓x_nil, ↓x_jmp, ↓x_ldI0, ↓x_ldIs, ↓x_ldA0, ↓x_ldAs, ↓x_icmpT, ↓x_icmpF, ↓x_ifT, ↓x_ifF, x_iconst, x_bipush, x_sipush, x_ldc, x_iload_n, x_iload, x_aload_n, x_aload, x_istore_n, x_istore, x_astore_n, x_astore, x_iinc, x_iadd, x_isub, x_imul, x_iand, x_idiv, x_ineg, x_i2c, x_dupI, x_dupA, x_dup2, x_goto, x_if, x_icmp, x_get, x_put, x_gets, x_iald, x_bald, x_cald, x_aald, x_iast, x_bast, x_cast, x_aast, x_alen, x_iret, x_vret, x_nil, x_jmp, x_ldI0, x_ldIs, x_ldA0, x_ldAs, x_cad, x_cad2, x_fv0, x_fv1, x_fv2, x_fv3, cnd, fI, L0, c1, nL0, nL1, nL2, nL3, nL4, nL5, nL6, nL7, nL8, nL9, nL10, nL11, nL12, List.map_cons, List.map_nil, List.length_cons, List.length_nil, List.cons_append, List.nil_append, List.replicate_succ, List.replicate_zero, List.set_cons_zero, List.set_cons_succ, List.mem_cons, List.not_mem_nil, or_false, false_or, Option.toList_some, Option.toList_none, ↓reduceIte, if_true, if_false, Nat.reduceAdd, Nat.reduceSub, Nat.reduceEqDiff, Nat.reduceLT, Nat.reduceLeDiff, Int.reduceNatCast, Int.reduceNatCast', Int.reduceAdd, Int.reduceNeg, Int.reduceToNat, Int.reduceLE, Int.reduceLT, Int.reduceEq, Nat.zero_add, Nat.add_zero, and_true, true_and, ne_eq, not_false_eq_true, not_true_eq_false, and_self, implies_true, Bool.false_eq_true, Nat.reduceBEq, Int32.reduceOfInt, Int32.reduceAdd, Int32.reduceSub, Int32.reduceMul, Int32.reduceLE, Int32.reduceLT, Int32.reduceToNatClampNeg, Option.some.injEq, exists_eq_left, exists_eq_left', Option.isSome_some, Option.getD_some, vp_nar_int, pbi, eq_self, forall_const, false_implies, true_implies, false_and, and_false, uD_s, uG_s, uD_o, ad_nw, ad_wn, ad_ns, ad_sn, ad_ss, ad_ww, ad_sw, ad_ws, Int32.reduceToInt, Classical.not_not, d1n, d2n, d3n, d4n, d5n, d6n, d10n, inr, nL17, nL20, nL21, nL30, nL100, nL462, nL773, nL4638, bp6, bp7, bp8, bp9, bp10, bp11, bp12, bp13, bp14, bp15, bp16, bp17, bp20, bp21, bp29, bp30, bp31, bp33, bp45, bp48, bp49, bp50, bp57, bp59, bp97, bp99, bp100, bp102, spm1000, sp137, sp255, sp257, sp300, sp400, sp462, sp771, sp772, sp773, sp999, sp3865, sp4638, bX6_readsScene_0, bX6_readsScene_13, bX6_readsScene_65, bX6_readsScene_66, bX6_readsScene_118, bX6_readsScene_119, bX6_readsScene_120, bX6_readsScene_146, bX6_readsScene_148, eX6_19, eX6_23, eX6_111, eX6_117, t_X6_has, ↓x_inv3 naX6_114, x_inv3 naX6_114, rcX6_114, t_X6_number, ↓x_inv1 naX6_120, x_inv1 naX6_120, rcX6_120, kcX6_38, kcX6_76, kcX6_77, kcX6_78, k0, g0, g1, g2, g4, g8, g9, g10, g11, g12, k1, k2, k3, k4, k5, k6, k7, k8, k9, hM, xch, o1, o2, g6', s1, b3, h5, c01, nz0, nz1]
        exact hQ E ⟨⟨f1, f2, f3⟩, by rw [scP, if_neg h1, if_neg g1', if_neg g2', he3, tnP, if_neg d]; exact g6', fun _ => f4, fun q => absurd e0 q⟩
      · have d : chF (D (mx a)) (D a 5) e3 = 33 := Decidable.not_not.mp (fun q => h5 (in_one.mpr q))
        obtain ⟨l3, -⟩ := chF_in h5 (by decide)
        obtain ⟨p2, p3, -⟩ := at1 s1 l3 b3
        have ga : ∀ x, RsF D (uD E a 6 x) a n := fun x => ⟨fun b b1 b2 => by rw [uD_o b1]; exact f1 b b1 b2, fun j j1 j2 => by
          unfold uD
          rw [if_neg (fun q => j1 q.2)]
          exact f2 j j1 j2, fun j hj => by rw [uD_o na2]; exact f3 j hj⟩
        by_cases h6 : inV (chF (D (mx a)) (D a 5) (e3 + 1)) 48 57 = 0
        · have e0 : scnV (D (mx a)) (D a 5) (D a 6) = 0 := by
            rw [scn_e, if_neg h1, if_neg g1', if_neg g2', he3, tns_e, if_pos d, if_pos h6]
          rw [e0] at hQ
          simp only [↓x_iconst, ↓x_bipush, ↓x_sipush, ↓x_ldc, ↓x_iload_n, ↓x_iload, ↓x_aload_n, ↓x_aload, ↓x_istore_n, ↓x_istore, ↓x_astore_n, ↓x_astore, ↓x_iinc, ↓x_iadd, ↓x_isub, ↓x_imul, ↓x_iand, ↓x_idiv, ↓x_ineg, ↓x_i2c, ↓x_dupI, ↓x_dupA, ↓x_dup2, ↓x_goto, ↓x_get, ↓x_put, ↓x_gets, ↓x_iald, ↓x_bald, ↓x_cald, ↓x_aald, ↓x_iast, ↓x_bast, ↓x_cast, ↓x_aast, ↓x_alen, ↓x_iret, ↓x_vret, ↓x_nil, ↓x_jmp, ↓x_ldI0, ↓x_ldIs, ↓x_ldA0, ↓x_ldAs, ↓x_icmpT, ↓x_icmpF, ↓x_ifT, ↓x_ifF, x_iconst, x_bipush, x_sipush, x_ldc, x_iload_n, x_iload, x_aload_n, x_aload, x_istore_n, x_istore, x_astore_n, x_astore, x_iinc, x_iadd, x_isub, x_imul, x_iand, x_idiv, x_ineg, x_i2c, x_dupI, x_dupA, x_dup2, x_goto, x_if, x_icmp, x_get, x_put, x_gets, x_iald, x_bald, x_cald, x_aald, x_iast, x_bast, x_cast, x_aast, x_alen, x_iret, x_vret, x_nil, x_jmp, x_ldI0, x_ldIs, x_ldA0, x_ldAs, x_cad, x_cad2, x_fv0, x_fv1, x_fv2, x_fv3, cnd, fI, L0, c1, nL0, nL1, nL2, nL3, nL4, nL5, nL6, nL7, nL8, nL9, nL10, nL11, nL12, List.map_cons, List.map_nil, List.length_cons, List.length_nil, List.cons_append, List.nil_append, List.replicate_succ, List.replicate_zero, List.set_cons_zero, List.set_cons_succ, List.mem_cons, List.not_mem_nil, or_false, false_or, Option.toList_some, Option.toList_none, ↓reduceIte, if_true, if_false, Nat.reduceAdd, Nat.reduceSub, Nat.reduceEqDiff, Nat.reduceLT, Nat.reduceLeDiff, Int.reduceNatCast, Int.reduceNatCast', Int.reduceAdd, Int.reduceNeg, Int.reduceToNat, Int.reduceLE, Int.reduceLT, Int.reduceEq, Nat.zero_add, Nat.add_zero, and_true, true_and, ne_eq, not_false_eq_true, not_true_eq_false, and_self, implies_true, Bool.false_eq_true, Nat.reduceBEq, Int32.reduceOfInt, Int32.reduceAdd, Int32.reduceSub, Int32.reduceMul, Int32.reduceLE, Int32.reduceLT, Int32.reduceToNatClampNeg, Option.some.injEq, exists_eq_left, exists_eq_left', Option.isSome_some, Option.getD_some, vp_nar_int, pbi, eq_self, forall_const, false_implies, true_implies, false_and, and_false, uD_s, uG_s, uD_o, ad_nw, ad_wn, ad_ns, ad_sn, ad_ss, ad_ww, ad_sw, ad_ws, Int32.reduceToInt, Classical.not_not, d1n, d2n, d3n, d4n, d5n, d6n, d10n, inr, nL17, nL20, nL21, nL30, nL100, nL462, nL773, nL4638, bp6, bp7, bp8, bp9, bp10, bp11, bp12, bp13, bp14, bp15, bp16, bp17, bp20, bp21, bp29, bp30, bp31, bp33, bp45, bp48, bp49, bp50, bp57, bp59, bp97, bp99, bp100, bp102, spm1000, sp137, sp255, sp257, sp300, sp400, sp462, sp771, sp772, sp773, sp999, sp3865, sp4638, bX6_readsScene_0, bX6_readsScene_13, bX6_readsScene_65, bX6_readsScene_66, bX6_readsScene_118, bX6_readsScene_119, bX6_readsScene_120, bX6_readsScene_146, bX6_readsScene_148, eX6_19, eX6_23, eX6_111, eX6_117, t_X6_has, ↓x_inv3 naX6_114, x_inv3 naX6_114, rcX6_114, t_X6_number, ↓x_inv1 naX6_120, x_inv1 naX6_120, rcX6_120, kcX6_38, kcX6_76, kcX6_77, kcX6_78, k0, g0, g1, g2, g4, g8, g9, g10, g11, g12, k1, k2, k3, k4, k5, k6, k7, k8, k9, hM, xch, o1, o2, nx, g6', s1, b3, h5, h6, p2, c01, nz0, nz1]
          refine hQ _ ⟨ga _, ?_, fun _ => ?_, fun q => absurd e0 q⟩
          · rw [scP, if_neg h1, if_neg g1', if_neg g2', he3, tnP, if_pos d, if_pos h6, uD_eq]
          · rw [uD_s, if_neg (by decide)]
            exact f4
        · have e0 : scnV (D (mx a)) (D a 5) (D a 6) = 1 := by
            rw [scn_e, if_neg h1, if_neg g1', if_neg g2', he3, tns_e, if_pos d, if_neg h6]
          rw [e0] at hQ
          obtain ⟨l4, e4⟩ := chF_in h6 (by decide)
          have z4 : e3 + 1 < 100 := Int32.lt_of_lt_of_le l4 b3
          simp only [↓x_iconst, ↓x_bipush, ↓x_sipush, ↓x_ldc, ↓x_iload_n, ↓x_iload, ↓x_aload_n, ↓x_aload, ↓x_istore_n, ↓x_istore, ↓x_astore_n, ↓x_astore, ↓x_iinc, ↓x_iadd, ↓x_isub, ↓x_imul, ↓x_iand, ↓x_idiv, ↓x_ineg, ↓x_i2c, ↓x_dupI, ↓x_dupA, ↓x_dup2, ↓x_goto, ↓x_get, ↓x_put, ↓x_gets, ↓x_iald, ↓x_bald, ↓x_cald, ↓x_aald, ↓x_iast, ↓x_bast, ↓x_cast, ↓x_aast, ↓x_alen, ↓x_iret, ↓x_vret, ↓x_nil, ↓x_jmp, ↓x_ldI0, ↓x_ldIs, ↓x_ldA0, ↓x_ldAs, ↓x_icmpT, ↓x_icmpF, ↓x_ifT, ↓x_ifF, x_iconst, x_bipush, x_sipush, x_ldc, x_iload_n, x_iload, x_aload_n, x_aload, x_istore_n, x_istore, x_astore_n, x_astore, x_iinc, x_iadd, x_isub, x_imul, x_iand, x_idiv, x_ineg, x_i2c, x_dupI, x_dupA, x_dup2, x_goto, x_if, x_icmp, x_get, x_put, x_gets, x_iald, x_bald, x_cald, x_aald, x_iast, x_bast, x_cast, x_aast, x_alen, x_iret, x_vret, x_nil, x_jmp, x_ldI0, x_ldIs, x_ldA0, x_ldAs, x_cad, x_cad2, x_fv0, x_fv1, x_fv2, x_fv3, cnd, fI, L0, c1, nL0, nL1, nL2, nL3, nL4, nL5, nL6, nL7, nL8, nL9, nL10, nL11, nL12, List.map_cons, List.map_nil, List.length_cons, List.length_nil, List.cons_append, List.nil_append, List.replicate_succ, List.replicate_zero, List.set_cons_zero, List.set_cons_succ, List.mem_cons, List.not_mem_nil, or_false, false_or, Option.toList_some, Option.toList_none, ↓reduceIte, if_true, if_false, Nat.reduceAdd, Nat.reduceSub, Nat.reduceEqDiff, Nat.reduceLT, Nat.reduceLeDiff, Int.reduceNatCast, Int.reduceNatCast', Int.reduceAdd, Int.reduceNeg, Int.reduceToNat, Int.reduceLE, Int.reduceLT, Int.reduceEq, Nat.zero_add, Nat.add_zero, and_true, true_and, ne_eq, not_false_eq_true, not_true_eq_false, and_self, implies_true, Bool.false_eq_true, Nat.reduceBEq, Int32.reduceOfInt, Int32.reduceAdd, Int32.reduceSub, Int32.reduceMul, Int32.reduceLE, Int32.reduceLT, Int32.reduceToNatClampNeg, Option.some.injEq, exists_eq_left, exists_eq_left', Option.isSome_some, Option.getD_some, vp_nar_int, pbi, eq_self, forall_const, false_implies, true_implies, false_and, and_false, uD_s, uG_s, uD_o, ad_nw, ad_wn, ad_ns, ad_sn, ad_ss, ad_ww, ad_sw, ad_ws, Int32.reduceToInt, Classical.not_not, d1n, d2n, d3n, d4n, d5n, d6n, d10n, inr, nL17, nL20, nL21, nL30, nL100, nL462, nL773, nL4638, bp6, bp7, bp8, bp9, bp10, bp11, bp12, bp13, bp14, bp15, bp16, bp17, bp20, bp21, bp29, bp30, bp31, bp33, bp45, bp48, bp49, bp50, bp57, bp59, bp97, bp99, bp100, bp102, spm1000, sp137, sp255, sp257, sp300, sp400, sp462, sp771, sp772, sp773, sp999, sp3865, sp4638, bX6_readsScene_0, bX6_readsScene_13, bX6_readsScene_65, bX6_readsScene_66, bX6_readsScene_118, bX6_readsScene_119, bX6_readsScene_120, bX6_readsScene_146, bX6_readsScene_148, eX6_19, eX6_23, eX6_111, eX6_117, t_X6_has, ↓x_inv3 naX6_114, x_inv3 naX6_114, rcX6_114, t_X6_number, ↓x_inv1 naX6_120, x_inv1 naX6_120, rcX6_120, kcX6_38, kcX6_76, kcX6_77, kcX6_78, k0, g0, g1, g2, g4, g8, g9, g10, g11, g12, k1, k2, k3, k4, k5, k6, k7, k8, k9, hM, xch, o1, o2, nx, nr, nr1, nr2, cs, e4, g6', s1, b3, h5, h6, p2, z4, x3, x3', kc, c01, nz0, nz1]
          refine hQ _ ⟨⟨fun b b1 b2 => by rw [uD_o b1, uD_o b2, uD_o b1, uD_o b1]; exact f1 b b1 b2, fun j j1 j2 => ?_, fun j hj => ?_⟩, ?_, fun q => absurd (e0.symm.trans q) c01, fun _ => ⟨?_, ?_, ?_, ?_, ?_⟩⟩
          · unfold uD
            rw [if_neg (fun q => j2 q.2), if_neg (fun q => na1 q.1), if_neg (fun q => j1 q.2), if_neg (fun q => j1 q.2)]
            exact f2 j j1 j2
          · rw [uD_o na2, uD_at' (by omega) (by omega) (fun _ => by omega), uD_o na2, uD_o na2]
            exact f3 j hj
          · rw [scP, if_neg h1, if_neg g1', if_neg g2', he3, tnP, if_pos d, if_neg h6, uD_s, if_neg (by decide), uD_o na1, uD_eq]
          · rw [uD_eq, f4]
          · rw [uD_o na2, uD_at' (by omega) (by omega) (fun _ => by omega), uD_o na2, uD_o na2]
            exact g3'
          · rw [uD_o na2, uD_at' (by omega) (by omega) (fun _ => by omega), uD_o na2, uD_o na2]
            exact g4'
          · rw [uD_o na2, uD_at' (by omega) (by omega) (fun _ => by omega), uD_o na2, uD_o na2]
            exact g5'
          · rw [uD_o na2, uD_eq, tnW, he3]
