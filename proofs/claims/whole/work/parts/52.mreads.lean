/-! ### the model reads the text -/
def poS (c : Int32 → Int32) (l : Int32) : Nat → Int32
  | 0 => 0
  | j + 1 => scP c l (poS c l j) + 1
def goS (c : Int32 → Int32) (l : Int32) (j : Nat) : Prop := ∀ i, i < j → ¬ scnV c l (poS c l i) = 0 ∧ chF c l (scP c l (poS c l i)) = 59
theorem one_more {x l : Int32} (h0 : 0 ≤ x) (h : x < l) (hl : l ≤ 100) : (x + 1).toInt = x.toInt + 1 ∧ x.toInt + 1 ≤ l.toInt := by
  refine ⟨?_, ?_⟩ <;> (simp only [i_lt, i_le, i_eq, i_cl, Int32.reduceToInt, ne_eq] at * <;> (first | omega | (simp (disch := (first | omega | (simp (disch := (first | omega | (simp (disch := (first | omega | (simp only [Int32.reduceToInt]; omega))) only [a_add, a_sub, a_mul, a_neg, i_lt, i_le, i_eq, i_cl, Int32.reduceToInt, Int32.reduceToNatClampNeg]; omega))) only [a_add, a_sub, a_mul, a_neg, i_lt, i_le, i_eq, i_cl, Int32.reduceToInt, Int32.reduceToNatClampNeg]; omega))) only [a_add, a_sub, a_mul, a_neg, i_lt, i_le, i_eq, i_cl, Int32.reduceToInt, Int32.reduceToNatClampNeg] at * <;> (first | omega | (simp (disch := (first | omega | (simp (disch := (first | omega | (simp (disch := (first | omega | (simp only [Int32.reduceToInt]; omega))) only [a_add, a_sub, a_mul, a_neg, i_lt, i_le, i_eq, i_cl, Int32.reduceToInt, Int32.reduceToNatClampNeg]; omega))) only [a_add, a_sub, a_mul, a_neg, i_lt, i_le, i_eq, i_cl, Int32.reduceToInt, Int32.reduceToNatClampNeg]; omega))) only [a_add, a_sub, a_mul, a_neg, i_lt, i_le, i_eq, i_cl, Int32.reduceToInt, Int32.reduceToNatClampNeg] at * <;> omega)))))
theorem scP_b {c : Int32 → Int32} {l x : Int32} (h0 : 0 ≤ x) (hl : l ≤ 100) (hs : ¬ scnV c l x = 0) : x.toInt + 4 ≤ (scP c l x).toInt ∧ (scP c l x).toInt ≤ l.toInt := by
  rw [scn_e] at hs
  by_cases h1 : inV (chF c l x) 97 102 = 0
  · rw [if_pos h1] at hs
    exact absurd rfl hs
  · rw [if_neg h1] at hs
    by_cases h2 : numV c l (x + 1) = 0
    · rw [if_pos h2] at hs
      exact absurd rfl hs
    · rw [if_neg h2] at hs
      by_cases h3 : slkV c l (numE c l (x + 1)) = 0
      · rw [if_pos h3] at hs
        exact absurd rfl hs
      · rw [if_neg h3] at hs
        have h4 : ¬ tnsV c l (slkE c l (numE c l (x + 1))) = 0 := fun q => hs (if_pos q)
        rw [tns_e] at h4
        obtain ⟨l1, -⟩ := chF_in h1 (by decide)
        obtain ⟨a1, a2, -⟩ := at1 h0 l1 hl
        obtain ⟨t1, -⟩ := one_more h0 l1 hl
        have n1 : (x + 1).toInt + 1 ≤ (numE c l (x + 1)).toInt ∧ 0 ≤ numE c l (x + 1) ∧ numE c l (x + 1) ≤ 100 := by
          obtain ⟨q1, q2⟩ := numE_in (c := c) a1 a2 hl
          refine ⟨?_, Int32.le_trans a1 q1, q2⟩
          rw [num_e.1] at h2
          rw [num_e.2]
          by_cases d1 : inV (chF c l (x + 1)) 49 57 = 0
          · rw [if_pos d1] at h2
            exact absurd rfl h2
          · rw [if_neg d1]
            obtain ⟨l2, -⟩ := chF_in d1 (by decide)
            obtain ⟨a3, a4, -⟩ := at1 a1 l2 hl
            obtain ⟨t2, -⟩ := one_more a1 l2 hl
            by_cases d2 : inV (chF c l (x + 1 + 1)) 48 57 = 0
            · rw [if_pos d2]
              omega
            · rw [if_neg d2]
              obtain ⟨l3, -⟩ := chF_in d2 (by decide)
              obtain ⟨a5, a6, -⟩ := at1 a3 l3 hl
              obtain ⟨t3, -⟩ := one_more a3 l3 hl
              by_cases d3 : inV (chF c l (x + 1 + 1 + 1)) 48 57 = 0
              · rw [if_pos d3]
                omega
              · rw [if_neg d3]
                obtain ⟨l4, -⟩ := chF_in d3 (by decide)
                obtain ⟨t4, -⟩ := one_more a5 l4 hl
                omega
        obtain ⟨n1, n2, n3⟩ := n1
        have s1 : (numE c l (x + 1)).toInt ≤ (slkE c l (numE c l (x + 1))).toInt := by
          unfold slkE
          by_cases d : chF c l (numE c l (x + 1)) = 45
          · rw [if_pos d]
            have l5 := ch_eq (by decide) d
            obtain ⟨a7, a8, -⟩ := at1 n2 l5 hl
            obtain ⟨t5, -⟩ := one_more n2 l5 hl
            have := (numE_in (c := c) a7 a8 hl).1
            rw [i_le] at this
            omega
          · rw [if_neg d]
            exact Int.le_refl _
        obtain ⟨s2, s3⟩ := slkE_in (c := c) n2 n3 hl
        unfold scP tnP
        rw [if_neg h1, if_neg h2, if_neg h3]
        generalize slkE c l (numE c l (x + 1)) = e3 at *
        by_cases d : chF c l e3 = 33
        · rw [if_pos d] at h4 ⊢
          rw [if_neg h4]
          have l6 := ch_eq (by decide) d
          obtain ⟨a9, a10, -⟩ := at1 s2 l6 hl
          obtain ⟨t6, -⟩ := one_more s2 l6 hl
          obtain ⟨l7, -⟩ := chF_in h4 (by decide)
          obtain ⟨t7, t8⟩ := one_more a9 l7 hl
          rw [i_lt] at l7
          omega
        · rw [if_neg d] at h4
          exact absurd rfl h4
theorem pos_b {c : Int32 → Int32} {l : Int32} (hl0 : 0 ≤ l) (hl : l ≤ 100) : ∀ j, goS c l j → (5 * j : Int) ≤ (poS c l j).toInt ∧ (poS c l j).toInt ≤ l.toInt
  | 0, _ => by
    rw [poS]
    rw [i_le] at hl0
    exact ⟨by decide, hl0⟩
  | j + 1, h => by
    obtain ⟨p1, p2⟩ := pos_b hl0 hl j (fun i hi => h i (by omega))
    obtain ⟨g1, g2⟩ := h j (by omega)
    have p0 : 0 ≤ poS c l j := by
      rw [i_le]
      simp only [Int32.reduceToInt]
      omega
    obtain ⟨s1, s2⟩ := scP_b p0 hl g1
    have s0 : 0 ≤ scP c l (poS c l j) := by
      rw [i_le]
      simp only [Int32.reduceToInt]
      omega
    obtain ⟨t1, t2⟩ := one_more s0 (ch_eq (by decide) g2) hl
    rw [poS]
    push_cast
    omega
theorem pos_20 {c : Int32 → Int32} {l : Int32} (hl0 : 0 ≤ l) (hl : l ≤ 100) {j : Nat} (h : goS c l j) : j ≤ 20 ∧ 0 ≤ poS c l j ∧ poS c l j ≤ 100 := by
  obtain ⟨p1, p2⟩ := pos_b hl0 hl j h
  simp only [i_le, Int32.reduceToInt] at hl ⊢
  omega
def VlP (E : DT) (a : Nat) (c : Int32 → Int32) (l : Int32) (n : Nat) : Prop := ∀ i, i < n → E (mr a) (nI (4 * i)) = numV c l (poS c l i + 1) ∧ E (mr a) (nI (4 * i + 1)) = slW c l (numE c l (poS c l i + 1)) ∧ E (mr a) (nI (4 * i + 2)) = chF c l (poS c l i) - 97 ∧ E (mr a) (nI (4 * i + 3)) = tnW c l (poS c l i)
/-- the text read up to the scene j -/
def RdP (D E : DT) (a j : Nat) (is : Int32) : Prop := (∀ b, b ≠ a → b ≠ mr a → E b = D b) ∧ (∀ i, ¬ i = 6 → ¬ i = 7 → E a i = D a i) ∧ goS (D (mx a)) (D a 5) j ∧ E a 6 = scP (D (mx a)) (D a 5) (poS (D (mx a)) (D a 5) j) ∧ ((is = 0 ∧ (scnV (D (mx a)) (D a 5) (poS (D (mx a)) (D a 5) j) = 0 ∨ (E a 6 < D a 5 ∧ ¬ chF (D (mx a)) (D a 5) (E a 6) = 59))) ∨ (is = 1 ∧ ¬ scnV (D (mx a)) (D a 5) (poS (D (mx a)) (D a 5) j) = 0 ∧ E a 7 = nI (j + 1) ∧ VlP E a (D (mx a)) (D a 5) (j + 1)))
theorem RdP_n {D F E : DT} {a j : Nat} (hF : ∀ b, b ≠ a → b ≠ mr a → F b = D b) (hF2 : ∀ i, ¬ i = 6 → ¬ i = 7 → F a i = D a i) (hg : goS (D (mx a)) (D a 5) j) (h6 : F a 6 = poS (D (mx a)) (D a 5) j) (h7 : F a 7 = nI j) (hv : VlP F a (D (mx a)) (D a 5) j) (h : RsP F E a j) : RdP D E a j (scnV (D (mx a)) (D a 5) (poS (D (mx a)) (D a 5) j)) := by
  obtain ⟨⟨e1, e2, e3⟩, e4, e5, e6⟩ := h
  have o1 : F (mx a) = D (mx a) := hF _ (by unfold mx; omega) (by unfold mx mr; omega)
  have o2 : F a 5 = D a 5 := hF2 5 (by decide) (by decide)
  rw [o1, o2, h6] at e4 e5 e6
  refine ⟨fun b b1 b2 => (e1 b b1 b2).trans (hF b b1 b2), fun i i1 i2 => (e2 i i1 i2).trans (hF2 i i1 i2), hg, e4, ?_⟩
  rcases nz_scn (c := D (mx a)) (l := D a 5) (x := poS (D (mx a)) (D a 5) j) with q | q
  · exact Or.inl ⟨q, Or.inl q⟩
  · have q' : ¬ scnV (D (mx a)) (D a 5) (poS (D (mx a)) (D a 5) j) = 0 := by rw [q]; decide
    obtain ⟨f1, f2, f3, f4, f5⟩ := e6 q'
    refine Or.inr ⟨q, q', by rw [f1, h7, nI_1], fun i hi => ?_⟩
    by_cases hij : i = j
    · subst hij
      exact ⟨f2, f3, f4, f5⟩
    · obtain ⟨v1, v2, v3, v4⟩ := hv i (by omega)
      exact ⟨(e3 _ (by omega)).trans v1, (e3 _ (by omega)).trans v2, (e3 _ (by omega)).trans v3, (e3 _ (by omega)).trans v4⟩
def t_X6_reads : TR := fun K _ _ As G D Q => match As with
  | [.ref a] => Mod K G a ∧ (0 ≤ D a 5 ∧ D a 5 ≤ 100) ∧ ∀ E j r, RdP D E a j r → (r = 1 → ¬ E a 6 < D a 5) → Q (some (.int r)) G E
  | _ => False
set_option maxRecDepth 100000 in
set_option maxHeartbeats 4000000 in
theorem s_X6_reads (l : Launch) : Sat l yX6_reads cX6_reads 2 (some .boolean) 4 t_X6_reads := by
  refine satb (own := RX6) (fl := flX6) (sg := sgX6) (kc := kcX6) (na := naX6) (rc := rcX6) (cv := (cAdd 114 t_X6_has (cAdd 123 t_X6_readsScene cNone))) (cs := cNone) (bl := bX6_reads) (by decide +kernel) rfl envX6 bokX6_reads (cvAdd (s_X6_has l) lkX6_114 rfl rfl (by decide) (cvAdd (s_X6_readsScene l) lkX6_123 rfl rfl (by decide) cvNone)) csNone ?_
  intro L K R0 sa hPp As G D Q htr
  unfold t_X6_reads at htr
  split at htr
  case h_2 => exact htr.elim
  rename_i a
  obtain ⟨hM, ⟨b1, b2⟩, hQ⟩ := htr
  obtain ⟨a, rfl⟩ : ∃ q : Nat, q = a := ⟨_, rfl⟩
  obtain ⟨⟨k0, g0, g1, g2, g4, g8, g9, g10, g11, g12⟩, k1, k2, k3, k4, k5, k6, k7, k8, k9⟩ := id hM
  have nx : (mx a = a) = False := eq_false (by unfold mx; omega)
  have c01 : ¬ (1 : Int32) = 0 := by decide
  refine ⟨by simp, by simp [cat1], [15], fun k pc LL stk G' E => ∃ (j : Nat) (is : Int32), LL = [some (.ref a), some (.int is)] ∧ stk = [] ∧ G' = G ∧ RdP D E a j is ∧ k = (if is = 0 then 0 else 21 - j), 6, 6, ?_, ?_⟩
  · simp only [↓x_iconst, ↓x_bipush, ↓x_sipush, ↓x_ldc, ↓x_iload_n, ↓x_iload, ↓x_aload_n, ↓x_aload, ↓x_istore_n, ↓x_istore, ↓x_astore_n, ↓x_astore, ↓x_iinc, ↓x_iadd, ↓x_isub, ↓x_imul, ↓x_iand, ↓x_idiv, ↓x_ineg, ↓x_i2c, ↓x_dupI, ↓x_dupA, ↓x_dup2, ↓x_goto, ↓x_get, ↓x_put, ↓x_gets, ↓x_iald, ↓x_bald, ↓x_cald, ↓x_aald, ↓x_iast, ↓x_bast, ↓x_cast, ↓x_aast, ↓x_alen, ↓x_iret, ↓x_vret, ↓x_nil, ↓x_jmp, ↓x_ldI0, ↓x_ldIs, ↓x_ldA0, ↓x_ldAs, ↓x_icmpT, ↓x_icmpF, ↓x_ifT, ↓x_ifF, x_iconst, x_bipush, x_sipush, x_ldc, x_iload_n, x_iload, x_aload_n, x_aload, x_istore_n, x_istore, x_astore_n, x_astore, x_iinc, x_iadd, x_isub, x_imul, x_iand, x_idiv, x_ineg, x_i2c, x_dupI, x_dupA, x_dup2, x_goto, x_if, x_icmp, x_get, x_put, x_gets, x_iald, x_bald, x_cald, x_aald, x_iast, x_bast, x_cast, x_aast, x_alen, x_iret, x_vret, x_nil, x_jmp, x_ldI0, x_ldIs, x_ldA0, x_ldAs, x_cad, x_cad2, x_fv0, x_fv1, x_fv2, x_fv3, cnd, fI, L0, c1, nL0, nL1, nL2, nL3, nL4, nL5, nL6, nL7, nL8, nL9, nL10, nL11, nL12, List.map_cons, List.map_nil, List.length_cons, List.length_nil, List.cons_append, List.nil_append, List.replicate_succ, List.replicate_zero, List.set_cons_zero, List.set_cons_succ, List.mem_cons, List.not_mem_nil, or_false, false_or, Option.toList_some, Option.toList_none, ↓reduceIte, if_true, if_false, Nat.reduceAdd, Nat.reduceSub, Nat.reduceEqDiff, Nat.reduceLT, Nat.reduceLeDiff, Int.reduceNatCast, Int.reduceNatCast', Int.reduceAdd, Int.reduceNeg, Int.reduceToNat, Int.reduceLE, Int.reduceLT, Int.reduceEq, Nat.zero_add, Nat.add_zero, and_true, true_and, ne_eq, not_false_eq_true, not_true_eq_false, and_self, implies_true, Bool.false_eq_true, Nat.reduceBEq, Int32.reduceOfInt, Int32.reduceAdd, Int32.reduceSub, Int32.reduceMul, Int32.reduceLE, Int32.reduceLT, Int32.reduceToNatClampNeg, Option.some.injEq, exists_eq_left, exists_eq_left', Option.isSome_some, Option.getD_some, vp_nar_int, pbi, eq_self, forall_const, false_implies, true_implies, false_and, and_false, uD_s, uG_s, uD_o, ad_nw, ad_wn, ad_ns, ad_sn, ad_ss, ad_ww, ad_sw, ad_ws, Int32.reduceToInt, Classical.not_not, d1n, d2n, d3n, d4n, d5n, d6n, d10n, inr, nL17, nL20, nL21, nL30, nL100, nL462, nL773, nL4638, bp6, bp7, bp8, bp9, bp10, bp11, bp12, bp13, bp14, bp15, bp16, bp17, bp20, bp21, bp29, bp30, bp31, bp33, bp45, bp48, bp49, bp50, bp57, bp59, bp97, bp99, bp100, bp102, spm1000, sp137, sp255, sp257, sp300, sp400, sp462, sp771, sp772, sp773, sp999, sp3865, sp4638, bX6_reads_0, bX6_reads_15, bX6_reads_52, bX6_reads_53, bX6_reads_57, eX6_108, eX6_111, eX6_117, t_X6_has, ↓x_inv3 naX6_114, x_inv3 naX6_114, rcX6_114, t_X6_readsScene, ↓x_inv1 naX6_123, x_inv1 naX6_123, rcX6_123, kcX6_38, kcX6_76, kcX6_77, kcX6_78, k0, g0, g1, g2, g4, g8, g9, g10, g11, g12, k1, k2, k3, k4, k5, k6, k7, k8, k9, hM, nx, b1, b2, nz0, nz1]
    intro E hE
    exact ⟨_, 0, _, rfl, RdP_n (F := uD (uD D a 6 0) a 7 0) (fun b b1 b2 => by rw [uD_o b1, uD_o b1]) (fun i i1 i2 => by
      unfold uD
      rw [if_neg (fun q => i2 q.2), if_neg (fun q => i1 q.2)]) (fun i hi => absurd hi (by omega)) (by rw [uD_s, if_neg (by decide), uD_eq]; rfl) (by rw [uD_eq]; rfl) (fun i hi => absurd hi (by omega)) hE, rfl⟩
  · rintro k pc hpc LL stk G' E ⟨j, is, rfl, rfl, rfl, hI, rfl⟩
    obtain rfl := List.mem_singleton.mp hpc
    obtain ⟨e1, e2, hg, e6, hc⟩ := id hI
    obtain ⟨j20, p0, p1⟩ := pos_20 b1 b2 hg
    have o1 : E (mx a) = D (mx a) := e1 _ (by unfold mx; omega) (by unfold mx mr; omega)
    have o2 : E a 5 = D a 5 := e2 5 (by decide) (by decide)
    rcases hc with ⟨rfl, hc⟩ | ⟨rfl, hs, e7, hv⟩
    · simp only [↓x_iconst, ↓x_bipush, ↓x_sipush, ↓x_ldc, ↓x_iload_n, ↓x_iload, ↓x_aload_n, ↓x_aload, ↓x_istore_n, ↓x_istore, ↓x_astore_n, ↓x_astore, ↓x_iinc, ↓x_iadd, ↓x_isub, ↓x_imul, ↓x_iand, ↓x_idiv, ↓x_ineg, ↓x_i2c, ↓x_dupI, ↓x_dupA, ↓x_dup2, ↓x_goto, ↓x_get, ↓x_put, ↓x_gets, ↓x_iald, ↓x_bald, ↓x_cald, ↓x_aald, ↓x_iast, ↓x_bast, ↓x_cast, ↓x_aast, ↓x_alen, ↓x_iret, ↓x_vret, ↓x_nil, ↓x_jmp, ↓x_ldI0, ↓x_ldIs, ↓x_ldA0, ↓x_ldAs, ↓x_icmpT, ↓x_icmpF, ↓x_ifT, ↓x_ifF, x_iconst, x_bipush, x_sipush, x_ldc, x_iload_n, x_iload, x_aload_n, x_aload, x_istore_n, x_istore, x_astore_n, x_astore, x_iinc, x_iadd, x_isub, x_imul, x_iand, x_idiv, x_ineg, x_i2c, x_dupI, x_dupA, x_dup2, x_goto, x_if, x_icmp, x_get, x_put, x_gets, x_iald, x_bald, x_cald, x_aald, x_iast, x_bast, x_cast, x_aast, x_alen, x_iret, x_vret, x_nil, x_jmp, x_ldI0, x_ldIs, x_ldA0, x_ldAs, x_cad, x_cad2, x_fv0, x_fv1, x_fv2, x_fv3, cnd, fI, L0, c1, nL0, nL1, nL2, nL3, nL4, nL5, nL6, nL7, nL8, nL9, nL10, nL11, nL12, List.map_cons, List.map_nil, List.length_cons, List.length_nil, List.cons_append, List.nil_append, List.replicate_succ, List.replicate_zero, List.set_cons_zero, List.set_cons_succ, List.mem_cons, List.not_mem_nil, or_false, false_or, Option.toList_some, Option.toList_none, ↓reduceIte, if_true, if_false, Nat.reduceAdd, Nat.reduceSub, Nat.reduceEqDiff, Nat.reduceLT, Nat.reduceLeDiff, Int.reduceNatCast, Int.reduceNatCast', Int.reduceAdd, Int.reduceNeg, Int.reduceToNat, Int.reduceLE, Int.reduceLT, Int.reduceEq, Nat.zero_add, Nat.add_zero, and_true, true_and, ne_eq, not_false_eq_true, not_true_eq_false, and_self, implies_true, Bool.false_eq_true, Nat.reduceBEq, Int32.reduceOfInt, Int32.reduceAdd, Int32.reduceSub, Int32.reduceMul, Int32.reduceLE, Int32.reduceLT, Int32.reduceToNatClampNeg, Option.some.injEq, exists_eq_left, exists_eq_left', Option.isSome_some, Option.getD_some, vp_nar_int, pbi, eq_self, forall_const, false_implies, true_implies, false_and, and_false, uD_s, uG_s, uD_o, ad_nw, ad_wn, ad_ns, ad_sn, ad_ss, ad_ww, ad_sw, ad_ws, Int32.reduceToInt, Classical.not_not, d1n, d2n, d3n, d4n, d5n, d6n, d10n, inr, nL17, nL20, nL21, nL30, nL100, nL462, nL773, nL4638, bp6, bp7, bp8, bp9, bp10, bp11, bp12, bp13, bp14, bp15, bp16, bp17, bp20, bp21, bp29, bp30, bp31, bp33, bp45, bp48, bp49, bp50, bp57, bp59, bp97, bp99, bp100, bp102, spm1000, sp137, sp255, sp257, sp300, sp400, sp462, sp771, sp772, sp773, sp999, sp3865, sp4638, bX6_reads_0, bX6_reads_15, bX6_reads_52, bX6_reads_53, bX6_reads_57, eX6_108, eX6_111, eX6_117, t_X6_has, ↓x_inv3 naX6_114, x_inv3 naX6_114, rcX6_114, t_X6_readsScene, ↓x_inv1 naX6_123, x_inv1 naX6_123, rcX6_123, kcX6_38, kcX6_76, kcX6_77, kcX6_78, k0, g0, g1, g2, g4, g8, g9, g10, g11, g12, k1, k2, k3, k4, k5, k6, k7, k8, k9, nz0, nz1]
      exact hQ E j 0 hI (fun q => absurd q.symm c01)
    · obtain ⟨s1, s2⟩ := scP_b p0 b2 hs
      rw [← e6] at s1 s2
      have z0 : 0 ≤ E a 6 := by
        simp only [i_le, Int32.reduceToInt] at p0 ⊢
        omega
      by_cases h1 : E a 6 < D a 5
      · have h1n : ¬ D a 5 ≤ E a 6 := Int32.not_le.mpr h1
        by_cases h2 : inV (chF (D (mx a)) (D a 5) (E a 6)) 59 59 = 0
        · simp only [↓x_iconst, ↓x_bipush, ↓x_sipush, ↓x_ldc, ↓x_iload_n, ↓x_iload, ↓x_aload_n, ↓x_aload, ↓x_istore_n, ↓x_istore, ↓x_astore_n, ↓x_astore, ↓x_iinc, ↓x_iadd, ↓x_isub, ↓x_imul, ↓x_iand, ↓x_idiv, ↓x_ineg, ↓x_i2c, ↓x_dupI, ↓x_dupA, ↓x_dup2, ↓x_goto, ↓x_get, ↓x_put, ↓x_gets, ↓x_iald, ↓x_bald, ↓x_cald, ↓x_aald, ↓x_iast, ↓x_bast, ↓x_cast, ↓x_aast, ↓x_alen, ↓x_iret, ↓x_vret, ↓x_nil, ↓x_jmp, ↓x_ldI0, ↓x_ldIs, ↓x_ldA0, ↓x_ldAs, ↓x_icmpT, ↓x_icmpF, ↓x_ifT, ↓x_ifF, x_iconst, x_bipush, x_sipush, x_ldc, x_iload_n, x_iload, x_aload_n, x_aload, x_istore_n, x_istore, x_astore_n, x_astore, x_iinc, x_iadd, x_isub, x_imul, x_iand, x_idiv, x_ineg, x_i2c, x_dupI, x_dupA, x_dup2, x_goto, x_if, x_icmp, x_get, x_put, x_gets, x_iald, x_bald, x_cald, x_aald, x_iast, x_bast, x_cast, x_aast, x_alen, x_iret, x_vret, x_nil, x_jmp, x_ldI0, x_ldIs, x_ldA0, x_ldAs, x_cad, x_cad2, x_fv0, x_fv1, x_fv2, x_fv3, cnd, fI, L0, c1, nL0, nL1, nL2, nL3, nL4, nL5, nL6, nL7, nL8, nL9, nL10, nL11, nL12, List.map_cons, List.map_nil, List.length_cons, List.length_nil, List.cons_append, List.nil_append, List.replicate_succ, List.replicate_zero, List.set_cons_zero, List.set_cons_succ, List.mem_cons, List.not_mem_nil, or_false, false_or, Option.toList_some, Option.toList_none, ↓reduceIte, if_true, if_false, Nat.reduceAdd, Nat.reduceSub, Nat.reduceEqDiff, Nat.reduceLT, Nat.reduceLeDiff, Int.reduceNatCast, Int.reduceNatCast', Int.reduceAdd, Int.reduceNeg, Int.reduceToNat, Int.reduceLE, Int.reduceLT, Int.reduceEq, Nat.zero_add, Nat.add_zero, and_true, true_and, ne_eq, not_false_eq_true, not_true_eq_false, and_self, implies_true, Bool.false_eq_true, Nat.reduceBEq, Int32.reduceOfInt, Int32.reduceAdd, Int32.reduceSub, Int32.reduceMul, Int32.reduceLE, Int32.reduceLT, Int32.reduceToNatClampNeg, Option.some.injEq, exists_eq_left, exists_eq_left', Option.isSome_some, Option.getD_some, vp_nar_int, pbi, eq_self, forall_const, false_implies, true_implies, false_and, and_false, uD_s, uG_s, uD_o, ad_nw, ad_wn, ad_ns, ad_sn, ad_ss, ad_ww, ad_sw, ad_ws, Int32.reduceToInt, Classical.not_not, d1n, d2n, d3n, d4n, d5n, d6n, d10n, inr, nL17, nL20, nL21, nL30, nL100, nL462, nL773, nL4638, bp6, bp7, bp8, bp9, bp10, bp11, bp12, bp13, bp14, bp15, bp16, bp17, bp20, bp21, bp29, bp30, bp31, bp33, bp45, bp48, bp49, bp50, bp57, bp59, bp97, bp99, bp100, bp102, spm1000, sp137, sp255, sp257, sp300, sp400, sp462, sp771, sp772, sp773, sp999, sp3865, sp4638, bX6_reads_0, bX6_reads_15, bX6_reads_52, bX6_reads_53, bX6_reads_57, eX6_108, eX6_111, eX6_117, t_X6_has, ↓x_inv3 naX6_114, x_inv3 naX6_114, rcX6_114, t_X6_readsScene, ↓x_inv1 naX6_123, x_inv1 naX6_123, rcX6_123, kcX6_38, kcX6_76, kcX6_77, kcX6_78, k0, g0, g1, g2, g4, g8, g9, g10, g11, g12, k1, k2, k3, k4, k5, k6, k7, k8, k9, hM, xch, nx, o1, o2, b2, z0, h1, h1n, h2, c01, nz0, nz1]
          exact ⟨0, by omega, j, 0, rfl, ⟨e1, e2, hg, e6, Or.inl ⟨rfl, Or.inr ⟨h1, in_one.mp h2⟩⟩⟩, rfl⟩
        · have d : chF (D (mx a)) (D a 5) (E a 6) = 59 := Decidable.not_not.mp (fun q => h2 (in_one.mpr q))
          have hg' : goS (D (mx a)) (D a 5) (j + 1) := by
            intro i hi
            by_cases hij : i = j
            · subst hij
              exact ⟨hs, by rw [← e6]; exact d⟩
            · exact hg i (by omega)
          obtain ⟨j20', p0', p1'⟩ := pos_20 b1 b2 hg'
          have ep : E a 6 + 1 = poS (D (mx a)) (D a 5) (j + 1) := by rw [e6]; rfl
          obtain ⟨m1, m2, -⟩ := z_n (k := j + 1) (by omega)
          have w1' : (nI (j + 1)).toNatClampNeg = j + 1 := nI_clamp (by omega)
          rw [← ep] at p0' p1'
          simp only [↓x_iconst, ↓x_bipush, ↓x_sipush, ↓x_ldc, ↓x_iload_n, ↓x_iload, ↓x_aload_n, ↓x_aload, ↓x_istore_n, ↓x_istore, ↓x_astore_n, ↓x_astore, ↓x_iinc, ↓x_iadd, ↓x_isub, ↓x_imul, ↓x_iand, ↓x_idiv, ↓x_ineg, ↓x_i2c, ↓x_dupI, ↓x_dupA, ↓x_dup2, ↓x_goto, ↓x_get, ↓x_put, ↓x_gets, ↓x_iald, ↓x_bald, ↓x_cald, ↓x_aald, ↓x_iast, ↓x_bast, ↓x_cast, ↓x_aast, ↓x_alen, ↓x_iret, ↓x_vret, ↓x_nil, ↓x_jmp, ↓x_ldI0, ↓x_ldIs, ↓x_ldA0, ↓x_ldAs, ↓x_icmpT, ↓x_icmpF, ↓x_ifT, ↓x_ifF, x_iconst, x_bipush, x_sipush, x_ldc, x_iload_n, x_iload, x_aload_n, x_aload, x_istore_n, x_istore, x_astore_n, x_astore, x_iinc, x_iadd, x_isub, x_imul, x_iand, x_idiv, x_ineg, x_i2c, x_dupI, x_dupA, x_dup2, x_goto, x_if, x_icmp, x_get, x_put, x_gets, x_iald, x_bald, x_cald, x_aald, x_iast, x_bast, x_cast, x_aast, x_alen, x_iret, x_vret, x_nil, x_jmp, x_ldI0, x_ldIs, x_ldA0, x_ldAs, x_cad, x_cad2, x_fv0, x_fv1, x_fv2, x_fv3, cnd, fI, L0, c1, nL0, nL1, nL2, nL3, nL4, nL5, nL6, nL7, nL8, nL9, nL10, nL11, nL12, List.map_cons, List.map_nil, List.length_cons, List.length_nil, List.cons_append, List.nil_append, List.replicate_succ, List.replicate_zero, List.set_cons_zero, List.set_cons_succ, List.mem_cons, List.not_mem_nil, or_false, false_or, Option.toList_some, Option.toList_none, ↓reduceIte, if_true, if_false, Nat.reduceAdd, Nat.reduceSub, Nat.reduceEqDiff, Nat.reduceLT, Nat.reduceLeDiff, Int.reduceNatCast, Int.reduceNatCast', Int.reduceAdd, Int.reduceNeg, Int.reduceToNat, Int.reduceLE, Int.reduceLT, Int.reduceEq, Nat.zero_add, Nat.add_zero, and_true, true_and, ne_eq, not_false_eq_true, not_true_eq_false, and_self, implies_true, Bool.false_eq_true, Nat.reduceBEq, Int32.reduceOfInt, Int32.reduceAdd, Int32.reduceSub, Int32.reduceMul, Int32.reduceLE, Int32.reduceLT, Int32.reduceToNatClampNeg, Option.some.injEq, exists_eq_left, exists_eq_left', Option.isSome_some, Option.getD_some, vp_nar_int, pbi, eq_self, forall_const, false_implies, true_implies, false_and, and_false, uD_s, uG_s, uD_o, ad_nw, ad_wn, ad_ns, ad_sn, ad_ss, ad_ww, ad_sw, ad_ws, Int32.reduceToInt, Classical.not_not, d1n, d2n, d3n, d4n, d5n, d6n, d10n, inr, nL17, nL20, nL21, nL30, nL100, nL462, nL773, nL4638, bp6, bp7, bp8, bp9, bp10, bp11, bp12, bp13, bp14, bp15, bp16, bp17, bp20, bp21, bp29, bp30, bp31, bp33, bp45, bp48, bp49, bp50, bp57, bp59, bp97, bp99, bp100, bp102, spm1000, sp137, sp255, sp257, sp300, sp400, sp462, sp771, sp772, sp773, sp999, sp3865, sp4638, bX6_reads_0, bX6_reads_15, bX6_reads_52, bX6_reads_53, bX6_reads_57, eX6_108, eX6_111, eX6_117, t_X6_has, ↓x_inv3 naX6_114, x_inv3 naX6_114, rcX6_114, t_X6_readsScene, ↓x_inv1 naX6_123, x_inv1 naX6_123, rcX6_123, kcX6_38, kcX6_76, kcX6_77, kcX6_78, k0, g0, g1, g2, g4, g8, g9, g10, g11, g12, k1, k2, k3, k4, k5, k6, k7, k8, k9, hM, xch, nx, o1, o2, e7, b2, z0, h1, h1n, h2, p0', p1', m1, m2, w1', c01, nz0, nz1]
          have key : ∀ E', RsP (uD E a 6 (E a 6 + 1)) E' a (j + 1) → RdP D E' a (j + 1) (scnV (D (mx a)) (D a 5) (poS (D (mx a)) (D a 5) (j + 1))) := fun E' hE' => RdP_n (F := uD E a 6 (E a 6 + 1)) (fun b b1 b2 => by rw [uD_o b1]; exact e1 b b1 b2) (fun i i1 i2 => by
            unfold uD
            rw [if_neg (fun q => i1 q.2)]
            exact e2 i i1 i2) hg' (by rw [uD_eq, ep]) (by rw [uD_s, if_neg (by decide), e7]) (fun i hi => by
              rw [uD_o (by unfold mr; omega)]
              exact hv i hi) hE'
          intro E' hE'
          have kk := key E' hE'
          rw [ep]
          refine ⟨fun q => ?_, fun q => ?_⟩
          · rw [q] at kk
            exact ⟨0, by omega, j + 1, 0, rfl, kk, rfl⟩
          · rw [nz_scn.resolve_left q] at kk
            exact ⟨21 - (j + 1), by omega, j + 1, 1, rfl, kk, by rw [if_neg c01]⟩
      · have h1n : D a 5 ≤ E a 6 := Int32.not_lt.mp h1
        simp only [↓x_iconst, ↓x_bipush, ↓x_sipush, ↓x_ldc, ↓x_iload_n, ↓x_iload, ↓x_aload_n, ↓x_aload, ↓x_istore_n, ↓x_istore, ↓x_astore_n, ↓x_astore, ↓x_iinc, ↓x_iadd, ↓x_isub, ↓x_imul, ↓x_iand, ↓x_idiv, ↓x_ineg, ↓x_i2c, ↓x_dupI, ↓x_dupA, ↓x_dup2, ↓x_goto, ↓x_get, ↓x_put, ↓x_gets, ↓x_iald, ↓x_bald, ↓x_cald, ↓x_aald, ↓x_iast, ↓x_bast, ↓x_cast, ↓x_aast, ↓x_alen, ↓x_iret, ↓x_vret, ↓x_nil, ↓x_jmp, ↓x_ldI0, ↓x_ldIs, ↓x_ldA0, ↓x_ldAs, ↓x_icmpT, ↓x_icmpF, ↓x_ifT, ↓x_ifF, x_iconst, x_bipush, x_sipush, x_ldc, x_iload_n, x_iload, x_aload_n, x_aload, x_istore_n, x_istore, x_astore_n, x_astore, x_iinc, x_iadd, x_isub, x_imul, x_iand, x_idiv, x_ineg, x_i2c, x_dupI, x_dupA, x_dup2, x_goto, x_if, x_icmp, x_get, x_put, x_gets, x_iald, x_bald, x_cald, x_aald, x_iast, x_bast, x_cast, x_aast, x_alen, x_iret, x_vret, x_nil, x_jmp, x_ldI0, x_ldIs, x_ldA0, x_ldAs, x_cad, x_cad2, x_fv0, x_fv1, x_fv2, x_fv3, cnd, fI, L0, c1, nL0, nL1, nL2, nL3, nL4, nL5, nL6, nL7, nL8, nL9, nL10, nL11, nL12, List.map_cons, List.map_nil, List.length_cons, List.length_nil, List.cons_append, List.nil_append, List.replicate_succ, List.replicate_zero, List.set_cons_zero, List.set_cons_succ, List.mem_cons, List.not_mem_nil, or_false, false_or, Option.toList_some, Option.toList_none, ↓reduceIte, if_true, if_false, Nat.reduceAdd, Nat.reduceSub, Nat.reduceEqDiff, Nat.reduceLT, Nat.reduceLeDiff, Int.reduceNatCast, Int.reduceNatCast', Int.reduceAdd, Int.reduceNeg, Int.reduceToNat, Int.reduceLE, Int.reduceLT, Int.reduceEq, Nat.zero_add, Nat.add_zero, and_true, true_and, ne_eq, not_false_eq_true, not_true_eq_false, and_self, implies_true, Bool.false_eq_true, Nat.reduceBEq, Int32.reduceOfInt, Int32.reduceAdd, Int32.reduceSub, Int32.reduceMul, Int32.reduceLE, Int32.reduceLT, Int32.reduceToNatClampNeg, Option.some.injEq, exists_eq_left, exists_eq_left', Option.isSome_some, Option.getD_some, vp_nar_int, pbi, eq_self, forall_const, false_implies, true_implies, false_and, and_false, uD_s, uG_s, uD_o, ad_nw, ad_wn, ad_ns, ad_sn, ad_ss, ad_ww, ad_sw, ad_ws, Int32.reduceToInt, Classical.not_not, d1n, d2n, d3n, d4n, d5n, d6n, d10n, inr, nL17, nL20, nL21, nL30, nL100, nL462, nL773, nL4638, bp6, bp7, bp8, bp9, bp10, bp11, bp12, bp13, bp14, bp15, bp16, bp17, bp20, bp21, bp29, bp30, bp31, bp33, bp45, bp48, bp49, bp50, bp57, bp59, bp97, bp99, bp100, bp102, spm1000, sp137, sp255, sp257, sp300, sp400, sp462, sp771, sp772, sp773, sp999, sp3865, sp4638, bX6_reads_0, bX6_reads_15, bX6_reads_52, bX6_reads_53, bX6_reads_57, eX6_108, eX6_111, eX6_117, t_X6_has, ↓x_inv3 naX6_114, x_inv3 naX6_114, rcX6_114, t_X6_readsScene, ↓x_inv1 naX6_123, x_inv1 naX6_123, rcX6_123, kcX6_38, kcX6_76, kcX6_77, kcX6_78, k0, g0, g1, g2, g4, g8, g9, g10, g11, g12, k1, k2, k3, k4, k5, k6, k7, k8, k9, o2, h1n, c01, nz0, nz1]
        exact hQ E j 1 hI (fun _ => h1)
