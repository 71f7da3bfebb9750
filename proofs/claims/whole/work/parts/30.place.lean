/-! ### one place of the plan table -/
abbrev T4 : Type := Int32 × Int32 × Int32 × Int32
def wr4 (D : DT) (p : Nat) (r f : Int32) (T : T4) : DT := uD (uD (uD (uD D (tP p r) f T.1) (tF p r) f T.2.1) (tG p r) f T.2.2.1) (tC p r) f T.2.2.2
/-- one instalment of m scenes offered -/
def foO (F1 G1 : Int32 → Int32) (t : Int32 → Int32) (f : Int32) (T : T4) (m : Int32) : Int32 × Int32 × Int32 :=
  if T.1 = 0 then (F1 (f + m) + 1, G1 (f + m) + t m, m) else if F1 (f + m) + 1 < T.2.1 then (F1 (f + m) + 1, G1 (f + m) + t m, m) else if F1 (f + m) + 1 = T.2.1 then (if G1 (f + m) + t m ≤ T.2.2.1 then T.2 else (F1 (f + m) + 1, G1 (f + m) + t m, m)) else T.2
def foS (P1 F1 G1 : Int32 → Int32) (rea t : Int32 → Int32) (f : Int32) (T : T4) (m : Int32) : T4 :=
  if P1 (f + m) ≤ 0 then T else if rea m = 0 then (T.1 + P1 (f + m), foO F1 G1 t f T m) else T
/-- after the counts 1 to k -/
def foR (P1 F1 G1 : Int32 → Int32) (rea t : Int32 → Int32) (f : Int32) (T : T4) : Nat → T4
  | 0 => T
  | k + 1 => foS P1 F1 G1 rea t f (foR P1 F1 G1 rea t f T k) (nI (k + 1))
theorem wr4_o {D : DT} {p a : Nat} {r f : Int32} {T : T4} (h1 : a ≠ tP p r) (h2 : a ≠ tF p r) (h3 : a ≠ tG p r) (h4 : a ≠ tC p r) : wr4 D p r f T a = D a := by
  unfold wr4
  rw [uD_o h4, uD_o h3, uD_o h2, uD_o h1]
theorem wr4_out {D : DT} {p a : Nat} {r f : Int32} {T : T4} (hr : r.toNatClampNeg < 21) (h : a < p + 2 ∨ p + 89 ≤ a) : wr4 D p r f T a = D a :=
  wr4_o (by unfold tP; omega) (by unfold tF; omega) (by unfold tG; omega) (by unfold tC; omega)
theorem wr4_id {D : DT} {p : Nat} {r f : Int32} : wr4 D p r f (D (tP p r) f, D (tF p r) f, D (tG p r) f, D (tC p r) f) = D := by
  unfold wr4
  simp only [uD_id]
theorem tb_ne {p : Nat} {r q : Int32} (hr : r.toNatClampNeg < 21) (hq : q.toNatClampNeg < 21) : tP p r ≠ tF p q ∧ tP p r ≠ tG p q ∧ tP p r ≠ tC p q ∧ tF p r ≠ tP p q ∧ tF p r ≠ tG p q ∧ tF p r ≠ tC p q ∧ tG p r ≠ tP p q ∧ tG p r ≠ tF p q ∧ tG p r ≠ tC p q ∧ tC p r ≠ tP p q ∧ tC p r ≠ tF p q ∧ tC p r ≠ tG p q := by
  unfold tP tF tG tC
  omega
theorem wr4_P {D : DT} {p : Nat} {r f : Int32} {T : T4} (hr : r.toNatClampNeg < 21) : wr4 D p r f T (tP p r) f = T.1 := by
  obtain ⟨h1, h2, h3, -⟩ := tb_ne (p := p) hr hr
  unfold wr4
  rw [uD_o h3, uD_o h2, uD_o h1, uD_s, if_pos rfl]
theorem wr4_F {D : DT} {p : Nat} {r f : Int32} {T : T4} (hr : r.toNatClampNeg < 21) : wr4 D p r f T (tF p r) f = T.2.1 := by
  obtain ⟨-, -, -, -, h5, h6, -⟩ := tb_ne (p := p) hr hr
  unfold wr4
  rw [uD_o h6, uD_o h5, uD_s, if_pos rfl]
theorem wr4_G {D : DT} {p : Nat} {r f : Int32} {T : T4} (hr : r.toNatClampNeg < 21) : wr4 D p r f T (tG p r) f = T.2.2.1 := by
  obtain ⟨-, -, -, -, -, -, -, -, h9, -⟩ := tb_ne (p := p) hr hr
  unfold wr4
  rw [uD_o h9, uD_s, if_pos rfl]
theorem wr4_C {D : DT} {p : Nat} {r f : Int32} {T : T4} : wr4 D p r f T (tC p r) f = T.2.2.2 := by
  unfold wr4
  rw [uD_s, if_pos rfl]
theorem uD_c {D : DT} {a b : Nat} {i j x y : Int32} (h : a ≠ b) : uD (uD D a i x) b j y = uD (uD D b j y) a i x := by
  funext c k
  unfold uD
  by_cases h1 : c = a
  · subst h1
    simp [h]
  · by_cases h2 : c = b
    · subst h2
      simp [h1]
    · simp [h1, h2]
theorem wr4_uP {D : DT} {p : Nat} {r f x : Int32} {T : T4} (hr : r.toNatClampNeg < 21) : uD (wr4 D p r f T) (tP p r) f x = wr4 D p r f (x, T.2) := by
  obtain ⟨h1, h2, h3, -⟩ := tb_ne (p := p) hr hr
  unfold wr4
  rw [uD_c h3.symm, uD_c h2.symm, uD_c h1.symm, uD_uu]
theorem wr4_u3 {D : DT} {p : Nat} {r f x y z : Int32} {T : T4} (hr : r.toNatClampNeg < 21) : uD (uD (uD (wr4 D p r f T) (tF p r) f x) (tG p r) f y) (tC p r) f z = wr4 D p r f (T.1, x, y, z) := by
  obtain ⟨h1, h2, h3, h4, h5, h6, h7, h8, h9, h10, h11, h12⟩ := tb_ne (p := p) hr hr
  unfold wr4
  rw [uD_c (D := uD (uD (uD D (tP p r) f T.1) (tF p r) f T.2.1) (tG p r) f T.2.2.1) h11, uD_c (D := uD (uD D (tP p r) f T.1) (tF p r) f T.2.1) h8, uD_uu]
  rw [uD_c (D := uD (uD (uD D (tP p r) f T.1) (tF p r) f x) (tG p r) f T.2.2.1) h12, uD_uu, uD_uu]
theorem of_wr {D : DT} {p : Nat} {r f m t : Int32} {T : T4} {tt : Int32 → Int32} (hr : r.toNatClampNeg < 20) (hr1 : (r + 1).toNatClampNeg = r.toNatClampNeg + 1) (ht : tt m = t) : ofD (wr4 D p r f T) p r f m t = wr4 D p r f (T.1, foO (D (tF p (r + 1))) (D (tG p (r + 1))) tt f T m) := by
  have hr' : r.toNatClampNeg < 21 := by omega
  have g1 : wr4 D p r f T (tF p (r + 1)) = D (tF p (r + 1)) := wr4_o (by unfold tF tP; omega) (by unfold tF; omega) (by unfold tF tG; omega) (by unfold tF tC; omega)
  have g2 : wr4 D p r f T (tG p (r + 1)) = D (tG p (r + 1)) := wr4_o (by unfold tG tP; omega) (by unfold tG tF; omega) (by unfold tG; omega) (by unfold tG tC; omega)
  subst ht
  unfold ofD foO ofU
  rw [g1, g2, wr4_P hr', wr4_F hr', wr4_G hr', wr4_u3 hr']
  repeat' split
  all_goals rfl
/-- a reason looks at a few rows alone -/
theorem reaF_c {N : Int32 → Int32} {S W S' W' : Int32 → Int32 → Int32} (h0 : S 0 = S' 0) (h1 : S 1 = S' 1) (h2 : S 2 = S' 2) (h3 : S 3 = S' 3) (w0 : W 0 = W' 0) (w1 : W 1 = W' 1) (f n w c v : Int32) : reaF N S W f n w c v = reaF N S' W' f n w c v := by
  unfold reaF cliD lastF tenF roomF
  rw [h0, h1, h2, h3, w0, w1]
theorem lastF_c {S S' : Int32 → Int32 → Int32} (h1 : S 1 = S' 1) (h3 : S 3 = S' 3) (e c : Int32) : lastF S e c = lastF S' e c := by
  unfold lastF tenF
  rw [h1, h3]
def t_X3_fillPlace : TR := fun K _ _ As G D Q => match As with
  | [.ref p, .ref n, .int r, .int f, .int c, .int v] => Tab K G p ∧ Nov K G n ∧ (n + 14 ≤ p ∧ 0 ≤ r ∧ r < 20 ∧ 0 ≤ f ∧ f ≤ D (nu n) 0 ∧ D p 5 = D (nu n) 0 ∧ D (nu n) 0 ≤ 20 ∧ 0 ≤ D (nu n) 2 + r ∧ D (nu n) 2 + r < 30) ∧ ∀ T, T = foR (D (tP p (r + 1))) (D (tF p (r + 1))) (D (tG p (r + 1))) (fun m => reaF (D (nu n)) (SS D n) (WW D n) f m (D (nu n) 2 + r) c v) (fun m => lastF (SS D n) (f + m) c) f (D (tP p r) f, D (tF p r) f, D (tG p r) f, D (tC p r) f) (D (nu n) 0 - f).toNatClampNeg → Q none G (wr4 D p r f T)
  | _ => False
set_option maxRecDepth 100000 in
set_option maxHeartbeats 4000000 in
theorem s_X3_fillPlace (l : Launch) : Sat l yX3_fillPlace cX3_fillPlace 9 none 3 t_X3_fillPlace := by
  refine satb (own := RX3) (fl := flX3) (sg := sgX3) (kc := kcX3) (na := naX3) (rc := rcX3) (cv := (cAdd 48 t_X2_reason (cAdd 52 t_X2_lastTension (cAdd 55 t_X3_offer cNone)))) (cs := cNone) (bl := bX3_fillPlace) (by decide +kernel) rfl envX3 bokX3_fillPlace (cvAdd (s_X2_reason l) lkX3_48 rfl rfl (by decide) (cvAdd (s_X2_lastTension l) lkX3_52 rfl rfl (by decide) (cvAdd (s_X3_offer l) lkX3_55 rfl rfl (by decide) cvNone))) csNone ?_
  intro L K R0 sa hPp As G D Q htr
  unfold t_X3_fillPlace at htr
  split at htr
  case h_2 => exact htr.elim
  rename_i p n r f c v
  obtain ⟨hT, hN, ⟨b0, b1, b2, b3, b4, b5, b6, b7, b8⟩, hQ⟩ := htr
  have hQ := hQ _ rfl
  obtain ⟨p, rfl⟩ : ∃ q : Nat, q = p := ⟨_, rfl⟩
  obtain ⟨n, rfl⟩ : ∃ q : Nat, q = n := ⟨_, rfl⟩
  have b0 : n + 14 ≤ p := b0
  obtain ⟨⟨k0, g0, g1, g2, g3⟩, ⟨k1, k2, k3, k4⟩, ⟨r1, r2, r3, r4⟩, s1, s2, s3, s4⟩ := id hT
  obtain ⟨⟨m0, mg0, mg1, mg2⟩, ⟨m1, m2, m3⟩, ms1, ms2, mw1, mw2⟩ := id hN
  generalize hfo : foR (D (tP p (r + 1))) (D (tF p (r + 1))) (D (tG p (r + 1))) (fun m => reaF (D (nu n)) (SS D n) (WW D n) f m (D (nu n) 2 + r) c v) (fun m => lastF (SS D n) (f + m) c) f (D (tP p r) f, D (tF p r) f, D (tG p r) f, D (tC p r) f) = fo at hQ
  have q0 : r < 21 ∧ 0 ≤ r + 1 ∧ r + 1 < 21 ∧ r.toNatClampNeg < 20 ∧ (r + 1).toNatClampNeg = r.toNatClampNeg + 1 := by
    clear r1 r2 r3 r4 s1 s2 s3 s4 ms1 ms2 mw1 mw2 hQ hfo
    refine ⟨?_, ?_, ?_, ?_, ?_⟩ <;> (simp only [i_lt, i_le, i_eq, i_cl, Int32.reduceToInt, ne_eq] at * <;> (first | omega | (simp (disch := (first | omega | (simp (disch := (first | omega | (simp (disch := (first | omega | (simp only [Int32.reduceToInt]; omega))) only [a_add, a_sub, a_mul, a_neg, i_lt, i_le, i_eq, i_cl, Int32.reduceToInt, Int32.reduceToNatClampNeg]; omega))) only [a_add, a_sub, a_mul, a_neg, i_lt, i_le, i_eq, i_cl, Int32.reduceToInt, Int32.reduceToNatClampNeg]; omega))) only [a_add, a_sub, a_mul, a_neg, i_lt, i_le, i_eq, i_cl, Int32.reduceToInt, Int32.reduceToNatClampNeg] at * <;> (first | omega | (simp (disch := (first | omega | (simp (disch := (first | omega | (simp (disch := (first | omega | (simp only [Int32.reduceToInt]; omega))) only [a_add, a_sub, a_mul, a_neg, i_lt, i_le, i_eq, i_cl, Int32.reduceToInt, Int32.reduceToNatClampNeg]; omega))) only [a_add, a_sub, a_mul, a_neg, i_lt, i_le, i_eq, i_cl, Int32.reduceToInt, Int32.reduceToNatClampNeg]; omega))) only [a_add, a_sub, a_mul, a_neg, i_lt, i_le, i_eq, i_cl, Int32.reduceToInt, Int32.reduceToNatClampNeg] at * <;> omega)))))
  obtain ⟨b9, b10, b11, b12, b13⟩ := q0
  have b14 : f < 21 := by
    clear r1 r2 r3 r4 s1 s2 s3 s4 ms1 ms2 mw1 mw2 hQ hfo
    (simp only [i_lt, i_le, i_eq, i_cl, Int32.reduceToInt, ne_eq] at * <;> (first | omega | (simp (disch := (first | omega | (simp (disch := (first | omega | (simp (disch := (first | omega | (simp only [Int32.reduceToInt]; omega))) only [a_add, a_sub, a_mul, a_neg, i_lt, i_le, i_eq, i_cl, Int32.reduceToInt, Int32.reduceToNatClampNeg]; omega))) only [a_add, a_sub, a_mul, a_neg, i_lt, i_le, i_eq, i_cl, Int32.reduceToInt, Int32.reduceToNatClampNeg]; omega))) only [a_add, a_sub, a_mul, a_neg, i_lt, i_le, i_eq, i_cl, Int32.reduceToInt, Int32.reduceToNatClampNeg] at * <;> (first | omega | (simp (disch := (first | omega | (simp (disch := (first | omega | (simp (disch := (first | omega | (simp only [Int32.reduceToInt]; omega))) only [a_add, a_sub, a_mul, a_neg, i_lt, i_le, i_eq, i_cl, Int32.reduceToInt, Int32.reduceToNatClampNeg]; omega))) only [a_add, a_sub, a_mul, a_neg, i_lt, i_le, i_eq, i_cl, Int32.reduceToInt, Int32.reduceToNatClampNeg]; omega))) only [a_add, a_sub, a_mul, a_neg, i_lt, i_le, i_eq, i_cl, Int32.reduceToInt, Int32.reduceToNatClampNeg] at * <;> omega)))))
  obtain ⟨j, hj, hj2⟩ : ∃ j : Nat, j ≤ 20 ∧ D (nu n) 0 - f = nI j := by
    have q1 : 0 ≤ D (nu n) 0 - f ∧ (D (nu n) 0 - f).toNatClampNeg ≤ 20 := by
      clear r1 r2 r3 r4 s1 s2 s3 s4 ms1 ms2 mw1 mw2 hQ hfo
      refine ⟨?_, ?_⟩ <;> (simp only [i_lt, i_le, i_eq, i_cl, Int32.reduceToInt, ne_eq] at * <;> (first | omega | (simp (disch := (first | omega | (simp (disch := (first | omega | (simp (disch := (first | omega | (simp only [Int32.reduceToInt]; omega))) only [a_add, a_sub, a_mul, a_neg, i_lt, i_le, i_eq, i_cl, Int32.reduceToInt, Int32.reduceToNatClampNeg]; omega))) only [a_add, a_sub, a_mul, a_neg, i_lt, i_le, i_eq, i_cl, Int32.reduceToInt, Int32.reduceToNatClampNeg]; omega))) only [a_add, a_sub, a_mul, a_neg, i_lt, i_le, i_eq, i_cl, Int32.reduceToInt, Int32.reduceToNatClampNeg] at * <;> (first | omega | (simp (disch := (first | omega | (simp (disch := (first | omega | (simp (disch := (first | omega | (simp only [Int32.reduceToInt]; omega))) only [a_add, a_sub, a_mul, a_neg, i_lt, i_le, i_eq, i_cl, Int32.reduceToInt, Int32.reduceToNatClampNeg]; omega))) only [a_add, a_sub, a_mul, a_neg, i_lt, i_le, i_eq, i_cl, Int32.reduceToInt, Int32.reduceToNatClampNeg]; omega))) only [a_add, a_sub, a_mul, a_neg, i_lt, i_le, i_eq, i_cl, Int32.reduceToInt, Int32.reduceToNatClampNeg] at * <;> omega)))))
    exact ⟨_, q1.2, nI_of' q1.1⟩
  rw [hj2, nI_clamp (by omega)] at hQ
  refine ⟨by simp, by simp [cat1], [13], fun k pc LL stk G' D' => ∃ (i : Nat) (z : Option Value), LL = [some (.ref p), some (.ref n), some (.int r), some (.int f), some (.int c), some (.int v), some (.int (D (nu n) 2 + r)), some (.int (nI (i + 1))), z] ∧ stk = [] ∧ G' = G ∧ i ≤ j ∧ D' = wr4 D p r f (fo i) ∧ k = j - i, 40, 40, ?_, ?_⟩
  · simp only [↓x_iconst, ↓x_bipush, ↓x_sipush, ↓x_ldc, ↓x_iload_n, ↓x_iload, ↓x_aload_n, ↓x_aload, ↓x_istore_n, ↓x_istore, ↓x_astore_n, ↓x_astore, ↓x_iinc, ↓x_iadd, ↓x_isub, ↓x_imul, ↓x_iand, ↓x_idiv, ↓x_ineg, ↓x_i2c, ↓x_dupI, ↓x_dupA, ↓x_dup2, ↓x_goto, ↓x_get, ↓x_put, ↓x_gets, ↓x_iald, ↓x_bald, ↓x_cald, ↓x_aald, ↓x_iast, ↓x_bast, ↓x_cast, ↓x_aast, ↓x_alen, ↓x_iret, ↓x_vret, ↓x_nil, ↓x_jmp, ↓x_ldI0, ↓x_ldIs, ↓x_ldA0, ↓x_ldAs, ↓x_icmpT, ↓x_icmpF, ↓x_ifT, ↓x_ifF, x_iconst, x_bipush, x_sipush, x_ldc, x_iload_n, x_iload, x_aload_n, x_aload, x_istore_n, x_istore, x_astore_n, x_astore, x_iinc, x_iadd, x_isub, x_imul, x_iand, x_idiv, x_ineg, x_i2c, x_dupI, x_dupA, x_dup2, x_goto, x_if, x_icmp, x_get, x_put, x_gets, x_iald, x_bald, x_cald, x_aald, x_iast, x_bast, x_cast, x_aast, x_alen, x_iret, x_vret, x_nil, x_jmp, x_ldI0, x_ldIs, x_ldA0, x_ldAs, x_cad, x_cad2, x_fv0, x_fv1, x_fv2, x_fv3, cnd, fI, L0, c1, nL0, nL1, nL2, nL3, nL4, nL5, nL6, nL7, nL8, nL9, nL10, nL11, nL12, List.map_cons, List.map_nil, List.length_cons, List.length_nil, List.cons_append, List.nil_append, List.replicate_succ, List.replicate_zero, List.set_cons_zero, List.set_cons_succ, List.mem_cons, List.not_mem_nil, or_false, false_or, Option.toList_some, Option.toList_none, ↓reduceIte, if_true, if_false, Nat.reduceAdd, Nat.reduceSub, Nat.reduceEqDiff, Nat.reduceLT, Nat.reduceLeDiff, Int.reduceNatCast, Int.reduceNatCast', Int.reduceAdd, Int.reduceNeg, Int.reduceToNat, Int.reduceLE, Int.reduceLT, Int.reduceEq, Nat.zero_add, Nat.add_zero, and_true, true_and, ne_eq, not_false_eq_true, not_true_eq_false, and_self, implies_true, Bool.false_eq_true, Nat.reduceBEq, Int32.reduceOfInt, Int32.reduceAdd, Int32.reduceSub, Int32.reduceMul, Int32.reduceLE, Int32.reduceLT, Int32.reduceToNatClampNeg, Option.some.injEq, exists_eq_left, exists_eq_left', Option.isSome_some, Option.getD_some, vp_nar_int, pbi, eq_self, forall_const, false_implies, true_implies, false_and, and_false, uD_s, uG_s, uD_o, ad_nw, ad_wn, ad_ns, ad_sn, ad_ss, ad_ww, ad_sw, ad_ws, Int32.reduceToInt, Classical.not_not, d1n, d2n, d3n, d4n, d5n, d6n, d10n, inr, nL17, nL20, nL21, nL30, nL100, nL462, nL773, nL4638, bp6, bp7, bp8, bp9, bp10, bp11, bp12, bp13, bp14, bp15, bp16, bp17, bp20, bp21, bp29, bp30, bp31, bp33, bp45, bp48, bp49, bp50, bp57, bp59, bp97, bp99, bp100, bp102, spm1000, sp137, sp255, sp257, sp300, sp400, sp462, sp771, sp772, sp773, sp999, sp3865, sp4638, bX3_fillPlace_0, bX3_fillPlace_13, bX3_fillPlace_98, bX3_fillPlace_104, eX3_11, eX3_29, eX3_32, t_X2_reason, ↓x_inv6 naX3_48, x_inv6 naX3_48, rcX3_48, t_X2_lastTension, ↓x_inv3 naX3_52, x_inv3 naX3_52, rcX3_52, t_X3_offer, ↓x_inv5 naX3_55, x_inv5 naX3_55, rcX3_55, k0, g0, g1, g2, g3, k1, k2, k3, k4, m0, mg0, mg1, mg2, m1, m2, m3]
    exact ⟨_, 0, none, rfl, by omega, by rw [← hfo, foR, wr4_id], rfl⟩
  · rintro k pc hpc LL stk G' D' ⟨i, z, rfl, rfl, rfl, hi, rfl, rfl⟩
    obtain rfl := List.mem_singleton.mp hpc
    have o0 : ∀ a, a < p + 2 → wr4 D p r f (fo i) a = D a := fun a h => wr4_out (by omega) (Or.inl h)
    have o1 := o0 (nu n) (by unfold nu; omega)
    have o2 := o0 p (by omega)
    have o3 : wr4 D p r f (fo i) (tP p (r + 1)) = D (tP p (r + 1)) := wr4_o (by unfold tP; omega) (by unfold tF tP; omega) (by unfold tP tG; omega) (by unfold tP tC; omega)
    have os : ∀ q : Int32, q.toNatClampNeg < 6 → wr4 D p r f (fo i) (sc n q) = D (sc n q) := fun q hq => o0 (sc n q) (by unfold sc; omega)
    have ow : ∀ q : Int32, q.toNatClampNeg < 4 → wr4 D p r f (fo i) (wk n q) = D (wk n q) := fun q hq => o0 (wk n q) (by unfold wk; omega)
    have o4 : ∀ f' n' w c v, reaF (D (nu n)) (SS (wr4 D p r f (fo i)) n) (WW (wr4 D p r f (fo i)) n) f' n' w c v = reaF (D (nu n)) (SS D n) (WW D n) f' n' w c v := reaF_c (os 0 (by decide)) (os 1 (by decide)) (os 2 (by decide)) (os 3 (by decide)) (ow 0 (by decide)) (ow 1 (by decide))
    have o5 : ∀ e c, lastF (SS (wr4 D p r f (fo i)) n) e c = lastF (SS D n) e c := lastF_c (os 1 (by decide)) (os 3 (by decide))
    rcases Nat.lt_or_ge i j with h | h
    · have e1 : ¬ nI j < nI (i + 1) := Int32.not_lt.mpr ((nI_leI (by omega) (by omega)).mpr (by omega))
      have hm : 0 < nI (i + 1) ∧ nI (i + 1) ≤ nI j := ⟨(nI_ltI (a := 0) (by decide) (by omega)).mpr (by omega), (nI_leI (by omega) (by omega)).mpr (by omega)⟩
      have e2 : 0 ≤ f + nI (i + 1) ∧ f + nI (i + 1) < 21 ∧ 0 < f + nI (i + 1) ∧ f + nI (i + 1) ≤ 20 := by
        rw [← hj2] at hm
        clear r1 r2 r3 r4 s1 s2 s3 s4 ms1 ms2 mw1 mw2 hQ hfo o0 os ow o4 o5 o1 o2 o3 e1
        generalize nI (i + 1) = m at *
        generalize D (nu n) 0 = e at *
        obtain ⟨hm1, hm2⟩ := hm
        refine ⟨?_, ?_, ?_, ?_⟩ <;> (simp only [i_lt, i_le, i_eq, i_cl, Int32.reduceToInt, ne_eq] at * <;> (first | omega | (simp (disch := (first | omega | (simp (disch := (first | omega | (simp (disch := (first | omega | (simp only [Int32.reduceToInt]; omega))) only [a_add, a_sub, a_mul, a_neg, i_lt, i_le, i_eq, i_cl, Int32.reduceToInt, Int32.reduceToNatClampNeg]; omega))) only [a_add, a_sub, a_mul, a_neg, i_lt, i_le, i_eq, i_cl, Int32.reduceToInt, Int32.reduceToNatClampNeg]; omega))) only [a_add, a_sub, a_mul, a_neg, i_lt, i_le, i_eq, i_cl, Int32.reduceToInt, Int32.reduceToNatClampNeg] at * <;> (first | omega | (simp (disch := (first | omega | (simp (disch := (first | omega | (simp (disch := (first | omega | (simp only [Int32.reduceToInt]; omega))) only [a_add, a_sub, a_mul, a_neg, i_lt, i_le, i_eq, i_cl, Int32.reduceToInt, Int32.reduceToNatClampNeg]; omega))) only [a_add, a_sub, a_mul, a_neg, i_lt, i_le, i_eq, i_cl, Int32.reduceToInt, Int32.reduceToNatClampNeg]; omega))) only [a_add, a_sub, a_mul, a_neg, i_lt, i_le, i_eq, i_cl, Int32.reduceToInt, Int32.reduceToNatClampNeg] at * <;> omega)))))
      obtain ⟨e2, e3, e4, e5⟩ := e2
      have e6 : nI (i + 1) + 1 = nI (i + 1 + 1) := nI_1 _
      have e7 : fo (i + 1) = foS (D (tP p (r + 1))) (D (tF p (r + 1))) (D (tG p (r + 1))) (fun m => reaF (D (nu n)) (SS D n) (WW D n) f m (D (nu n) 2 + r) c v) (fun m => lastF (SS D n) (f + m) c) f (fo i) (nI (i + 1)) := by
        rw [← hfo, foR]
      have e8 : ofD (wr4 D p r f (fo i)) p r f (nI (i + 1)) (lastF (SS D n) (f + nI (i + 1)) c) = wr4 D p r f ((fo i).1, foO (D (tF p (r + 1))) (D (tG p (r + 1))) (fun m => lastF (SS D n) (f + m) c) f (fo i) (nI (i + 1))) := of_wr b12 b13 rfl
      have e9 : ∀ T, wr4 D p r f T (tP p r) f = T.1 := fun T => wr4_P (by omega)
      have e10 : ∀ T, wr4 D p r f T (tP p (r + 1)) = D (tP p (r + 1)) := fun T => wr4_o (by unfold tP; omega) (by unfold tF tP; omega) (by unfold tP tG; omega) (by unfold tP tC; omega)
      have e11 : ∀ T x, uD (wr4 D p r f T) (tP p r) f x = wr4 D p r f (x, T.2) := fun T x => wr4_uP (by omega)
      by_cases c1' : D (tP p (r + 1)) (f + nI (i + 1)) ≤ 0
      · simp only [↓x_iconst, ↓x_bipush, ↓x_sipush, ↓x_ldc, ↓x_iload_n, ↓x_iload, ↓x_aload_n, ↓x_aload, ↓x_istore_n, ↓x_istore, ↓x_astore_n, ↓x_astore, ↓x_iinc, ↓x_iadd, ↓x_isub, ↓x_imul, ↓x_iand, ↓x_idiv, ↓x_ineg, ↓x_i2c, ↓x_dupI, ↓x_dupA, ↓x_dup2, ↓x_goto, ↓x_get, ↓x_put, ↓x_gets, ↓x_iald, ↓x_bald, ↓x_cald, ↓x_aald, ↓x_iast, ↓x_bast, ↓x_cast, ↓x_aast, ↓x_alen, ↓x_iret, ↓x_vret, ↓x_nil, ↓x_jmp, ↓x_ldI0, ↓x_ldIs, ↓x_ldA0, ↓x_ldAs, ↓x_icmpT, ↓x_icmpF, ↓x_ifT, ↓x_ifF, x_iconst, x_bipush, x_sipush, x_ldc, x_iload_n, x_iload, x_aload_n, x_aload, x_istore_n, x_istore, x_astore_n, x_astore, x_iinc, x_iadd, x_isub, x_imul, x_iand, x_idiv, x_ineg, x_i2c, x_dupI, x_dupA, x_dup2, x_goto, x_if, x_icmp, x_get, x_put, x_gets, x_iald, x_bald, x_cald, x_aald, x_iast, x_bast, x_cast, x_aast, x_alen, x_iret, x_vret, x_nil, x_jmp, x_ldI0, x_ldIs, x_ldA0, x_ldAs, x_cad, x_cad2, x_fv0, x_fv1, x_fv2, x_fv3, cnd, fI, L0, c1, nL0, nL1, nL2, nL3, nL4, nL5, nL6, nL7, nL8, nL9, nL10, nL11, nL12, List.map_cons, List.map_nil, List.length_cons, List.length_nil, List.cons_append, List.nil_append, List.replicate_succ, List.replicate_zero, List.set_cons_zero, List.set_cons_succ, List.mem_cons, List.not_mem_nil, or_false, false_or, Option.toList_some, Option.toList_none, ↓reduceIte, if_true, if_false, Nat.reduceAdd, Nat.reduceSub, Nat.reduceEqDiff, Nat.reduceLT, Nat.reduceLeDiff, Int.reduceNatCast, Int.reduceNatCast', Int.reduceAdd, Int.reduceNeg, Int.reduceToNat, Int.reduceLE, Int.reduceLT, Int.reduceEq, Nat.zero_add, Nat.add_zero, and_true, true_and, ne_eq, not_false_eq_true, not_true_eq_false, and_self, implies_true, Bool.false_eq_true, Nat.reduceBEq, Int32.reduceOfInt, Int32.reduceAdd, Int32.reduceSub, Int32.reduceMul, Int32.reduceLE, Int32.reduceLT, Int32.reduceToNatClampNeg, Option.some.injEq, exists_eq_left, exists_eq_left', Option.isSome_some, Option.getD_some, vp_nar_int, pbi, eq_self, forall_const, false_implies, true_implies, false_and, and_false, uD_s, uG_s, uD_o, ad_nw, ad_wn, ad_ns, ad_sn, ad_ss, ad_ww, ad_sw, ad_ws, Int32.reduceToInt, Classical.not_not, d1n, d2n, d3n, d4n, d5n, d6n, d10n, inr, nL17, nL20, nL21, nL30, nL100, nL462, nL773, nL4638, bp6, bp7, bp8, bp9, bp10, bp11, bp12, bp13, bp14, bp15, bp16, bp17, bp20, bp21, bp29, bp30, bp31, bp33, bp45, bp48, bp49, bp50, bp57, bp59, bp97, bp99, bp100, bp102, spm1000, sp137, sp255, sp257, sp300, sp400, sp462, sp771, sp772, sp773, sp999, sp3865, sp4638, bX3_fillPlace_0, bX3_fillPlace_13, bX3_fillPlace_98, bX3_fillPlace_104, eX3_11, eX3_29, eX3_32, t_X2_reason, ↓x_inv6 naX3_48, x_inv6 naX3_48, rcX3_48, t_X2_lastTension, ↓x_inv3 naX3_52, x_inv3 naX3_52, rcX3_52, t_X3_offer, ↓x_inv5 naX3_55, x_inv5 naX3_55, rcX3_55, k0, g0, g1, g2, g3, k1, k2, k3, k4, r1, r2, r3, r4, s1, s2, s3, s4, m0, mg0, mg1, mg2, m1, m2, m3, b1, b2, b3, b4, b9, b10, b11, b14, o1, o2, o3, b5, hj2, e1, e2, e3, e4, e5, c1']
        refine ⟨_, by omega, i + 1, some (.int (f + nI (i + 1))), by rw [e6], by omega, ?_, rfl⟩
        rw [e7, foS, if_pos c1']
      · by_cases c2' : reaF (D (nu n)) (SS D n) (WW D n) f (nI (i + 1)) (D (nu n) 2 + r) c v = 0
        · simp only [↓x_iconst, ↓x_bipush, ↓x_sipush, ↓x_ldc, ↓x_iload_n, ↓x_iload, ↓x_aload_n, ↓x_aload, ↓x_istore_n, ↓x_istore, ↓x_astore_n, ↓x_astore, ↓x_iinc, ↓x_iadd, ↓x_isub, ↓x_imul, ↓x_iand, ↓x_idiv, ↓x_ineg, ↓x_i2c, ↓x_dupI, ↓x_dupA, ↓x_dup2, ↓x_goto, ↓x_get, ↓x_put, ↓x_gets, ↓x_iald, ↓x_bald, ↓x_cald, ↓x_aald, ↓x_iast, ↓x_bast, ↓x_cast, ↓x_aast, ↓x_alen, ↓x_iret, ↓x_vret, ↓x_nil, ↓x_jmp, ↓x_ldI0, ↓x_ldIs, ↓x_ldA0, ↓x_ldAs, ↓x_icmpT, ↓x_icmpF, ↓x_ifT, ↓x_ifF, x_iconst, x_bipush, x_sipush, x_ldc, x_iload_n, x_iload, x_aload_n, x_aload, x_istore_n, x_istore, x_astore_n, x_astore, x_iinc, x_iadd, x_isub, x_imul, x_iand, x_idiv, x_ineg, x_i2c, x_dupI, x_dupA, x_dup2, x_goto, x_if, x_icmp, x_get, x_put, x_gets, x_iald, x_bald, x_cald, x_aald, x_iast, x_bast, x_cast, x_aast, x_alen, x_iret, x_vret, x_nil, x_jmp, x_ldI0, x_ldIs, x_ldA0, x_ldAs, x_cad, x_cad2, x_fv0, x_fv1, x_fv2, x_fv3, cnd, fI, L0, c1, nL0, nL1, nL2, nL3, nL4, nL5, nL6, nL7, nL8, nL9, nL10, nL11, nL12, List.map_cons, List.map_nil, List.length_cons, List.length_nil, List.cons_append, List.nil_append, List.replicate_succ, List.replicate_zero, List.set_cons_zero, List.set_cons_succ, List.mem_cons, List.not_mem_nil, or_false, false_or, Option.toList_some, Option.toList_none, ↓reduceIte, if_true, if_false, Nat.reduceAdd, Nat.reduceSub, Nat.reduceEqDiff, Nat.reduceLT, Nat.reduceLeDiff, Int.reduceNatCast, Int.reduceNatCast', Int.reduceAdd, Int.reduceNeg, Int.reduceToNat, Int.reduceLE, Int.reduceLT, Int.reduceEq, Nat.zero_add, Nat.add_zero, and_true, true_and, ne_eq, not_false_eq_true, not_true_eq_false, and_self, implies_true, Bool.false_eq_true, Nat.reduceBEq, Int32.reduceOfInt, Int32.reduceAdd, Int32.reduceSub, Int32.reduceMul, Int32.reduceLE, Int32.reduceLT, Int32.reduceToNatClampNeg, Option.some.injEq, exists_eq_left, exists_eq_left', Option.isSome_some, Option.getD_some, vp_nar_int, pbi, eq_self, forall_const, false_implies, true_implies, false_and, and_false, uD_s, uG_s, uD_o, ad_nw, ad_wn, ad_ns, ad_sn, ad_ss, ad_ww, ad_sw, ad_ws, Int32.reduceToInt, Classical.not_not, d1n, d2n, d3n, d4n, d5n, d6n, d10n, inr, nL17, nL20, nL21, nL30, nL100, nL462, nL773, nL4638, bp6, bp7, bp8, bp9, bp10, bp11, bp12, bp13, bp14, bp15, bp16, bp17, bp20, bp21, bp29, bp30, bp31, bp33, bp45, bp48, bp49, bp50, bp57, bp59, bp97, bp99, bp100, bp102, spm1000, sp137, sp255, sp257, sp300, sp400, sp462, sp771, sp772, sp773, sp999, sp3865, sp4638, bX3_fillPlace_0, bX3_fillPlace_13, bX3_fillPlace_98, bX3_fillPlace_104, eX3_11, eX3_29, eX3_32, t_X2_reason, ↓x_inv6 naX3_48, x_inv6 naX3_48, rcX3_48, t_X2_lastTension, ↓x_inv3 naX3_52, x_inv3 naX3_52, rcX3_52, t_X3_offer, ↓x_inv5 naX3_55, x_inv5 naX3_55, rcX3_55, k0, g0, g1, g2, g3, k1, k2, k3, k4, r1, r2, r3, r4, s1, s2, s3, s4, m0, mg0, mg1, mg2, m1, m2, m3, b1, b2, b3, b4, b6, b7, b8, b9, b10, b11, b14, o1, o2, o3, o4, o5, b5, hj2, e1, e2, e3, e4, e5, e8, e9, e10, e11, c1', c2', hN, hT]
          refine ⟨_, by omega, i + 1, some (.int (f + nI (i + 1))), by rw [e6], by omega, ?_, rfl⟩
          rw [e7, foS, if_neg c1', if_pos c2']
        · simp only [↓x_iconst, ↓x_bipush, ↓x_sipush, ↓x_ldc, ↓x_iload_n, ↓x_iload, ↓x_aload_n, ↓x_aload, ↓x_istore_n, ↓x_istore, ↓x_astore_n, ↓x_astore, ↓x_iinc, ↓x_iadd, ↓x_isub, ↓x_imul, ↓x_iand, ↓x_idiv, ↓x_ineg, ↓x_i2c, ↓x_dupI, ↓x_dupA, ↓x_dup2, ↓x_goto, ↓x_get, ↓x_put, ↓x_gets, ↓x_iald, ↓x_bald, ↓x_cald, ↓x_aald, ↓x_iast, ↓x_bast, ↓x_cast, ↓x_aast, ↓x_alen, ↓x_iret, ↓x_vret, ↓x_nil, ↓x_jmp, ↓x_ldI0, ↓x_ldIs, ↓x_ldA0, ↓x_ldAs, ↓x_icmpT, ↓x_icmpF, ↓x_ifT, ↓x_ifF, x_iconst, x_bipush, x_sipush, x_ldc, x_iload_n, x_iload, x_aload_n, x_aload, x_istore_n, x_istore, x_astore_n, x_astore, x_iinc, x_iadd, x_isub, x_imul, x_iand, x_idiv, x_ineg, x_i2c, x_dupI, x_dupA, x_dup2, x_goto, x_if, x_icmp, x_get, x_put, x_gets, x_iald, x_bald, x_cald, x_aald, x_iast, x_bast, x_cast, x_aast, x_alen, x_iret, x_vret, x_nil, x_jmp, x_ldI0, x_ldIs, x_ldA0, x_ldAs, x_cad, x_cad2, x_fv0, x_fv1, x_fv2, x_fv3, cnd, fI, L0, c1, nL0, nL1, nL2, nL3, nL4, nL5, nL6, nL7, nL8, nL9, nL10, nL11, nL12, List.map_cons, List.map_nil, List.length_cons, List.length_nil, List.cons_append, List.nil_append, List.replicate_succ, List.replicate_zero, List.set_cons_zero, List.set_cons_succ, List.mem_cons, List.not_mem_nil, or_false, false_or, Option.toList_some, Option.toList_none, ↓reduceIte, if_true, if_false, Nat.reduceAdd, Nat.reduceSub, Nat.reduceEqDiff, Nat.reduceLT, Nat.reduceLeDiff, Int.reduceNatCast, Int.reduceNatCast', Int.reduceAdd, Int.reduceNeg, Int.reduceToNat, Int.reduceLE, Int.reduceLT, Int.reduceEq, Nat.zero_add, Nat.add_zero, and_true, true_and, ne_eq, not_false_eq_true, not_true_eq_false, and_self, implies_true, Bool.false_eq_true, Nat.reduceBEq, Int32.reduceOfInt, Int32.reduceAdd, Int32.reduceSub, Int32.reduceMul, Int32.reduceLE, Int32.reduceLT, Int32.reduceToNatClampNeg, Option.some.injEq, exists_eq_left, exists_eq_left', Option.isSome_some, Option.getD_some, vp_nar_int, pbi, eq_self, forall_const, false_implies, true_implies, false_and, and_false, uD_s, uG_s, uD_o, ad_nw, ad_wn, ad_ns, ad_sn, ad_ss, ad_ww, ad_sw, ad_ws, Int32.reduceToInt, Classical.not_not, d1n, d2n, d3n, d4n, d5n, d6n, d10n, inr, nL17, nL20, nL21, nL30, nL100, nL462, nL773, nL4638, bp6, bp7, bp8, bp9, bp10, bp11, bp12, bp13, bp14, bp15, bp16, bp17, bp20, bp21, bp29, bp30, bp31, bp33, bp45, bp48, bp49, bp50, bp57, bp59, bp97, bp99, bp100, bp102, spm1000, sp137, sp255, sp257, sp300, sp400, sp462, sp771, sp772, sp773, sp999, sp3865, sp4638, bX3_fillPlace_0, bX3_fillPlace_13, bX3_fillPlace_98, bX3_fillPlace_104, eX3_11, eX3_29, eX3_32, t_X2_reason, ↓x_inv6 naX3_48, x_inv6 naX3_48, rcX3_48, t_X2_lastTension, ↓x_inv3 naX3_52, x_inv3 naX3_52, rcX3_52, t_X3_offer, ↓x_inv5 naX3_55, x_inv5 naX3_55, rcX3_55, k0, g0, g1, g2, g3, k1, k2, k3, k4, r1, r2, r3, r4, s1, s2, s3, s4, m0, mg0, mg1, mg2, m1, m2, m3, b1, b2, b3, b4, b6, b7, b8, b9, b10, b11, b14, o1, o2, o3, o4, o5, b5, hj2, e1, e2, e3, e4, e5, c1', c2', hN, hT]
          refine ⟨_, by omega, i + 1, some (.int (f + nI (i + 1))), by rw [e6], by omega, ?_, rfl⟩
          rw [e7, foS, if_neg c1', if_neg c2']
    · obtain rfl : i = j := by omega
      have e1 : nI i < nI (i + 1) := (nI_ltI (by omega) (by omega)).mpr (by omega)
      simp only [↓x_iconst, ↓x_bipush, ↓x_sipush, ↓x_ldc, ↓x_iload_n, ↓x_iload, ↓x_aload_n, ↓x_aload, ↓x_istore_n, ↓x_istore, ↓x_astore_n, ↓x_astore, ↓x_iinc, ↓x_iadd, ↓x_isub, ↓x_imul, ↓x_iand, ↓x_idiv, ↓x_ineg, ↓x_i2c, ↓x_dupI, ↓x_dupA, ↓x_dup2, ↓x_goto, ↓x_get, ↓x_put, ↓x_gets, ↓x_iald, ↓x_bald, ↓x_cald, ↓x_aald, ↓x_iast, ↓x_bast, ↓x_cast, ↓x_aast, ↓x_alen, ↓x_iret, ↓x_vret, ↓x_nil, ↓x_jmp, ↓x_ldI0, ↓x_ldIs, ↓x_ldA0, ↓x_ldAs, ↓x_icmpT, ↓x_icmpF, ↓x_ifT, ↓x_ifF, x_iconst, x_bipush, x_sipush, x_ldc, x_iload_n, x_iload, x_aload_n, x_aload, x_istore_n, x_istore, x_astore_n, x_astore, x_iinc, x_iadd, x_isub, x_imul, x_iand, x_idiv, x_ineg, x_i2c, x_dupI, x_dupA, x_dup2, x_goto, x_if, x_icmp, x_get, x_put, x_gets, x_iald, x_bald, x_cald, x_aald, x_iast, x_bast, x_cast, x_aast, x_alen, x_iret, x_vret, x_nil, x_jmp, x_ldI0, x_ldIs, x_ldA0, x_ldAs, x_cad, x_cad2, x_fv0, x_fv1, x_fv2, x_fv3, cnd, fI, L0, c1, nL0, nL1, nL2, nL3, nL4, nL5, nL6, nL7, nL8, nL9, nL10, nL11, nL12, List.map_cons, List.map_nil, List.length_cons, List.length_nil, List.cons_append, List.nil_append, List.replicate_succ, List.replicate_zero, List.set_cons_zero, List.set_cons_succ, List.mem_cons, List.not_mem_nil, or_false, false_or, Option.toList_some, Option.toList_none, ↓reduceIte, if_true, if_false, Nat.reduceAdd, Nat.reduceSub, Nat.reduceEqDiff, Nat.reduceLT, Nat.reduceLeDiff, Int.reduceNatCast, Int.reduceNatCast', Int.reduceAdd, Int.reduceNeg, Int.reduceToNat, Int.reduceLE, Int.reduceLT, Int.reduceEq, Nat.zero_add, Nat.add_zero, and_true, true_and, ne_eq, not_false_eq_true, not_true_eq_false, and_self, implies_true, Bool.false_eq_true, Nat.reduceBEq, Int32.reduceOfInt, Int32.reduceAdd, Int32.reduceSub, Int32.reduceMul, Int32.reduceLE, Int32.reduceLT, Int32.reduceToNatClampNeg, Option.some.injEq, exists_eq_left, exists_eq_left', Option.isSome_some, Option.getD_some, vp_nar_int, pbi, eq_self, forall_const, false_implies, true_implies, false_and, and_false, uD_s, uG_s, uD_o, ad_nw, ad_wn, ad_ns, ad_sn, ad_ss, ad_ww, ad_sw, ad_ws, Int32.reduceToInt, Classical.not_not, d1n, d2n, d3n, d4n, d5n, d6n, d10n, inr, nL17, nL20, nL21, nL30, nL100, nL462, nL773, nL4638, bp6, bp7, bp8, bp9, bp10, bp11, bp12, bp13, bp14, bp15, bp16, bp17, bp20, bp21, bp29, bp30, bp31, bp33, bp45, bp48, bp49, bp50, bp57, bp59, bp97, bp99, bp100, bp102, spm1000, sp137, sp255, sp257, sp300, sp400, sp462, sp771, sp772, sp773, sp999, sp3865, sp4638, bX3_fillPlace_0, bX3_fillPlace_13, bX3_fillPlace_98, bX3_fillPlace_104, eX3_11, eX3_29, eX3_32, t_X2_reason, ↓x_inv6 naX3_48, x_inv6 naX3_48, rcX3_48, t_X2_lastTension, ↓x_inv3 naX3_52, x_inv3 naX3_52, rcX3_52, t_X3_offer, ↓x_inv5 naX3_55, x_inv5 naX3_55, rcX3_55, k0, g0, g1, g2, g3, k1, k2, k3, k4, m0, mg0, mg1, mg2, m1, m2, m3, o1, o2, b5, hj2, e1]
      exact hQ
