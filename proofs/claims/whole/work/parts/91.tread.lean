/-! ### the tie of read -/
theorem act_nvT {K : KT} {G : GT} {D D' D2 E : DT} {x a : Nat} {f F : Nat → Int32} (hR : Rel K G D x a) (h1 : ∀ b, (b < xv x + 1 ∨ xv x + 14 ≤ b) → b ≠ xT x → D' b = rD G D x b) (h2 : (∀ b, b < a → D2 b = D' b) ∧ D2 (ms a) = D' (ms a) ∧ D2 (mw a) = D' (mw a) ∧ D2 a 3 = D' a 3) (hM : MRec D2 E a f) (hfF : ∀ k, k < 773 → f k = F k) (hF : ∀ k, 257 ≤ k → k < 773 → F k = gM D a k) (hn : ∀ k, k < 257 → novI D' (xv x) k = F k) (hI : InvI F) (ht : D' (xT x) 2 = E a 5 ∧ 0 ≤ E a 5 ∧ E a 5 ≤ 100 ∧ D' (tc (xT x)) = E (mx a)) : Rel K (recG G D (xH x)) E x a := by
  obtain ⟨st, sh, slot, -, -, -, -, -, r8, -, ⟨s0, s1⟩, -⟩ := rec_s hR
  have ha := hR.1.2.2.1
  obtain ⟨-, ⟨⟨p1, p2⟩, p3, p4⟩, -⟩ := id hR
  obtain ⟨m1, m2, m3, m4, m5, m6⟩ := id hM
  have ob : ∀ b, b < a → E b = D' b := fun b hb => (m1 b (by omega) (by unfold ms; omega) (by unfold mw; omega) (by unfold mb; omega)).trans (h2.1 b hb)
  have oE : ∀ b, xN x + 15 ≤ b → b < xN x + 45 → D' b = D b := fun b hb hb2 => by
    unfold xN at hb hb2
    rw [h1 b (by unfold xv mv xN; omega) (by unfold xT; omega), r8 b (by omega) (by unfold xH; omega)]
  have vd : ∀ b, b < xN x + 45 → b < a := fun b hb => by unfold xN at hb; omega
  refine act_rel hR (D2 := D2) (fun b hb hb2 => h1 b (by unfold xv mv xN; omega) hb2) h2 hM (MomEq.of (fun k hk => ?_) (fun j hj => ?_)) ⟨inv_of (hI.c hn), fun j hj => ?_⟩ ht
  · rw [Nat.zero_add, m6 k (by omega), hfF k (by omega), ← hn k hk]
    exact novI_c (fun z z0 z1 => ob z (vd z (by unfold mv at z1; omega)))
  · obtain ⟨a1, a2, a3⟩ := p2 j hj
    have e1 : E (mt (xN x)) = D (mt (xN x)) := by
      rw [ob _ (vd _ (by unfold mt; omega)), oE _ (by unfold mt; omega) (by unfold mt; omega)]
    rw [Nat.zero_add] at a1 a3 ⊢
    rw [Nat.zero_add, e1, m6 _ (by omega), hfF _ (by omega), hF _ (by omega) (by omega)]
    refine ⟨a1, a2, fun q k hk => ?_⟩
    rw [m6 _ (by omega), hfF _ (by omega), hF _ (by omega) (by omega)]
    refine Eq.trans ?_ ((a3 q).img hk)
    exact novI_c (fun z z0 z1 => by
      rw [ob _ (vd _ (by unfold slN at z1; omega)), oE _ (by unfold slN at z0; omega) (by unfold slN at z1; omega)])
  · have e1 : D' (mt (xN x)) = D (mt (xN x)) := oE _ (by unfold mt; omega) (by unfold mt; omega)
    rw [e1]
    exact fun q => (p4 j hj q).keep (fun z z0 z1 => oE _ (by unfold slN at z0; omega) (by unfold slN at z1; omega))
theorem adR_img {M T : DT} {t n e : Nat} {c : Int32 → Int32} {l : Int32} (h0 : M (nu n) 0 = nI e) : ∀ k, e + k ≤ 20 → (∀ r i, r < 4 → i < k → T (tr t (nI r)) (nI i) = tv c l r i) → ∀ i, i < 257 → novI (adR M T t n k) n i = opR (novI M n) e c l k i
  | 0, _, _, i, _ => rfl
  | k + 1, hk, hT, i, hi => by
    have e0 : adR M T t n k (nu n) 0 = nI (e + k) := by rw [adR_0, h0, nI_add]
    rw [adR, e0, addD_img e0 hi (Nat.le_refl _) (by omega), show T (tr t 0) (nI k) = tv c l 0 k from hT 0 k (by omega) (by omega), show T (tr t 1) (nI k) = tv c l 1 k from hT 1 k (by omega) (by omega), show T (tr t 2) (nI k) = tv c l 2 k from hT 2 k (by omega) (by omega), show T (tr t 3) (nI k) = tv c l 3 k from hT 3 k (by omega) (by omega)]
    rw [opR]
    exact opF_c (fun z hz => adR_img h0 k (by omega) (fun r i hr hi => hT r i hr (by omega)) z hz) hi
theorem opR_o {g : Nat → Int32} {e : Nat} {c : Int32 → Int32} {l : Int32} : ∀ k, e + k ≤ 20 → ∀ i, 257 ≤ i → opR g e c l k i = g i
  | 0, _, i, _ => rfl
  | k + 1, hk, i, hi => by
    rw [opR, opF_o (by omega) (Nat.le_refl _) (by omega)]
    exact opR_o k (by omega) i hi
theorem opR_inv {g : Nat → Int32} {e : Nat} {c : Int32 → Int32} {l : Int32} (h : InvI g) (h0 : g 0 = nI e) : ∀ k, e + k ≤ 20 → (∀ i, i < k → (0 ≤ tv c l 0 i ∧ tv c l 0 i ≤ 999) ∧ (0 ≤ tv c l 1 i ∧ tv c l 1 i ≤ 999) ∧ (0 ≤ tv c l 2 i ∧ tv c l 2 i ≤ 5) ∧ (0 ≤ tv c l 3 i ∧ tv c l 3 i ≤ 9)) → InvI (opR g e c l k)
  | 0, _, _ => h
  | k + 1, hk, hb => by
    obtain ⟨b0, b1, b2, b3⟩ := hb k (by omega)
    exact opF_inv (opR_inv h h0 k (by omega) (fun i hi => hb i (by omega))) (opR_0 h0 k) (Nat.le_refl _) (by omega) b0 b1 b2 b3
theorem tv_b {c : Int32 → Int32} {l : Int32} {i : Nat} (h : ¬ scnV c l (poS c l i) = 0) : (0 ≤ tv c l 0 i ∧ tv c l 0 i ≤ 999) ∧ (0 ≤ tv c l 1 i ∧ tv c l 1 i ≤ 999) ∧ (0 ≤ tv c l 2 i ∧ tv c l 2 i ≤ 5) ∧ (0 ≤ tv c l 3 i ∧ tv c l 3 i ≤ 9) := by
  obtain ⟨h1, h2, h3, h4, h5⟩ := scn_ok h
  obtain ⟨t1, t2, t3⟩ := tns_ok h5
  refine ⟨num_nn, ?_, ?_, ?_⟩
  · show 0 ≤ slW c l (numE c l (poS c l i + 1)) ∧ slW c l (numE c l (poS c l i + 1)) ≤ 999
    unfold slW
    split
    · exact num_nn
    · exact ⟨by decide, by decide⟩
  · show 0 ≤ chF c l (poS c l i) - 97 ∧ chF c l (poS c l i) - 97 ≤ 5
    clear h3 h4 h5 t1 t2 t3 h
    refine ⟨?_, ?_⟩ <;> (simp only [i_lt, i_le, i_eq, i_cl, Int32.reduceToInt, ne_eq] at * <;> (first | omega | (simp (disch := (first | omega | (simp (disch := (first | omega | (simp (disch := (first | omega | (simp only [Int32.reduceToInt]; omega))) only [a_add, a_sub, a_mul, a_neg, i_lt, i_le, i_eq, i_cl, Int32.reduceToInt, Int32.reduceToNatClampNeg]; omega))) only [a_add, a_sub, a_mul, a_neg, i_lt, i_le, i_eq, i_cl, Int32.reduceToInt, Int32.reduceToNatClampNeg]; omega))) only [a_add, a_sub, a_mul, a_neg, i_lt, i_le, i_eq, i_cl, Int32.reduceToInt, Int32.reduceToNatClampNeg] at * <;> (first | omega | (simp (disch := (first | omega | (simp (disch := (first | omega | (simp (disch := (first | omega | (simp only [Int32.reduceToInt]; omega))) only [a_add, a_sub, a_mul, a_neg, i_lt, i_le, i_eq, i_cl, Int32.reduceToInt, Int32.reduceToNatClampNeg]; omega))) only [a_add, a_sub, a_mul, a_neg, i_lt, i_le, i_eq, i_cl, Int32.reduceToInt, Int32.reduceToNatClampNeg]; omega))) only [a_add, a_sub, a_mul, a_neg, i_lt, i_le, i_eq, i_cl, Int32.reduceToInt, Int32.reduceToNatClampNeg] at * <;> omega)))))
  · show 0 ≤ tnW c l (poS c l i) ∧ tnW c l (poS c l i) ≤ 9
    unfold tnW
    clear h1 h2 h3 h4 h5 t1 h
    refine ⟨?_, ?_⟩ <;> (simp only [i_lt, i_le, i_eq, i_cl, Int32.reduceToInt, ne_eq] at * <;> (first | omega | (simp (disch := (first | omega | (simp (disch := (first | omega | (simp (disch := (first | omega | (simp only [Int32.reduceToInt]; omega))) only [a_add, a_sub, a_mul, a_neg, i_lt, i_le, i_eq, i_cl, Int32.reduceToInt, Int32.reduceToNatClampNeg]; omega))) only [a_add, a_sub, a_mul, a_neg, i_lt, i_le, i_eq, i_cl, Int32.reduceToInt, Int32.reduceToNatClampNeg]; omega))) only [a_add, a_sub, a_mul, a_neg, i_lt, i_le, i_eq, i_cl, Int32.reduceToInt, Int32.reduceToNatClampNeg] at * <;> (first | omega | (simp (disch := (first | omega | (simp (disch := (first | omega | (simp (disch := (first | omega | (simp only [Int32.reduceToInt]; omega))) only [a_add, a_sub, a_mul, a_neg, i_lt, i_le, i_eq, i_cl, Int32.reduceToInt, Int32.reduceToNatClampNeg]; omega))) only [a_add, a_sub, a_mul, a_neg, i_lt, i_le, i_eq, i_cl, Int32.reduceToInt, Int32.reduceToNatClampNeg]; omega))) only [a_add, a_sub, a_mul, a_neg, i_lt, i_le, i_eq, i_cl, Int32.reduceToInt, Int32.reduceToNatClampNeg] at * <;> omega)))))
theorem slkF_i {S : Int32 → Int32 → Int32} : ∀ k i0 : Nat, slkF S k (nI i0) = 0 ↔ ∃ i, i0 ≤ i ∧ i < i0 + k ∧ S 0 (nI i) ≤ S 1 (nI i)
  | 0, i0 => ⟨fun q => absurd q (by rw [slkF]; decide), fun ⟨i, h1, h2, _⟩ => absurd h2 (by omega)⟩
  | k + 1, i0 => by
    rw [slkF, nI_1]
    by_cases h : S 1 (nI i0) < S 0 (nI i0)
    · rw [if_pos h, slkF_i k (i0 + 1)]
      constructor
      · rintro ⟨i, h1, h2, h3⟩
        exact ⟨i, by omega, by omega, h3⟩
      · rintro ⟨i, h1, h2, h3⟩
        rcases Nat.lt_or_ge i0 i with q | q
        · exact ⟨i, by omega, by omega, h3⟩
        · obtain rfl : i = i0 := by omega
          exact absurd h (Int32.not_lt.mpr h3)
    · rw [if_neg h]
      exact ⟨fun _ => ⟨i0, Nat.le_refl _, by omega, Int32.not_lt.mp h⟩, fun _ => rfl⟩
/-- the model's reading stops where the class's does -/
theorem rd_uni {M E2 : DT} {a j J : Nat} {r : Int32} {c : Int32 → Int32} {l : Int32} (hl : M a 5 = l) (hc : M (mx a) = c) (hJ : goS c l J) (hJ2 : ¬ goS c l (J + 1)) (h : RdP M E2 a j r) (hr : r = 1 → ¬ E2 a 6 < M a 5) : j = J ∧ E2 a 6 = scP c l (poS c l J) ∧ ((scnV c l (poS c l J) = 0 ∨ scP c l (poS c l J) < l) → r = 0) ∧ (¬ (scnV c l (poS c l J) = 0 ∨ scP c l (poS c l J) < l) → r = 1) := by
  obtain ⟨-, -, hg, e6, hk⟩ := h
  rw [hl] at hr
  rw [hl, hc] at hg e6 hk
  have hn : ¬ goS c l (j + 1) := by
    rcases hk with ⟨q0, q | ⟨-, q⟩⟩ | ⟨q1, q, -⟩
    · exact go_not hg (Or.inl q)
    · rw [e6] at q
      exact go_not hg (Or.inr q)
    · have := hr q1
      rw [e6] at this
      refine go_not hg (Or.inr (fun w => ?_))
      rw [show chF c l (scP c l (poS c l j)) = 0 from if_pos (Int32.not_lt.mp this)] at w
      exact absurd w (by decide)
  obtain rfl := go_uni hg hn hJ hJ2
  rw [e6] at hr hk
  refine ⟨rfl, e6, fun q => ?_, fun q => ?_⟩
  · rcases hk with ⟨q0, -⟩ | ⟨q1, w, -⟩
    · exact q0
    · rcases q with q | q
      · exact absurd q w
      · exact absurd q (hr q1)
  · rcases hk with ⟨q0, w | ⟨w, -⟩⟩ | ⟨q1, -⟩
    · exact absurd (Or.inl w) q
    · exact absurd (Or.inr w) q
    · exact q1
section TRD
variable {K : KT} {R0 : DT} {sa : Nat → Nat} {x a : Nat}
theorem tie_read : Tie K R0 sa x a t_X5_read t_X6_read [] := by
  intro G D hR hS Q2 hQ
  obtain ⟨hv, hA, hB, -⟩ := hR.see
  obtain ⟨⟨hC, hMo, ha, hAp⟩, -, -, t1, t2, t3, t4⟩ := id hR
  have l0 : 0 ≤ D (xT x) 2 := by rw [t1]; exact t2
  have l1 : D (xT x) 2 ≤ 100 := by rw [t1]; exact t3
  obtain ⟨J, J20, hJ, hJ2⟩ := go_top (c := D (tc (xT x))) l0 l1
  obtain ⟨sA, sB, sC, s2⟩ := scan_end l0 l1 hJ hJ2
  refine ⟨⟨hA, l1⟩, fun F E hF hE => ?_⟩
  rw [hF] at sA
  rw [hF, hE] at sB
  rw [hE] at sC s2
  obtain ⟨c, hc⟩ : ∃ c, D (tc (xT x)) = c := ⟨_, rfl⟩
  obtain ⟨l, hl⟩ : ∃ l, D (xT x) 2 = l := ⟨_, rfl⟩
  have oE : ∀ z, (z < xT x ∨ xT x + 7 ≤ z) → E z = D z := fun z hz => by
    rw [← hE]
    exact scX_o hz
  have ea : E a = D a := oE a (by unfold xT; omega)
  have ex : E (mx a) = D (mx a) := oE _ (by unfold mx xT; omega)
  have hRE : Rel K G E x a := by
    refine hR.txt (fun z hz => oE z (by unfold xT; omega)) (oE _ (by unfold ms xT; omega)) (oE _ (by unfold mw xT; omega)) (by rw [ea]) ?_
    rw [s2, ea, sC, ex]
    exact ⟨t1, t2, t3, t4⟩
  have hla : D a 5 = l := by rw [← t1, hl]
  have hcx : D (mx a) = c := by rw [← t4, hc]
  rw [hc, hl] at hJ hJ2 sA sB
  have hBE := hRE.see.2.2.1
  have relM : ∀ E2 j r, RdP E E2 a j r → Rel K G E2 x a := fun E2 j r h => by
    obtain ⟨o1, o2, -⟩ := h
    refine hRE.txt (fun z hz => o1 z (by omega) (by unfold mr; omega)) (o1 _ (by unfold ms; omega) (by unfold ms mr; omega)) (o1 _ (by unfold mw; omega) (by unfold mw mr; omega)) (o2 3 (by decide) (by decide)) ?_
    rw [o2 5 (by decide) (by decide), o1 (xT x) (by unfold xT; omega) (by unfold xT mr; omega), o1 (tc (xT x)) (by unfold tc xT; omega) (by unfold tc xT mr; omega), o1 (mx a) (by unfold mx; omega) (by unfold mx mr; omega), s2, ea, sC, ex]
    exact ⟨t1, t2, t3, t4⟩
  have pre : (MActS K G E a ∧ 0 ≤ E a 5 ∧ E a 5 ≤ 100) := ⟨hBE, by rw [ea]; exact t2, by rw [ea]; exact t3⟩
  by_cases hA1 : scnV c l (poS c l J) = 0 ∨ scP c l (poS c l J) < l
  · obtain ⟨f1, f2⟩ := sA hA1
    rw [if_neg f2]
    refine ⟨pre, fun E2 j r hr h1 => ?_⟩
    obtain ⟨-, e6, u1, -⟩ := rd_uni (by rw [ea, hla]) (by rw [ex, hcx]) hJ hJ2 hr h1
    refine ⟨fun _ => q2_e (hQ _ G E2 (relM E2 j r hr)) (by rw [f1, e6]), fun q => ?_⟩
    rw [u1 hA1] at q
    exact absurd q (by decide)
  · have hB1 : ¬ scnV c l (poS c l J) = 0 ∧ ¬ scP c l (poS c l J) < l := ⟨fun q => hA1 (Or.inl q), fun q => hA1 (Or.inr q)⟩
    obtain ⟨j20, f1, f3, fr⟩ := sB hB1
    rw [if_pos f1, f3, nI_clamp (by omega)]
    have sl : slkF (TS E (xT x)) (J + 1) 0 = 0 ↔ ∃ i, i ≤ J ∧ tv c l 0 i ≤ tv c l 1 i := by
      refine (slkF_i (J + 1) 0).trans ?_
      constructor
      · rintro ⟨i, i1, i2, i3⟩
        refine ⟨i, by omega, ?_⟩
        rw [← fr 0 i (by omega) (by omega), ← fr 1 i (by omega) (by omega)]
        exact i3
      · rintro ⟨i, i1, i2⟩
        refine ⟨i, by omega, by omega, ?_⟩
        rw [← fr 0 i (by omega) (by omega), ← fr 1 i (by omega) (by omega)] at i2
        exact i2
    have hall : ∀ i, i < J + 1 → ¬ scnV c l (poS c l i) = 0 := fun i hi => by
      rcases Nat.lt_or_ge i J with q | q
      · exact (hJ i q).1
      · obtain rfl : i = J := by omega
        exact hB1.1
    have n1 : ∀ r : Int32, r = 1 → ¬ r = 0 := fun r q => by rw [q]; decide
    by_cases hsl : slkF (TS E (xT x)) (J + 1) 0 = 0
    · rw [if_pos hsl]
      refine ⟨pre, fun E2 j r hr h1 => ?_⟩
      rw [ea, ex, hla, hcx]
      obtain ⟨rfl, e6, -, u2⟩ := rd_uni (by rw [ea, hla]) (by rw [ex, hcx]) hJ hJ2 hr h1
      exact ⟨fun q => absurd q (n1 r (u2 hA1)), fun _ => ⟨fun _ => hQ _ G E2 (relM E2 j r hr), fun q => absurd (sl.mp hsl) (fun ⟨i, i1, i2⟩ => q i i1 i2)⟩⟩
    · rw [if_neg hsl]
      have nos : ¬ ∃ i, i ≤ J ∧ tv c l 0 i ≤ tv c l 1 i := fun q => hsl (sl.mpr q)
      have hvE := hRE.see.1
      have hAE := hRE.see.2.1
      have es : setV (E (nu (xv x))) = setV (yN E a) := hvE.setv
      have n0 := hvE.n (i := 0) (by decide) (by decide)
      by_cases hset : setV (E (nu (xv x))) = 0
      · rw [if_pos hset]
        by_cases hcap : E (nu (xv x)) 0 + nI (J + 1) ≤ 20
        · rw [if_pos hcap]
          obtain ⟨b, e, w, hb, he, hw, q1, q2, q3, -, -, hb', he', hw'⟩ := Num.nats hAE.2.1
          have ej : e + (J + 1) ≤ 20 := by
            rw [he, nI_add] at hcap
            exact (nI_leI (b := 20) (by omega) (by decide)).mp hcap
          have eR : rD G E x (nu (xv x)) 0 = nI e := by
            rw [hRE.nuR]
            exact he
          have h1 : ∀ z, (z < xv x + 1 ∨ xv x + 14 ≤ z) → z ≠ xT x → uD (adR (rD G E x) E (xT x) (xv x) (J + 1)) (xT x) 2 0 z = rD G E x z := fun z hz hz2 => by
            rw [uD_o hz2, adR_o (by unfold nu; omega) (by omega)]
          have hi : ∀ k, k < 257 → novI (uD (adR (rD G E x) E (xT x) (xv x) (J + 1)) (xT x) 2 0) (xv x) k = opR (gM E a) e c l (J + 1) k := fun k hk => by
            refine Eq.trans (novI_c (fun z z0 z1 => uD_o (by unfold xv mv xN at z1; unfold xT; omega))) ?_
            rw [adR_img eR (J + 1) ej fr k hk]
            have : ∀ m, ∀ k, k < 257 → opR (novI (rD G E x) (xv x)) e c l m k = opR (gM E a) e c l m k := by
              intro m
              induction m with
              | zero => exact fun k hk => hRE.imgR hk
              | succ m ih =>
                intro k hk
                rw [opR, opR]
                exact opF_c (fun z hz => ih z hz) hk
            exact this _ k hk
          obtain ⟨z1, z2, z3, z4, z5, z6, z7, z8⟩ := hRE.to6 (D' := uD (adR (rD G E x) E (xT x) (xv x) (J + 1)) (xT x) 2 0) (fun z hz hz2 => h1 z (by unfold xv mv xN; omega) hz2)
          have zt : uD (adR (rD G E x) E (xT x) (xv x) (J + 1)) (xT x) 2 0 (xT x) 2 = 0 := uD_eq
          obtain ⟨st, sh, slot, -, -, -, -, -, r8, -, ⟨s0', s1'⟩, -⟩ := rec_s hRE
          have zx : uD (adR (rD G E x) E (xT x) (xv x) (J + 1)) (xT x) 2 0 (mx a) = E (mx a) := by
            rw [h1 _ (by unfold mx xv mv xN; omega) (by unfold mx xT; omega), r8 _ (by unfold mx; omega) (by unfold mx xH; omega)]
          have zc : uD (adR (rD G E x) E (xT x) (xv x) (J + 1)) (xT x) 2 0 (tc (xT x)) = E (tc (xT x)) := by
            rw [h1 _ (by unfold tc xT xv mv xN; omega) (by unfold tc; omega), r8 _ (by unfold tc xT; omega) (by unfold tc xT xH; omega)]
          generalize uD (adR (rD G E x) E (xT x) (xv x) (J + 1)) (xT x) 2 0 = D' at h1 hi z1 z2 z3 z4 z5 z6 z7 z8 zt zx zc
          refine ⟨⟨z1, by rw [z8, ea]; exact t2, by rw [z8, ea]; exact t3⟩, fun E2 j r hr h1' => ?_⟩
          rw [z8, zx, ea, ex, hla, hcx, z3, z6, ← n0, ← es, he', show sN E a = gM E a from rfl]
          obtain ⟨rfl, e6, -, u2⟩ := rd_uni (by rw [z8, ea, hla]) (by rw [zx, ex, hcx]) hJ hJ2 hr h1'
          refine ⟨fun q => absurd q (n1 r (u2 hA1)), fun _ => ⟨fun q => absurd q nos, fun _ => ⟨fun q => absurd hset q, fun _ => ⟨fun q => absurd hcap q, fun _ E' hE' => ?_⟩⟩⟩⟩
          obtain ⟨o1, o2, -⟩ := hr
          have hD2 : (∀ b, b < a → uD E2 a 5 0 b = D' b) ∧ uD E2 a 5 0 (ms a) = D' (ms a) ∧ uD E2 a 5 0 (mw a) = D' (mw a) ∧ uD E2 a 5 0 a 3 = D' a 3 := by
            refine ⟨fun b hb => ?_, ?_, ?_, ?_⟩
            · rw [uD_o (by omega), o1 b (by omega) (by unfold mr; omega)]
            · rw [uD_o (by unfold ms; omega), o1 _ (by unfold ms; omega) (by unfold ms mr; omega)]
            · rw [uD_o (by unfold mw; omega), o1 _ (by unfold mw; omega) (by unfold mw mr; omega)]
            · rw [uD_s, if_neg (by decide), o2 3 (by decide) (by decide)]
          have g0 : gM E a 0 = nI e := by
            rw [← he]
            exact n0.symm
          refine hQ _ _ E' (act_nvT hRE h1 hD2 hE' (F := opR (gM E a) e c l (j + 1)) (fun k hk => rfl) (fun k k0 k1 => opR_o _ ej k k0) hi (opR_inv hRE.invI g0 _ ej (fun i hi => tv_b (hall i hi))) ?_)
          have v5 : E' a 5 = 0 := by
            rw [hE'.2.1 5 (by decide), uD_eq]
          have vx : E' (mx a) = E (mx a) := by
            rw [hE'.1 _ (by unfold mx; omega) (by unfold mx ms; omega) (by unfold mx mw; omega) (by unfold mx mb; omega), uD_o (by unfold mx; omega), o1 _ (by unfold mx; omega) (by unfold mx mr; omega), zx]
          rw [v5, vx, zt, zc, sC, ex]
          exact ⟨rfl, Int32.le_refl _, by decide, t4⟩
        · rw [if_neg hcap]
          refine ⟨pre, fun E2 j r hr h1 => ?_⟩
          rw [ea, ex, hla, hcx, ← n0, ← es]
          obtain ⟨rfl, e6, -, u2⟩ := rd_uni (by rw [ea, hla]) (by rw [ex, hcx]) hJ hJ2 hr h1
          exact ⟨fun q => absurd q (n1 r (u2 hA1)), fun _ => ⟨fun q => absurd q nos, fun _ => ⟨fun q => absurd hset q, fun _ => ⟨fun _ => hQ _ G E2 (relM E2 j r hr), fun q => absurd q hcap⟩⟩⟩⟩
      · rw [if_neg hset]
        refine ⟨pre, fun E2 j r hr h1 => ?_⟩
        rw [ea, ex, hla, hcx, ← es]
        obtain ⟨rfl, e6, -, u2⟩ := rd_uni (by rw [ea, hla]) (by rw [ex, hcx]) hJ hJ2 hr h1
        exact ⟨fun q => absurd q (n1 r (u2 hA1)), fun _ => ⟨fun q => absurd q nos, fun _ => ⟨fun _ => hQ _ G E2 (relM E2 j r hr), fun q => absurd q hset⟩⟩⟩
end TRD
