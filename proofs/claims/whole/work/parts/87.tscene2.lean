/-! ### the ties of remove, change -/
section TRM
variable {K : KT} {R0 : DT} {sa : Nat → Nat} {x a : Nat}
theorem itc_1 {N : Int32 → Int32} {p : Int32} (h : ¬ itcD N p = 0) : N 1 ≤ p ∧ p < N 0 := by
  unfold itcD at h
  by_cases q : p < N 1
  · rw [if_pos q] at h
    exact absurd rfl h
  · rw [if_neg q] at h
    by_cases q2 : N 0 ≤ p
    · rw [if_pos q2] at h
      exact absurd rfl h
    · exact ⟨Int32.not_lt.mp q, Int32.not_le.mp q2⟩
theorem tie_remove (p : Int32) : Tie K R0 sa x a t_X5_remove t_X6_remove [.int p] := by
  intro G D hR hS Q2 hQ
  obtain ⟨hv, hA, hB, -⟩ := hR.see
  refine ⟨hA, ?_⟩
  have es : setV (D (nu (xv x))) = setV (yN D a) := hv.setv
  have ei : itcD (D (nu (xv x))) p = itcD (yN D a) p := hv.itc
  have n0 := hv.n (i := 0) (by decide) (by decide)
  have n1 := hv.n (i := 1) (by decide) (by decide)
  by_cases h1 : itcD (D (nu (xv x))) p = 0
  · rw [if_pos h1]
    refine ⟨hB, ?_⟩
    rw [← ei, if_pos h1]
    exact hQ _ G D hR
  · rw [if_neg h1]
    by_cases h2 : setV (D (nu (xv x))) = 0
    · rw [if_pos h2]
      obtain ⟨b, e, c, hb, he, hw, q1, q2, q3, -, -, hb', he', hw'⟩ := Num.nats hA.2.1
      obtain ⟨i1, i2⟩ := itc_1 h1
      obtain ⟨i, hi, rfl⟩ := nI_of (x := p) (Int32.not_lt.mpr (Int32.le_trans hA.2.1.1 i1))
      have bi : b ≤ i := by
        rw [hb] at i1
        exact (nI_leI (by omega) hi).mp i1
      have ie : i < e := by
        rw [he] at i2
        exact (nI_ltI hi (by omega)).mp i2
      obtain ⟨e', rfl⟩ : ∃ e', e = e' + 1 := ⟨e - 1, by omega⟩
      have eR : rD G D x (nu (xv x)) 0 = nI (e' + 1) := by
        rw [hR.nuR]
        exact he
      have hb0 : ∀ z, (z < xv x + 1 ∨ xv x + 14 ≤ z) → dropD (rD G D x) (xv x) (nI i) z = rD G D x z := fun z hz => dropD_o2 hz
      obtain ⟨z1, z2, z3, z4, z5, z6, z7, -⟩ := hR.to6 (nov_m hb0)
      refine ⟨z1, ?_⟩
      rw [z3, ← ei, if_neg h1, ← es, if_pos h2, ← n0]
      intro E hE
      have g0 : gM D a 0 = nI (e' + 1) := by
        rw [← he]
        exact n0.symm
      have g1 : gM D a 1 = nI b := by
        rw [← hb]
        exact n1.symm
      refine hQ _ _ E (act_nv hR hb0 hE (F := rmF (gM D a) i (e' + 1)) (fun k hk => ?_) (fun k k0 k1 => rmF_o (by omega) (by omega)) (fun k hk => ?_) (rmF_inv hR.invI g1 g0 (by omega) (by omega)))
      · rw [nI_clamp hi, he', z6]
        rfl
      · rw [dropD_img eR hk (by omega) (by omega)]
        exact rmF_c (fun z hz => hR.imgR hz) hk (by omega)
    · rw [if_neg h2]
      refine ⟨hB, ?_⟩
      rw [← ei, if_neg h1, ← es, if_neg h2]
      exact hQ _ G D hR
theorem inv_s {f : Nat → Int32} {j r : Nat} {v : Int32} (h : InvI f) (hj : j < 20) (hr : r < 4) (h0 : 0 ≤ v) (h1 : r < 2 → v ≤ 999) (h2 : r = 2 → v ≤ 5) (h3 : r = 3 → v ≤ 9) : InvI (fun k => if k = 137 + 6 * j + r then v else f k) := by
  obtain ⟨a1, b1', cc, d, e⟩ := h
  have o : ∀ k, ¬ k = 137 + 6 * j + r → (if k = 137 + 6 * j + r then v else f k) = f k := fun k h1 => if_neg h1
  unfold InvI
  simp only []
  rw [o 0 (by omega), o 1 (by omega), o 2 (by omega), o 3 (by omega), o 4 (by omega), o 5 (by omega), o 6 (by omega)]
  refine ⟨a1, b1', cc, fun i hi => ?_, fun w hw => ?_⟩
  · obtain ⟨d0, d1, d2, d3⟩ := d i hi
    refine ⟨?_, ?_, ?_, ?_⟩
    · by_cases q : 137 + 6 * i + 0 = 137 + 6 * j + r
      · rw [if_pos q]
        exact ⟨h0, h1 (by omega)⟩
      · rw [if_neg q]
        exact d0
    · by_cases q : 137 + 6 * i + 1 = 137 + 6 * j + r
      · rw [if_pos q]
        exact ⟨h0, h1 (by omega)⟩
      · rw [if_neg q]
        exact d1
    · by_cases q : 137 + 6 * i + 2 = 137 + 6 * j + r
      · rw [if_pos q]
        exact ⟨h0, h2 (by omega)⟩
      · rw [if_neg q]
        exact d2
    · by_cases q : 137 + 6 * i + 3 = 137 + 6 * j + r
      · rw [if_pos q]
        exact ⟨h0, h3 (by omega)⟩
      · rw [if_neg q]
        exact d3
  · rw [o _ (by omega), o _ (by omega)]
    exact e w hw
/-- both tests of a new value agree -/
theorem fit_same {S S' : Int32 → Int32 → Int32} {i : Int32} {r : Nat} {v : Int32} (hS : Stt K R0 sa) (hr : r < 4) (e0 : S 0 i = S' 0 i) (e1 : S 1 i = S' 1 i) (b0 : 0 ≤ S 0 i ∧ S 0 i ≤ 999) (b1 : 0 ≤ S 1 i ∧ S 1 i ≤ 999) : fitV S R0 sa i (nI r) v = fitM S' i (nI r) v ∧ (¬ fitV S R0 sa i (nI r) v = 0 → 0 ≤ v ∧ (r < 2 → v ≤ 999) ∧ (r = 2 → v ≤ 5) ∧ (r = 3 → v ≤ 9)) := by
  obtain ⟨-, ⟨s0, s1, s2, s3⟩, ⟨t0, t1, t2, t3⟩, -⟩ := hS
  obtain rfl | rfl | rfl | rfl : r = 0 ∨ r = 1 ∨ r = 2 ∨ r = 3 := by omega
  · show fitV S R0 sa i 0 v = fitM S' i 0 v ∧ (¬ fitV S R0 sa i 0 v = 0 → _)
    unfold fitV fitM iosS
    rw [if_pos rfl, if_pos rfl, if_pos rfl, s0, t0, ← e1]
    unfold inV iosV
    by_cases h : S 1 i < v
    · rw [if_pos h, if_neg (show ¬ v < 1 by clear e0 e1 s0 s1 s2 s3 t0 t1 t2 t3 b0; (simp only [i_lt, i_le, i_eq, i_cl, Int32.reduceToInt, ne_eq] at * <;> (first | omega | (simp (disch := (first | omega | (simp (disch := (first | omega | (simp (disch := (first | omega | (simp only [Int32.reduceToInt]; omega))) only [a_add, a_sub, a_mul, a_neg, i_lt, i_le, i_eq, i_cl, Int32.reduceToInt, Int32.reduceToNatClampNeg]; omega))) only [a_add, a_sub, a_mul, a_neg, i_lt, i_le, i_eq, i_cl, Int32.reduceToInt, Int32.reduceToNatClampNeg]; omega))) only [a_add, a_sub, a_mul, a_neg, i_lt, i_le, i_eq, i_cl, Int32.reduceToInt, Int32.reduceToNatClampNeg] at * <;> (first | omega | (simp (disch := (first | omega | (simp (disch := (first | omega | (simp (disch := (first | omega | (simp only [Int32.reduceToInt]; omega))) only [a_add, a_sub, a_mul, a_neg, i_lt, i_le, i_eq, i_cl, Int32.reduceToInt, Int32.reduceToNatClampNeg]; omega))) only [a_add, a_sub, a_mul, a_neg, i_lt, i_le, i_eq, i_cl, Int32.reduceToInt, Int32.reduceToNatClampNeg]; omega))) only [a_add, a_sub, a_mul, a_neg, i_lt, i_le, i_eq, i_cl, Int32.reduceToInt, Int32.reduceToNatClampNeg] at * <;> omega)))))), if_neg (show ¬ v < S 1 i + 1 by clear e0 e1 s0 s1 s2 s3 t0 t1 t2 t3 b0; (simp only [i_lt, i_le, i_eq, i_cl, Int32.reduceToInt, ne_eq] at * <;> (first | omega | (simp (disch := (first | omega | (simp (disch := (first | omega | (simp (disch := (first | omega | (simp only [Int32.reduceToInt]; omega))) only [a_add, a_sub, a_mul, a_neg, i_lt, i_le, i_eq, i_cl, Int32.reduceToInt, Int32.reduceToNatClampNeg]; omega))) only [a_add, a_sub, a_mul, a_neg, i_lt, i_le, i_eq, i_cl, Int32.reduceToInt, Int32.reduceToNatClampNeg]; omega))) only [a_add, a_sub, a_mul, a_neg, i_lt, i_le, i_eq, i_cl, Int32.reduceToInt, Int32.reduceToNatClampNeg] at * <;> (first | omega | (simp (disch := (first | omega | (simp (disch := (first | omega | (simp (disch := (first | omega | (simp only [Int32.reduceToInt]; omega))) only [a_add, a_sub, a_mul, a_neg, i_lt, i_le, i_eq, i_cl, Int32.reduceToInt, Int32.reduceToNatClampNeg]; omega))) only [a_add, a_sub, a_mul, a_neg, i_lt, i_le, i_eq, i_cl, Int32.reduceToInt, Int32.reduceToNatClampNeg]; omega))) only [a_add, a_sub, a_mul, a_neg, i_lt, i_le, i_eq, i_cl, Int32.reduceToInt, Int32.reduceToNatClampNeg] at * <;> omega))))))]
      refine ⟨rfl, fun q => ⟨Int32.le_trans b1.1 (Int32.le_of_lt h), fun _ => ?_, fun q => absurd q (by omega), fun q => absurd q (by omega)⟩⟩
      by_cases q2 : 999 < v
      · rw [if_pos q2] at q
        exact absurd rfl q
      · exact Int32.not_lt.mp q2
    · rw [if_neg h, if_pos (show v < S 1 i + 1 by clear e0 e1 s0 s1 s2 s3 t0 t1 t2 t3 b0; (simp only [i_lt, i_le, i_eq, i_cl, Int32.reduceToInt, ne_eq] at * <;> (first | omega | (simp (disch := (first | omega | (simp (disch := (first | omega | (simp (disch := (first | omega | (simp only [Int32.reduceToInt]; omega))) only [a_add, a_sub, a_mul, a_neg, i_lt, i_le, i_eq, i_cl, Int32.reduceToInt, Int32.reduceToNatClampNeg]; omega))) only [a_add, a_sub, a_mul, a_neg, i_lt, i_le, i_eq, i_cl, Int32.reduceToInt, Int32.reduceToNatClampNeg]; omega))) only [a_add, a_sub, a_mul, a_neg, i_lt, i_le, i_eq, i_cl, Int32.reduceToInt, Int32.reduceToNatClampNeg] at * <;> (first | omega | (simp (disch := (first | omega | (simp (disch := (first | omega | (simp (disch := (first | omega | (simp only [Int32.reduceToInt]; omega))) only [a_add, a_sub, a_mul, a_neg, i_lt, i_le, i_eq, i_cl, Int32.reduceToInt, Int32.reduceToNatClampNeg]; omega))) only [a_add, a_sub, a_mul, a_neg, i_lt, i_le, i_eq, i_cl, Int32.reduceToInt, Int32.reduceToNatClampNeg]; omega))) only [a_add, a_sub, a_mul, a_neg, i_lt, i_le, i_eq, i_cl, Int32.reduceToInt, Int32.reduceToNatClampNeg] at * <;> omega))))))]
      exact ⟨rfl, fun q => absurd rfl q⟩
  · show fitV S R0 sa i 1 v = fitM S' i 1 v ∧ (¬ fitV S R0 sa i 1 v = 0 → _)
    unfold fitV fitM iosS
    rw [if_neg (show ¬ (1 : Int32) = 0 by decide), if_pos (show (1 : Int32) = 1 from rfl), if_neg (show ¬ (1 : Int32) = 0 by decide), if_neg (show ¬ (1 : Int32) = 0 by decide), if_pos (show (1 : Int32) = 1 from rfl), s1, t1, ← e0]
    unfold inV iosV
    by_cases h : v < S 0 i
    · rw [if_pos h, if_neg (show ¬ 998 < v by clear e0 e1 s0 s1 s2 s3 t0 t1 t2 t3 b1; (simp only [i_lt, i_le, i_eq, i_cl, Int32.reduceToInt, ne_eq] at * <;> (first | omega | (simp (disch := (first | omega | (simp (disch := (first | omega | (simp (disch := (first | omega | (simp only [Int32.reduceToInt]; omega))) only [a_add, a_sub, a_mul, a_neg, i_lt, i_le, i_eq, i_cl, Int32.reduceToInt, Int32.reduceToNatClampNeg]; omega))) only [a_add, a_sub, a_mul, a_neg, i_lt, i_le, i_eq, i_cl, Int32.reduceToInt, Int32.reduceToNatClampNeg]; omega))) only [a_add, a_sub, a_mul, a_neg, i_lt, i_le, i_eq, i_cl, Int32.reduceToInt, Int32.reduceToNatClampNeg] at * <;> (first | omega | (simp (disch := (first | omega | (simp (disch := (first | omega | (simp (disch := (first | omega | (simp only [Int32.reduceToInt]; omega))) only [a_add, a_sub, a_mul, a_neg, i_lt, i_le, i_eq, i_cl, Int32.reduceToInt, Int32.reduceToNatClampNeg]; omega))) only [a_add, a_sub, a_mul, a_neg, i_lt, i_le, i_eq, i_cl, Int32.reduceToInt, Int32.reduceToNatClampNeg]; omega))) only [a_add, a_sub, a_mul, a_neg, i_lt, i_le, i_eq, i_cl, Int32.reduceToInt, Int32.reduceToNatClampNeg] at * <;> omega)))))), if_neg (show ¬ S 0 i - 1 < v by clear e0 e1 s0 s1 s2 s3 t0 t1 t2 t3 b1; (simp only [i_lt, i_le, i_eq, i_cl, Int32.reduceToInt, ne_eq] at * <;> (first | omega | (simp (disch := (first | omega | (simp (disch := (first | omega | (simp (disch := (first | omega | (simp only [Int32.reduceToInt]; omega))) only [a_add, a_sub, a_mul, a_neg, i_lt, i_le, i_eq, i_cl, Int32.reduceToInt, Int32.reduceToNatClampNeg]; omega))) only [a_add, a_sub, a_mul, a_neg, i_lt, i_le, i_eq, i_cl, Int32.reduceToInt, Int32.reduceToNatClampNeg]; omega))) only [a_add, a_sub, a_mul, a_neg, i_lt, i_le, i_eq, i_cl, Int32.reduceToInt, Int32.reduceToNatClampNeg] at * <;> (first | omega | (simp (disch := (first | omega | (simp (disch := (first | omega | (simp (disch := (first | omega | (simp only [Int32.reduceToInt]; omega))) only [a_add, a_sub, a_mul, a_neg, i_lt, i_le, i_eq, i_cl, Int32.reduceToInt, Int32.reduceToNatClampNeg]; omega))) only [a_add, a_sub, a_mul, a_neg, i_lt, i_le, i_eq, i_cl, Int32.reduceToInt, Int32.reduceToNatClampNeg]; omega))) only [a_add, a_sub, a_mul, a_neg, i_lt, i_le, i_eq, i_cl, Int32.reduceToInt, Int32.reduceToNatClampNeg] at * <;> omega))))))]
      refine ⟨rfl, fun q => ⟨?_, fun _ => Int32.le_trans (Int32.le_of_lt h) b0.2, fun q => absurd q (by omega), fun q => absurd q (by omega)⟩⟩
      by_cases q2 : v < 0
      · rw [if_pos q2] at q
        exact absurd rfl q
      · exact Int32.not_lt.mp q2
    · rw [if_neg h, if_pos (show S 0 i - 1 < v by clear e0 e1 s0 s1 s2 s3 t0 t1 t2 t3 b1; (simp only [i_lt, i_le, i_eq, i_cl, Int32.reduceToInt, ne_eq] at * <;> (first | omega | (simp (disch := (first | omega | (simp (disch := (first | omega | (simp (disch := (first | omega | (simp only [Int32.reduceToInt]; omega))) only [a_add, a_sub, a_mul, a_neg, i_lt, i_le, i_eq, i_cl, Int32.reduceToInt, Int32.reduceToNatClampNeg]; omega))) only [a_add, a_sub, a_mul, a_neg, i_lt, i_le, i_eq, i_cl, Int32.reduceToInt, Int32.reduceToNatClampNeg]; omega))) only [a_add, a_sub, a_mul, a_neg, i_lt, i_le, i_eq, i_cl, Int32.reduceToInt, Int32.reduceToNatClampNeg] at * <;> (first | omega | (simp (disch := (first | omega | (simp (disch := (first | omega | (simp (disch := (first | omega | (simp only [Int32.reduceToInt]; omega))) only [a_add, a_sub, a_mul, a_neg, i_lt, i_le, i_eq, i_cl, Int32.reduceToInt, Int32.reduceToNatClampNeg]; omega))) only [a_add, a_sub, a_mul, a_neg, i_lt, i_le, i_eq, i_cl, Int32.reduceToInt, Int32.reduceToNatClampNeg]; omega))) only [a_add, a_sub, a_mul, a_neg, i_lt, i_le, i_eq, i_cl, Int32.reduceToInt, Int32.reduceToNatClampNeg] at * <;> omega)))))), ite_self]
      exact ⟨rfl, fun q => absurd rfl q⟩
  · show fitV S R0 sa i 2 v = fitM S' i 2 v ∧ (¬ fitV S R0 sa i 2 v = 0 → _)
    unfold fitV fitM iosS
    rw [if_neg (show ¬ (2 : Int32) = 0 by decide), if_neg (show ¬ (2 : Int32) = 1 by decide), if_neg (show ¬ (2 : Int32) = 0 by decide), if_neg (show ¬ (2 : Int32) = 0 by decide), if_neg (show ¬ (2 : Int32) = 1 by decide), if_pos (show (2 : Int32) = 2 from rfl), s2, t2]
    refine ⟨rfl, fun q => ?_⟩
    obtain ⟨u1, u2⟩ := ios_1 q
    exact ⟨u1, fun q => absurd q (by omega), fun _ => u2, fun q => absurd q (by omega)⟩
  · show fitV S R0 sa i 3 v = fitM S' i 3 v ∧ (¬ fitV S R0 sa i 3 v = 0 → _)
    unfold fitV fitM iosS
    rw [if_neg (show ¬ (3 : Int32) = 0 by decide), if_neg (show ¬ (3 : Int32) = 1 by decide), if_neg (show ¬ (3 : Int32) = 0 by decide), if_neg (show ¬ (3 : Int32) = 0 by decide), if_neg (show ¬ (3 : Int32) = 1 by decide), if_neg (show ¬ (3 : Int32) = 2 by decide), s3, t3]
    refine ⟨rfl, fun q => ?_⟩
    obtain ⟨u1, u2⟩ := ios_1 q
    exact ⟨u1, fun q => absurd q (by omega), fun q => absurd q (by omega), fun _ => u2⟩
theorem tie_change (p r v : Int32) : Tie K R0 sa x a t_X5_change t_X6_change [.int p, .int r, .int v] := by
  intro G D hR hS Q2 hQ
  obtain ⟨hv, hA, hB, -⟩ := hR.see
  refine ⟨⟨hS, hA⟩, ?_⟩
  have es : setV (D (nu (xv x))) = setV (yN D a) := hv.setv
  have ei : itcD (D (nu (xv x))) p = itcD (yN D a) p := hv.itc
  by_cases h1 : itcD (D (nu (xv x))) p = 0
  · rw [if_pos h1]
    refine ⟨hB, ?_⟩
    rw [← ei, if_pos h1]
    exact hQ _ G D hR
  · rw [if_neg h1]
    by_cases h2 : r < 0
    · rw [if_pos h2]
      refine ⟨hB, ?_⟩
      rw [← ei, if_neg h1, if_pos h2]
      exact hQ _ G D hR
    · rw [if_neg h2]
      by_cases h3 : 3 < r
      · rw [if_pos h3]
        refine ⟨hB, ?_⟩
        rw [← ei, if_neg h1, if_neg h2, if_pos h3]
        exact hQ _ G D hR
      · rw [if_neg h3]
        obtain ⟨b, e, c, hb, he, hw, q1, q2, q3, -, -, hb', he', hw'⟩ := Num.nats hA.2.1
        obtain ⟨i1, i2⟩ := itc_1 h1
        obtain ⟨i, hi, rfl⟩ := nI_of (x := p) (Int32.not_lt.mpr (Int32.le_trans hA.2.1.1 i1))
        have ie : i < e := by
          rw [he] at i2
          exact (nI_ltI hi (by omega)).mp i2
        obtain ⟨j, hj, rfl⟩ := nI_of (x := r) h2
        have j4 : j < 4 := by
          have : ¬ 3 < j := fun q => h3 ((nI_ltI (a := 3) (by omega) hj).mpr q)
          omega
        have z0 : 0 ≤ nI i := nI_pos' (by omega)
        have z20 : nI i < 20 := (nI_ltI (b := 20) (by omega) (by decide)).mpr (by omega)
        have hI : Inv (D (nu (xv x))) (SS D (xv x)) (WW D (xv x)) := hR.2.1.2.1
        obtain ⟨d0, d1, -, -⟩ := hI.2.2.2.1 (nI i) z0 z20
        obtain ⟨ef, hf⟩ := fit_same (v := v) hS j4 (hv.2.1 0 (nI i) (by decide) (by decide) z0 z20) (hv.2.1 1 (nI i) (by decide) (by decide) z0 z20) d0 d1
        by_cases h4 : fitV (SS D (xv x)) R0 sa (nI i) (nI j) v = 0
        · rw [if_pos h4]
          refine ⟨hB, ?_⟩
          rw [← ei, if_neg h1, if_neg h2, if_neg h3, ← ef, if_pos h4]
          exact hQ _ G D hR
        · rw [if_neg h4]
          by_cases h5 : setV (D (nu (xv x))) = 0
          · rw [if_pos h5]
            have sj : sc (xv x) (nI j) = xv x + 3 + j := sc_n (by omega)
            have hb0 : ∀ z, (z < xv x + 1 ∨ xv x + 14 ≤ z) → uD (rD G D x) (sc (xv x) (nI j)) (nI i) v z = rD G D x z := fun z hz => uD_o (by rw [sj]; omega)
            obtain ⟨z1, z2, z3, z4, z5, z6, z7, -⟩ := hR.to6 (nov_m hb0)
            refine ⟨z1, ?_⟩
            rw [z3, z4, ← ei, if_neg h1, if_neg h2, if_neg h3, ← ef, if_neg h4, ← es, if_pos h5]
            intro E hE
            have f0 : (137 : Int32) + 6 * nI i + nI j = nI (137 + 6 * i + j) := by
              rw [show (137 : Int32) = nI 137 from rfl, ← nL6, pk_mul, nI_add, nI_add]
            obtain ⟨w1, w2, w3, w4⟩ := hf h4
            refine q2_e (hQ _ _ E (act_nv hR hb0 hE (F := fun k => if k = 137 + 6 * i + j then v else gM D a k) (fun k hk => ?_) (fun k k0 k1 => if_neg (by omega)) (fun k hk => ?_) (inv_s hR.invI (by omega) j4 w1 w2 w3 w4))) ?_
            · rw [f0, uM_n (by omega) hk, z2]
              rfl
            · rw [sj, novI_S (by omega) (by omega) hk, hR.imgR hk]
            · exact hv.2.1 (nI j) (nI i) (nI_pos' (by omega)) ((nI_ltI (b := 6) (by omega) (by decide)).mpr (by omega)) z0 z20
          · rw [if_neg h5]
            refine ⟨hB, ?_⟩
            rw [← ei, if_neg h1, if_neg h2, if_neg h3, ← ef, if_neg h4, ← es, if_neg h5]
            exact hQ _ G D hR
end TRM
