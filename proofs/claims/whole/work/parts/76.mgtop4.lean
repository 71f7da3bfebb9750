/-! ### no good cut stands above the greatest -/
theorem room_b {N : Int32 → Int32} {W : Int32 → Int32 → Int32} {w : Int32} (l0 : 50 ≤ N 5) (l1 : N 5 ≤ 999) (a0 : 0 ≤ W 0 w) (a1 : W 0 w ≤ 4) (b0 : 0 ≤ W 1 w) (b1 : W 1 w ≤ 999) : 0 ≤ roomF N W w ∧ roomF N W w ≤ 3996 := by
  simp only [i_le, Int32.reduceToInt] at l0 l1 a0 a1 b0 b1
  have p0 : 0 ≤ (W 0 w).toInt * (N 5).toInt := Int.mul_nonneg a0 (by omega)
  have p1 : (W 0 w).toInt * (N 5).toInt ≤ 4 * 999 := Int.mul_le_mul a1 l1 (by omega) (by omega)
  have m0 : (W 0 w * N 5).toInt = (W 0 w).toInt * (N 5).toInt := by
    rw [Int32.toInt_mul, Int.bmod_eq_of_le] <;> omega
  have m1 : (W 0 w * N 5 - W 1 w).toInt = (W 0 w).toInt * (N 5).toInt - (W 1 w).toInt := by
    rw [Int32.toInt_sub, m0, Int.bmod_eq_of_le] <;> omega
  unfold roomF mxI
  by_cases h : 0 < W 0 w * N 5 - W 1 w
  · rw [if_pos h]
    rw [i_lt] at h
    simp only [i_le, Int32.reduceToInt] at h ⊢
    omega
  · rw [if_neg h]
    decide
theorem mgcF_top {N : Int32 → Int32} {S W : Int32 → Int32 → Int32} {m c : Int32} (hI : Inv N S W) (hw : N 2 < 30) (h1 : ¬ m < 1) (h2 : m ≤ N 0 - N 1) (c0 : 0 ≤ c) (c1 : c ≤ 999) (hr : reaF N S W (N 1) m (N 2) c (N 6) = 0) : c ≤ mgcF N S W m := by
  obtain ⟨⟨y1, y2, y3, y4, y5, y6⟩, ⟨w1, w2, w3, w4, w5, w6⟩, hset, hB, hW⟩ := hI
  obtain ⟨a1, a2, a3, a4⟩ := (reaF_0 h1 h2).mp hr
  have fe : 0 < N 1 + m ∧ N 1 + m ≤ 20 := by
    clear a1 a2 a3 a4 hr c0 c1 w1 w2 w3 w4 w5 w6 hset hw y4 y5 y6
    refine ⟨?_, ?_⟩ <;> (simp only [i_lt, i_le, i_eq, i_cl, Int32.reduceToInt, ne_eq] at * <;> (first | omega | (simp (disch := (first | omega | (simp (disch := (first | omega | (simp (disch := (first | omega | (simp only [Int32.reduceToInt]; omega))) only [a_add, a_sub, a_mul, a_neg, i_lt, i_le, i_eq, i_cl, Int32.reduceToInt, Int32.reduceToNatClampNeg]; omega))) only [a_add, a_sub, a_mul, a_neg, i_lt, i_le, i_eq, i_cl, Int32.reduceToInt, Int32.reduceToNatClampNeg]; omega))) only [a_add, a_sub, a_mul, a_neg, i_lt, i_le, i_eq, i_cl, Int32.reduceToInt, Int32.reduceToNatClampNeg] at * <;> (first | omega | (simp (disch := (first | omega | (simp (disch := (first | omega | (simp (disch := (first | omega | (simp only [Int32.reduceToInt]; omega))) only [a_add, a_sub, a_mul, a_neg, i_lt, i_le, i_eq, i_cl, Int32.reduceToInt, Int32.reduceToNatClampNeg]; omega))) only [a_add, a_sub, a_mul, a_neg, i_lt, i_le, i_eq, i_cl, Int32.reduceToInt, Int32.reduceToNatClampNeg]; omega))) only [a_add, a_sub, a_mul, a_neg, i_lt, i_le, i_eq, i_cl, Int32.reduceToInt, Int32.reduceToNatClampNeg] at * <;> omega)))))
  obtain ⟨q1, q2, q3, q4, q5⟩ := e_m1 fe.1 fe.2
  have sb : ∀ r : Int32, (∀ i : Int32, 0 ≤ i → i < 20 → 0 ≤ S r i ∧ S r i ≤ 999) → 0 ≤ sumI (S r) (N 1) (N 1 + m) ∧ sumI (S r) (N 1) (N 1 + m) ≤ 19980 := by
    intro r hr
    have f20 : N 1 ≤ 20 := Int32.le_trans y2 y3
    have e1 := nI_of' y1
    have e2 := nI_of' q5
    have k1 : (N 1).toNatClampNeg ≤ 20 := (nI_leI (b := 20) (by have := (N 1).toInt_lt; show (N 1).toInt.toNat < _; omega) (by decide)).mp (by rw [← e1]; exact f20)
    have k2 : (N 1 + m).toNatClampNeg ≤ 20 := (nI_leI (b := 20) (by have := (N 1 + m).toInt_lt; show (N 1 + m).toInt.toNat < _; omega) (by decide)).mp (by rw [← e2]; exact fe.2)
    have := sum_b hr 20 (N 1).toNatClampNeg (N 1 + m).toNatClampNeg (by omega) (by omega) k2 k1
    rw [← e1, ← e2] at this
    rw [i_le, i_le]
    exact ⟨this.1, this.2⟩
  obtain ⟨x0, x1⟩ := sb 0 (fun i i0 i1 => (hB i i0 i1).1)
  obtain ⟨z0, z1⟩ := sb 1 (fun i i0 i1 => (hB i i0 i1).2.1)
  obtain ⟨⟨wa, wb⟩, wc, wd⟩ := hW (N 2) y4 hw
  obtain ⟨r0, r1⟩ := room_b (w := N 2) w3 w4 wa wb wc wd
  obtain ⟨g1, g2⟩ := mg_core x0 x1 z0 z1 r0 r1 w3 w4 c0 c1 a1 a2 a3
  have g1 : c ≤ mgB N S W m := g1
  have g2 : ∀ d, c ≤ d → d ≤ mgB N S W m → d ≤ sumI (S 1) (N 1) (N 1 + m) ∧ sumI (S 0) (N 1) (N 1 + m) - d ≤ roomF N W (N 2) ∧ roomF N W (N 2) - N 5 < sumI (S 0) (N 1) (N 1 + m) - d := g2
  have b9 : mgB N S W m ≤ 999 := mnI_r
  have hb0 : ¬ mgB N S W m < 0 := Int32.not_lt.mpr (Int32.le_trans c0 g1)
  unfold mgcF
  rw [if_neg hb0]
  by_cases hb : reaF N S W (N 1) m (N 2) (mgB N S W m) (N 6) = 0
  · rw [if_pos hb]
    exact g1
  · rw [if_neg hb]
    have hne : ¬ lastF S (N 1 + m) c = lastF S (N 1 + m) (mgB N S W m) := by
      intro q
      obtain ⟨d1, d2, d3⟩ := g2 _ g1 (Int32.le_refl _)
      exact hb ((reaF_0 h1 h2).mpr ⟨d1, d2, d3, by rw [← reaC_t q]; exact a4⟩)
    obtain ⟨s0, s1⟩ := (hB (N 1 + m - 1) q1 q4).2.1
    obtain ⟨t1, t2⟩ := ten_mono s0 s1 c0 g1 b9 hne
    have hc : c ≤ mgC N S W m := by
      unfold mgC mnI
      split
      · exact t1
      · exact g1
    have hc0 : 0 ≤ mgC N S W m := Int32.le_trans c0 hc
    obtain ⟨d1, d2, d3⟩ := g2 _ hc mnI_l
    have ht : lastF S (N 1 + m) (mgC N S W m) = lastF S (N 1 + m) c := t2 _ hc0 mnI_r
    unfold mgT
    rw [if_neg (Int32.not_lt.mpr hc0), if_pos ((reaF_0 h1 h2).mpr ⟨d1, d2, d3, by rw [reaC_t ht]; exact a4⟩)]
    exact hc
