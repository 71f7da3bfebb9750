/-! ### the calls that look, further -/
section TLK2
variable {K : KT} {R0 : DT} {sa : Nat → Nat} {x a : Nat}
theorem tie_scene (s w : Int32) : Tie K R0 sa x a t_X5_scene t_X6_scene [.int s, .int w] := by
  intro G D hR hS Q2 hQ
  obtain ⟨hv, hA, hB, -⟩ := hR.see
  obtain ⟨y1, y2, y3, y4, y5, y6⟩ := hA.2.1
  refine ⟨hA, ?_⟩
  have e0 : D (nu (xv x)) 0 = yN D a 0 := hv.n (i := 0) (by decide) (by decide)
  by_cases h1 : s < 0
  · rw [if_pos h1]
    refine ⟨hB.1, ?_⟩
    rw [if_pos h1]
    exact hQ _ G D hR
  · rw [if_neg h1]
    by_cases h2 : D (nu (xv x)) 0 ≤ s
    · rw [if_pos h2]
      refine ⟨hB.1, ?_⟩
      rw [if_neg h1, if_pos (by rw [← e0]; exact h2)]
      exact hQ _ G D hR
    · rw [if_neg h2]
      have z0 : 0 ≤ s := Int32.not_lt.mp h1
      have z1 : s < 20 := Int32.lt_of_lt_of_le (Int32.not_le.mp h2) y3
      by_cases h3 : w < 0
      · rw [if_pos h3]
        refine ⟨hB.1, ?_⟩
        rw [if_neg h1, if_neg (by rw [← e0]; exact h2), if_pos h3]
        exact hQ _ G D hR
      · rw [if_neg h3]
        by_cases h4 : w ≤ 6
        · rw [if_pos h4]
          by_cases h5 : 6 ≤ w
          · rw [if_pos h5]
            refine ⟨hB.1, ?_⟩
            rw [if_neg h1, if_neg (by rw [← e0]; exact h2), if_neg h3, if_pos h4, if_pos h5]
            refine q2_e (hQ _ G D hR) ?_
            have e3 : D (sc (xv x) 3) s = yS D a 3 s := hv.2.1 3 s (by decide) (by decide) z0 z1
            rw [hv.cli z0 z1 y3, e3, hv.n (i := 6) (by decide) (by decide)]
          · rw [if_neg h5]
            refine ⟨hB.1, ?_⟩
            rw [if_neg h1, if_neg (by rw [← e0]; exact h2), if_neg h3, if_pos h4, if_neg h5]
            exact q2_e (hQ _ G D hR) (hv.2.1 w s (Int32.not_lt.mp h3) (Int32.not_le.mp h5) z0 z1)
        · rw [if_neg h4]
          refine ⟨hB.1, ?_⟩
          rw [if_neg h1, if_neg (by rw [← e0]; exact h2), if_neg h3, if_neg h4]
          exact hQ _ G D hR
theorem tie_week (w q : Int32) : Tie K R0 sa x a t_X5_week t_X6_week [.int w, .int q] := by
  intro G D hR hS Q2 hQ
  obtain ⟨hv, hA, hB, -⟩ := hR.see
  refine ⟨hA, ?_⟩
  by_cases h1 : w < 0
  · rw [if_pos h1]
    refine ⟨hB.1, ?_⟩
    rw [if_pos h1]
    exact hQ _ G D hR
  · rw [if_neg h1]
    have z0 : 0 ≤ w := Int32.not_lt.mp h1
    by_cases h2 : w < 30
    · rw [if_pos h2]
      by_cases g0 : q = 0
      · rw [if_pos g0]
        refine ⟨hB.1, ?_⟩
        rw [if_neg h1, if_pos h2, if_pos g0]
        exact q2_e (hQ _ G D hR) (hv.2.2 0 w (by decide) (by decide) z0 h2)
      · rw [if_neg g0]
        by_cases g1 : q = 1
        · rw [if_pos g1]
          refine ⟨hB.1, ?_⟩
          rw [if_neg h1, if_pos h2, if_neg g0, if_pos g1]
          exact q2_e (hQ _ G D hR) (hv.2.2 1 w (by decide) (by decide) z0 h2)
        · rw [if_neg g1]
          by_cases g2 : q = 2
          · rw [if_pos g2]
            refine ⟨hB.1, ?_⟩
            rw [if_neg h1, if_pos h2, if_neg g0, if_neg g1, if_pos g2]
            exact q2_e (hQ _ G D hR) (hv.room z0 h2)
          · rw [if_neg g2]
            by_cases g3 : q = 3
            · rw [if_pos g3]
              refine ⟨hB.1, ?_⟩
              rw [if_neg h1, if_pos h2, if_neg g0, if_neg g1, if_neg g2, if_pos g3]
              exact q2_e (hQ _ G D hR) (hv.2.2 2 w (by decide) (by decide) z0 h2)
            · rw [if_neg g3]
              by_cases g4 : q = 4
              · rw [if_pos g4]
                refine ⟨hB.1, ?_⟩
                rw [if_neg h1, if_pos h2, if_neg g0, if_neg g1, if_neg g2, if_neg g3, if_pos g4]
                exact q2_e (hQ _ G D hR) (hv.2.2 3 w (by decide) (by decide) z0 h2)
              · rw [if_neg g4]
                refine ⟨hB.1, ?_⟩
                rw [if_neg h1, if_pos h2, if_neg g0, if_neg g1, if_neg g2, if_neg g3, if_neg g4]
                exact hQ _ G D hR
    · rw [if_neg h2]
      refine ⟨hB.1, ?_⟩
      rw [if_neg h1, if_neg h2]
      exact hQ _ G D hR
theorem tie_cutFrom (m s : Int32) : Tie K R0 sa x a t_X5_cutFrom t_X6_cutFrom [.int m, .int s] := by
  intro G D hR hS Q2 hQ
  obtain ⟨hv, hA, hB, -⟩ := hR.see
  obtain ⟨y1, y2, y3, y4, y5, y6⟩ := hA.2.1
  refine ⟨hA, ?_⟩
  have e0 : D (nu (xv x)) 0 = yN D a 0 := hv.n (i := 0) (by decide) (by decide)
  have e1 : D (nu (xv x)) 1 = yN D a 1 := hv.n (i := 1) (by decide) (by decide)
  have e3 : D (nu (xv x)) 3 = yN D a 3 := hv.n (i := 3) (by decide) (by decide)
  by_cases h1 : m < 1
  · rw [if_pos h1]
    refine ⟨hB.1, ?_⟩
    rw [if_pos h1]
    exact hQ _ G D hR
  · rw [if_neg h1]
    by_cases h2 : m ≤ D (nu (xv x)) 0 - D (nu (xv x)) 1
    · rw [if_pos h2]
      obtain ⟨z1, z2, z3, z4⟩ := cnt_in h1 h2 ⟨y1, y2, y3, y4, y5, y6⟩
      by_cases h3 : s < D (nu (xv x)) 1
      · rw [if_pos h3]
        refine ⟨hB.1, ?_⟩
        rw [← e0, ← e1, if_neg h1, if_pos h2, if_pos h3]
        exact hQ _ G D hR
      · rw [if_neg h3]
        have z5 : 0 ≤ s := Int32.le_trans y1 (Int32.not_lt.mp h3)
        by_cases h4 : s < D (nu (xv x)) 1 + m
        · rw [if_pos h4]
          have es := hv.sum (r := 1) (by decide) (by decide) y1 z4 z3
          by_cases h5 : D (nu (xv x)) 3 ≤ sumI (SS D (xv x) 1) (D (nu (xv x)) 1) (D (nu (xv x)) 1 + m)
          · rw [if_pos h5]
            refine ⟨hB.1, ?_⟩
            rw [← e0, ← e1, ← e3, ← es, if_neg h1, if_pos h2, if_neg h3, if_pos h4, if_pos h5]
            exact q2_e (hQ _ G D hR) (hv.cut z5 h4 z3)
          · rw [if_neg h5]
            refine ⟨hB.1, ?_⟩
            rw [← e0, ← e1, ← e3, ← es, if_neg h1, if_pos h2, if_neg h3, if_pos h4, if_neg h5]
            exact hQ _ G D hR
        · rw [if_neg h4]
          refine ⟨hB.1, ?_⟩
          rw [← e0, ← e1, if_neg h1, if_pos h2, if_neg h3, if_neg h4]
          exact hQ _ G D hR
    · rw [if_neg h2]
      refine ⟨hB.1, ?_⟩
      rw [← e0, ← e1, if_neg h1, if_neg h2]
      exact hQ _ G D hR
theorem tie_count (w : Int32) : Tie K R0 sa x a t_X5_count t_X6_count [.int w] := by
  intro G D hR hS Q2 hQ
  obtain ⟨hv, hA, hB, -⟩ := hR.see
  obtain ⟨y1, y2, y3, y4, y5, y6⟩ := hA.2.1
  have e1 : D (nu (xv x)) 1 = yN D a 1 := hv.n (i := 1) (by decide) (by decide)
  obtain ⟨-, ⟨⟨-, hT⟩, -⟩, ⟨h, h6, k1, k2, -⟩, ⟨t1, -⟩⟩ := id hR
  refine ⟨hA, ?_⟩
  by_cases h0 : 0 ≤ w ∧ w < 17
  · rw [if_pos h0]
    refine ⟨hB.1, ?_⟩
    rw [if_pos h0]
    exact q2_e (hQ _ G D hR) (hv.n h0.1 h0.2)
  · rw [if_neg h0]
    by_cases h1 : w = 17
    · rw [if_pos h1]
      refine ⟨hB.1, ?_⟩
      rw [if_neg h0, if_pos h1]
      refine q2_e (hQ _ G D hR) ?_
      by_cases q : D (nu (xv x)) 1 ≤ 0
      · rw [if_pos q, if_pos (by rw [← e1]; exact Int32.le_antisymm q y1)]
      · have z : 0 ≤ D (nu (xv x)) 1 - 1 ∧ D (nu (xv x)) 1 - 1 < 20 := by
          have b20 : D (nu (xv x)) 1 ≤ 20 := Int32.le_trans y2 y3
          clear y1 y2 y3 y4 y5 y6 h0 h1 k1 k2 t1 e1
          refine ⟨?_, ?_⟩ <;> (simp only [i_lt, i_le, i_eq, i_cl, Int32.reduceToInt, ne_eq] at * <;> (first | omega | (simp (disch := (first | omega | (simp (disch := (first | omega | (simp (disch := (first | omega | (simp only [Int32.reduceToInt]; omega))) only [a_add, a_sub, a_mul, a_neg, i_lt, i_le, i_eq, i_cl, Int32.reduceToInt, Int32.reduceToNatClampNeg]; omega))) only [a_add, a_sub, a_mul, a_neg, i_lt, i_le, i_eq, i_cl, Int32.reduceToInt, Int32.reduceToNatClampNeg]; omega))) only [a_add, a_sub, a_mul, a_neg, i_lt, i_le, i_eq, i_cl, Int32.reduceToInt, Int32.reduceToNatClampNeg] at * <;> (first | omega | (simp (disch := (first | omega | (simp (disch := (first | omega | (simp (disch := (first | omega | (simp only [Int32.reduceToInt]; omega))) only [a_add, a_sub, a_mul, a_neg, i_lt, i_le, i_eq, i_cl, Int32.reduceToInt, Int32.reduceToNatClampNeg]; omega))) only [a_add, a_sub, a_mul, a_neg, i_lt, i_le, i_eq, i_cl, Int32.reduceToInt, Int32.reduceToNatClampNeg]; omega))) only [a_add, a_sub, a_mul, a_neg, i_lt, i_le, i_eq, i_cl, Int32.reduceToInt, Int32.reduceToNatClampNeg] at * <;> omega)))))
        rw [if_neg q, if_neg (fun z => q (by rw [e1, z]; decide)), ← e1]
        exact hv.2.1 2 _ (by decide) (by decide) z.1 z.2
    · rw [if_neg h1]
      by_cases h2 : w = 18
      · rw [if_pos h2]
        refine ⟨hB.1, ?_⟩
        rw [if_neg h0, if_neg h1, if_pos h2]
        refine q2_e (hQ _ G D hR) ?_
        obtain ⟨a1, b1, -⟩ := hT 0 (by omega)
        obtain ⟨a2, b2, -⟩ := hT 1 (by omega)
        have a1 : D (mt (xN x)) 0 = D (ms a) 771 := a1
        have a2 : D (mt (xN x)) 1 = D (ms a) 772 := a2
        have k : ∀ v : Int32, (v = 0 ∨ v = 1) → (if v = 0 then (0 : Int32) else 1) = v := by
          intro v hv
          rcases hv with rfl | rfl
          · rfl
          · rfl
        have b1 : D (mt (xN x)) 0 = 0 ∨ D (mt (xN x)) 0 = 1 := b1
        have b2 : D (mt (xN x)) 1 = 0 ∨ D (mt (xN x)) 1 = 1 := b2
        rw [← a1, ← a2, k _ b1, k _ b2]
      · rw [if_neg h2]
        by_cases h3 : w = 19
        · rw [if_pos h3]
          refine ⟨hB.1, ?_⟩
          rw [if_neg h0, if_neg h1, if_neg h2, if_pos h3]
          exact q2_e (hQ _ G D hR) (by rw [k1, k2])
        · rw [if_neg h3]
          by_cases h4 : w = 20
          · rw [if_pos h4]
            refine ⟨hB.1, ?_⟩
            rw [if_neg h0, if_neg h1, if_neg h2, if_neg h3, if_pos h4]
            exact q2_e (hQ _ G D hR) t1
          · rw [if_neg h4]
            refine ⟨hB.1, ?_⟩
            rw [if_neg h0, if_neg h1, if_neg h2, if_neg h3, if_neg h4]
            exact hQ _ G D hR
end TLK2
