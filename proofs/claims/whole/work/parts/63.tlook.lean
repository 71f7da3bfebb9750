/-! ### the calls that look -/
/-- both answer alike, and stand in the relation behind it -/
def Tie (K : KT) (R0 : DT) (sa : Nat → Nat) (x a : Nat) (t5 t6 : TR) (As : List Value) : Prop := ∀ (G : GT) (D : DT), Rel K G D x a → Stt K R0 sa → ∀ Q2 : Option Value → Option Value → GT → DT → Prop, (∀ v G' D', Rel K G' D' x a → Q2 (some (.int v)) (some (.int v)) G' D') → t5 K R0 sa (.ref x :: As) G D (fun r G' D' => t6 K R0 sa (.ref a :: As) G' D' (fun r' G'' D'' => Q2 r r' G'' D''))
theorem q2_e {Q2 : Option Value → Option Value → GT → DT → Prop} {G : GT} {D : DT} {u v : Int32} (h : Q2 (some (.int u)) (some (.int u)) G D) (e : u = v) : Q2 (some (.int u)) (some (.int v)) G D := e ▸ h
section TLK
variable {K : KT} {R0 : DT} {sa : Nat → Nat} {x a : Nat}
theorem tie_why (n : Int32) : Tie K R0 sa x a t_X5_why t_X6_why [.int n] := by
  intro G D hR hS Q2 hQ
  obtain ⟨hv, hA, hB, -⟩ := hR.see
  obtain ⟨y1, y2, y3, y4, y5, y6⟩ := hA.2.1
  refine ⟨hA, ?_⟩
  have e2 := hv.n (i := 2) (by decide) (by decide)
  by_cases h : D (nu (xv x)) 2 < 30
  · rw [if_pos h]
    refine ⟨hB.1, ?_⟩
    rw [if_pos (by rw [← e2]; exact h)]
    refine q2_e (hQ _ G D hR) ?_
    rw [hv.rea y1 y2 y3 y4 h, hv.n (i := 1) (by decide) (by decide), e2, hv.n (i := 3) (by decide) (by decide), hv.n (i := 6) (by decide) (by decide)]
  · rw [if_neg h]
    refine ⟨hB.1, ?_⟩
    rw [if_neg (by rw [← e2]; exact h)]
    exact hQ _ G D hR
theorem tie_since (st : Int32) : Tie K R0 sa x a t_X5_since t_X6_since [.int st] := by
  intro G D hR hS Q2 hQ
  obtain ⟨hv, hA, hB, -⟩ := hR.see
  obtain ⟨y1, y2, y3, y4, y5, y6⟩ := hA.2.1
  refine ⟨hA, ?_⟩
  by_cases h1 : st < 0
  · rw [if_pos h1]
    refine ⟨hB.1, ?_⟩
    rw [if_pos h1]
    exact hQ _ G D hR
  · rw [if_neg h1]
    by_cases h2 : st < 6
    · rw [if_pos h2]
      refine ⟨hB.1, ?_⟩
      rw [if_neg h1, if_pos h2]
      have k20 : (D (nu (xv x)) 1).toNatClampNeg ≤ 20 := by
        have b20 : D (nu (xv x)) 1 ≤ 20 := Int32.le_trans y2 y3
        clear y2 y3 y4 y5 y6 h1 h2
        (simp only [i_lt, i_le, i_eq, i_cl, Int32.reduceToInt, ne_eq] at * <;> (first | omega | (simp (disch := (first | omega | (simp (disch := (first | omega | (simp (disch := (first | omega | (simp only [Int32.reduceToInt]; omega))) only [a_add, a_sub, a_mul, a_neg, i_lt, i_le, i_eq, i_cl, Int32.reduceToInt, Int32.reduceToNatClampNeg]; omega))) only [a_add, a_sub, a_mul, a_neg, i_lt, i_le, i_eq, i_cl, Int32.reduceToInt, Int32.reduceToNatClampNeg]; omega))) only [a_add, a_sub, a_mul, a_neg, i_lt, i_le, i_eq, i_cl, Int32.reduceToInt, Int32.reduceToNatClampNeg] at * <;> (first | omega | (simp (disch := (first | omega | (simp (disch := (first | omega | (simp (disch := (first | omega | (simp only [Int32.reduceToInt]; omega))) only [a_add, a_sub, a_mul, a_neg, i_lt, i_le, i_eq, i_cl, Int32.reduceToInt, Int32.reduceToNatClampNeg]; omega))) only [a_add, a_sub, a_mul, a_neg, i_lt, i_le, i_eq, i_cl, Int32.reduceToInt, Int32.reduceToNatClampNeg]; omega))) only [a_add, a_sub, a_mul, a_neg, i_lt, i_le, i_eq, i_cl, Int32.reduceToInt, Int32.reduceToNatClampNeg] at * <;> omega)))))
      refine q2_e (hQ _ G D hR) ?_
      rw [hv.sin _ k20, hv.n (i := 1) (by decide) (by decide), hv.n (i := 2) (by decide) (by decide)]
    · rw [if_neg h2]
      refine ⟨hB.1, ?_⟩
      rw [if_neg h1, if_neg h2]
      exact hQ _ G D hR
theorem tie_strand (st w : Int32) : Tie K R0 sa x a t_X5_strand t_X6_strand [.int st, .int w] := by
  intro G D hR hS Q2 hQ
  obtain ⟨hv, hA, hB, -⟩ := hR.see
  obtain ⟨y1, y2, y3, y4, y5, y6⟩ := hA.2.1
  refine ⟨hA, ?_⟩
  by_cases h1 : st < 0
  · rw [if_pos h1]
    refine ⟨hB.1, ?_⟩
    rw [if_pos h1]
    exact hQ _ G D hR
  · rw [if_neg h1]
    by_cases h2 : 6 ≤ st
    · rw [if_pos h2]
      refine ⟨hB.1, ?_⟩
      rw [if_neg h1, if_pos h2]
      exact hQ _ G D hR
    · rw [if_neg h2]
      by_cases h3 : w < 0
      · rw [if_pos h3]
        refine ⟨hB.1, ?_⟩
        rw [if_neg h1, if_neg h2, if_pos h3]
        exact hQ _ G D hR
      · rw [if_neg h3]
        by_cases h4 : w ≤ 1
        · rw [if_pos h4]
          by_cases h5 : w = 0
          · rw [if_pos h5]
            refine ⟨hB.1, ?_⟩
            rw [if_neg h1, if_neg h2, if_neg h3, if_pos h4, if_pos h5]
            refine q2_e (hQ _ G D hR) ?_
            rw [hv.str (by decide) y1 (Int32.le_trans y2 y3), hv.n (i := 1) (by decide) (by decide)]
          · rw [if_neg h5]
            refine ⟨hB.1, ?_⟩
            rw [if_neg h1, if_neg h2, if_neg h3, if_pos h4, if_neg h5]
            refine q2_e (hQ _ G D hR) ?_
            rw [hv.str y1 (Int32.le_trans y1 y2) y3, hv.n (i := 1) (by decide) (by decide), hv.n (i := 0) (by decide) (by decide)]
        · rw [if_neg h4]
          refine ⟨hB.1, ?_⟩
          rw [if_neg h1, if_neg h2, if_neg h3, if_neg h4]
          exact hQ _ G D hR
end TLK
