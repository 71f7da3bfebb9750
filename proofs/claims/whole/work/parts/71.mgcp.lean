/-! ### the greatest good cut of a count -/
theorem mnI_r {x y : Int32} : mnI x y ≤ y := by
  unfold mnI
  split <;> (simp only [i_lt, i_le, i_eq, i_cl, Int32.reduceToInt, ne_eq] at * <;> (first | omega | (simp (disch := (first | omega | (simp (disch := (first | omega | (simp (disch := (first | omega | (simp only [Int32.reduceToInt]; omega))) only [a_add, a_sub, a_mul, a_neg, i_lt, i_le, i_eq, i_cl, Int32.reduceToInt, Int32.reduceToNatClampNeg]; omega))) only [a_add, a_sub, a_mul, a_neg, i_lt, i_le, i_eq, i_cl, Int32.reduceToInt, Int32.reduceToNatClampNeg]; omega))) only [a_add, a_sub, a_mul, a_neg, i_lt, i_le, i_eq, i_cl, Int32.reduceToInt, Int32.reduceToNatClampNeg] at * <;> (first | omega | (simp (disch := (first | omega | (simp (disch := (first | omega | (simp (disch := (first | omega | (simp only [Int32.reduceToInt]; omega))) only [a_add, a_sub, a_mul, a_neg, i_lt, i_le, i_eq, i_cl, Int32.reduceToInt, Int32.reduceToNatClampNeg]; omega))) only [a_add, a_sub, a_mul, a_neg, i_lt, i_le, i_eq, i_cl, Int32.reduceToInt, Int32.reduceToNatClampNeg]; omega))) only [a_add, a_sub, a_mul, a_neg, i_lt, i_le, i_eq, i_cl, Int32.reduceToInt, Int32.reduceToNatClampNeg] at * <;> omega)))))
theorem mnI_l {x y : Int32} : mnI x y ≤ x := by
  unfold mnI
  split <;> (simp only [i_lt, i_le, i_eq, i_cl, Int32.reduceToInt, ne_eq] at * <;> (first | omega | (simp (disch := (first | omega | (simp (disch := (first | omega | (simp (disch := (first | omega | (simp only [Int32.reduceToInt]; omega))) only [a_add, a_sub, a_mul, a_neg, i_lt, i_le, i_eq, i_cl, Int32.reduceToInt, Int32.reduceToNatClampNeg]; omega))) only [a_add, a_sub, a_mul, a_neg, i_lt, i_le, i_eq, i_cl, Int32.reduceToInt, Int32.reduceToNatClampNeg]; omega))) only [a_add, a_sub, a_mul, a_neg, i_lt, i_le, i_eq, i_cl, Int32.reduceToInt, Int32.reduceToNatClampNeg] at * <;> (first | omega | (simp (disch := (first | omega | (simp (disch := (first | omega | (simp (disch := (first | omega | (simp only [Int32.reduceToInt]; omega))) only [a_add, a_sub, a_mul, a_neg, i_lt, i_le, i_eq, i_cl, Int32.reduceToInt, Int32.reduceToNatClampNeg]; omega))) only [a_add, a_sub, a_mul, a_neg, i_lt, i_le, i_eq, i_cl, Int32.reduceToInt, Int32.reduceToNatClampNeg]; omega))) only [a_add, a_sub, a_mul, a_neg, i_lt, i_le, i_eq, i_cl, Int32.reduceToInt, Int32.reduceToNatClampNeg] at * <;> omega)))))
theorem mgcF_ok {N : Int32 → Int32} {S W : Int32 → Int32 → Int32} {m : Int32} : mgcF N S W m = -100009 ∨ (0 ≤ mgcF N S W m ∧ mgcF N S W m ≤ 999 ∧ reaF N S W (N 1) m (N 2) (mgcF N S W m) (N 6) = 0) := by
  have hb : mgB N S W m ≤ 999 := mnI_r
  have hc : mgC N S W m ≤ 999 := Int32.le_trans mnI_l hb
  have ht : mgT N S W m = -100009 ∨ (0 ≤ mgT N S W m ∧ mgT N S W m ≤ 999 ∧ reaF N S W (N 1) m (N 2) (mgT N S W m) (N 6) = 0) := by
    unfold mgT
    by_cases h : mgC N S W m < 0
    · rw [if_pos h]
      exact Or.inl rfl
    · rw [if_neg h]
      by_cases h2 : reaF N S W (N 1) m (N 2) (mgC N S W m) (N 6) = 0
      · rw [if_pos h2]
        exact Or.inr ⟨Int32.not_lt.mp h, hc, h2⟩
      · rw [if_neg h2]
        exact Or.inl rfl
  unfold mgcF
  by_cases h : mgB N S W m < 0
  · rw [if_pos h]
    exact ht
  · rw [if_neg h]
    by_cases h2 : reaF N S W (N 1) m (N 2) (mgB N S W m) (N 6) = 0
    · rw [if_pos h2]
      exact Or.inr ⟨Int32.not_lt.mp h, hb, h2⟩
    · rw [if_neg h2]
      exact ht
