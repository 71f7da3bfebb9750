/-! ### the greatest good cut, ended -/
theorem ten_mono {S : Int32 → Int32 → Int32} {e c d : Int32} (s0 : 0 ≤ S 1 (e - 1)) (s1 : S 1 (e - 1) ≤ 999) (c0 : 0 ≤ c) (c1 : c ≤ d) (d1 : d ≤ 999) (hne : ¬ lastF S e c = lastF S e d) : c ≤ S 1 (e - 1) / 2 ∧ ∀ g, 0 ≤ g → g ≤ S 1 (e - 1) / 2 → lastF S e g = lastF S e c := by
  have m1 : ∀ u v : Int32, (mnI u v).toInt = min u.toInt v.toInt := by
    intro u v
    unfold mnI
    split <;> (simp only [i_lt, i_le, i_eq, i_cl, Int32.reduceToInt, ne_eq] at * <;> (first | omega | (simp (disch := (first | omega | (simp (disch := (first | omega | (simp (disch := (first | omega | (simp only [Int32.reduceToInt]; omega))) only [a_add, a_sub, a_mul, a_neg, i_lt, i_le, i_eq, i_cl, Int32.reduceToInt, Int32.reduceToNatClampNeg]; omega))) only [a_add, a_sub, a_mul, a_neg, i_lt, i_le, i_eq, i_cl, Int32.reduceToInt, Int32.reduceToNatClampNeg]; omega))) only [a_add, a_sub, a_mul, a_neg, i_lt, i_le, i_eq, i_cl, Int32.reduceToInt, Int32.reduceToNatClampNeg] at * <;> (first | omega | (simp (disch := (first | omega | (simp (disch := (first | omega | (simp (disch := (first | omega | (simp only [Int32.reduceToInt]; omega))) only [a_add, a_sub, a_mul, a_neg, i_lt, i_le, i_eq, i_cl, Int32.reduceToInt, Int32.reduceToNatClampNeg]; omega))) only [a_add, a_sub, a_mul, a_neg, i_lt, i_le, i_eq, i_cl, Int32.reduceToInt, Int32.reduceToNatClampNeg]; omega))) only [a_add, a_sub, a_mul, a_neg, i_lt, i_le, i_eq, i_cl, Int32.reduceToInt, Int32.reduceToNatClampNeg] at * <;> omega)))))
  have hh : (S 1 (e - 1) / 2).toInt = (S 1 (e - 1)).toInt / 2 := by
    rw [Int32.toInt_div]
    have z2 : (2 : Int32).toInt = 2 := rfl
    rw [z2]
    simp only [i_le, Int32.reduceToInt] at s0 s1
    rw [Int.tdiv_eq_ediv_of_nonneg s0, Int.bmod_eq_of_le] <;> omega
  have dbl : ∀ g : Int32, 0 ≤ g → g ≤ 999 → (S 1 (e - 1) < 2 * mnI g (S 1 (e - 1)) ↔ (S 1 (e - 1)).toInt < 2 * min g.toInt (S 1 (e - 1)).toInt) := by
    intro g g0 g1
    simp only [i_le, Int32.reduceToInt] at s0 s1 g0 g1
    have z2 : (2 : Int32).toInt = 2 := rfl
    rw [i_lt, Int32.toInt_mul, m1, z2, Int.bmod_eq_of_le] <;> omega
  have d0 := Int32.le_trans c0 c1
  have c9 := Int32.le_trans c1 d1
  have hc := dbl c c0 c9
  have hd := dbl d d0 d1
  have hlow : ¬ S 1 (e - 1) < 2 * mnI c (S 1 (e - 1)) := by
    intro q
    have q' : S 1 (e - 1) < 2 * mnI d (S 1 (e - 1)) := by
      rw [hd]
      rw [hc] at q
      rw [i_le] at c1
      omega
    apply hne
    unfold lastF tenF
    rw [if_pos q, if_pos q']
  have hup : S 1 (e - 1) < 2 * mnI d (S 1 (e - 1)) := by
    refine Classical.byContradiction (fun q => hne ?_)
    unfold lastF tenF
    rw [if_neg hlow, if_neg q]
  rw [hc] at hlow
  rw [hd] at hup
  have s0' := (i_le _ _).mp s0
  have s1' := (i_le _ _).mp s1
  have c0' := (i_le _ _).mp c0
  have c1' := (i_le _ _).mp c1
  have d1' := (i_le _ _).mp d1
  simp only [Int32.reduceToInt] at s0' s1' c0' d1'
  refine ⟨by rw [i_le, hh]; omega, fun g g0 g1 => ?_⟩
  rw [i_le, hh] at g1
  have g0' := (i_le _ _).mp g0
  simp only [Int32.reduceToInt] at g0'
  have g9 : g ≤ 999 := by
    rw [i_le]
    show g.toInt ≤ 999
    omega
  have hg := dbl g g0 g9
  unfold lastF tenF
  rw [if_neg (fun q => absurd (hg.mp q) (by omega)), if_neg (fun q => hlow (hc.mp q))]
