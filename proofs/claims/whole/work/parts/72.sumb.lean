/-! ### bounds of a sum -/
theorem sum_b {g : Int32 → Int32} (h : ∀ i : Int32, 0 ≤ i → i < 20 → 0 ≤ g i ∧ g i ≤ 999) : ∀ (k i e : Nat), k ≤ 20 → e - i ≤ k → e ≤ 20 → i ≤ 20 → 0 ≤ (sumI g (nI i) (nI e)).toInt ∧ (sumI g (nI i) (nI e)).toInt ≤ 999 * (k : Int) := by
  intro k
  induction k with
  | zero =>
    intro i e hk h1 h2 h3
    have hlt : ¬ nI i < nI e := fun q => absurd ((nI_ltI (by omega) (by omega)).mp q) (by omega)
    rw [sumI_e hlt (nI_pos' (by omega)) (nI_pos' (by omega))]
    decide
  | succ k ih =>
    intro i e hk h1 h2 h3
    by_cases q : i < e
    · have hlt : nI i < nI e := (nI_ltI (by omega) (by omega)).mpr q
      have e20 : nI e ≤ 20 := (nI_leI (b := 20) (by omega) (by decide)).mpr h2
      rw [sumI_s (nI_pos' (by omega)) hlt e20, show nI i + 1 = nI (i + 1) from nI_add i 1]
      obtain ⟨a1, a2⟩ := ih (i + 1) e (by omega) (by omega) h2 (by omega)
      obtain ⟨b1, b2⟩ := h (nI i) (nI_pos' (by omega)) ((nI_ltI (b := 20) (by omega) (by decide)).mpr (by omega))
      have b1 := (i_le 0 _).mp b1
      have b2 := (i_le _ 999).mp b2
      simp only [Int32.reduceToInt] at b1 b2
      have key : (g (nI i) + sumI g (nI (i + 1)) (nI e)).toInt = (g (nI i)).toInt + (sumI g (nI (i + 1)) (nI e)).toInt := by
        rw [Int32.toInt_add, Int.bmod_eq_of_le] <;> omega
      rw [key]
      omega
    · have hlt : ¬ nI i < nI e := fun q' => q ((nI_ltI (by omega) (by omega)).mp q')
      rw [sumI_e hlt (nI_pos' (by omega)) (nI_pos' (by omega))]
      have z : (0 : Int32).toInt = 0 := rfl
      rw [z]
      omega
