/-! ### the ties of append, clearText -/
theorem Rel.txt {K : KT} {G : GT} {D E : DT} {x a : Nat} (h : Rel K G D x a) (e1 : ∀ z, z < x + 318 → E z = D z) (e2 : E (ms a) = D (ms a)) (e3 : E (mw a) = D (mw a)) (e4 : E a 3 = D a 3) (ht : E (xT x) 2 = E a 5 ∧ 0 ≤ E a 5 ∧ E a 5 ≤ 100 ∧ E (tc (xT x)) = E (mx a)) : Rel K G E x a := by
  obtain ⟨h0, ⟨h1, h2⟩, ⟨k, k6, k1, k2, k3⟩, -⟩ := h
  have m1 : ∀ z, xN x ≤ z → z < xN x + 45 → E z = D z := fun z z0 z1 => e1 z (by unfold xN at z1; omega)
  have xh : E (xH x) = D (xH x) := e1 _ (by unfold xH; omega)
  refine ⟨h0, ⟨h1.keep m1 e2, h2.keep m1⟩, ⟨k, k6, by rw [xh]; exact k1, by rw [e4]; exact k2, fun i hi => ?_⟩, ht⟩
  have hp := h0.1.2.2.2.2.2 (nI i) ⟨nI_pos' (by omega), (nI_ltI (b := 6) (by omega) (by decide)).mpr (by omega)⟩
  have m2 : ∀ z, sta G (xH x) (nI i) ≤ z → z < sta G (xH x) (nI i) + 45 → E z = D z := fun z _ z1 => e1 z (by omega)
  obtain ⟨q1, q2⟩ := k3 i hi
  exact ⟨q1.keep m2 e3, q2.keep m2⟩
section TTX
variable {K : KT} {R0 : DT} {sa : Nat → Nat} {x a : Nat}
theorem tie_clearText : Tie K R0 sa x a t_X5_clearText t_X6_clearText [] := by
  intro G D hR hS Q2 hQ
  obtain ⟨hv, hA, hB, -⟩ := hR.see
  obtain ⟨⟨hC, hMo, ha, hAp⟩, -, -, t1, t2, t3, t4⟩ := id hR
  have o5 : uD D (xT x) 2 0 a = D a := uD_o (by unfold xT; omega)
  refine ⟨hA, hMo, ?_⟩
  rw [o5]
  refine q2_e (hQ _ G _ (hR.txt (fun z hz => ?_) ?_ ?_ ?_ ?_)) t1
  · rw [uD_o (by omega), uD_o (by unfold xT; omega)]
  · rw [uD_o (by unfold ms; omega), uD_o (by unfold ms xT; omega)]
  · rw [uD_o (by unfold mw; omega), uD_o (by unfold mw xT; omega)]
  · rw [uD_s, if_neg (by decide), o5]
  · rw [uD_eq, uD_o (by unfold xT; omega), uD_eq, uD_o (by unfold tc xT; omega), uD_o (by unfold tc; omega), uD_o (by unfold mx; omega), uD_o (by unfold mx xT; omega)]
    exact ⟨rfl, Int32.le_refl _, by decide, t4⟩
theorem tie_append (c : Int32) : Tie K R0 sa x a t_X5_append t_X6_append [.int c] := by
  intro G D hR hS Q2 hQ
  obtain ⟨hv, hA, hB, -⟩ := hR.see
  obtain ⟨⟨hC, hMo, ha, hAp⟩, -, -, t1, t2, t3, t4⟩ := id hR
  refine ⟨⟨hA, by rw [t1]; exact t2⟩, ?_⟩
  by_cases h1 : c < 1
  · rw [if_pos h1]
    refine ⟨⟨hMo, t2, t3⟩, ?_⟩
    rw [if_pos h1]
    exact hQ _ G D hR
  · rw [if_neg h1]
    by_cases h2 : c ≤ 255
    · rw [if_pos h2]
      by_cases h3 : D (xT x) 2 < 100
      · rw [if_pos h3]
        have o5 : uD (uD D (tc (xT x)) (D (xT x) 2) c) (xT x) 2 (D (xT x) 2 + 1) a = D a := by
          rw [uD_o (by unfold xT; omega), uD_o (by unfold tc xT; omega)]
        have ox : uD (uD D (tc (xT x)) (D (xT x) 2) c) (xT x) 2 (D (xT x) 2 + 1) (mx a) = D (mx a) := by
          rw [uD_o (by unfold mx xT; omega), uD_o (by unfold mx tc xT; omega)]
        refine ⟨⟨hMo, by rw [o5]; exact t2, by rw [o5]; exact t3⟩, ?_⟩
        rw [o5, if_neg h1, if_pos h2, if_pos (t1 ▸ h3)]
        refine q2_e (hQ _ G _ (hR.txt (fun z hz => ?_) ?_ ?_ ?_ ?_)) (by rw [t1])
        · rw [uD_o (by omega), uD_o (by unfold mx; omega), uD_o (by unfold xT; omega), uD_o (by unfold tc xT; omega)]
        · rw [uD_o (by unfold ms; omega), uD_o (by unfold ms mx; omega), uD_o (by unfold ms xT; omega), uD_o (by unfold ms tc xT; omega)]
        · rw [uD_o (by unfold mw; omega), uD_o (by unfold mw mx; omega), uD_o (by unfold mw xT; omega), uD_o (by unfold mw tc xT; omega)]
        · rw [uD_s, if_neg (by decide), uD_o (by unfold mx; omega), o5]
        · have b : 0 ≤ D a 5 + 1 ∧ D a 5 + 1 ≤ 100 := by
            rw [t1] at h3
            clear t1 t4 o5 ox
            refine ⟨?_, ?_⟩ <;> (simp only [i_lt, i_le, i_eq, i_cl, Int32.reduceToInt, ne_eq] at * <;> (first | omega | (simp (disch := (first | omega | (simp (disch := (first | omega | (simp (disch := (first | omega | (simp only [Int32.reduceToInt]; omega))) only [a_add, a_sub, a_mul, a_neg, i_lt, i_le, i_eq, i_cl, Int32.reduceToInt, Int32.reduceToNatClampNeg]; omega))) only [a_add, a_sub, a_mul, a_neg, i_lt, i_le, i_eq, i_cl, Int32.reduceToInt, Int32.reduceToNatClampNeg]; omega))) only [a_add, a_sub, a_mul, a_neg, i_lt, i_le, i_eq, i_cl, Int32.reduceToInt, Int32.reduceToNatClampNeg] at * <;> (first | omega | (simp (disch := (first | omega | (simp (disch := (first | omega | (simp (disch := (first | omega | (simp only [Int32.reduceToInt]; omega))) only [a_add, a_sub, a_mul, a_neg, i_lt, i_le, i_eq, i_cl, Int32.reduceToInt, Int32.reduceToNatClampNeg]; omega))) only [a_add, a_sub, a_mul, a_neg, i_lt, i_le, i_eq, i_cl, Int32.reduceToInt, Int32.reduceToNatClampNeg]; omega))) only [a_add, a_sub, a_mul, a_neg, i_lt, i_le, i_eq, i_cl, Int32.reduceToInt, Int32.reduceToNatClampNeg] at * <;> omega)))))
          rw [uD_eq, uD_o (by unfold xT; omega), uD_o (by unfold xT mx; omega), uD_eq]
          refine ⟨by rw [t1], b.1, b.2, ?_⟩
          refine (show _ = uD D (tc (xT x)) (D (xT x) 2) c (tc (xT x)) from by rw [uD_o (by unfold tc xT; omega), uD_o (by unfold tc xT mx; omega), uD_o (by unfold tc; omega)]).trans (Eq.trans ?_ (uD_o (by unfold mx; omega)).symm)
          funext i
          unfold uD
          by_cases q : i = D a 5
          · rw [if_pos ⟨rfl, by rw [t1]; exact q⟩, if_pos ⟨rfl, q⟩]
          · rw [if_neg (fun w => q (by rw [← t1]; exact w.2)), if_neg (fun w => q w.2), if_neg (fun w => absurd w.1 (by unfold mx xT; omega)), if_neg (fun w => absurd w.1 (by unfold mx tc xT; omega)), t4]
      · rw [if_neg h3]
        refine ⟨⟨hMo, t2, t3⟩, ?_⟩
        rw [if_neg h1, if_pos h2, if_neg (t1 ▸ h3)]
        exact hQ _ G D hR
    · rw [if_neg h2]
      refine ⟨⟨hMo, t2, t3⟩, ?_⟩
      rw [if_neg h1, if_neg h2]
      exact hQ _ G D hR
end TTX
