/-! ### the tie of setWeek -/
section TWK
variable {K : KT} {R0 : DT} {sa : Nat → Nat} {x a : Nat}
theorem inv_w {f : Nat → Int32} {j : Nat} {s b : Int32} (h : InvI f) (hj : j < 30) (s0 : 0 ≤ s) (s1 : s ≤ 4) (b0 : 0 ≤ b) (b1 : b ≤ 999) : InvI (fun k => if k = 17 + 4 * j + 1 then b else if k = 17 + 4 * j + 0 then s else f k) := by
  obtain ⟨a1, b1', cc, d, e⟩ := h
  have o : ∀ k, ¬ k = 17 + 4 * j + 1 → ¬ k = 17 + 4 * j + 0 → (if k = 17 + 4 * j + 1 then b else if k = 17 + 4 * j + 0 then s else f k) = f k := fun k h1 h2 => by
    rw [if_neg h1, if_neg h2]
  unfold InvI
  simp only []
  rw [o 0 (by omega) (by omega), o 1 (by omega) (by omega), o 2 (by omega) (by omega), o 3 (by omega) (by omega), o 4 (by omega) (by omega), o 5 (by omega) (by omega), o 6 (by omega) (by omega)]
  refine ⟨a1, b1', cc, fun i hi => ?_, fun w hw => ?_⟩
  · rw [o _ (by omega) (by omega), o _ (by omega) (by omega), o _ (by omega) (by omega), o _ (by omega) (by omega)]
    exact d i hi
  · by_cases q : w = j
    · subst q
      rw [if_neg (by omega), if_pos rfl, if_pos rfl]
      exact ⟨⟨s0, s1⟩, b0, b1⟩
    · rw [o _ (by omega) (by omega), o _ (by omega) (by omega)]
      exact e w hw
theorem tie_setWeek (w s b : Int32) : Tie K R0 sa x a t_X5_setWeek t_X6_setWeek [.int w, .int s, .int b] := by
  intro G D hR hS Q2 hQ
  obtain ⟨hv, hA, hB, -⟩ := hR.see
  obtain ⟨y1, y2, y3, y4, y5, y6⟩ := id hA.2.1
  refine ⟨hA, ?_⟩
  have n2 := hv.n (i := 2) (by decide) (by decide)
  have n5 := hv.n (i := 5) (by decide) (by decide)
  by_cases h1 : w < D (nu (xv x)) 2
  · rw [if_pos h1]
    refine ⟨hB, ?_⟩
    rw [← n2, if_pos h1]
    exact hQ _ G D hR
  · rw [if_neg h1]
    by_cases h2 : 30 ≤ w
    · rw [if_pos h2]
      refine ⟨hB, ?_⟩
      rw [← n2, if_neg h1, if_pos h2]
      exact hQ _ G D hR
    · rw [if_neg h2]
      by_cases h3 : s < 1
      · rw [if_pos h3]
        refine ⟨hB, ?_⟩
        rw [← n2, if_neg h1, if_neg h2, if_pos h3]
        exact hQ _ G D hR
      · rw [if_neg h3]
        by_cases h4 : 4 < s
        · rw [if_pos h4]
          refine ⟨hB, ?_⟩
          rw [← n2, if_neg h1, if_neg h2, if_neg h3, if_pos h4]
          exact hQ _ G D hR
        · rw [if_neg h4]
          by_cases h5 : b < 0
          · rw [if_pos h5]
            refine ⟨hB, ?_⟩
            rw [← n2, if_neg h1, if_neg h2, if_neg h3, if_neg h4, if_pos h5]
            exact hQ _ G D hR
          · rw [if_neg h5]
            by_cases h6 : b ≤ 999
            · rw [if_pos h6]
              have w0 : 0 ≤ w := Int32.le_trans y4 (Int32.not_lt.mp h1)
              obtain ⟨j, hj, rfl⟩ := nI_of (x := w) (Int32.not_lt.mpr w0)
              have j30 : j < 30 := (nI_ltI (b := 30) hj (by decide)).mp (Int32.not_le.mp h2)
              have k0 : wk (xv x) 0 = xv x + 10 + 0 := wk_n (r := 0) (by omega)
              have k1 : wk (xv x) 1 = xv x + 10 + 1 := wk_n (r := 1) (by omega)
              have hb : ∀ z, (z < xv x + 1 ∨ xv x + 14 ≤ z) → uD (uD (rD G D x) (wk (xv x) 0) (nI j) s) (wk (xv x) 1) (nI j) b z = rD G D x z := fun z hz => by
                rw [uD_o (by rw [k1]; omega), uD_o (by rw [k0]; omega)]
              obtain ⟨z1, z2, z3, z4, z5, z6, z7, -⟩ := hR.to6 (nov_m hb)
              refine ⟨z1, ?_⟩
              rw [z3, ← n2, if_neg h1, if_neg h2, if_neg h3, if_neg h4, if_neg h5, if_pos h6]
              intro E hE
              have f0 : (17 : Int32) + 4 * nI j = nI (17 + 4 * j) := by
                rw [← nL17, ← nL4, pk_mul, nI_add]
              have f1 : nI (17 + 4 * j) + 1 = nI (17 + 4 * j + 1) := nI_1 _
              refine q2_e (hQ _ _ E (act_nv hR hb hE (F := fun k => if k = 17 + 4 * j + 1 then b else if k = 17 + 4 * j + 0 then s else gM D a k) (fun k hk => ?_) (fun k k0 k1 => ?_) (fun k hk => ?_) (inv_w hR.invI j30 (one_le h3) (Int32.not_lt.mp h4) (Int32.not_lt.mp h5) h6))) ?_
              · rw [f0, f1, uM_n (by omega) hk, uM_n (by omega) hk, z2]
                rfl
              · show (if k = 17 + 4 * j + 1 then b else if k = 17 + 4 * j + 0 then s else _) = _
                rw [if_neg (by omega), if_neg (by omega)]
              · rw [k0, k1, novI_W (by omega) j30 hk, novI_W (by omega) j30 hk, hR.imgR hk]
              · have e1 : WW (uD (uD (rD G D x) (wk (xv x) 0) (nI j) s) (wk (xv x) 1) (nI j) b) (xv x) 0 (nI j) = s := by
                  show uD (uD (rD G D x) (wk (xv x) 0) (nI j) s) (wk (xv x) 1) (nI j) b (wk (xv x) 0) (nI j) = s
                  rw [uD_o (by rw [k0, k1]; omega)]
                  exact uD_eq
                have e2 : WW (uD (uD (rD G D x) (wk (xv x) 0) (nI j) s) (wk (xv x) 1) (nI j) b) (xv x) 1 (nI j) = b := by
                  show uD (uD (rD G D x) (wk (xv x) 0) (nI j) s) (wk (xv x) 1) (nI j) b (wk (xv x) 1) (nI j) = b
                  exact uD_eq
                unfold roomF
                rw [e1, e2, n5]
                unfold yW
                rw [f0, f1, Int32.add_zero, uD_eq, uM_n (by omega) (by omega), if_neg (by omega), uD_eq]
            · rw [if_neg h6]
              refine ⟨hB, ?_⟩
              rw [← n2, if_neg h1, if_neg h2, if_neg h3, if_neg h4, if_neg h5, if_neg h6]
              exact hQ _ G D hR
end TWK
