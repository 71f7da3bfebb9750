/-! ### the ties of ask, setNumber, set, unset, mend -/
section TAC
variable {K : KT} {R0 : DT} {sa : Nat → Nat} {x a : Nat}
theorem nov_1 {G : GT} {D : DT} {i v : Int32} : ∀ b, (b < xv x + 1 ∨ xv x + 14 ≤ b) → uD (rD G D x) (nu (xv x)) i v b = rD G D x b := fun b hb => uD_o (by unfold nu; omega)
theorem nov_m {G : GT} {D D' : DT} (h : ∀ b, (b < xv x + 1 ∨ xv x + 14 ≤ b) → D' b = rD G D x b) : ∀ b, (b < x + 1 ∨ x + 46 ≤ b) → b ≠ xT x → D' b = rD G D x b := fun b hb _ => h b (by unfold xv mv xN; omega)
theorem inv_n {f : Nat → Int32} {i : Nat} {v : Int32} (h : InvI f) (hi : i < 17) (h1 : i = 5 ∨ 7 ≤ i ∨ i = 3 ∨ i = 6 ∨ i = 4) (h3 : i = 3 → 0 ≤ v ∧ v ≤ 999) (h5 : i = 5 → 50 ≤ v ∧ v ≤ 999) (h6 : i = 6 → 0 ≤ v ∧ v ≤ 9) (h4 : i = 4 → 0 ≤ v ∧ (0 < v → f 2 < 30)) : InvI (fun k => if k = i then v else f k) := by
  obtain ⟨⟨a1, a2, a3, a4, a5, a6⟩, ⟨b1, b2, b3, b4, b5, b6⟩, c, d, e⟩ := h
  refine ⟨⟨?_, ?_, ?_, ?_, ?_, ?_⟩, ⟨?_, ?_, ?_, ?_, ?_, ?_⟩, ?_, fun j hj => ?_, fun w hw => ?_⟩
  · simp only [show ¬ 1 = i by omega, if_false]; exact a1
  · simp only [show ¬ 1 = i by omega, show ¬ 0 = i by omega, if_false]; exact a2
  · simp only [show ¬ 0 = i by omega, if_false]; exact a3
  · simp only [show ¬ 2 = i by omega, if_false]; exact a4
  · simp only [show ¬ 2 = i by omega, if_false]; exact a5
  · show 0 ≤ if 4 = i then v else f 4
    split
    · exact (h4 (by omega)).1
    · exact a6
  · show 0 ≤ if 3 = i then v else f 3
    split
    · exact (h3 (by omega)).1
    · exact b1
  · show (if 3 = i then v else f 3) ≤ 999
    split
    · exact (h3 (by omega)).2
    · exact b2
  · show 50 ≤ if 5 = i then v else f 5
    split
    · exact (h5 (by omega)).1
    · exact b3
  · show (if 5 = i then v else f 5) ≤ 999
    split
    · exact (h5 (by omega)).2
    · exact b4
  · show 0 ≤ if 6 = i then v else f 6
    split
    · exact (h6 (by omega)).1
    · exact b5
  · show (if 6 = i then v else f 6) ≤ 9
    split
    · exact (h6 (by omega)).2
    · exact b6
  · show (0 < if 4 = i then v else f 4) → (if 2 = i then v else f 2) < 30
    rw [if_neg (show ¬ 2 = i by omega)]
    split
    · exact (h4 (by omega)).2
    · exact c
  · simp only [show ¬ 137 + 6 * j + 0 = i by omega, show ¬ 137 + 6 * j + 1 = i by omega, show ¬ 137 + 6 * j + 2 = i by omega, show ¬ 137 + 6 * j + 3 = i by omega, if_false]
    exact d j hj
  · simp only [show ¬ 17 + 4 * w + 0 = i by omega, show ¬ 17 + 4 * w + 1 = i by omega, if_false]
    exact e w hw
/-- one number is set on both sides -/
theorem act_1 {G : GT} {D E : DT} {i : Nat} {v : Int32} (hR : Rel K G D x a) (hi : i < 17) (hI : InvI (fun k => if k = i then v else gM D a k)) (hE : MRec (uD (rD G D x) (nu (xv x)) (nI i) v) E a (fun k => uD (uD (rD G D x) (nu (xv x)) (nI i) v) (ms a) (nI i) v (ms a) (nI k))) : Rel K (recG G D (xH x)) E x a := by
  obtain ⟨-, -, -, -, -, -, e8, -⟩ := hR.to6 (nov_m (nov_1 (G := G) (D := D) (i := nI i) (v := v)))
  refine act_nv hR nov_1 hE (F := fun k => if k = i then v else gM D a k) (fun k hk => ?_) (fun k k0 k1 => if_neg (by omega)) (fun k hk => ?_) hI
  · rw [uM_n (by omega) hk, ← e8]
    rfl
  · rw [novI_N hi hk, hR.imgR hk]
theorem hi_lo {R0 : DT} {sa : Nat → Nat} {w : Int32} (hS : Stt K R0 sa) (h0 : ¬ w < 0) (h4 : ¬ 4 ≤ w) : ∃ j : Nat, j < 4 ∧ w = nI j ∧ R0 (sa 2) w = loN w ∧ R0 (sa 3) w = hiN w ∧ (j = 0 → loN w = 50 ∧ hiN w = 999) ∧ (j = 1 → loN w = 0 ∧ hiN w = 9) := by
  obtain ⟨-, -, -, ⟨s0, s1, s2, s3⟩, t0, t1, t2, t3⟩ := hS
  obtain ⟨j, hj, rfl⟩ := nI_of (x := w) h0
  have j4 : j < 4 := by
    have : ¬ 4 ≤ j := fun q => h4 ((nI_leI (a := 4) (by omega) hj).mpr q)
    omega
  refine ⟨j, j4, rfl, ?_⟩
  obtain rfl | rfl | rfl | rfl : j = 0 ∨ j = 1 ∨ j = 2 ∨ j = 3 := by omega
  · exact ⟨s0, t0, fun _ => ⟨rfl, rfl⟩, fun q => absurd q (by omega)⟩
  · exact ⟨s1, t1, fun q => absurd q (by omega), fun _ => ⟨rfl, rfl⟩⟩
  · exact ⟨s2, t2, fun q => absurd q (by omega), fun q => absurd q (by omega)⟩
  · exact ⟨s3, t3, fun q => absurd q (by omega), fun q => absurd q (by omega)⟩
theorem tie_setNumber (w v : Int32) : Tie K R0 sa x a t_X5_setNumber t_X6_setNumber [.int w, .int v] := by
  intro G D hR hS Q2 hQ
  obtain ⟨hv, hA, hB, -⟩ := hR.see
  refine ⟨⟨hS, hA⟩, ?_⟩
  by_cases h1 : w < 0
  · rw [if_pos h1]
    refine ⟨hB, ?_⟩
    rw [if_pos h1]
    exact hQ _ G D hR
  · rw [if_neg h1]
    by_cases h2 : 4 ≤ w
    · rw [if_pos h2]
      refine ⟨hB, ?_⟩
      rw [if_neg h1, if_pos h2]
      exact hQ _ G D hR
    · rw [if_neg h2]
      obtain ⟨j, j4, rfl, e1, e2, l0, l1⟩ := hi_lo hS h1 h2
      rw [e1, e2]
      by_cases h3 : v < loN (nI j)
      · rw [if_pos h3]
        refine ⟨hB, ?_⟩
        rw [if_neg h1, if_neg h2, if_pos h3]
        exact hQ _ G D hR
      · rw [if_neg h3]
        by_cases h4 : v ≤ hiN (nI j)
        · rw [if_pos h4]
          obtain ⟨z1, z2, z3, -⟩ := hR.to6 (nov_m (nov_1 (G := G) (D := D) (i := 5 + nI j) (v := v)))
          refine ⟨z1, ?_⟩
          rw [if_neg h1, if_neg h2, if_neg h3, if_pos h4]
          intro E hE
          have e5 : (5 : Int32) + nI j = nI (5 + j) := by rw [← nL5, nI_add]
          rw [e5] at hE z3 ⊢
          refine q2_e (hQ _ _ E (act_1 hR (by omega) (inv_n hR.invI (by omega) (by omega) (fun q => absurd q (by omega)) (fun q => ?_) (fun q => ?_) (fun q => absurd q (by omega))) hE)) ?_
          · obtain ⟨u1, u2⟩ := l0 (by omega)
            rw [u1] at h3
            rw [u2] at h4
            exact ⟨Int32.not_lt.mp h3, h4⟩
          · obtain ⟨u1, u2⟩ := l1 (by omega)
            rw [u1] at h3
            rw [u2] at h4
            exact ⟨Int32.not_lt.mp h3, h4⟩
          · rw [z3]
            exact hv.n (nI_pos' (by omega)) ((nI_ltI (b := 17) (by omega) (by decide)).mpr (by omega))
        · rw [if_neg h4]
          refine ⟨hB, ?_⟩
          rw [if_neg h1, if_neg h2, if_neg h3, if_neg h4]
          exact hQ _ G D hR
theorem setV_0 {N : Int32 → Int32} (h : setV N = 0) : N 4 ≤ 0 := by
  unfold setV at h
  by_cases q : N 4 ≤ 0
  · exact q
  · rw [if_neg q] at h
    exact absurd h (by decide)
theorem setV_1 {N : Int32 → Int32} (h : ¬ setV N = 0) : ¬ N 4 ≤ 0 ∧ setV N = 1 := by
  unfold setV at h ⊢
  by_cases q : N 4 ≤ 0
  · rw [if_pos q] at h
    exact absurd rfl h
  · rw [if_neg q]
    exact ⟨q, rfl⟩
theorem tie_unset : Tie K R0 sa x a t_X5_unset t_X6_unset [] := by
  intro G D hR hS Q2 hQ
  obtain ⟨hv, hA, hB, -⟩ := hR.see
  refine ⟨hA, ?_⟩
  have es : setV (D (nu (xv x))) = setV (yN D a) := hv.setv
  by_cases h1 : setV (D (nu (xv x))) = 0
  · rw [if_pos h1]
    refine ⟨hB, ?_⟩
    rw [if_pos (es ▸ h1)]
    exact hQ _ G D hR
  · rw [if_neg h1]
    obtain ⟨z1, z2, z3, -⟩ := hR.to6 (nov_m (nov_1 (G := G) (D := D) (i := 4) (v := 0)))
    refine ⟨z1, ?_⟩
    rw [z3, if_neg (es ▸ h1)]
    intro E hE
    refine q2_e (hQ _ _ E (act_1 (i := 4) hR (by omega) (inv_n hR.invI (by omega) (by omega) (fun q => absurd q (by omega)) (fun q => absurd q (by omega)) (fun q => absurd q (by omega)) (fun _ => ⟨by decide, fun q => absurd q (by decide)⟩)) hE)) ?_
    exact hv.n (i := 4) (by decide) (by decide)
theorem good_1 {N : Int32 → Int32} {S W : Int32 → Int32 → Int32} {m : Int32} (h : ¬ gooD N S W m = 0) : N 2 < 30 ∧ ¬ m < 1 ∧ m ≤ N 0 - N 1 := by
  unfold gooD at h
  by_cases q : 30 ≤ N 2
  · rw [if_pos q] at h
    exact absurd rfl h
  · rw [if_neg q] at h
    refine ⟨Int32.not_le.mp q, fun z => ?_, ?_⟩
    · unfold reaF at h
      rw [if_pos z] at h
      exact h (if_neg (by decide))
    · by_cases z : m ≤ N 0 - N 1
      · exact z
      · unfold reaF at h
        rw [if_neg z] at h
        exact absurd (if_neg (by split <;> decide)) h
theorem one_le {m : Int32} (h : ¬ m < 1) : 0 ≤ m := Int32.le_trans (by decide) (Int32.not_lt.mp h)
theorem tie_set (m : Int32) : Tie K R0 sa x a t_X5_set t_X6_set [.int m] := by
  intro G D hR hS Q2 hQ
  obtain ⟨hv, hA, hB, -⟩ := hR.see
  obtain ⟨y1, y2, y3, y4, y5, y6⟩ := id hA.2.1
  refine ⟨hA, ?_⟩
  have es : setV (D (nu (xv x))) = setV (yN D a) := hv.setv
  have n0 := hv.n (i := 0) (by decide) (by decide)
  have n1 := hv.n (i := 1) (by decide) (by decide)
  have n2 := hv.n (i := 2) (by decide) (by decide)
  have n3 := hv.n (i := 3) (by decide) (by decide)
  have eg := hv.goo hA.2.1 (m := m)
  by_cases h1 : m < 1
  · rw [if_pos h1]
    refine ⟨hB, ?_⟩
    rw [if_pos h1]
    exact hQ _ G D hR
  · rw [if_neg h1]
    by_cases h2 : m ≤ D (nu (xv x)) 0 - D (nu (xv x)) 1
    · rw [if_pos h2]
      by_cases h3 : setV (D (nu (xv x))) = 0
      · rw [if_pos h3]
        by_cases h4 : gooD (D (nu (xv x))) (SS D (xv x)) (WW D (xv x)) m = 0
        · rw [if_pos h4]
          refine ⟨hB, ?_⟩
          rw [if_neg h1, ← n0, ← n1, if_pos h2, ← es, if_pos h3, ← eg, if_pos h4]
          exact hQ _ G D hR
        · rw [if_neg h4]
          obtain ⟨z1, z2, z3, z4, z5, -⟩ := hR.to6 (nov_m (nov_1 (G := G) (D := D) (i := 4) (v := m)))
          refine ⟨z1, ?_⟩
          rw [z3, z4, z5, if_neg h1, ← n0, ← n1, if_pos h2, ← es, if_pos h3, ← eg, if_neg h4]
          intro E hE
          refine q2_e (hQ _ _ E (act_1 (i := 4) hR (by omega) (inv_n hR.invI (by omega) (by omega) (fun q => absurd q (by omega)) (fun q => absurd q (by omega)) (fun q => absurd q (by omega)) (fun _ => ⟨one_le h1, fun _ => ?_⟩)) hE)) ?_
          · have := (good_1 h4).1
            rw [n2] at this
            exact this
          · have z : 0 ≤ D (nu (xv x)) 1 + m ∧ D (nu (xv x)) 1 + m ≤ 20 := by
              clear h3 h4 eg es n0 n1 n2 n3
              refine ⟨?_, ?_⟩ <;> (simp only [i_lt, i_le, i_eq, i_cl, Int32.reduceToInt, ne_eq] at * <;> (first | omega | (simp (disch := (first | omega | (simp (disch := (first | omega | (simp (disch := (first | omega | (simp only [Int32.reduceToInt]; omega))) only [a_add, a_sub, a_mul, a_neg, i_lt, i_le, i_eq, i_cl, Int32.reduceToInt, Int32.reduceToNatClampNeg]; omega))) only [a_add, a_sub, a_mul, a_neg, i_lt, i_le, i_eq, i_cl, Int32.reduceToInt, Int32.reduceToNatClampNeg]; omega))) only [a_add, a_sub, a_mul, a_neg, i_lt, i_le, i_eq, i_cl, Int32.reduceToInt, Int32.reduceToNatClampNeg] at * <;> (first | omega | (simp (disch := (first | omega | (simp (disch := (first | omega | (simp (disch := (first | omega | (simp only [Int32.reduceToInt]; omega))) only [a_add, a_sub, a_mul, a_neg, i_lt, i_le, i_eq, i_cl, Int32.reduceToInt, Int32.reduceToNatClampNeg]; omega))) only [a_add, a_sub, a_mul, a_neg, i_lt, i_le, i_eq, i_cl, Int32.reduceToInt, Int32.reduceToNatClampNeg]; omega))) only [a_add, a_sub, a_mul, a_neg, i_lt, i_le, i_eq, i_cl, Int32.reduceToInt, Int32.reduceToNatClampNeg] at * <;> omega)))))
            have := hv.sum (r := 0) (f := D (nu (xv x)) 1) (e := D (nu (xv x)) 1 + m) (by decide) (by decide) y1 z.1 z.2
            rw [← n3, ← this]
      · rw [if_neg h3]
        refine ⟨hB, ?_⟩
        rw [if_neg h1, ← n0, ← n1, if_pos h2, ← es, if_neg h3]
        exact hQ _ G D hR
    · rw [if_neg h2]
      refine ⟨hB, ?_⟩
      rw [if_neg h1, ← n0, ← n1, if_neg h2]
      exact hQ _ G D hR
theorem ng_good {N : Int32 → Int32} {S W : Int32 → Int32 → Int32} {m : Int32} : ∀ (k : Nat) (i : Int32), ngF N S W m k i = 0 ∨ ¬ gooD N S W (ngF N S W m k i) = 0
  | 0, _ => Or.inl rfl
  | k + 1, i => by
    rw [ngF]
    by_cases h1 : gooD N S W (m - i) = 0
    · rw [if_pos h1]
      by_cases h2 : gooD N S W (m + i) = 0
      · rw [if_pos h2]
        exact ng_good k (i + 1)
      · rw [if_neg h2]
        exact Or.inr h2
    · rw [if_neg h1]
      exact Or.inr h1
theorem tie_mend : Tie K R0 sa x a t_X5_mend t_X6_mend [] := by
  intro G D hR hS Q2 hQ
  obtain ⟨hv, hA, hB, -⟩ := hR.see
  refine ⟨hA, ?_⟩
  have es : setV (D (nu (xv x))) = setV (yN D a) := hv.setv
  have n4 := hv.n (i := 4) (by decide) (by decide)
  have n2 := hv.n (i := 2) (by decide) (by decide)
  have eg := hv.goo hA.2.1 (m := D (nu (xv x)) 4)
  have en := hv.ng hA.2.1 (m := D (nu (xv x)) 4) 20 1
  by_cases h1 : setV (D (nu (xv x))) = 0
  · rw [if_pos h1]
    refine ⟨hB, ?_⟩
    rw [if_pos (es ▸ h1)]
    exact hQ _ G D hR
  · rw [if_neg h1]
    by_cases h2 : gooD (D (nu (xv x))) (SS D (xv x)) (WW D (xv x)) (D (nu (xv x)) 4) = 0
    · rw [if_pos h2]
      obtain ⟨g, hg⟩ : ∃ g, ngF (D (nu (xv x))) (SS D (xv x)) (WW D (xv x)) (D (nu (xv x)) 4) 20 1 = g := ⟨_, rfl⟩
      have hgood := ng_good (N := D (nu (xv x))) (S := SS D (xv x)) (W := WW D (xv x)) (m := D (nu (xv x)) 4) 20 1
      rw [hg] at hgood ⊢
      by_cases h3 : g = 0
      · rw [if_pos h3]
        refine ⟨hB, ?_⟩
        rw [← es, if_neg h1, ← n4, ← eg, if_pos h2, ← en]
        intro g' hg'
        rw [← hg', hg, if_pos h3]
        exact hQ _ G D hR
      · rw [if_neg h3]
        obtain ⟨z1, z2, z3, z4, z5, -⟩ := hR.to6 (nov_m (nov_1 (G := G) (D := D) (i := 4) (v := g)))
        refine ⟨z1, ?_⟩
        rw [z3, z4, z5, ← es, if_neg h1, ← n4, ← eg, if_pos h2, ← en]
        intro g' hg'
        obtain rfl : g = g' := by rw [← hg', hg]
        rw [if_neg h3]
        intro E hE
        have gd : ¬ gooD (D (nu (xv x))) (SS D (xv x)) (WW D (xv x)) g = 0 := hgood.resolve_left h3
        obtain ⟨g1, g2, -⟩ := good_1 gd
        rw [n2] at g1
        exact hQ _ _ E (act_1 (i := 4) hR (by omega) (inv_n hR.invI (by omega) (by omega) (fun q => absurd q (by omega)) (fun q => absurd q (by omega)) (fun q => absurd q (by omega)) (fun _ => ⟨one_le g2, fun _ => g1⟩)) hE)
    · rw [if_neg h2]
      refine ⟨hB, ?_⟩
      rw [← es, if_neg h1, ← n4, ← eg, if_neg h2]
      exact hQ _ G D hR
theorem tie_ask (w : Int32) : Tie K R0 sa x a t_X5_ask t_X6_ask [.int w] := by
  intro G D hR hS Q2 hQ
  obtain ⟨hv, hA, hB, -⟩ := hR.see
  refine ⟨hA, ?_⟩
  have es : setV (D (nu (xv x))) = setV (yN D a) := hv.setv
  have n3 := hv.n (i := 3) (by decide) (by decide)
  have n14 := hv.n (i := 14) (by decide) (by decide)
  by_cases h1 : w < 0
  · rw [if_pos h1]
    refine ⟨hB, ?_⟩
    rw [if_pos h1]
    exact hQ _ G D hR
  · rw [if_neg h1]
    by_cases h2 : 999 < w
    · rw [if_pos h2]
      refine ⟨hB, ?_⟩
      rw [if_neg h1, if_pos h2]
      exact hQ _ G D hR
    · rw [if_neg h2]
      have key : ∀ D', (∀ b, (b < xv x + 1 ∨ xv x + 14 ≤ b) → D' b = rD G D x b) → (∀ k, k < 257 → novI D' (xv x) k = if k = 14 then gM D a 14 + setV (yN D a) else if k = 3 then w else gM D a k) → t_X6_ask K R0 sa (.ref a :: [.int w]) (recG G D (xH x)) D' (fun r' G'' D'' => Q2 (some (.int (D (nu (xv x)) 3))) r' G'' D'') := by
        intro D' hb hn
        obtain ⟨z1, z2, z3, z4, z5, z6, z7, -⟩ := hR.to6 (nov_m hb)
        refine ⟨z1, ?_⟩
        rw [if_neg h1, if_neg h2]
        intro E hE
        rw [z3] at hE ⊢
        refine q2_e (hQ _ _ E (act_nv hR hb hE (F := fun k => if k = 14 then gM D a 14 + setV (yN D a) else if k = 3 then w else gM D a k) (fun k hk => ?_) (fun k k0 k1 => ?_) hn ?_)) n3
        · show uD (uD D' (ms a) (nI 3) w) (ms a) (nI 14) (gM D a 14 + setV (yN D a)) (ms a) (nI k) = _
          rw [uM_n (by omega) hk, uM_n (by omega) hk, ← z7]
          rfl
        · show (if k = 14 then _ else if k = 3 then w else _) = _
          rw [if_neg (by omega), if_neg (by omega)]
        · exact inv_n (inv_n (i := 3) hR.invI (by omega) (by omega) (fun _ => ⟨Int32.not_lt.mp h1, Int32.not_lt.mp h2⟩) (fun q => absurd q (by omega)) (fun q => absurd q (by omega)) (fun q => absurd q (by omega))) (by omega) (by omega) (fun q => absurd q (by omega)) (fun q => absurd q (by omega)) (fun q => absurd q (by omega)) (fun q => absurd q (by omega))
      by_cases h3 : setV (D (nu (xv x))) = 0
      · rw [if_pos h3]
        refine key _ nov_1 (fun k hk => ?_)
        rw [← es, h3]
        show novI (uD (rD G D x) (nu (xv x)) (nI 3) w) (xv x) k = _
        rw [novI_N (by omega) hk, hR.imgR hk]
        by_cases e : k = 14
        · subst e
          rw [if_neg (by omega), if_pos rfl, Int32.add_zero]
        · rw [if_neg e]
      · rw [if_neg h3]
        refine key _ (fun b hb => ?_) (fun k hk => ?_)
        · rw [uD_o (by unfold nu; omega)]
          exact nov_1 b hb
        · rw [← es, (setV_1 h3).2]
          show novI (uD (uD (rD G D x) (nu (xv x)) (nI 3) w) (nu (xv x)) (nI 14) (D (nu (xv x)) (nI 14) + 1)) (xv x) k = _
          rw [novI_N (by omega) hk, novI_N (by omega) hk, hR.imgR hk, show D (nu (xv x)) (nI 14) = gM D a 14 from n14]
end TAC
