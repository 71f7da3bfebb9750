/-! ### the class's scan, by places -/
theorem scn_ok {c : Int32 → Int32} {l x : Int32} (h : ¬ scnV c l x = 0) : ¬ chF c l x < 97 ∧ chF c l x ≤ 102 ∧ ¬ numV c l (x + 1) = 0 ∧ ¬ slkV c l (numE c l (x + 1)) = 0 ∧ ¬ tnsV c l (slkE c l (numE c l (x + 1))) = 0 := by
  unfold scnV at h
  by_cases h1 : chF c l x < 97
  · rw [if_pos h1] at h
    exact absurd rfl h
  · rw [if_neg h1] at h
    by_cases h2 : chF c l x ≤ 102
    · rw [if_pos h2] at h
      by_cases h3 : numV c l (x + 1) = 0
      · rw [if_pos h3] at h
        exact absurd rfl h
      · rw [if_neg h3] at h
        by_cases h4 : slkV c l (numE c l (x + 1)) = 0
        · rw [if_pos h4] at h
          exact absurd rfl h
        · rw [if_neg h4] at h
          by_cases h5 : tnsV c l (slkE c l (numE c l (x + 1))) = 0
          · rw [if_pos h5] at h
            exact absurd rfl h
          · exact ⟨h1, h2, h3, h4, h5⟩
    · rw [if_neg h2] at h
      exact absurd rfl h
theorem tns_ok {c : Int32 → Int32} {l x : Int32} (h : ¬ tnsV c l x = 0) : chF c l x = 33 ∧ ¬ chF c l (x + 1) < 48 ∧ chF c l (x + 1) ≤ 57 := by
  unfold tnsV at h
  by_cases h1 : chF c l x = 33
  · rw [if_pos h1] at h
    by_cases h2 : chF c l (x + 1) < 48
    · rw [if_pos h2] at h
      exact absurd rfl h
    · rw [if_neg h2] at h
      by_cases h3 : chF c l (x + 1) ≤ 57
      · exact ⟨h1, h2, h3⟩
      · rw [if_neg h3] at h
        exact absurd rfl h
  · rw [if_neg h1] at h
    exact absurd rfl h
section SCD
variable {D : DT} {t : Nat}
theorem scA_c : scA D t (tc t) = D (tc t) := by
  unfold scA
  rw [uD_o (by simp [tr_c]), uD_o (by simp [t_tc]), uD_o (by simp [tr_c]), uD_o (by simp [t_tc])]
theorem tnsD_c : tnsD D t (tc t) = D (tc t) := by
  unfold tnsD
  repeat' split
  · rw [uD_o (by simp [t_tc])]
  · rw [uD_o (by simp [tr_c]), uD_o (by simp [t_tc])]
  · rw [uD_o (by simp [t_tc])]
  · rfl
theorem scnD_c : scnD D t (tc t) = D (tc t) := by
  unfold scnD
  split
  · rfl
  · split
    · split
      · exact scA_c
      · split
        · exact slkD_c.trans scA_c
        · exact tnsD_c.trans (slkD_c.trans scA_c)
    · rfl
theorem slS_4 : slkD (scA D t) t t 4 = slkE (D (tc t)) (D t 2) (numE (D (tc t)) (D t 2) (D t 4 + 1)) := by
  rw [slkD_4, scA_c, scA_2, scA_4]
theorem tnsD_5 : tnsD D t t 4 = tnP (D (tc t)) (D t 2) (D t 4) := by
  unfold tnsD tnP
  by_cases h : chF (D (tc t)) (D t 2) (D t 4) = 33
  · rw [if_pos h, if_pos h]
    by_cases h1 : chF (D (tc t)) (D t 2) (D t 4 + 1) < 48
    · rw [if_pos h1, if_pos (inV_l h1), uD_eq]
    · rw [if_neg h1]
      by_cases h2 : chF (D (tc t)) (D t 2) (D t 4 + 1) ≤ 57
      · rw [if_pos h2, inV_1 (Int32.not_lt.mp h1) h2, if_neg (by decide), uD_o (by simp [tr_t]), uD_eq]
      · rw [if_neg h2, inV_h (Int32.not_le.mp h2), if_pos rfl, uD_eq]
  · rw [if_neg h, if_neg h]
theorem scnD_5 : scnD D t t 4 = scP (D (tc t)) (D t 2) (D t 4) := by
  unfold scnD scP
  by_cases h1 : chF (D (tc t)) (D t 2) (D t 4) < 97
  · rw [if_pos h1, if_pos (inV_l h1)]
  · rw [if_neg h1]
    by_cases h2 : chF (D (tc t)) (D t 2) (D t 4) ≤ 102
    · rw [if_pos h2, inV_1 (Int32.not_lt.mp h1) h2, if_neg (show ¬ (1 : Int32) = 0 by decide)]
      by_cases h3 : numV (D (tc t)) (D t 2) (D t 4 + 1) = 0
      · rw [if_pos h3, if_pos h3, scA_4]
      · rw [if_neg h3, if_neg h3]
        by_cases h4 : slkV (D (tc t)) (D t 2) (numE (D (tc t)) (D t 2) (D t 4 + 1)) = 0
        · rw [if_pos h4, if_pos h4, slS_4]
        · rw [if_neg h4, if_neg h4, tnsD_5, slS_4, slkD_c, scA_c, slkD_2, scA_2]
    · rw [if_neg h2, inV_h (Int32.not_le.mp h2), if_pos rfl]
theorem row_i {X : DT} {q r i f v : Int32} (h : ¬ i = f) : uD X (tr t q) f v (tr t r) i = X (tr t r) i := by
  unfold uD
  rw [if_neg (fun z => h z.2)]
theorem row_t {X : DT} {r i k v : Int32} : uD X t k v (tr t r) i = X (tr t r) i := by
  rw [uD_o (by simp [t_tr])]
theorem scnD_r {r i : Int32} (h : ¬ i = D t 3) : scnD D t (tr t r) i = D (tr t r) i := by
  have a1 : scA D t (tr t r) i = D (tr t r) i := by
    unfold scA
    rw [row_i h, row_t, row_i h, row_t]
  have a2 : slkD (scA D t) t (tr t r) i = D (tr t r) i := by
    rw [← a1]
    have h' : ¬ i = scA D t t 3 := by
      rw [scA_3]
      exact h
    unfold slkD
    split
    · rw [row_i h', row_t, row_i h']
    · rw [row_i h']
  have a3 : tnsD (slkD (scA D t) t) t (tr t r) i = D (tr t r) i := by
    rw [← a2]
    have h' : ¬ i = slkD (scA D t) t t 3 := by
      rw [slkD_3, scA_3]
      exact h
    unfold tnsD
    split
    · split
      · rw [row_t]
      · split
        · rw [row_i h', row_t]
        · rw [row_t]
    · rfl
  unfold scnD
  split
  · rfl
  · split
    · split
      · exact a1
      · split
        · exact a2
        · exact a3
    · rfl
theorem row_e {X : DT} {q r i f v : Int32} (h : ¬ r.toNatClampNeg = q.toNatClampNeg) : uD X (tr t q) f v (tr t r) i = X (tr t r) i := by
  rw [uD_o (by rw [ne_eq, tr_tr]; exact h)]
/-- what a good scene leaves in its rows -/
theorem scnD_v (h : ¬ scnV (D (tc t)) (D t 2) (D t 4) = 0) : scnD D t (tr t 0) (D t 3) = numV (D (tc t)) (D t 2) (D t 4 + 1) ∧ scnD D t (tr t 1) (D t 3) = slW (D (tc t)) (D t 2) (numE (D (tc t)) (D t 2) (D t 4 + 1)) ∧ scnD D t (tr t 2) (D t 3) = chF (D (tc t)) (D t 2) (D t 4) - 97 ∧ scnD D t (tr t 3) (D t 3) = tnW (D (tc t)) (D t 2) (D t 4) := by
  obtain ⟨h1, h2, h3, h4, h5⟩ := scn_ok h
  obtain ⟨t1, t2, t3⟩ := tns_ok h5
  have e0 : scnD D t = tnsD (slkD (scA D t) t) t := by
    unfold scnD
    rw [if_neg h1, if_pos h2, if_neg h3, if_neg h4]
  have c1' : slkD (scA D t) t (tc t) = D (tc t) := slkD_c.trans scA_c
  have c2' : slkD (scA D t) t t 2 = D t 2 := slkD_2.trans scA_2
  have c3' : slkD (scA D t) t t 3 = D t 3 := slkD_3.trans scA_3
  have e1 : scnD D t = uD (uD (slkD (scA D t) t) t 4 (slkE (D (tc t)) (D t 2) (numE (D (tc t)) (D t 2) (D t 4 + 1)) + 1 + 1)) (tr t 3) (D t 3) (chF (D (tc t)) (D t 2) (slkE (D (tc t)) (D t 2) (numE (D (tc t)) (D t 2) (D t 4 + 1)) + 1) - 48) := by
    rw [e0]
    unfold tnsD
    rw [c1', c2', c3', slS_4, if_pos t1, if_neg t2, if_pos t3]
  have s0 : ∀ r : Int32, ¬ r.toNatClampNeg = 1 → slkD (scA D t) t (tr t r) (D t 3) = scA D t (tr t r) (D t 3) := fun r hr => by
    unfold slkD
    split
    · rw [row_e hr, row_t, row_e hr]
    · rw [row_e hr]
  rw [e1]
  refine ⟨?_, ?_, ?_, ?_⟩
  · rw [row_e (by decide), row_t, s0 0 (by decide)]
    unfold scA
    rw [uD_eq]
  · rw [row_e (by decide), row_t]
    unfold slkD slW
    rw [scA_c, scA_2, scA_3, scA_4]
    by_cases q : chF (D (tc t)) (D t 2) (numE (D (tc t)) (D t 2) (D t 4 + 1)) = 45
    · rw [if_pos q, if_pos q, uD_eq]
    · rw [if_neg q, if_neg q, uD_eq]
  · rw [row_e (by decide), row_t, s0 2 (by decide)]
    unfold scA
    rw [row_e (by decide), row_t, uD_eq]
  · rw [uD_eq]
    rfl
end SCD
/-- the class's scan ahead of the scene j -/
def ScS (t : Nat) (c : Int32 → Int32) (l : Int32) (E : DT) (j : Nat) : Prop := E (tc t) = c ∧ E t 2 = l ∧ E t 4 = poS c l j ∧ E t 3 = nI j ∧ ∀ r i, r < 4 → i < j → E (tr t (nI r)) (nI i) = tv c l r i
theorem sc_rows {t : Nat} {c : Int32 → Int32} {l : Int32} {E : DT} {j : Nat} (h : ScS t c l E j) (hj : j < 20) (hs : ¬ scnV c l (poS c l j) = 0) : ∀ r i, r < 4 → i < j + 1 → scnD E t (tr t (nI r)) (nI i) = tv c l r i := by
  obtain ⟨h1, h2, h3, h4, h5⟩ := h
  intro r i hr hi
  rcases Nat.lt_or_ge i j with q | q
  · rw [scnD_r (by rw [h4]; exact fun z => absurd ((nI_eq (by omega) (by omega)).mp z) (by omega))]
    exact h5 r i hr q
  · obtain rfl : i = j := by omega
    obtain ⟨v0, v1, v2, v3⟩ := scnD_v (D := E) (t := t) (by rw [h1, h2, h3]; exact hs)
    rw [h1, h2, h3, h4] at v0 v1 v2 v3
    obtain rfl | rfl | rfl | rfl : r = 0 ∨ r = 1 ∨ r = 2 ∨ r = 3 := by omega
    · exact v0
    · exact v1
    · exact v2
    · exact v3
theorem scan_run {t : Nat} {c : Int32 → Int32} {l : Int32} {D : DT} (h0 : ScS t c l D 0) : ∀ j, goS c l j → j ≤ 20 → ∃ E, ScS t c l E j ∧ scanF t 20 D = scanF t (20 - j) E
  | 0, _, _ => ⟨D, h0, rfl⟩
  | j + 1, hg, hj => by
    obtain ⟨E, hE, e⟩ := scan_run h0 j (fun i hi => hg i (by omega)) (by omega)
    obtain ⟨g1, g2⟩ := hg j (by omega)
    have hr := sc_rows hE (by omega) g1
    obtain ⟨h1, h2, h3, h4, h5⟩ := hE
    have e4 : scnD E t t 4 = scP c l (poS c l j) := by rw [scnD_5, h1, h2, h3]
    have ne : ¬ scP c l (poS c l j) = l := fun q => by
      have := ch_eq (by decide) g2
      rw [q] at this
      exact Int32.lt_irrefl this
    refine ⟨uD (uD (scnD E t) t 4 (scnD E t t 4 + 1)) t 3 (E t 3 + 1), ⟨?_, ?_, ?_, ?_, fun r i hr' hi => ?_⟩, ?_⟩
    · rw [uD_o (by simp [t_tc]), uD_o (by simp [t_tc]), scnD_c, h1]
    · rw [uD_s, if_neg (by decide), uD_s, if_neg (by decide), scnD_2, h2]
    · rw [uD_s, if_neg (by decide), uD_eq, e4]
      rfl
    · rw [uD_eq, h4, nI_1]
    · rw [row_t, row_t]
      exact hr r i hr' hi
    · rw [e, show 20 - j = (20 - (j + 1)) + 1 by omega, scanF, h1, h2, h3, if_neg g1, e4, if_neg ne, scnD_c, h1, if_pos g2]
theorem go_max {c : Int32 → Int32} {l : Int32} : ∀ n, ¬ goS c l n → ∃ J, J < n ∧ goS c l J ∧ ¬ goS c l (J + 1)
  | 0, h => absurd (fun i hi => absurd hi (by omega)) h
  | n + 1, h => by
    by_cases q : goS c l n
    · exact ⟨n, by omega, q, h⟩
    · obtain ⟨J, h1, h2⟩ := go_max n q
      exact ⟨J, by omega, h2⟩
theorem go_top {c : Int32 → Int32} {l : Int32} (l0 : 0 ≤ l) (l1 : l ≤ 100) : ∃ J, J ≤ 20 ∧ goS c l J ∧ ¬ goS c l (J + 1) := by
  obtain ⟨J, h1, h2⟩ := go_max (c := c) (l := l) 21 (fun h => absurd (pos_20 l0 l1 h).1 (by omega))
  exact ⟨J, by omega, h2⟩
theorem go_uni {c : Int32 → Int32} {l : Int32} {i j : Nat} (hi : goS c l i) (hi2 : ¬ goS c l (i + 1)) (hj : goS c l j) (hj2 : ¬ goS c l (j + 1)) : i = j := by
  rcases Nat.lt_trichotomy i j with q | q | q
  · exact absurd (fun k hk => hj k (by omega)) hi2
  · exact q
  · exact absurd (fun k hk => hi k (by omega)) hj2
theorem go_not {c : Int32 → Int32} {l : Int32} {j : Nat} (hj : goS c l j) (h : scnV c l (poS c l j) = 0 ∨ ¬ chF c l (scP c l (poS c l j)) = 59) : ¬ goS c l (j + 1) := fun q => by
  obtain ⟨a1, a2⟩ := q j (by omega)
  rcases h with h | h
  · exact a1 h
  · exact h a2
/-- what the class's scan answers -/
theorem scan_end {t : Nat} {D : DT} {J : Nat} (l0 : 0 ≤ D t 2) (l1 : D t 2 ≤ 100) (hJ : goS (D (tc t)) (D t 2) J) (hJ2 : ¬ goS (D (tc t)) (D t 2) (J + 1)) : ((scnV (D (tc t)) (D t 2) (poS (D (tc t)) (D t 2) J) = 0 ∨ scP (D (tc t)) (D t 2) (poS (D (tc t)) (D t 2) J) < D t 2) → (scX D t).1 = scP (D (tc t)) (D t 2) (poS (D (tc t)) (D t 2) J) ∧ ¬ (scX D t).1 = -100009) ∧ ((¬ scnV (D (tc t)) (D t 2) (poS (D (tc t)) (D t 2) J) = 0 ∧ ¬ scP (D (tc t)) (D t 2) (poS (D (tc t)) (D t 2) J) < D t 2) → J < 20 ∧ (scX D t).1 = -100009 ∧ (scX D t).2 t 3 = nI (J + 1) ∧ ∀ r i, r < 4 → i < J + 1 → (scX D t).2 (tr t (nI r)) (nI i) = tv (D (tc t)) (D t 2) r i) ∧ (scX D t).2 (tc t) = D (tc t) ∧ (scX D t).2 t 2 = D t 2 := by
  obtain ⟨c, hc⟩ : ∃ c, D (tc t) = c := ⟨_, rfl⟩
  obtain ⟨l, hl⟩ : ∃ l, D t 2 = l := ⟨_, rfl⟩
  rw [hc, hl] at hJ hJ2 ⊢
  rw [hl] at l0 l1
  obtain ⟨j20, p0, p1⟩ := pos_20 l0 l1 hJ
  have s0 : ScS t c l (uD (uD D t 4 0) t 3 0) 0 := by
    refine ⟨?_, ?_, ?_, ?_, fun r i _ hi => absurd hi (by omega)⟩
    · rw [uD_o (by simp [t_tc]), uD_o (by simp [t_tc]), hc]
    · rw [uD_s, if_neg (by decide), uD_s, if_neg (by decide), hl]
    · rw [uD_s, if_neg (by decide), uD_eq]
      rfl
    · rw [uD_eq]
      rfl
  obtain ⟨E, hE, e⟩ := scan_run s0 J hJ j20
  have hrow := fun h20 hs => sc_rows hE h20 hs
  obtain ⟨h1, h2, h3, h4, h5⟩ := hE
  have e4 : scnD E t t 4 = scP c l (poS c l J) := by rw [scnD_5, h1, h2, h3]
  have z0 : 0 ≤ scP c l (poS c l J) := by
    rw [← e4]
    exact (scnD_4 (by rw [h3]; exact p0) (by rw [h3]; exact p1) (by rw [h2]; exact l1)).1
  have zn : ¬ scP c l (poS c l J) = -100009 := fun q => by
    rw [q] at z0
    exact absurd z0 (by decide)
  have en : scX D t = scanF t (20 - J) E := e
  rw [en]
  by_cases q20 : J = 20
  · subst q20
    obtain ⟨p2, p3⟩ := pos_b l0 l1 20 hJ
    have pl : ¬ poS c l 20 < l := by
      clear hJ hJ2 hrow h1 h2 h3 h4 h5 e4 z0 zn en e s0 hc hl
      simp only [i_lt, i_le, Int32.reduceToInt] at *
      omega
    have pc : chF c l (poS c l 20) = 0 := if_pos (Int32.not_lt.mp pl)
    have ps : scP c l (poS c l 20) = poS c l 20 := by
      unfold scP
      rw [pc]
      exact if_pos (by decide)
    have pv : scnV c l (poS c l 20) = 0 := by
      unfold scnV
      rw [pc]
      exact if_pos (by decide)
    have ef : scanF t (20 - 20) E = (E t 4, E) := rfl
    rw [ef]
    refine ⟨fun _ => ⟨h3.trans ps.symm, fun q => zn (by rw [ps, ← h3]; exact q)⟩, fun q => absurd pv q.1, h1, h2⟩
  · obtain ⟨n, hn⟩ : ∃ n, 20 - J = n + 1 := ⟨19 - J, by omega⟩
    rw [hn, scanF, h1, h2, h3, e4, scnD_c, h1]
    by_cases hs : scnV c l (poS c l J) = 0
    · rw [if_pos hs]
      exact ⟨fun _ => ⟨rfl, zn⟩, fun q => absurd hs q.1, scnD_c.trans h1, scnD_2.trans h2⟩
    · rw [if_neg hs]
      obtain ⟨b1, b2⟩ := scP_b p0 l1 hs
      by_cases hlt : scP c l (poS c l J) < l
      · rw [if_neg (fun q => by rw [q] at hlt; exact Int32.lt_irrefl hlt), if_neg (fun q => hJ2 (fun i hi => by
          rcases Nat.lt_or_ge i J with w | w
          · exact hJ i w
          · obtain rfl : i = J := by omega
            exact ⟨hs, q⟩))]
        exact ⟨fun _ => ⟨rfl, zn⟩, fun q => absurd hlt q.2, scnD_c.trans h1, scnD_2.trans h2⟩
      · have el : scP c l (poS c l J) = l := by
          clear hrow h1 h2 h3 h4 h5 e4 z0 zn en e s0 hc hl hJ hJ2
          simp only [i_lt, i_eq] at *
          omega
        rw [if_pos el]
        refine ⟨fun q => ?_, fun _ => ⟨by omega, rfl, ?_, fun r i hr hi => ?_⟩, ?_, ?_⟩
        · rcases q with q | q
          · exact absurd q hs
          · exact absurd q hlt
        · show uD (scnD E t) t 3 (E t 3 + 1) t 3 = _
          rw [uD_eq, h4, nI_1]
        · show uD (scnD E t) t 3 (E t 3 + 1) (tr t (nI r)) (nI i) = _
          rw [row_t]
          exact hrow (by omega) hs r i hr hi
        · show uD (scnD E t) t 3 (E t 3 + 1) (tc t) = _
          rw [uD_o (by simp [t_tc]), scnD_c, h1]
        · show uD (scnD E t) t 3 (E t 3 + 1) t 2 = _
          rw [uD_s, if_neg (by decide), scnD_2, h2]
