/-! ### what is set and good -/
theorem rea_0 {N : Int32 → Int32} {S W : Int32 → Int32 → Int32} {f n w c v : Int32} (h : reaF N S W f n w c v = 0) : ¬ n < 1 ∧ n ≤ N 0 - f ∧ c ≤ sumI (S 1) f (f + n) ∧ (f + n = N 0 ∨ (¬ cliD N S (f + n - 1) (lastF S (f + n) c) v = 0 ∧ ¬ S 2 (f + n - 1) = (if f ≤ 0 then -100009 else S 2 (f - 1)))) := by
  unfold reaF at h
  split at h
  · exact absurd h (by decide)
  · rename_i a1
    split at h
    · rename_i a2
      split at h
      · rename_i a3
        split at h
        · split at h
          · split at h
            · rename_i a6
              exact ⟨a1, a2, a3, Or.inl a6⟩
            · split at h
              · exact absurd h (by decide)
              · rename_i a7
                by_cases a8 : S 2 (f + n - 1) = (if f ≤ 0 then -100009 else S 2 (f - 1))
                · rw [if_pos a8] at h
                  exact absurd h (by decide)
                · exact ⟨a1, a2, a3, Or.inr ⟨a7, a8⟩⟩
          · exact absurd h (by decide)
        · exact absurd h (by decide)
      · exact absurd h (by decide)
    · exact absurd h (by decide)
/-- a reason is 0, or 1 of a wrong number of scenes, or one of the others -/
theorem rea_c {N : Int32 → Int32} {S W : Int32 → Int32 → Int32} {f n w c v : Int32} (hn : ¬ n < 1) : (reaF N S W f n w c v = 0 ∧ n ≤ N 0 - f) ∨ (reaF N S W f n w c v = 1 ∧ ¬ n ≤ N 0 - f) ∨ (¬ reaF N S W f n w c v = 0 ∧ ¬ reaF N S W f n w c v = 1 ∧ 0 < reaF N S W f n w c v ∧ n ≤ N 0 - f) := by
  by_cases h : n ≤ N 0 - f
  · by_cases h0 : reaF N S W f n w c v = 0
    · exact Or.inl ⟨h0, h⟩
    · refine Or.inr (Or.inr ⟨h0, ?_⟩)
      unfold reaF at h0 ⊢
      rw [if_neg hn, if_pos h] at h0 ⊢
      repeat' split
      all_goals first | exact ⟨by decide, by decide, h⟩ | (rename_i q; exact absurd rfl (by simpa [*] using h0)) | simp_all
  · refine Or.inr (Or.inl ⟨?_, h⟩)
    unfold reaF
    rw [if_neg hn, if_neg h]
theorem goo_1 {N : Int32 → Int32} {S W : Int32 → Int32 → Int32} {m : Int32} (h : ¬ gooD N S W m = 0) : ¬ 30 ≤ N 2 ∧ reaF N S W (N 1) m (N 2) (N 3) (N 6) = 0 := by
  unfold gooD at h
  split at h
  · exact absurd rfl h
  · rename_i a
    split at h
    · rename_i b
      exact ⟨a, b⟩
    · exact absurd rfl h
theorem goo_2 {N : Int32 → Int32} {S W : Int32 → Int32 → Int32} {m : Int32} (h3 : N 2 < 30) (h : reaF N S W (N 1) m (N 2) (N 3) (N 6) = 0) : gooD N S W m = 1 := by
  unfold gooD
  rw [if_neg (Int32.not_le.mpr h3), if_pos h]
theorem goo_3 {N : Int32 → Int32} {S W : Int32 → Int32 → Int32} {m : Int32} (h : ¬ reaF N S W (N 1) m (N 2) (N 3) (N 6) = 0) : gooD N S W m = 0 := by
  unfold gooD
  rw [if_neg h]
  split <;> rfl
theorem goo_01 {N : Int32 → Int32} {S W : Int32 → Int32 → Int32} {m : Int32} : gooD N S W m = 0 ∨ gooD N S W m = 1 := by
  unfold gooD
  split
  · exact Or.inl rfl
  · split
    · exact Or.inr rfl
    · exact Or.inl rfl
/-- goodness reads these numbers and rows alone -/
theorem goo_e {N N' : Int32 → Int32} {S S' W W' : Int32 → Int32 → Int32} {m : Int32} (h0 : N' 0 = N 0) (h1 : N' 1 = N 1) (h2 : N' 2 = N 2) (h3 : N' 3 = N 3) (h5 : N' 5 = N 5) (h6 : N' 6 = N 6) (s : ∀ r : Int32, 0 ≤ r → r < 6 → S' r = S r) (t : ∀ r : Int32, 0 ≤ r → r < 4 → W' r = W r) : gooD N' S' W' m = gooD N S W m := by
  unfold gooD reaF roomF cliD lastF tenF
  rw [h0, h1, h2, h3, h5, h6, s 0 (by decide) (by decide), s 1 (by decide) (by decide), s 2 (by decide) (by decide), s 3 (by decide) (by decide), t 0 (by decide) (by decide), t 1 (by decide) (by decide)]
theorem cli_v {N : Int32 → Int32} {S : Int32 → Int32 → Int32} {y t v : Int32} (h : ¬ cliD N S y t v = 0) : v ≤ t := by
  unfold cliD at h
  split at h
  · exact absurd rfl h
  · rename_i a
    exact Int32.not_lt.mp a
def lastS (D : DT) (x : Nat) : Int32 := if D (nu (xv x)) 1 ≤ 0 then -100009 else D (sc (xv x) 2) (D (nu (xv x)) 1 - 1)
def Sett (D : DT) (x q p w m : Nat) : Prop := (D (nu (xv x)) 0 = nI q ∧ D (nu (xv x)) 1 = nI p ∧ D (nu (xv x)) 2 = nI w ∧ D (nu (xv x)) 4 = nI m) ∧ (1 ≤ m ∧ p + m ≤ q ∧ q ≤ 20 ∧ w < 30) ∧ gooD (D (nu (xv x))) (SS D (xv x)) (WW D (xv x)) (nI m) = 1
theorem vI_e {D : DT} {x q p w : Nat} (h : vI D x) (e0 : D (nu (xv x)) 0 = nI q) (e1 : D (nu (xv x)) 1 = nI p) (e2 : D (nu (xv x)) 2 = nI w) (hq : q ≤ 1000) (hp : p ≤ 1000) (hw : w ≤ 1000) : p ≤ q ∧ q ≤ 20 ∧ w ≤ 30 ∧ IvR q p w (D (nu (xv x)) 3) (D (nu (xv x)) 4) (D (nu (xv x)) 5) (D (nu (xv x)) 7) (D (nu (xv x)) 9) (D (nu (xv x)) 10) (D (nu (xv x)) 11) (D (nu (xv x)) 12) (D (nu (xv x)) 13) (SS D (xv x)) (WW D (xv x)) := by
  obtain ⟨q', p', w', ⟨f0, f1, f2, g1, g2, g3⟩, h⟩ := h
  obtain rfl : q' = q := (nI_eq (by omega) (by omega)).mp (f0.symm.trans e0)
  obtain rfl : p' = p := (nI_eq (by omega) (by omega)).mp (f1.symm.trans e1)
  obtain rfl : w' = w := (nI_eq (by omega) (by omega)).mp (f2.symm.trans e2)
  exact ⟨g1, g2, g3, h⟩
/-- the words of an instalment that is long enough for its cut -/
theorem wd_z {D : DT} {x q p w m : Nat} (hI : vI D x) (e0 : D (nu (xv x)) 0 = nI q) (e1 : D (nu (xv x)) 1 = nI p) (e2 : D (nu (xv x)) 2 = nI w) (hw : w ≤ 1000) (hm : 1 ≤ m) (hpq : p + m ≤ q) (hq : q ≤ 20) (hc : D (nu (xv x)) 3 ≤ sumI (SS D (xv x) 1) (nI p) (nI (p + m))) : (D (nu (xv x)) 3).toInt ≤ zS (zR (SS D (xv x)) 1) (p + m) - zS (zR (SS D (xv x)) 1) p ∧ (wdF (D (nu (xv x))) (SS D (xv x)) (nI m)).toInt = zS (zR (SS D (xv x)) 0) (p + m) - zS (zR (SS D (xv x)) 0) p - (D (nu (xv x)) 3).toInt ∧ 1 ≤ (wdF (D (nu (xv x))) (SS D (xv x)) (nI m)).toInt := by
  obtain ⟨g1, g2, g3, ⟨b1, b2, b3, -⟩, -, -, hS, -⟩ := vI_e hI e0 e1 e2 (by omega) (by omega) hw
  have s1 : ∀ j, p ≤ j → j < p + m → 0 ≤ (SS D (xv x) 1 (nI j)).toInt ∧ (SS D (xv x) 1 (nI j)).toInt ≤ 999 := fun j j0 j1 => by
    obtain ⟨⟨a1, a2⟩, ⟨a3, a4⟩, -⟩ := hS.1 j (by omega)
    unfold zR at a1 a2 a3 a4
    omega
  have s0 : ∀ j, p ≤ j → j < p + m → 0 ≤ (SS D (xv x) 0 (nI j)).toInt ∧ (SS D (xv x) 0 (nI j)).toInt ≤ 999 := fun j j0 j1 => by
    obtain ⟨⟨a1, a2⟩, -⟩ := hS.1 j (by omega)
    unfold zR at a1 a2
    omega
  obtain ⟨u1, u2, u3⟩ := sumI_z (g := SS D (xv x) 1) (a := p) (b := p + m) (by omega) (by omega) s1
  obtain ⟨v1, v2, v3⟩ := sumI_z (g := SS D (xv x) 0) (a := p) (b := p + m) (by omega) (by omega) s0
  have c1' : (D (nu (xv x)) 3).toInt ≤ zS (zR (SS D (xv x)) 1) (p + m) - zS (zR (SS D (xv x)) 1) p := by
    rw [i_le, u1] at hc
    exact hc
  have e3 : wdF (D (nu (xv x))) (SS D (xv x)) (nI m) = sumI (SS D (xv x) 0) (nI p) (nI (p + m)) - D (nu (xv x)) 3 := by
    unfold wdF
    rw [e1, nI_add]
  have e4 : (wdF (D (nu (xv x))) (SS D (xv x)) (nI m)).toInt = zS (zR (SS D (xv x)) 0) (p + m) - zS (zR (SS D (xv x)) 0) p - (D (nu (xv x)) 3).toInt := by
    rw [e3, a_sub (by omega), v1]
    rfl
  refine ⟨c1', e4, ?_⟩
  have hs1 : ∀ i, p ≤ i → i < p + m → 0 ≤ zR (SS D (xv x)) 0 i - zR (SS D (xv x)) 1 i - 1 ∧ zR (SS D (xv x)) 0 i - zR (SS D (xv x)) 1 i - 1 ≤ (999 : Nat) := fun i i0 i1 => by
    obtain ⟨⟨x1, x2⟩, ⟨x3, x4⟩, -⟩ := hS.1 i (by omega)
    omega
  obtain ⟨m', rfl⟩ : ∃ m', m = m' + 1 := ⟨m - 1, by omega⟩
  obtain ⟨t1, t2⟩ := zS_le (m := m') (fun i i0 i1 => hs1 i i0 (by omega))
  rw [zS_sub, zS_sub, zS_sub, zS_sub] at t1
  have t3 : zS (fun _ => (1 : Int)) p ≤ zS (fun _ => (1 : Int)) (p + m') := by
    have := (zS_le (g := fun _ => (1 : Int)) (p := p) (B := 1) (m := m') (fun _ _ _ => by omega)).1
    omega
  have t4 : zS (zR (SS D (xv x)) 0) (p + (m' + 1)) = zS (zR (SS D (xv x)) 0) (p + m') + zR (SS D (xv x)) 0 (p + m') := rfl
  have t5 : zS (zR (SS D (xv x)) 1) (p + (m' + 1)) = zS (zR (SS D (xv x)) 1) (p + m') + zR (SS D (xv x)) 1 (p + m') := rfl
  have t6 := hs1 (p + m') (by omega) (by omega)
  rw [e4]
  omega
/-- all that is known of what is set and good -/
theorem sett_f {D : DT} {x q p w m : Nat} (hI : vI D x) (h : Sett D x q p w m) : D (nu (xv x)) 3 ≤ sumI (SS D (xv x) 1) (nI p) (nI (p + m)) ∧ (p + m = q ∨ (D (nu (xv x)) 6 ≤ tenF (SS D (xv x)) (nI (p + m - 1)) (cutF (SS D (xv x)) (nI (p + m - 1)) (nI (p + m)) (D (nu (xv x)) 3)) ∧ ¬ D (sc (xv x) 2) (nI (p + m - 1)) = lastS D x)) := by
  obtain ⟨⟨e0, e1, e2, e4⟩, ⟨hm, hpq, hq, hw⟩, hg⟩ := h
  obtain ⟨g1, g2, g3, ⟨b1, b2, b3, -⟩, -, -, hS, -⟩ := vI_e hI e0 e1 e2 (by omega) (by omega) (by omega)
  obtain ⟨-, hr⟩ := goo_1 (by rw [hg]; decide)
  obtain ⟨-, -, r3, r4⟩ := rea_0 hr
  have e9 : nI (p + m) - 1 = nI (p + m - 1) := by
    obtain ⟨i, hi⟩ : ∃ i, p + m = i + 1 := ⟨p + m - 1, by omega⟩
    rw [hi]
    exact nI_pred i
  have es : D (nu (xv x)) 1 + nI m = nI (p + m) := by rw [e1, nI_add]
  rw [es] at r3 r4
  rw [e1] at r3
  refine ⟨r3, ?_⟩
  rcases r4 with r4 | ⟨r4, r5⟩
  · rw [e0] at r4
    exact Or.inl ((nI_eq (by omega) (by omega)).mp r4)
  · refine Or.inr ⟨?_, ?_⟩
    · have hv := cli_v r4
      have hl : lastF (SS D (xv x)) (nI (p + m)) (D (nu (xv x)) 3) = tenF (SS D (xv x)) (nI (p + m - 1)) (cutF (SS D (xv x)) (nI (p + m - 1)) (nI (p + m)) (D (nu (xv x)) 3)) := by
        unfold lastF cutF
        rw [e9, nI_1, show p + m - 1 + 1 = p + m by omega, sumI_e Int32.lt_irrefl (nI_pos' (by omega)) (nI_pos' (by omega)), Int32.sub_zero]
        have hx : mxI 0 (D (nu (xv x)) 3) = D (nu (xv x)) 3 := by
          rw [← Int32.toInt_inj, mxI_z, show (0 : Int32).toInt = 0 from rfl]
          split <;> omega
        rw [hx]
      rw [hl] at hv
      exact hv
    · rw [e9] at r5
      exact r5
