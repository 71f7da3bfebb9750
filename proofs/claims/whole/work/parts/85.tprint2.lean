/-! ### the tie of print, ended -/
section TPR
variable {K : KT} {R0 : DT} {sa : Nat → Nat} {x a : Nat}
theorem Rel.vwR {G : GT} {D : DT} (hR : Rel K G D x a) : Vw (rD G D x (nu (xv x))) (SS (rD G D x) (xv x)) (WW (rD G D x) (xv x)) (yN D a) (yS D a) (yW D a) := by
  obtain ⟨st, sh, slot, -, -, -, -, -, r8, -, ⟨s0, s1⟩, -⟩ := rec_s hR
  obtain ⟨-, e1, y1, y2, y3, -⟩ := hR.to6 (D' := rD G D x) (fun _ _ _ => rfl)
  have h := (hR.2.1.1.1.keep (E := rD G D x) (fun z z0 z1 => r8 z (by unfold mv xN at z1; omega) (by unfold mv xN at z1; unfold xH; omega)) e1).vw
  rw [y1, y2, y3] at h
  exact h
theorem Rel.nuI {G : GT} {D : DT} (hR : Rel K G D x a) {i : Nat} (hi : i < 17) : D (nu (xv x)) (nI i) = gM D a i := by
  rw [← hR.img (by omega), novI_n hi]
/-- the class's numbers ahead of the week's end -/
theorem cl_pri {G : GT} {D : DT} {f e k : Nat} {wd : Int32} (hR : Rel K G D x a) (hf : f < e) (he : e ≤ 20) (hk : k < 257) : novI (uD (uD (uD (uD (uD (uD (prD (rD G D x) (xv x) (nI f) (nI e) (nI e)) (nu (xv x)) (nI 1) (nI e)) (nu (xv x)) (nI 4) 0) (nu (xv x)) (nI 10) (D (nu (xv x)) (nI 10) + wd)) (nu (xv x)) (nI 11) (D (nu (xv x)) (nI 11) + D (nu (xv x)) (nI 3))) (nu (xv x)) (nI 12) (D (nu (xv x)) (nI 12) + 1)) (nu (xv x)) (nI 15) (D (nu (xv x)) (nI 15) + (D (nu (xv x)) (nI 8) * wd + 10 * prD (rD G D x) (xv x) (nI f) (nI e) (nI e) (sc (xv x) (nI 3)) (nI (e - 1))))) (xv x) k = if k = 4 then 0 else prG (yS D a) (gM D a) f e wd k := by
  have hP : ∀ k, k < 257 → novI (prD (rD G D x) (xv x) (nI f) (nI e) (nI e)) (xv x) k = prS (yS D a) (gM D a) (gM D a 2) (gM D a 3) f e e k := fun k hk => by
    rw [prD_img hk (by omega) he, hR.nuR]
    refine (prS_c hR.vwR he (hR.imgR hk)).trans ?_
    rw [← hR.nuI (i := 2) (by omega), ← hR.nuI (i := 3) (by omega)]
    rfl
  have hB : prD (rD G D x) (xv x) (nI f) (nI e) (nI e) (sc (xv x) (nI 3)) (nI (e - 1)) = prS (yS D a) (gM D a) (gM D a 2) (gM D a 3) f e e (137 + 6 * (e - 1) + 3) := by
    rw [← hP _ (by omega), novI_s (by omega) (by omega), sc_n (by omega)]
  rw [novI_N (by omega) hk, novI_N (by omega) hk, novI_N (by omega) hk, novI_N (by omega) hk, novI_N (by omega) hk, novI_N (by omega) hk, hP k hk, hB, hR.nuI (i := 10) (by omega), hR.nuI (i := 11) (by omega), hR.nuI (i := 3) (by omega), hR.nuI (i := 12) (by omega), hR.nuI (i := 15) (by omega), hR.nuI (i := 8) (by omega)]
  unfold prG
  by_cases k4 : k = 4
  · subst k4
    rfl
  · rw [if_neg k4, if_neg k4]
    by_cases k1 : k = 1
    · subst k1
      rfl
    · rw [if_neg k1, if_neg k1]
theorem mo_pri {D' P : DT} {f e k : Nat} {wd : Int32} {S : Int32 → Int32 → Int32} (hP : ∀ i, i < 773 → P (ms a) (nI i) = prS S (gM D' a) (gM D' a 2) (gM D' a 3) f e e i) (he : e ≤ 20) (he0 : 1 ≤ e) (hk : k < 773) : gM (prE D' P a wd (nI e)) a k = prG S (gM D' a) f e wd k := by
  have e1 : nI e - 1 = nI (e - 1) := by
    rw [← nL1, pk_sub he0]
  have e2 : yS P a 3 (nI e - 1) = prS S (gM D' a) (gM D' a 2) (gM D' a 3) f e e (137 + 6 * (e - 1) + 3) := by
    rw [e1, ← nL3, yS_n, hP _ (by omega)]
  show uD (uD (uD (uD (uD P (ms a) (nI 10) (D' (ms a) (nI 10) + wd)) (ms a) (nI 11) (D' (ms a) (nI 11) + D' (ms a) (nI 3))) (ms a) (nI 12) (D' (ms a) (nI 12) + 1)) (ms a) (nI 15) (D' (ms a) (nI 15) + (D' (ms a) (nI 8) * wd + 10 * yS P a 3 (nI e - 1)))) (ms a) (nI 1) (nI e) (ms a) (nI k) = _
  rw [uM_n (by omega) hk, uM_n (by omega) hk, uM_n (by omega) hk, uM_n (by omega) hk, uM_n (by omega) hk, e2, hP k hk]
  rfl
theorem prD_o2 {D : DT} {n b : Nat} {f e k : Int32} (h : b < n + 1 ∨ n + 14 ≤ b) : prD D n f e k b = D b := by
  have s3 : sc n 3 = n + 3 + 3 := sc_n (r := 3) (by omega)
  have s4 : sc n 4 = n + 3 + 4 := sc_n (r := 4) (by omega)
  have s5 : sc n 5 = n + 3 + 5 := sc_n (r := 5) (by omega)
  exact prD_o (by rw [s3]; omega) (by rw [s4]; omega) (by rw [s5]; omega)
theorem tie_print : Tie K R0 sa x a t_X5_print t_X6_print [] := by
  intro G D hR hS Q2 hQ
  obtain ⟨hv, hA, hB, -⟩ := hR.see
  obtain ⟨y1, y2, y3, y4, y5, y6⟩ := id hA.2.1
  refine ⟨hA, ?_⟩
  have es : setV (D (nu (xv x))) = setV (yN D a) := hv.setv
  have n0 := hv.n (i := 0) (by decide) (by decide)
  have n1 := hv.n (i := 1) (by decide) (by decide)
  have n2 := hv.n (i := 2) (by decide) (by decide)
  have n3 := hv.n (i := 3) (by decide) (by decide)
  have n4 := hv.n (i := 4) (by decide) (by decide)
  have eg := hv.goo hA.2.1 (m := D (nu (xv x)) 4)
  by_cases h1 : setV (D (nu (xv x))) = 0
  · rw [if_pos h1]
    refine ⟨hB, ?_⟩
    rw [← es, if_pos h1]
    exact hQ _ G D hR
  · rw [if_neg h1]
    by_cases h2 : gooD (D (nu (xv x))) (SS D (xv x)) (WW D (xv x)) (D (nu (xv x)) 4) = 0
    · rw [if_pos h2]
      refine ⟨hB, ?_⟩
      rw [← es, if_neg h1, ← n4, ← eg, if_pos h2]
      exact hQ _ G D hR
    · rw [if_neg h2]
      obtain ⟨g1, g2, g3⟩ := good_1 h2
      obtain ⟨f, e9, c, hb, he, hw, q1, q2, q3, -, -, hb', he', hw'⟩ := Num.nats hA.2.1
      obtain ⟨m, hm, em⟩ := nI_of (x := D (nu (xv x)) 4) (Int32.not_lt.mpr y6)
      have c30 : c < 30 := by
        rw [hw] at g1
        exact (nI_ltI (b := 30) (by omega) (by decide)).mp g1
      have m1 : 1 ≤ m := by
        rw [em] at g2
        have : ¬ m < 1 := fun q => g2 ((nI_ltI (b := 1) hm (by decide)).mpr q)
        omega
      have m2 : f + m ≤ e9 := by
        rw [em, he, hb, pk_sub q1] at g3
        have := (nI_leI hm (by omega)).mp g3
        omega
      have ee : D (nu (xv x)) 1 + D (nu (xv x)) 4 = nI (f + m) := by rw [hb, em, nI_add]
      have eR := hR.nuR
      obtain ⟨wd, hwd⟩ : ∃ wd, wdF (D (nu (xv x))) (SS (rD G D x) (xv x)) (D (nu (xv x)) 4) = wd := ⟨_, rfl⟩
      have hwd2 : wdF (yN D a) (yS D a) (yN D a 4) = wd := by
        rw [← hwd]
        unfold wdF
        rw [← n1, ← n4, ee, ← n3, hR.vwR.sum (r := 0) (by decide) (by decide) y1 (nI_pos' (by omega)) ((nI_leI (b := 20) (by omega) (by decide)).mpr (by omega))]
      have eD : priD (rD G D x) (xv x) (D (nu (xv x)) 4) = passD (uD (uD (uD (uD (uD (uD (prD (rD G D x) (xv x) (nI f) (nI (f + m)) (nI (f + m))) (nu (xv x)) (nI 1) (nI (f + m))) (nu (xv x)) (nI 4) 0) (nu (xv x)) (nI 10) (D (nu (xv x)) (nI 10) + wd)) (nu (xv x)) (nI 11) (D (nu (xv x)) (nI 11) + D (nu (xv x)) (nI 3))) (nu (xv x)) (nI 12) (D (nu (xv x)) (nI 12) + 1)) (nu (xv x)) (nI 15) (D (nu (xv x)) (nI 15) + (D (nu (xv x)) (nI 8) * wd + 10 * prD (rD G D x) (xv x) (nI f) (nI (f + m)) (nI (f + m)) (sc (xv x) (nI 3)) (nI (f + m - 1))))) (xv x) wd (nI m) := by
        have e1 : nI (f + m) - 1 = nI (f + m - 1) := by
          rw [← nL1, pk_sub (by omega)]
        rw [← e1]
        unfold priD
        rw [eR, hwd, ee, em, hb]
        rfl
      rw [hwd, eD]
      generalize hC : uD (uD (uD (uD (uD (uD (prD (rD G D x) (xv x) (nI f) (nI (f + m)) (nI (f + m))) (nu (xv x)) (nI 1) (nI (f + m))) (nu (xv x)) (nI 4) 0) (nu (xv x)) (nI 10) (D (nu (xv x)) (nI 10) + wd)) (nu (xv x)) (nI 11) (D (nu (xv x)) (nI 11) + D (nu (xv x)) (nI 3))) (nu (xv x)) (nI 12) (D (nu (xv x)) (nI 12) + 1)) (nu (xv x)) (nI 15) (D (nu (xv x)) (nI 15) + (D (nu (xv x)) (nI 8) * wd + 10 * prD (rD G D x) (xv x) (nI f) (nI (f + m)) (nI (f + m)) (sc (xv x) (nI 3)) (nI (f + m - 1)))) = C
      have hCi : ∀ k, k < 257 → novI C (xv x) k = if k = 4 then 0 else prG (yS D a) (gM D a) f (f + m) wd k := fun k hk => by
        rw [← hC]
        exact cl_pri hR (by omega) (by omega) hk
      have g2c : gM D a 2 = nI c := by
        rw [← hw]
        exact n2.symm
      have pg2 : prG (yS D a) (gM D a) f (f + m) wd 2 = nI c := by
        rw [prG_o (by omega)]
        exact g2c
      have c2 : C (nu (xv x)) 2 = nI c := by
        have := hCi 2 (by omega)
        rw [if_neg (by omega), pg2, novI_n (by omega)] at this
        exact this
      have hb0 : ∀ b, (b < xv x + 1 ∨ xv x + 14 ≤ b) → passD C (xv x) wd (nI m) b = rD G D x b := fun b hb => by
        rw [passD_o hb, ← hC, uD_o (by unfold nu; omega), uD_o (by unfold nu; omega), uD_o (by unfold nu; omega), uD_o (by unfold nu; omega), uD_o (by unfold nu; omega), uD_o (by unfold nu; omega), prD_o2 hb]
      obtain ⟨z1, z2, z3, z4, z5, z6, z7, -⟩ := hR.to6 (nov_m hb0)
      refine ⟨z1, ?_⟩
      rw [z3, z4, z5, ← es, if_neg h1, ← n4, ← eg, if_neg h2]
      intro P E hP hE
      rw [n4, hwd2] at hE
      rw [n4, hwd2]
      rw [← n1, ← n4, ee] at hE
      rw [← n1, ee] at hP
      rw [hb, nI_clamp (by omega), nI_clamp (by omega)] at hP
      rw [em] at hE
      have hPi : ∀ i, i < 773 → P (ms a) (nI i) = prS (yS D a) (gM (passD C (xv x) wd (nI m)) a) (gM (passD C (xv x) wd (nI m)) a 2) (gM (passD C (xv x) wd (nI m)) a 3) f (f + m) (f + m) i := fun i hi => by
        have := hP.2 i hi
        rw [z4] at this
        exact this
      have hE1 : ∀ k, k < 773 → gM (prE (passD C (xv x) wd (nI m)) P a wd (nI (f + m))) a k = prG (yS D a) (gM D a) f (f + m) wd k := fun k hk => by
        have := mo_pri (wd := wd) hPi (by omega) (by omega) hk
        rw [z7] at this
        exact this
      refine hQ _ _ E (act_nv hR hb0 hE (F := fun k => if k = 4 then 0 else pasF (prG (yS D a) (gM D a) f (f + m) wd) c wd (nI m) k) (fun k hk => ?_) (fun k k0 k1 => ?_) (fun k hk => ?_) (pas_inv (prG_inv (n0 := e9) hR.invI (fun j hj => ?_) ?_ m2 q2) pg2 c30))
      · refine (passM_img (c := c) ?_ c30 hk).trans ?_
        · have := hE1 2 (by omega)
          rw [pg2] at this
          exact this
        · by_cases k4 : k = 4
          · rw [if_pos k4, if_pos k4]
          · rw [if_neg k4, if_neg k4]
            exact pasF_c (B := 773) (by omega) (fun i hi _ => hE1 i hi) hk k4
      · show (if k = 4 then 0 else pasF _ c wd (nI m) k) = _
        unfold pasF
        rw [if_neg (by omega), if_neg (by omega), if_neg (by omega), if_neg (by omega), if_neg (by omega), if_neg (by omega), if_neg (by omega), prG_o (by omega)]
      · rw [passD_img c2 c30 hk]
        by_cases k4 : k = 4
        · subst k4
          rw [if_pos rfl, pasF_4]
          exact hCi 4 (by omega)
        · rw [if_neg k4]
          exact pasF_c (B := 257) (by omega) (fun i hi i4 => by rw [hCi i hi, if_neg i4]) hk k4
      · rw [← nL3, yS_n]
        rfl
      · rw [← he]
        exact n0.symm
end TPR
