/-! ### the tie of tooHigh -/
theorem reaF_n {N N' : Int32 → Int32} {S W : Int32 → Int32 → Int32} {f n w c v : Int32} (h0 : N 0 = N' 0) (h5 : N 5 = N' 5) : reaF N S W f n w c v = reaF N' S W f n w c v := by
  unfold reaF cliD roomF
  rw [h0, h5]
theorem Vw.six {E : DT} {a : Nat} {v : Int32} : Vw (yN E a) (yS E a) (yW E a) (fun i => if i = 6 then yN E a 6 else yN (uD E (ms a) 6 v) a i) (yS (uD E (ms a) 6 v) a) (yW (uD E (ms a) 6 v) a) := by
  have n6 : ∀ i : Int32, ¬ i.toInt = 6 → uD E (ms a) 6 v (ms a) i = E (ms a) i := fun i hi => by rw [uD_s, if_neg (fun q => hi q.symm)]
  refine ⟨fun i i0 i1 => ?_, fun r i r0 r1 i0 i1 => ?_, fun r w r0 r1 w0 w1 => ?_⟩
  · by_cases q : i = 6
    · subst q
      rfl
    · show _ = if i = 6 then _ else _
      rw [if_neg q]
      exact (n6 i (fun z => q ((i_eq i 6).mpr z))).symm
  · exact (yS_u (D := E) (a := a) (j := 6) (m := v) (r := r) (i := i) (by decide) r0 r1 i0 i1).symm
  · have q : (17 + 4 * w + r).toInt = 17 + 4 * w.toInt + r.toInt := by
      (simp only [i_lt, i_le, i_eq, i_cl, Int32.reduceToInt, ne_eq] at * <;> (first | omega | (simp (disch := (first | omega | (simp (disch := (first | omega | (simp (disch := (first | omega | (simp only [Int32.reduceToInt]; omega))) only [a_add, a_sub, a_mul, a_neg, i_lt, i_le, i_eq, i_cl, Int32.reduceToInt, Int32.reduceToNatClampNeg]; omega))) only [a_add, a_sub, a_mul, a_neg, i_lt, i_le, i_eq, i_cl, Int32.reduceToInt, Int32.reduceToNatClampNeg]; omega))) only [a_add, a_sub, a_mul, a_neg, i_lt, i_le, i_eq, i_cl, Int32.reduceToInt, Int32.reduceToNatClampNeg] at * <;> (first | omega | (simp (disch := (first | omega | (simp (disch := (first | omega | (simp (disch := (first | omega | (simp only [Int32.reduceToInt]; omega))) only [a_add, a_sub, a_mul, a_neg, i_lt, i_le, i_eq, i_cl, Int32.reduceToInt, Int32.reduceToNatClampNeg]; omega))) only [a_add, a_sub, a_mul, a_neg, i_lt, i_le, i_eq, i_cl, Int32.reduceToInt, Int32.reduceToNatClampNeg]; omega))) only [a_add, a_sub, a_mul, a_neg, i_lt, i_le, i_eq, i_cl, Int32.reduceToInt, Int32.reduceToNatClampNeg] at * <;> omega)))))
    simp only [i_le, Int32.reduceToInt] at w0 r0
    unfold yW
    exact (n6 _ (by rw [q]; omega)).symm
theorem lev_same {D E E1 F : DT} {x a : Nat} {c v : Int32} (hv : Vw (D (nu (xv x))) (SS D (xv x)) (WW D (xv x)) (yN E a) (yS E a) (yW E a)) (hN : Num (D (nu (xv x)))) (hE : FilX D E1 x c v) (hF : LayP (uD E (ms a) 6 v) F a c) : pfV E1 (xP x) = 0 ↔ pmV F a = 0 := by
  obtain ⟨b, e, w, hb, he, hw, q1, q2, q3, hmo, hmo2, hb', he', hw'⟩ := Num.nats hN
  have hN2 := hv.num hN
  have hm : moN (D (nu (xv x))) = moN (yN E a) := hv.mo
  have n0 : yN E a 0 = nI e := by rw [← hv.n (i := 0) (by decide) (by decide), he]
  have n1 : yN E a 1 = nI b := by rw [← hv.n (i := 1) (by decide) (by decide), hb]
  have n2 : yN E a 2 = nI w := by rw [← hv.n (i := 2) (by decide) (by decide), hw]
  have m0 : (yN E a 0).toNatClampNeg = e := by rw [n0, nI_clamp (by omega)]
  have m1 : (yN E a 1).toNatClampNeg = b := by rw [n1, nI_clamp (by omega)]
  have o : ∀ i : Int32, ¬ i = 6 → yN (uD E (ms a) 6 v) a i = yN E a i := fun i hi => by
    show uD E (ms a) 6 v (ms a) i = _
    rw [uD_s, if_neg (fun q => hi ((i_eq i 6).mpr q.symm))]
    rfl
  have o6 : yN (uD E (ms a) 6 v) a 6 = v := uD_eq
  have fms : F (ms a) = uD E (ms a) 6 v (ms a) := hF.off (Or.inr (Or.inr (Or.inl rfl)))
  have f0 : yN F a 0 = nI e := by show F (ms a) 0 = _; rw [fms]; exact (o 0 (by decide)).trans n0
  have f1 : yN F a 1 = nI b := by show F (ms a) 1 = _; rw [fms]; exact (o 1 (by decide)).trans n1
  unfold FilX at hE
  rw [hb', he'] at hE
  have t1 := hv.tab hN he (by omega) (hE.tab (by omega))
  obtain ⟨-, t2⟩ := hF
  have hmD : moN (yN (uD E (ms a) 6 v) a) = moN (yN E a) := by unfold moN; rw [o 0 (by decide), o 1 (by decide), o 2 (by decide)]
  rw [o6, o 0 (by decide), o 1 (by decide), hmD, m0, m1, ← hm] at t2
  have hs := Vw.six (E := E) (a := a) (v := v)
  have t3 := t2.to (rea' := reaT (yN E a) (yS E a) (yW E a) c v) (lt' := lasT (yS E a) c) (fun j f m j1 g1 g2 g3 => ⟨by
    unfold reaT
    rw [o 2 (by decide), n2, nI_add]
    refine (reaF_n (N' := fun i => if i = 6 then yN E a 6 else yN (uD E (ms a) 6 v) a i) rfl rfl).trans (hs.rea (nI_pos' (by omega)) ?_ hN2.2.2.1 (nI_pos' (by omega)) ((nI_ltI (b := 30) (by omega) (by decide)).mpr (by omega))).symm
    rw [n0]
    exact (nI_leI (by omega) (by omega)).mpr (by omega), by
    unfold lasT
    rw [nI_add]
    exact (hs.last ((nI_ltI (a := 0) (by omega) (by omega)).mpr (by omega)) ((nI_leI (b := 20) (by omega) (by decide)).mpr (by omega))).symm⟩)
  have hmo3 : b + moN (D (nu (xv x))) ≤ e := by omega
  have v0 : vald b e (moN (D (nu (xv x)))) 0 b := ⟨by omega, by omega, q1, fun _ => rfl⟩
  obtain ⟨u1, -⟩ := tab_uniq (by omega) t1 t3 _ 0 b (Nat.le_refl _) v0
  obtain ⟨⟨z1, -⟩, -⟩ := tab_b (by omega) hmo3 t1 _ 0 b (Nat.le_refl _) v0
  have z1 : 0 ≤ cP E1 (xP x) 0 b := (i_le 0 _).mpr z1
  have w0 : mPP F a b 0 b = F (mW a) 0 := by
    unfold mPP
    rw [Nat.sub_self]
    rfl
  obtain ⟨p1, ⟨p4, p5⟩, -⟩ := hE
  have hpf : pfV E1 (xP x) = if nI e ≤ nI b then 0 else cP E1 (xP x) 0 b := by
    unfold pfV
    rw [p4, p5, ← nL0, tP_n (by omega)]
    rfl
  unfold pmV
  rw [hpf, f0, f1, ← w0, ← u1, pk_sub q1]
  by_cases h : nI e ≤ nI b
  · have hle := (nI_leI (by omega) (by omega)).mp h
    have hg : nI (e - b) ≤ 0 := (nI_leI (a := e - b) (b := 0) (by omega) (by omega)).mpr (by omega)
    rw [if_pos h, if_pos hg]
  · have hlt : b < e := Nat.lt_of_not_le (fun q => h ((nI_leI (by omega) (by omega)).mpr q))
    have hg : ¬ nI (e - b) ≤ 0 := fun q => absurd ((nI_leI (a := e - b) (b := 0) (by omega) (by omega)).mp q) (by omega)
    rw [if_neg h, if_neg hg]
    by_cases h0 : cP E1 (xP x) 0 b ≤ 0
    · rw [if_pos h0]
      exact ⟨fun _ => rfl, fun _ => Int32.le_antisymm h0 z1⟩
    · rw [if_neg h0]
      exact ⟨fun q => absurd (by rw [q]; decide) h0, fun q => absurd q (by decide)⟩
