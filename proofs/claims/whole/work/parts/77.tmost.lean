/-! ### the tie of mostCut -/
theorem mxI_le {x y : Int32} : x ≤ mxI x y ∧ y ≤ mxI x y := by
  unfold mxI
  by_cases h : x < y
  · rw [if_pos h]
    exact ⟨Int32.le_of_lt h, Int32.le_refl _⟩
  · rw [if_neg h]
    exact ⟨Int32.le_refl _, Int32.not_lt.mp h⟩
theorem mxI_or {x y : Int32} : mxI x y = x ∨ mxI x y = y := by
  unfold mxI
  by_cases h : x < y
  · rw [if_pos h]
    exact Or.inr rfl
  · rw [if_neg h]
    exact Or.inl rfl
/-- the greatest good cut over the counts is one of theirs, or none -/
theorem mcR_p {E : DT} {N : Int32 → Int32} {S W : Int32 → Int32 → Int32} {p : Nat} : ∀ k, (mcR E N S W p k = -100009 ∨ ∃ j, 1 ≤ j ∧ j ≤ k ∧ ¬ E (tP p 1) (E p 4 + nI j) ≤ 0 ∧ mcR E N S W p k = mgcF N S W (nI j) ∧ 0 ≤ mgcF N S W (nI j)) ∧ ∀ j, 1 ≤ j → j ≤ k → ¬ E (tP p 1) (E p 4 + nI j) ≤ 0 → mgcF N S W (nI j) ≤ mcR E N S W p k
  | 0 => ⟨Or.inl rfl, fun j h1 h2 => absurd h2 (by omega)⟩
  | k + 1 => by
    obtain ⟨h1, h2⟩ := mcR_p (E := E) (N := N) (S := S) (W := W) (p := p) k
    rw [mcR]
    by_cases h : E (tP p 1) (E p 4 + nI (k + 1)) ≤ 0
    · rw [if_pos h]
      refine ⟨?_, fun j j1 j2 j3 => ?_⟩
      · rcases h1 with h1 | ⟨j, j1, j2, j3⟩
        · exact Or.inl h1
        · exact Or.inr ⟨j, j1, by omega, j3⟩
      · rcases Nat.lt_or_ge j (k + 1) with q | q
        · exact h2 j j1 (by omega) j3
        · obtain rfl : j = k + 1 := by omega
          exact absurd h j3
    · rw [if_neg h]
      have m1 := mxI_le (x := mcR E N S W p k) (y := mgcF N S W (nI (k + 1)))
      refine ⟨?_, fun j j1 j2 j3 => ?_⟩
      · rcases mxI_or (x := mcR E N S W p k) (y := mgcF N S W (nI (k + 1))) with q | q
        · rw [q]
          rcases h1 with h1 | ⟨j, j1, j2, j3⟩
          · exact Or.inl h1
          · exact Or.inr ⟨j, j1, by omega, j3⟩
        · rw [q]
          rcases mgcF_ok (N := N) (S := S) (W := W) (m := nI (k + 1)) with z | z
          · exact Or.inl z
          · exact Or.inr ⟨k + 1, by omega, Nat.le_refl _, h, rfl, z.1⟩
      · rcases Nat.lt_or_ge j (k + 1) with q | q
        · exact Int32.le_trans (h2 j j1 (by omega) j3) m1.1
        · obtain rfl : j = k + 1 := by omega
          exact m1.2
theorem mgP_i {E : DT} {a b : Nat} {c : Int32} : ∀ n, mgP E a b c n ↔ ∃ j, 1 ≤ j ∧ j ≤ n ∧ ¬ E (mW a) (nI (21 + j)) ≤ 0 ∧ reaF (yN E a) (yS E a) (yW E a) (yN E a 1) (nI j) (yN E a 2) c (yN E a 6) = 0
  | 0 => ⟨fun h => h.elim, fun ⟨j, h1, h2, _⟩ => absurd h2 (by omega)⟩
  | n + 1 => by
    rw [mgP, mgP_i n]
    constructor
    · rintro (⟨j, h1, h2, h3⟩ | h)
      · exact ⟨j, h1, by omega, h3⟩
      · exact ⟨n + 1, by omega, Nat.le_refl _, h⟩
    · rintro ⟨j, h1, h2, h3⟩
      rcases Nat.lt_or_ge j (n + 1) with q | q
      · exact Or.inl ⟨j, h1, by omega, h3⟩
      · obtain rfl : j = n + 1 := by omega
        exact Or.inr h3
section TMC
variable {K : KT} {R0 : DT} {sa : Nat → Nat} {x a : Nat}
/-- row 1 of both tables agrees -/
theorem row_same {D E D' F : DT} {c v c' : Int32} (hv : Vw (D (nu (xv x))) (SS D (xv x)) (WW D (xv x)) (yN D' a) (yS D' a) (yW D' a)) (hN : Num (D (nu (xv x)))) (hE : FilX D E x c v) (hF : LayP D' F a c') (ec : c = c') (ev : v = yN D' a 6) (h30 : D (nu (xv x)) 2 < 30) {j : Nat} (j1 : 1 ≤ j) (j2 : j ≤ (D (nu (xv x)) 0).toNatClampNeg - (D (nu (xv x)) 1).toNatClampNeg) : E (tP (xP x) 1) (E (xP x) 4 + nI j) = F (mW a) (nI (21 + j)) := by
  subst ec ev
  obtain ⟨b, e, w, hb, he, hw, q1, q2, q3, hmo, hmo2, hb', he', hw'⟩ := Num.nats hN
  have hm : moN (D (nu (xv x))) = moN (yN D' a) := hv.mo
  have n0 : yN D' a 0 = nI e := by rw [← hv.n (i := 0) (by decide) (by decide), he]
  have n1 : yN D' a 1 = nI b := by rw [← hv.n (i := 1) (by decide) (by decide), hb]
  have m0 : (yN D' a 0).toNatClampNeg = e := by rw [n0, nI_clamp (by omega)]
  have m1 : (yN D' a 1).toNatClampNeg = b := by rw [n1, nI_clamp (by omega)]
  have w30 : w < 30 := by
    rw [hw] at h30
    exact (nI_ltI (b := 30) (by omega) (by decide)).mp h30
  rw [hb', he'] at j2
  unfold FilX at hE
  rw [hb', he'] at hE
  have t1 := hv.tab hN he (by omega) (hE.tab (by omega))
  obtain ⟨-, t2⟩ := hF
  rw [m0, m1, ← hm] at t2
  have v1 : vald b e (moN (D (nu (xv x)))) 1 (b + j) := ⟨by omega, by omega, by omega, fun q => absurd q (by omega)⟩
  obtain ⟨u1, -⟩ := tab_uniq (by omega) t1 t2 _ 1 (b + j) (Nat.le_refl _) v1
  obtain ⟨p1, ⟨p4, p5⟩, -⟩ := hE
  rw [p4, nI_add, ← nL1, tP_n (by omega)]
  refine (show _ = cP E (xP x) 1 (b + j) from rfl).trans (u1.trans ?_)
  unfold mPP
  rw [show b + j - b = j by omega]
theorem tie_mostCut : Tie K R0 sa x a t_X5_mostCut t_X6_mostCut [] := by
  intro G D hR hS Q2 hQ
  obtain ⟨hv, hA, hB, -⟩ := hR.see
  refine ⟨hA, ?_⟩
  have e2 := hv.n (i := 2) (by decide) (by decide)
  by_cases h : D (nu (xv x)) 2 < 30
  · rw [if_pos h]
    intro E hE
    have hRE := hR.fil hE
    have hI : Inv (D (nu (xv x))) (SS D (xv x)) (WW D (xv x)) := hR.2.1.2.1
    have ha := hR.1.2.2.1
    have eE : E (ms a) = D (ms a) := hE.1 _ (by unfold xP ms; omega) (by unfold xP ms; omega)
    have yE : yN E a = yN D a := eE
    have sE : yS E a = yS D a := by unfold yS; rw [eE]
    have wE : yW E a = yW D a := by unfold yW; rw [eE]
    have oE := (hE.at hA.2.1).2.1
    have nE : E (nu (xv x)) = D (nu (xv x)) := oE _ (by unfold nu xv mv xN xP; omega)
    have hIE : Inv (E (nu (xv x))) (SS E (xv x)) (WW E (xv x)) := hRE.2.1.2.1
    refine ⟨hRE.see.2.2.1.1, fun F hF => ⟨fun q => absurd (by rw [yE, ← e2]; exact h) q, fun _ => ?_⟩⟩
    have hvE : Vw (D (nu (xv x))) (SS D (xv x)) (WW D (xv x)) (yN E a) (yS E a) (yW E a) := by
      rw [yE, sE, wE]
      exact hv
    obtain ⟨-, -, hvF, -⟩ := hR.same hE hF (c' := 0) (v := D (nu (xv x)) 6) rfl rfl
    obtain ⟨y1, y2, y3, y4, y5, y6⟩ := hIE.1
    have h30 : E (nu (xv x)) 2 < 30 := by rw [nE]; exact h
    have hrow : ∀ j, 1 ≤ j → j ≤ (D (nu (xv x)) 0).toNatClampNeg - (D (nu (xv x)) 1).toNatClampNeg → E (tP (xP x) 1) (E (xP x) 4 + nI j) = F (mW a) (nI (21 + j)) := fun j j1 j2 => row_same hvE hA.2.1 hE hF rfl (hvE.n (i := 6) (by decide) (by decide)) h j1 j2
    obtain ⟨b, e, w, hb, he, hw, q1, q2, q3, hmo, hmo2, hb', he', hw'⟩ := Num.nats hA.2.1
    have hM : (D (nu (xv x)) 0 - D (nu (xv x)) 1).toNatClampNeg = e - b := by
      rw [he, hb, pk_sub q1, nI_clamp (by omega)]
    have hM2 : (yN E a 0).toNatClampNeg - (yN E a 1).toNatClampNeg = e - b := by
      rw [← hvE.n (i := 0) (by decide) (by decide), ← hvE.n (i := 1) (by decide) (by decide), hb', he']
    rw [hb', he'] at hrow
    rw [hM, hM2]
    have hrea : ∀ m c : Int32, reaF (E (nu (xv x))) (SS E (xv x)) (WW E (xv x)) (E (nu (xv x)) 1) m (E (nu (xv x)) 2) c (E (nu (xv x)) 6) = reaF (yN F a) (yS F a) (yW F a) (yN F a 1) m (yN F a 2) c (yN F a 6) := fun m c => by
      rw [hvF.rea y1 y2 y3 y4 h30, hvF.n (i := 1) (by decide) (by decide), hvF.n (i := 2) (by decide) (by decide), hvF.n (i := 6) (by decide) (by decide)]
    have hmn : ∀ j, 1 ≤ j → j ≤ e - b → ¬ nI j < 1 ∧ nI j ≤ E (nu (xv x)) 0 - E (nu (xv x)) 1 := fun j j1 j2 => by
      rw [nE, he, hb, pk_sub q1]
      exact ⟨fun q => absurd ((nI_ltI (b := 1) (by omega) (by decide)).mp q) (by omega), (nI_leI (by omega) (by omega)).mpr j2⟩
    obtain ⟨r1, r2⟩ := mcR_p (E := E) (N := E (nu (xv x))) (S := SS E (xv x)) (W := WW E (xv x)) (p := xP x) (e - b)
    have top : ∀ d : Nat, d ≤ 999 → mgP F a (yN E a 1).toNatClampNeg (nI d) (e - b) → nI d ≤ mcR E (E (nu (xv x))) (SS E (xv x)) (WW E (xv x)) (xP x) (e - b) := by
      intro d d9 hd
      obtain ⟨j, j1, j2, j3, j4⟩ := (mgP_i _).mp hd
      rw [← hrow j j1 j2] at j3
      refine Int32.le_trans ?_ (r2 j j1 j2 j3)
      obtain ⟨z1, z2⟩ := hmn j j1 j2
      exact mgcF_top hIE h30 z1 z2 (nI_pos' (by omega)) ((nI_leI (b := 999) (by omega) (by decide)).mpr d9) (by rw [hrea]; exact j4)
    generalize hu : mcR E (E (nu (xv x))) (SS E (xv x)) (WW E (xv x)) (xP x) (e - b) = u at r1 top ⊢
    have hRF := hRE.lay hF
    rcases r1 with r1 | ⟨j, j1, j2, j3, j4, j5⟩
    · subst r1
      refine ⟨fun c c9 hc _ => ?_, fun _ => hQ _ G F hRF⟩
      have := top c c9 hc
      exact absurd (Int32.le_trans (nI_pos' (n := c) (by omega)) this) (by decide)
    · obtain ⟨k, k9, hk⟩ : ∃ k : Nat, k ≤ 999 ∧ u = nI k := by
        rcases mgcF_ok (N := E (nu (xv x))) (S := SS E (xv x)) (W := WW E (xv x)) (m := nI j) with z | ⟨z1, z2, -⟩
        · rw [z] at j5
          exact absurd j5 (by decide)
        · obtain ⟨k, hk, ek⟩ := nI_of (x := mgcF (E (nu (xv x))) (SS E (xv x)) (WW E (xv x)) (nI j)) (Int32.not_lt.mpr z1)
          rw [ek] at z2
          exact ⟨k, (nI_leI (b := 999) hk (by decide)).mp z2, by rw [j4, ek]⟩
      have hg : mgP F a (yN E a 1).toNatClampNeg (nI k) (e - b) := by
        rw [mgP_i]
        refine ⟨j, j1, j2, by rw [← hrow j j1 j2]; exact j3, ?_⟩
        rw [← hrea, ← hk, j4]
        rcases mgcF_ok (N := E (nu (xv x))) (S := SS E (xv x)) (W := WW E (xv x)) (m := nI j) with z | ⟨-, -, z⟩
        · rw [z] at j5
          exact absurd j5 (by decide)
        · exact z
      subst hk
      refine ⟨fun c c9 hc hn => ?_, fun hn => absurd hg (hn k k9)⟩
      have t1 := (nI_leI (by omega) (by omega)).mp (top c c9 hc)
      rcases Nat.lt_or_ge c k with z | z
      · exact absurd hg (hn k z k9)
      · obtain rfl : c = k := by omega
        exact hQ _ G F hRF
  · rw [if_neg h]
    refine ⟨hB.1, fun F hF => ⟨fun _ => hQ _ G F (hR.lay hF), fun q => absurd (by rw [e2]; exact q) h⟩⟩
end TMC
