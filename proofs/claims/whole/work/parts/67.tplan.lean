/-! ### the tie of the plans -/
theorem Rel.fil {K : KT} {G : GT} {D E : DT} {x a : Nat} {c v : Int32} (h : Rel K G D x a) (hE : FilX D E x c v) : Rel K G E x a := by
  have ha := h.1.2.2.1
  obtain ⟨h1, -⟩ := hE
  refine h.keep (fun z hz => h1 z (by unfold xP; omega) (Or.inl (by unfold xP; omega))) (fun z hz => h1 z ?_ ?_)
  · rcases hz with rfl | rfl | rfl | rfl <;> first | (unfold xP; omega) | (unfold xP ms; omega) | (unfold xP mw; omega) | (unfold xP mx; omega)
  · rcases hz with rfl | rfl | rfl | rfl <;> first | (unfold xP; omega) | (unfold xP ms; omega) | (unfold xP mw; omega) | (unfold xP mx; omega)
theorem LayP.off {D E : DT} {a z : Nat} {c : Int32} (h : LayP D E a c) (hz : z < a ∨ z = a ∨ z = ms a ∨ z = mw a ∨ z = mx a) : E z = D z := by
  refine h.1 z ?_ ?_ ?_ ?_
  · unfold mF; unfold ms mw mx at hz; omega
  · unfold mG; unfold ms mw mx at hz; omega
  · unfold mT; unfold ms mw mx at hz; omega
  · unfold mW; unfold ms mw mx at hz; omega
theorem Rel.lay {K : KT} {G : GT} {D E : DT} {x a : Nat} {c : Int32} (h : Rel K G D x a) (hE : LayP D E a c) : Rel K G E x a := by
  have ha := h.1.2.2.1
  exact h.keep (fun z hz => hE.off (Or.inl (by omega))) (fun z hz => hE.off (Or.inr hz))
theorem Rel.same {K : KT} {G : GT} {D E F : DT} {x a : Nat} {c v c' : Int32} (h : Rel K G D x a) (hE : FilX D E x c v) (hF : LayP E F a c') (ec : c = c') (ev : v = D (nu (xv x)) 6) : Same E F x a ∧ E (nu (xv x)) = D (nu (xv x)) ∧ Vw (E (nu (xv x))) (SS E (xv x)) (WW E (xv x)) (yN F a) (yS F a) (yW F a) ∧ Act K G E x := by
  have ha := h.1.2.2.1
  obtain ⟨hv, hA, -, -⟩ := h.see
  have hRE := h.fil hE
  obtain ⟨hv2, hA2, -, -⟩ := hRE.see
  have eF : F (ms a) = E (ms a) := hF.off (Or.inr (Or.inr (Or.inl rfl)))
  have eE : E (ms a) = D (ms a) := hE.1 _ (by unfold xP ms; omega) (by unfold xP ms; omega)
  have yE : yN E a = yN D a := eE
  have sE : yS E a = yS D a := by unfold yS; rw [eE]
  have wE : yW E a = yW D a := by unfold yW; rw [eE]
  have yF : yN F a = yN E a := eF
  have sF : yS F a = yS E a := by unfold yS; rw [eF]
  have wF : yW F a = yW E a := by unfold yW; rw [eF]
  have e0 : E (nu (xv x)) = D (nu (xv x)) := (hE.at hA.2.1).2.1 _ (by unfold nu xv mv xN xP; omega)
  refine ⟨same_of (D' := E) (by rw [yE, sE, wE]; exact hv) hA.2.1 hE hF ec ?_ eF, e0, by rw [yF, sF, wF]; exact hv2, hA2⟩
  rw [ev, yE]
  exact hv.n (by decide) (by decide)
section TPL
variable {K : KT} {R0 : DT} {sa : Nat → Nat} {x a : Nat}
theorem Rel.n3 {G : GT} {D E : DT} {c v : Int32} (h : Rel K G D x a) (hE : FilX D E x c v) : D (nu (xv x)) 3 = yN E a 3 := by
  have ha := h.1.2.2.1
  have eE : E (ms a) = D (ms a) := hE.1 _ (by unfold xP ms; omega) (by unfold xP ms; omega)
  show _ = E (ms a) 3
  rw [eE]
  exact h.see.1.n (by decide) (by decide)
theorem tie_plans : Tie K R0 sa x a t_X5_plans t_X6_plans [] := by
  intro G D hR hS Q2 hQ
  obtain ⟨hv, hA, hB, -⟩ := hR.see
  refine ⟨hA, fun E hE => ?_⟩
  have hRE := hR.fil hE
  refine ⟨hRE.see.2.2.1.1, fun F hF => ?_⟩
  obtain ⟨⟨s1, -⟩, -⟩ := hR.same hE hF (hR.n3 hE) rfl
  exact q2_e (hQ _ G F (hRE.lay hF)) s1
/-- the words of an instalment, on both sides -/
theorem pw_same {E F : DT} {b i : Nat} (hv : Vw (E (nu (xv x))) (SS E (xv x)) (WW E (xv x)) (yN F a) (yS F a) (yW F a)) (hs : ∀ k, k ≤ i → stR E (xP x) k = nI (mst F a b k) ∧ mst F a b k ≤ 20) : ∀ k, k < i → pwF E x k = pwM F a b k := by
  intro k hk
  obtain ⟨a1, a2⟩ := hs k (by omega)
  obtain ⟨a3, a4⟩ := hs (k + 1) (by omega)
  unfold pwF pwM
  rw [a1, a3]
  have e0 := hv.sum (r := 0) (f := nI (mst F a b k)) (e := nI (mst F a b (k + 1))) (by decide) (by decide) (nI_pos' (by omega)) (nI_pos' (by omega)) ((nI_leI (b := 20) (by omega) (by decide)).mpr a4)
  rw [e0]
  by_cases q : k = 0
  · rw [if_pos q, if_pos q, hv.n (i := 3) (by decide) (by decide)]
  · rw [if_neg q, if_neg q, Int32.sub_zero]
theorem mo_same {E F : DT} {b i : Nat} (hv : Vw (E (nu (xv x))) (SS E (xv x)) (WW E (xv x)) (yN F a) (yS F a) (yW F a)) (hs : ∀ k, k ≤ i → stR E (xP x) k = nI (mst F a b k) ∧ mst F a b k ≤ 20) : ∀ k, k ≤ i → moW E x k = mmW F a b k ∧ moO E x k = mmO F a b k ∧ moF E x k = mmF F a b k
  | 0, _ => ⟨rfl, hv.n (i := 9) (by decide) (by decide), rfl⟩
  | k + 1, hk => by
    obtain ⟨h1, h2, h3⟩ := mo_same hv hs k (by omega)
    have hp := pw_same hv hs k (by omega)
    have ho : moO E x (k + 1) = mmO F a b (k + 1) := by rw [moO, mmO, h2, hp, hv.owd]
    exact ⟨by rw [moW, mmW, h1, hp], ho, by rw [moF, mmF, h3, ho]⟩
theorem tie_plan (q : Int32) : Tie K R0 sa x a t_X5_plan t_X6_plan [.int q] := by
  intro G D hR hS Q2 hQ
  obtain ⟨hv, hA, hB, -⟩ := hR.see
  refine ⟨hA, ?_⟩
  by_cases h0 : q < 0
  · rw [if_pos h0]
    refine ⟨hB.1, ?_⟩
    rw [if_pos h0]
    exact hQ _ G D hR
  · rw [if_neg h0]
    by_cases h1 : q ≤ 4
    · rw [if_pos h1]
      intro E hE
      have hRE := hR.fil hE
      refine ⟨hRE.see.2.2.1.1, ?_⟩
      rw [if_neg h0, if_pos h1]
      intro F hF
      obtain ⟨⟨-, s1, s2⟩, e0, hv2, -⟩ := hR.same hE hF (hR.n3 hE) rfl
      refine q2_e (hQ _ G F (hRE.lay hF)) ?_
      by_cases hp : pfV E (xP x) = 0
      · rw [if_pos hp, if_pos (s1.mp hp)]
      · rw [if_neg hp, if_neg (fun z => hp (s1.mpr z))]
        obtain ⟨b, i, n1, p1, p2, i20, iF, mFi, gE, hs⟩ := s2 hp
        obtain ⟨m1, m2, m3⟩ := mo_same hv2 hs i (Nat.le_refl _)
        have eb : (yN E a 1).toNatClampNeg = b := by
          rw [← n1]
          show (E (ms a) 1).toNatClampNeg = (F (ms a) 1).toNatClampNeg
          rw [hF.off (Or.inr (Or.inr (Or.inl rfl)))]
        unfold planA monM monV
        rw [eb, iF, mFi, gE, nI_clamp (by omega), m1, m2, m3, hv2.n (i := 8) (by decide) (by decide)]
    · rw [if_neg h1]
      refine ⟨hB.1, ?_⟩
      rw [if_neg h0, if_neg h1]
      exact hQ _ G D hR
end TPL
