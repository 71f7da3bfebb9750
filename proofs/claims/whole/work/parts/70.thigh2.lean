/-! ### the tie of tooHigh, ended -/
theorem hi_same {D E : DT} {x a : Nat} {u r : Int32} (hv : Vw (D (nu (xv x))) (SS D (xv x)) (WW D (xv x)) (yN E a) (yS E a) (yW E a)) (hN : Num (D (nu (xv x)))) (hP : HiP D x u) (hM : HiM E a r) : u = r := by
  have e3 : D (nu (xv x)) 3 = E (ms a) 3 := hv.n (i := 3) (by decide) (by decide)
  have no : ∀ l : Nat, (∃ E1, FilX D E1 x (D (nu (xv x)) 3) (nI l) ∧ pfV E1 (xP x) = 0) → (∃ F, LayP (uD E (ms a) 6 (nI l)) F a (E (ms a) 3) ∧ ¬ pmV F a = 0) → False := by
    intro l ⟨E1, h1, h2⟩ ⟨F, h3, h4⟩
    rw [← e3] at h3
    exact h4 ((lev_same hv hN h1 h3).mp h2)
  have no' : ∀ l : Nat, (∃ E1, FilX D E1 x (D (nu (xv x)) 3) (nI l) ∧ ¬ pfV E1 (xP x) = 0) → (∃ F, LayP (uD E (ms a) 6 (nI l)) F a (E (ms a) 3) ∧ pmV F a = 0) → False := by
    intro l ⟨E1, h1, h2⟩ ⟨F, h3, h4⟩
    rw [← e3] at h3
    exact h2 ((lev_same hv hN h1 h3).mpr h4)
  rcases hP with ⟨l, l10, rfl, p1, p2⟩ | ⟨rfl, p2⟩
  · rcases hM with ⟨k, k10, rfl, m1, m2⟩ | ⟨rfl, m2⟩
    · rcases Nat.lt_trichotomy l k with q | q | q
      · exact (no l p1 (m2 l q)).elim
      · rw [q]
      · exact (no' k (p2 k q) m1).elim
    · exact (no l p1 (m2 l l10)).elim
  · rcases hM with ⟨k, k10, rfl, m1, m2⟩ | ⟨rfl, m2⟩
    · exact (no' k (p2 k k10) m1).elim
    · rfl
section TPH
variable {K : KT} {R0 : DT} {sa : Nat → Nat} {x a : Nat}
theorem Rel.fra {G : GT} {D E : DT} (h : Rel K G D x a) (hE : Fra D E (xP x)) : Rel K G E x a ∧ E (ms a) = D (ms a) := by
  have ha := h.1.2.2.1
  refine ⟨h.keep (fun z hz => hE z (by unfold xP; omega) (Or.inl (by unfold xP; omega))) (fun z hz => hE z ?_ ?_), hE _ (by unfold xP ms; omega) (by unfold xP ms; omega)⟩
  · rcases hz with rfl | rfl | rfl | rfl <;> first | (unfold xP; omega) | (unfold xP ms; omega) | (unfold xP mw; omega) | (unfold xP mx; omega)
  · rcases hz with rfl | rfl | rfl | rfl <;> first | (unfold xP; omega) | (unfold xP ms; omega) | (unfold xP mw; omega) | (unfold xP mx; omega)
theorem tie_tooHigh : Tie K R0 sa x a t_X5_tooHigh t_X6_tooHigh [] := by
  intro G D hR hS Q2 hQ
  obtain ⟨hv, hA, hB, -⟩ := hR.see
  refine ⟨hA, fun E u hE hu => ?_⟩
  obtain ⟨hRE, eE⟩ := hR.fra hE
  refine ⟨hRE.see.2.2.1.1, fun F r hF hr => ?_⟩
  have hRF : Rel K G F x a := hRE.keep (fun z hz => hF z ?_) (fun z hz => hF z ?_)
  · refine q2_e (hQ _ G F hRF) (hi_same (E := E) ?_ hA.2.1 hu hr)
    have yE : yN E a = yN D a := eE
    have sE : yS E a = yS D a := by unfold yS; rw [eE]
    have wE : yW E a = yW D a := by unfold yW; rw [eE]
    rw [yE, sE, wE]
    exact hv
  · have ha := hR.1.2.2.1
    refine ⟨?_, ?_, ?_, ?_⟩
    · unfold mF; omega
    · unfold mG; omega
    · unfold mT; omega
    · unfold mW; omega
  · unfold ms mw mx at hz
    refine ⟨?_, ?_, ?_, ?_⟩
    · unfold mF; omega
    · unfold mG; omega
    · unfold mT; omega
    · unfold mW; omega
end TPH
