/-! ### the tie of planned -/
section TPM
variable {K : KT} {R0 : DT} {sa : Nat → Nat} {x a : Nat}
theorem tie_planned (m q : Int32) : Tie K R0 sa x a t_X5_planned t_X6_planned [.int m, .int q] := by
  intro G D hR hS Q2 hQ
  obtain ⟨hv, hA, hB, -⟩ := hR.see
  refine ⟨hA, ?_⟩
  by_cases hm : m < 0
  · rw [if_pos hm]
    refine ⟨hB.1, ?_⟩
    rw [if_pos hm]
    exact hQ _ G D hR
  · rw [if_neg hm]
    by_cases h0 : q < 0
    · rw [if_pos h0]
      refine ⟨hB.1, ?_⟩
      rw [if_neg hm, if_pos h0]
      exact hQ _ G D hR
    · rw [if_neg h0]
      by_cases h1 : q ≤ 2
      · rw [if_pos h1]
        intro E hE
        have hRE := hR.fil hE
        refine ⟨hRE.see.2.2.1.1, ?_⟩
        rw [if_neg hm, if_neg h0, if_pos h1]
        intro F hF
        obtain ⟨⟨-, s1, s2⟩, e0, hv2, -⟩ := hR.same hE hF (hR.n3 hE) rfl
        refine q2_e (hQ _ G F (hRE.lay hF)) ?_
        by_cases hp : pfV E (xP x) = 0
        · rw [if_pos hp, if_pos (s1.mp hp)]
        · rw [if_neg hp, if_neg (fun z => hp (s1.mpr z))]
          obtain ⟨i', i1, -, imo⟩ := hE.ok hA.2.1 hp
          obtain ⟨b, i, n1, p1, p2, i20, iF, mFi, gE, hs⟩ := s2 hp
          have ei : i' = i := by
            have z := i1.2.1
            have z2 := p1.2.1
            rw [z] at z2
            exact (nI_eq (by have := i1.1; omega) (by omega)).mp z2
          subst ei
          have eb : (yN E a 1).toNatClampNeg = b := by
            rw [← n1]
            show (E (ms a) 1).toNatClampNeg = (F (ms a) 1).toNatClampNeg
            rw [hF.off (Or.inr (Or.inr (Or.inl rfl)))]
          rw [iF, mFi, eb]
          by_cases hlt : m < nI i'
          · rw [if_pos hlt, if_pos hlt]
            have em := nI_of' (Int32.not_lt.mp hm)
            obtain ⟨n, hn⟩ : ∃ n, m.toNatClampNeg = n := ⟨_, rfl⟩
            have hb31 : n < 2 ^ 31 := by
              rw [← hn]
              have z := m.toInt_lt
              show m.toInt.toNat < 2 ^ 31
              clear hlt hE hF hs
              omega
            rw [hn] at em
            subst em
            have hni : n < i' := (nI_ltI hb31 (by omega)).mp hlt
            have hpw := pw_same hv2 hs n hni
            have mo30 : (2 : Int32) = nI 2 := rfl
            unfold plaA plaM
            have en1 : (nI n + 1 : Int32) = nI (n + 1) := nI_add n 1
            rw [en1, nI_clamp (by omega), nI_clamp (by omega), (hs n (by omega)).1, (hs (n + 1) (by omega)).1, hpw]
            have e1 : nI (mst F a b (n + 1)) - nI (mst F a b n) = nI (mst F a b (n + 1) - mst F a b n) := pk_sub (by have := (p2.2.2 n hni).2.1; omega)
            rw [e1]
            by_cases c0 : q = 0
            · rw [if_pos c0, if_pos c0]
            · by_cases c1 : q = 1
              · rw [if_neg c0, if_neg c0, if_pos c1, if_pos c1]
              · rw [if_neg c0, if_neg c0, if_neg c1, if_neg c1]
                have n2 : E (nu (xv x)) 2 = yN F a 2 := hv2.n (by decide) (by decide)
                obtain ⟨bb, ee, ww, z1, z2, z3, z4, z5, z6, z7, z8, -⟩ := Num.nats hA.2.1
                rw [← n2, e0, z3, nI_add, ← e0]
                rw [hv2.room (nI_pos' (by omega)) ((nI_ltI (b := 30) (by omega) (by decide)).mpr (by omega))]
          · rw [if_neg hlt, if_neg hlt]
      · rw [if_neg h1]
        refine ⟨hB.1, ?_⟩
        rw [if_neg hm, if_neg h0, if_neg h1]
        exact hQ _ G D hR
end TPM
