/-! ### the ties of take, restore, undo -/
section TSN
variable {K : KT} {R0 : DT} {sa : Nat → Nat} {x a : Nat}
theorem MomEq.of {E : DT} {m s b : Nat} (h1 : ∀ k, k < 257 → novI E (mv m) k = E s (nI (b + k))) (h2 : ∀ j, j < 2 → E (mt m) (nI j) = E s (nI (b + 771 + j)) ∧ (E (mt m) (nI j) = 0 ∨ E (mt m) (nI j) = 1) ∧ (E (mt m) (nI j) = 1 → ∀ k, k < 257 → novI E (slN m j) k = E s (nI (b + 257 + 257 * j + k)))) : MomEq E m s b := ⟨NovEq.of h1, fun j hj => ⟨(h2 j hj).1, (h2 j hj).2.1, fun q => NovEq.of ((h2 j hj).2.2 q)⟩⟩
theorem sl_n {m : Nat} {p : Nat} (hp : p < 2) : (if nI p = 0 then sl0 m else sl1 m) = slN m p := by
  obtain rfl | rfl : p = 0 ∨ p = 1 := by omega
  · exact if_pos rfl
  · exact if_neg (by decide)
theorem lt_2 {p : Int32} (h0 : ¬ p < 0) (h1 : p < 2) : ∃ j : Nat, j < 2 ∧ p = nI j := by
  obtain ⟨j, hj, rfl⟩ := nI_of (x := p) h0
  exact ⟨j, (nI_ltI (b := 2) hj (by decide)).mp h1, rfl⟩
theorem tie_take (p : Int32) : Tie K R0 sa x a t_X5_take t_X6_take [.int p] := by
  intro G D hR hS Q2 hQ
  obtain ⟨hv, hA, hB, -⟩ := hR.see
  refine ⟨hA, ?_⟩
  have n0 := hv.n (i := 0) (by decide) (by decide)
  have n1 := hv.n (i := 1) (by decide) (by decide)
  by_cases h1 : p < 0
  · rw [if_pos h1]
    refine ⟨hB, ?_⟩
    rw [if_pos h1]
    exact hQ _ G D hR
  · rw [if_neg h1]
    by_cases h2 : p < 2
    · rw [if_pos h2]
      obtain ⟨j, j2, rfl⟩ := lt_2 h1 h2
      rw [sl_n j2]
      have b0 : slN (xN x) j = x + 18 + 14 * j := by unfold slN xN; omega
      have b1 : xv x = x + 2 := rfl
      have b2 : mt (xN x) = x + 17 := rfl
      have hb0 : ∀ b, (b < slN (xN x) j + 1 ∨ slN (xN x) j + 14 ≤ b) → b ≠ mt (xN x) → uD (cpR (rD G D x) (xv x) (slN (xN x) j) 6 4) (mt (xN x)) (nI j) 1 b = rD G D x b := fun b hb hb2 => by
        rw [uD_o hb2, cpR_o (by omega) (by omega) (by omega)]
      have hm0 : ∀ b, (b < x + 1 ∨ x + 46 ≤ b) → b ≠ xT x → uD (cpR (rD G D x) (xv x) (slN (xN x) j) 6 4) (mt (xN x)) (nI j) 1 b = rD G D x b := fun b hb _ => hb0 b (by omega) (by omega)
      obtain ⟨z1, z2, z3, z4, z5, z6, z7, z8⟩ := hR.to6 hm0
      refine ⟨z1, ?_⟩
      rw [z3, if_neg h1, if_pos h2, ← n0, ← n1]
      intro E hE
      rw [nI_clamp (by omega)] at hE
      have cp : NovCp (rD G D x) (uD (cpR (rD G D x) (xv x) (slN (xN x) j) 6 4) (mt (xN x)) (nI j) 1) (xv x) (slN (xN x) j) := cpR_cp.to (fun z h1 h2 => uD_o (by omega))
      have hu : uD (cpR (rD G D x) (xv x) (slN (xN x) j) 6 4) (mt (xN x)) (nI j) 1 (mt (xN x)) (nI j) = 1 := uD_eq
      have hu2 : ∀ i, i < 2 → i ≠ j → uD (cpR (rD G D x) (xv x) (slN (xN x) j) 6 4) (mt (xN x)) (nI j) 1 (mt (xN x)) (nI i) = rD G D x (mt (xN x)) (nI i) := fun i hi hij => by
        rw [uD_at' (by omega) (by omega) (fun _ => hij), cpR_o (by omega) (by omega) (by omega)]
      generalize hD' : uD (cpR (rD G D x) (xv x) (slN (xN x) j) 6 4) (mt (xN x)) (nI j) 1 = D' at z1 z2 z3 z4 z5 z6 z7 z8 hb0 hm0 hE cp hu hu2
      obtain ⟨st, sh, slot, -, -, -, -, -, r8, -, ⟨s0, s1⟩, -⟩ := rec_s hR
      have ha := hR.1.2.2.1
      obtain ⟨-, ⟨⟨p1, p2⟩, p3, p4⟩, -, t1, t2, t3, t4⟩ := id hR
      obtain ⟨m1, m2, m3, m4, m5, m6⟩ := id hE
      have ob : ∀ b, b < a → E b = D' b := fun b hb => m1 b (by omega) (by unfold ms; omega) (by unfold mw; omega) (by unfold mb; omega)
      have od : ∀ b, (b < x + 1 ∨ x + 46 ≤ b) → (b < x + 46 ∨ x + 318 ≤ b) → b ≠ xT x → D' b = D b := fun b hb hb2 hb3 => by
        rw [hm0 b hb hb3, r8 b (by omega) (by unfold xH; omega)]
      have rd : ∀ b, b < x + 46 → rD G D x b = D b := fun b hb => r8 b (by omega) (by unfold xH; omega)
      have v1 : ∀ z, z < x + 46 → z < a := fun z hz => by omega
      refine hQ _ _ E (act_rel hR (D2 := D') hm0 ⟨fun _ _ => rfl, rfl, rfl, rfl⟩ hE (MomEq.of (fun k hk => ?_) (fun i hi => ?_)) ⟨?_, fun i hi => ?_⟩ ?_)
      · rw [Nat.zero_add, m6 k (by omega)]
        unfold tkF
        rw [if_neg (by omega), if_neg (by omega)]
        show _ = sN D' a k
        rw [z6]
        refine Eq.trans ?_ (hR.img hk)
        exact novI_c (fun z z0 z1 => by
          rw [ob z (v1 z (by unfold mv xN at z1; omega)), hb0 z (by unfold mv xN at z1; omega) (by unfold mv xN at z1; omega), rd z (by unfold mv xN at z1; omega)])
      · rw [Nat.zero_add, Nat.zero_add, ob _ (v1 _ (by omega)), m6 _ (by omega)]
        by_cases q : i = j
        · subst q
          rw [hu]
          refine ⟨?_, Or.inr rfl, fun _ k hk => ?_⟩
          · unfold tkF
            rw [if_pos rfl]
          · rw [m6 _ (by omega)]
            unfold tkF
            rw [if_neg (by omega), if_pos ⟨by omega, by omega⟩, show 257 + 257 * i + k - (257 + 257 * i) = k by omega, z6]
            refine Eq.trans ?_ (hR.imgR hk)
            rw [← cp.img hk]
            exact novI_c (fun z z0 z1 => ob z (v1 z (by omega)))
        · obtain ⟨a1, a2, a3⟩ := p2 i hi
          rw [Nat.zero_add] at a1 a3
          rw [hu2 i hi q, rd _ (by omega)]
          refine ⟨?_, a2, fun w k hk => ?_⟩
          · unfold tkF
            rw [if_neg (by omega), if_neg (by omega), z6]
            exact a1
          · rw [m6 _ (by omega)]
            unfold tkF
            rw [if_neg (by omega), if_neg (by omega), z6]
            refine Eq.trans ?_ ((a3 w).img hk)
            have bi : slN (xN x) i = x + 18 + 14 * i := by unfold slN xN; omega
            exact novI_c (fun z z0 z1 => by
              rw [ob z (v1 z (by omega)), hb0 z (by omega) (by omega), rd z (by omega)])
      · exact p3.keep (fun z z0 z1 => by
          rw [hb0 z (by unfold mv xN at z1; omega) (by unfold mv xN at z1; omega), rd z (by unfold mv xN at z1; omega)])
      · by_cases q : i = j
        · subst q
          intro _
          exact cp.inv (p3.keep (fun z z0 z1 => rd z (by unfold mv xN at z1; omega)))
        · rw [hu2 i hi q, rd _ (by omega)]
          intro w
          have bi : slN (xN x) i = x + 18 + 14 * i := by unfold slN xN; omega
          exact (p4 i hi w).keep (fun z z0 z1 => by
            rw [hb0 z (by omega) (by omega), rd z (by omega)])
      · have e1 : E a 5 = D a 5 := by
          rw [m2 5 (by decide), z8]
        have e2 : E (mx a) = D (mx a) := by
          rw [m1 _ (by unfold mx; omega) (by unfold mx ms; omega) (by unfold mx mw; omega) (by unfold mx mb; omega), od _ (by unfold mx; omega) (by unfold mx; omega) (by unfold mx xT; omega)]
        have e3 : D' (xT x) = D (xT x) := by
          rw [hb0 _ (by unfold xT; omega) (by unfold xT; omega), r8 _ (by unfold xT; omega) (by unfold xT xH; omega)]
        rw [e1, e2, e3, od _ (by unfold tc xT; omega) (by unfold tc xT; omega) (by unfold tc; omega)]
        exact ⟨t1, t2, t3, t4⟩
    · rw [if_neg h2]
      refine ⟨hB, ?_⟩
      rw [if_neg h1, if_neg h2]
      exact hQ _ G D hR
theorem tie_restore (p : Int32) : Tie K R0 sa x a t_X5_restore t_X6_restore [.int p] := by
  intro G D hR hS Q2 hQ
  obtain ⟨hv, hA, hB, -⟩ := hR.see
  refine ⟨hA, ?_⟩
  by_cases h1 : p < 0
  · rw [if_pos h1]
    refine ⟨hB, ?_⟩
    rw [if_pos h1]
    exact hQ _ G D hR
  · rw [if_neg h1]
    by_cases h2 : p < 2
    · rw [if_pos h2]
      obtain ⟨j, j2, rfl⟩ := lt_2 h1 h2
      rw [sl_n j2]
      have b0 : slN (xN x) j = x + 18 + 14 * j := by unfold slN xN; omega
      have b1 : xv x = x + 2 := rfl
      obtain ⟨-, ⟨⟨p1, p2⟩, p3, p4⟩, -⟩ := id hR
      obtain ⟨a1, a2, a3⟩ := p2 j j2
      rw [Nat.zero_add] at a1 a3
      have e771 : (771 : Int32) + nI j = nI (771 + j) := by rw [show (771 : Int32) = nI 771 from rfl, nI_add]
      by_cases h3 : D (mt (xN x)) (nI j) = 0
      · rw [if_pos h3]
        refine ⟨hB, ?_⟩
        rw [if_neg h1, if_pos h2, e771, if_pos (show yN D a (nI (771 + j)) = 0 from a1.symm.trans h3)]
        exact hQ _ G D hR
      · rw [if_neg h3]
        have t1 : D (mt (xN x)) (nI j) = 1 := a2.resolve_left h3
        obtain ⟨st, sh, slot, -, -, -, -, -, r8, -, ⟨s0, s1⟩, -⟩ := rec_s hR
        have rd : ∀ b, b < x + 46 → rD G D x b = D b := fun b hb => r8 b (by omega) (by unfold xH; omega)
        have hb0 : ∀ z, (z < xv x + 1 ∨ xv x + 14 ≤ z) → cpR (rD G D x) (slN (xN x) j) (xv x) 6 4 z = rD G D x z := fun z hz => cpR_o (by omega) (by omega) (by omega)
        obtain ⟨z1, z2, z3, z4, z5, z6, z7, z8⟩ := hR.to6 (nov_m hb0)
        refine ⟨z1, ?_⟩
        have g3 : ∀ k, k < 257 → novI (cpR (rD G D x) (slN (xN x) j) (xv x) 6 4) (xv x) k = gM D a (257 + 257 * j + k) := fun k hk => by
          rw [cpR_cp.img hk]
          refine Eq.trans ?_ ((a3 t1).img hk)
          exact novI_c (fun z z0 z1 => rd z (by omega))
        rw [z3, z6, if_neg h1, if_pos h2, e771, if_neg (show ¬ yN D a (nI (771 + j)) = 0 from fun q => h3 (a1.trans q))]
        intro E hE
        rw [nI_clamp (by omega)] at hE
        rw [nI_clamp (by omega)]
        have hI : InvI (novI D (slN (xN x) j)) := inv_to (p4 j j2 t1)
        refine q2_e (hQ _ _ E (act_nv hR hb0 hE (F := rsF (gM D a) j) (fun k hk => rfl) (fun k k0 k1 => if_neg (by omega)) (fun k hk => ?_) (hI.c fun k hk => ?_))) ?_
        · unfold rsF
          rw [if_pos hk]
          exact g3 k hk
        · unfold rsF
          rw [if_pos hk, (a3 t1).img hk]
          rfl
        · have u0 := g3 0 (by omega)
          have u1 := g3 1 (by omega)
          rw [novI_n (by omega)] at u0 u1
          exact congrArg (fun z => z.1 - z.2) (Prod.ext u0 u1 : ((_ : Int32), (_ : Int32)) = (_, _))
    · rw [if_neg h2]
      refine ⟨hB, ?_⟩
      rw [if_neg h1, if_neg h2]
      exact hQ _ G D hR
theorem tie_undo : Tie K R0 sa x a t_X5_undo t_X6_undo [] := by
  intro G D hR hS Q2 hQ
  obtain ⟨hv, hA, hB, hboo⟩ := hR.see
  refine ⟨⟨hA, hboo⟩, ?_⟩
  obtain ⟨⟨hC, hMo, ha, hAp⟩, ⟨p1, p2⟩, ⟨h, h6, e1, e2, hK⟩, t1, t2, t3, t4⟩ := id hR
  have e3 : D (xH x) 1 = D a 3 := e1.trans e2.symm
  by_cases h1 : D (xH x) 1 = 0
  · rw [if_pos h1]
    refine ⟨⟨hMo, hB.2⟩, ?_⟩
    rw [if_pos (e3 ▸ h1)]
    exact hQ _ G D hR
  · rw [if_neg h1]
    obtain ⟨i, rfl⟩ : ∃ i, h = i + 1 := ⟨h - 1, by
      have : ¬ h = 0 := fun q => h1 (by rw [e1, q]; rfl)
      omega⟩
    have e4 : D (xH x) 1 - 1 = nI i := by rw [e1]; exact nI_pred i
    rw [e4]
    obtain ⟨s0, s1⟩ := hC.2.2.2.2.2 (nI i) ⟨nI_pos' (by omega), (nI_ltI (b := 6) (by omega) (by decide)).mpr (by omega)⟩
    have hd : Mdis (sta G (xH x) (nI i)) (xN x) := Or.inr (by unfold xN; omega)
    have cp : MomCp D (cpM (uD D (xH x) 1 (nI i)) (sta G (xH x) (nI i)) (xN x)) (sta G (xH x) (nI i)) (xN x) := (cpM_cp hd).fro (fun z z0 z1 => uD_o (by unfold xH; omega))
    have o1 : ∀ b, (b < x + 1 ∨ x + 46 ≤ b) → b ≠ xH x → cpM (uD D (xH x) 1 (nI i)) (sta G (xH x) (nI i)) (xN x) b = D b := fun b hb hb2 => by
      rw [cpM_o (by unfold xN; omega), uD_o hb2]
    have o2 : cpM (uD D (xH x) 1 (nI i)) (sta G (xH x) (nI i)) (xN x) (xH x) 1 = nI i := by
      rw [cpM_o (by unfold xN xH; omega), uD_eq]
    generalize cpM (uD D (xH x) 1 (nI i)) (sta G (xH x) (nI i)) (xN x) = D' at cp o1 o2
    have oa : ∀ b, a ≤ b → D' b = D b := fun b hb => o1 b (by omega) (by unfold xH; omega)
    rw [show t_X6_undo K R0 sa [.ref a] G D' = t_X6_undo K R0 sa (.ref a :: []) G D' from rfl]
    refine ⟨⟨hMo, by rw [oa a (Nat.le_refl _)]; exact hB.2⟩, ?_⟩
    rw [oa a (Nat.le_refl _), ← e3, if_neg h1, e4, nI_clamp (by omega)]
    intro E hE
    obtain ⟨u1, u2, u3, u4⟩ := hE
    have ob : ∀ b, b < a → E b = D' b := fun b hb => u1 b (by omega) (by unfold ms; omega)
    have os : ∀ k, k < 773 → E (ms a) (nI k) = D (mw a) (nI (773 * i + k)) := fun k hk => by
      rw [u4 k hk, if_pos hk, oa _ (by unfold mw; omega)]
    have ow : E (mw a) = D (mw a) := by
      rw [u1 _ (by unfold mw; omega) (by unfold mw ms; omega), oa _ (by unfold mw; omega)]
    have cpE : MomCp D E (sta G (xH x) (nI i)) (xN x) := cp.to (fun z z0 z1 => ob z (by unfold xN at z1; omega))
    obtain ⟨k1, k2⟩ := hK i (by omega)
    have e5 : E a 5 = D a 5 := by rw [u2 5 (by decide), oa a (Nat.le_refl _)]
    have oT : ∀ b, b < a → x + 318 ≤ b → E b = D b := fun b hb hb2 => by rw [ob b hb, o1 b (by omega) (by unfold xH; omega)]
    refine hQ _ G E ⟨⟨hC, hMo, ha, hAp⟩, ⟨cpE.eq k1 (fun k hk => by rw [Nat.zero_add]; exact os k hk), cpE.inv k2⟩, ⟨i, by omega, by rw [ob _ (by unfold xH; omega)]; exact o2, u3, fun j hj => ?_⟩, ?_, by rw [e5]; exact t2, by rw [e5]; exact t3, ?_⟩
    · obtain ⟨q0, q1⟩ := hC.2.2.2.2.2 (nI j) ⟨nI_pos' (by omega), (nI_ltI (b := 6) (by omega) (by decide)).mpr (by omega)⟩
      obtain ⟨w1, w2⟩ := hK j (by omega)
      have oz : ∀ z, sta G (xH x) (nI j) ≤ z → z < sta G (xH x) (nI j) + 45 → E z = D z := fun z z0 z1 => by
        rw [ob z (by omega), o1 z (by omega) (by unfold xH; omega)]
      exact ⟨w1.keep oz ow, w2.keep oz⟩
    · rw [e5, oT _ (by unfold xT; omega) (by unfold xT; omega)]
      exact t1
    · rw [oT _ (by unfold tc xT; omega) (by unfold tc xT; omega), t4, u1 _ (by unfold mx; omega) (by unfold mx ms; omega), oa _ (by unfold mx; omega)]
end TSN
