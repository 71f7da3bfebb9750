/-! ### one plan on both sides -/
theorem Vw.tab {N N' : Int32 → Int32} {S W S' W' : Int32 → Int32 → Int32} (h : Vw N S W N' S' W') (hN : Num N) {c v : Int32} {PP FF GG CC : Nat → Nat → Int32} {b e : Nat} (he : N 0 = nI e) (he20 : e ≤ 20) (ht : TabP (reaT N S W c v) (lasT S c) PP FF GG CC b e (moN N)) : TabP (reaT N' S' W' c v) (lasT S' c) PP FF GG CC b e (moN N) := by
  obtain ⟨b', e', w, hb, he', hw, q1, q2, q3, hmo, hmo2, -⟩ := Num.nats hN
  refine ht.to (fun j f m j1 f1 m1 f2 => ⟨?_, ?_⟩)
  · unfold reaT
    rw [← h.n (i := 2) (by decide) (by decide), hw, nI_add]
    have n20 : N 0 ≤ 20 := hN.2.2.1
    refine h.rea (nI_pos' (by omega)) ?_ n20 (nI_pos' (by omega)) ((nI_ltI (b := 30) (by omega) (by decide)).mpr (by omega))
    rw [he]
    exact (nI_leI (by omega) (by omega)).mpr (by omega)
  · unfold lasT
    rw [nI_add]
    exact h.last ((nI_ltI (a := 0) (by omega) (by omega)).mpr (by omega)) ((nI_leI (b := 20) (by omega) (by decide)).mpr (by omega))
/-- what both tables answer alike -/
def Same (E F : DT) (x a : Nat) : Prop := (pfV E (xP x) = if pmV F a = 0 then 0 else F (mW a) 0) ∧ (pfV E (xP x) = 0 ↔ pmV F a = 0) ∧ (¬ pfV E (xP x) = 0 → ∃ b i : Nat, (yN F a 1).toNatClampNeg = b ∧ PlanOK E (xP x) i ∧ PlnM F a b i ∧ i ≤ 20 ∧ insV E (xP x) = nI i ∧ F (mF a) 0 = nI i ∧ E (tG (xP x) 0) (E (xP x) 4) = F (mG a) 0 ∧ ∀ k, k ≤ i → stR E (xP x) k = nI (mst F a b k) ∧ mst F a b k ≤ 20)
theorem same_of {D E D' F : DT} {x a : Nat} {c v c' : Int32} (hv : Vw (D (nu (xv x))) (SS D (xv x)) (WW D (xv x)) (yN D' a) (yS D' a) (yW D' a)) (hN : Num (D (nu (xv x)))) (hE : FilX D E x c v) (hF : LayP D' F a c') (ec : c = c') (ev : v = yN D' a 6) (ms4 : F (ms a) = D' (ms a)) : Same E F x a := by
  subst ec ev
  obtain ⟨b, e, w, hb, he, hw, q1, q2, q3, hmo, hmo2, hb', he', hw'⟩ := Num.nats hN
  have hm : moN (D (nu (xv x))) = moN (yN D' a) := hv.mo
  have n0 : yN D' a 0 = nI e := by rw [← hv.n (i := 0) (by decide) (by decide), he]
  have n1 : yN D' a 1 = nI b := by rw [← hv.n (i := 1) (by decide) (by decide), hb]
  have m0 : (yN D' a 0).toNatClampNeg = e := by rw [n0, nI_clamp (by omega)]
  have m1 : (yN D' a 1).toNatClampNeg = b := by rw [n1, nI_clamp (by omega)]
  have f0 : yN F a 0 = nI e := by show F (ms a) 0 = _; rw [ms4]; exact n0
  have f1 : yN F a 1 = nI b := by show F (ms a) 1 = _; rw [ms4]; exact n1
  unfold FilX at hE
  rw [hb', he'] at hE
  have t1 := hv.tab hN he (by omega) (hE.tab (by omega))
  obtain ⟨-, t2⟩ := hF
  rw [m0, m1, ← hm] at t2
  have hmo3 : b + moN (D (nu (xv x))) ≤ e := by omega
  have v0 : vald b e (moN (D (nu (xv x)))) 0 b := ⟨by omega, by omega, q1, fun _ => rfl⟩
  obtain ⟨u1, u2⟩ := tab_uniq (by omega) t1 t2 _ 0 b (Nat.le_refl _) v0
  obtain ⟨⟨z1, -⟩, -⟩ := tab_b (by omega) hmo3 t1 _ 0 b (Nat.le_refl _) v0
  have z1 : 0 ≤ cP E (xP x) 0 b := (i_le 0 _).mpr z1
  have w0 : mPP F a b 0 b = F (mW a) 0 := by
    unfold mPP
    rw [Nat.sub_self]
    rfl
  obtain ⟨p1, ⟨p4, p5⟩, -⟩ := hE
  have hpf : pfV E (xP x) = if nI e ≤ nI b then 0 else cP E (xP x) 0 b := by
    unfold pfV
    rw [p4, p5, ← nL0, tP_n (by omega)]
    rfl
  have hpm : pmV F a = if nI e ≤ nI b then 0 else if cP E (xP x) 0 b ≤ 0 then 0 else 1 := by
    unfold pmV
    rw [f0, f1, ← w0, ← u1]
    by_cases h : nI e ≤ nI b
    · rw [if_pos h, if_pos]
      have h := (nI_leI (by omega) (by omega)).mp h
      obtain rfl : b = e := by omega
      rw [Int32.sub_self]
      exact Int32.le_refl _
    · rw [if_neg h, if_neg]
      have hlt : b < e := Nat.lt_of_not_le (fun q => h ((nI_leI (by omega) (by omega)).mpr q))
      rw [pk_sub q1]
      exact fun q => absurd ((nI_leI (b := 0) (by omega) (by omega)).mp q) (by omega)
  by_cases h : nI e ≤ nI b
  · rw [if_pos h] at hpf hpm
    exact ⟨by rw [if_pos hpm]; exact hpf, ⟨fun _ => hpm, fun _ => hpf⟩, fun q => absurd hpf q⟩
  · rw [if_neg h] at hpf hpm
    have hlt : b < e := Nat.lt_of_not_le (fun q => h ((nI_leI (by omega) (by omega)).mpr q))
    by_cases h0 : cP E (xP x) 0 b ≤ 0
    · rw [if_pos h0] at hpm
      have hz := Int32.le_antisymm h0 z1
      rw [hz] at hpf
      exact ⟨by rw [if_pos hpm]; exact hpf, ⟨fun _ => hpm, fun _ => hpf⟩, fun q => absurd hpf q⟩
    · rw [if_neg h0] at hpm
      have hp1 : ¬ pmV F a = 0 := by rw [hpm]; decide
      have hc0 : ¬ cP E (xP x) 0 b = 0 := fun q => h0 (by rw [q]; decide)
      have hp0 : ¬ pfV E (xP x) = 0 := by rw [hpf]; exact hc0
      refine ⟨by rw [if_neg hp1, hpf, u1, w0], ⟨fun q => absurd q hp0, fun q => absurd q hp1⟩, fun _ => ?_⟩
      obtain ⟨i, a1, a2, a3, a4⟩ := (tab_b (by omega) hmo3 t1 _ 0 b (Nat.le_refl _) v0).2 hc0
      obtain ⟨u3, u4, -⟩ := u2 hc0
      have hi20 : i ≤ 20 := by omega
      obtain ⟨g1, g2, g3, g4, g5⟩ := tab_path (by omega) hmo3 t1 hc0 a1 hi20
      have hst : ∀ k, k ≤ i → stA (cC E (xP x)) b k = stA (mCC F a b) b k := stA_eq (fun k hk => by
        obtain ⟨b1, b2, -⟩ := g3 k (by omega)
        obtain ⟨b3, b4, -⟩ := g4 k hk
        exact ((tab_uniq (by omega) t1 t2 _ k _ (Nat.le_refl _) b1).2 b2).2.2 (by omega))
      have hsr : ∀ k, k ≤ i → stR E (xP x) k = nI (stA (cC E (xP x)) b k) := stR_n p4 (fun k hk => ⟨(g4 k hk).1, by have := (g4 k hk).2.1; omega, (g4 k hk).2.2⟩) hi20
      have hle : ∀ k, k ≤ i → stA (cC E (xP x)) b k ≤ 20 := fun k hk => by have := (g3 k hk).1.2.2.1; omega
      have hge : ∀ k, k ≤ i → b ≤ stA (cC E (xP x)) b k := fun k hk => by have := (g3 k hk).1.2.1; omega
      have wF : F (mF a) 0 = nI i := by
        rw [← a1, u3]
        unfold mFF
        rw [Nat.sub_self]
        rfl
      have wG : cG E (xP x) 0 b = F (mG a) 0 := by
        rw [u4]
        unfold mGG
        rw [Nat.sub_self]
        rfl
      have iF : insV E (xP x) = nI i := by
        unfold insV
        rw [p4, ← nL0, tF_n (by omega)]
        exact a1
      refine ⟨b, i, by rw [f1, nI_clamp (by omega)], ⟨hi20, ?_, ?_, fun k hk => ?_⟩, ⟨hi20, wF, fun k hk => ?_⟩, hi20, iF, wF, ?_, fun k hk => ?_⟩
      · exact iF
      · rw [p4]
        obtain ⟨c1, -, c2⟩ := z_n (k := b) (by omega)
        exact ⟨c1, c2⟩
      · rw [hsr k hk]
        obtain ⟨c1, c2, -⟩ := z_n (k := stA (cC E (xP x)) b k) (hle k hk)
        exact ⟨c1, c2⟩
      · obtain ⟨c1, c2, c3⟩ := g4 k hk
        unfold mst
        rw [← hst k (by omega), ← hst (k + 1) (by omega)]
        refine ⟨hge k (by omega), c1, by omega, ?_⟩
        obtain ⟨b1, b2, -⟩ := g3 k (by omega)
        have key := ((tab_uniq (by omega) t1 t2 _ k _ (Nat.le_refl _) b1).2 b2).2.2 (by omega)
        rw [← c3, key]
        rfl
      · rw [p4, ← nL0, tG_n (by omega)]
        exact wG
      · unfold mst
        rw [← hst k hk]
        exact ⟨hsr k hk, hle k hk⟩
