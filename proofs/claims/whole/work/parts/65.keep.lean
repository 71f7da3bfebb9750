/-! ### the relation is kept by what changes only the tables -/
theorem NovEq.keep {D E : DT} {n s b : Nat} (h : NovEq D n s b) (e1 : ∀ z, n ≤ z → z < n + 14 → E z = D z) (e2 : E s = D s) : NovEq E n s b := by
  obtain ⟨h1, h2, h3⟩ := h
  refine ⟨fun i hi => ?_, fun r i hr hi => ?_, fun r w hr hw => ?_⟩
  · rw [e2, e1 (nu n) (by unfold nu; omega) (by unfold nu; omega)]
    exact h1 i hi
  · rw [e2, e1 (n + 3 + r) (by omega) (by omega)]
    exact h2 r i hr hi
  · rw [e2, e1 (n + 10 + r) (by omega) (by omega)]
    exact h3 r w hr hw
theorem NovInv.keep {D E : DT} {n : Nat} (h : NovInv D n) (e1 : ∀ z, n ≤ z → z < n + 14 → E z = D z) : NovInv E n := by
  have hv : Vw (D (nu n)) (SS D n) (WW D n) (E (nu n)) (SS E n) (WW E n) := by
    refine ⟨fun i i0 i1 => ?_, fun r i r0 r1 i0 i1 => ?_, fun r w r0 r1 w0 w1 => ?_⟩
    · rw [e1 (nu n) (by unfold nu; omega) (by unfold nu; omega)]
    · obtain ⟨q, hq, rfl⟩ := nI_of (x := r) (Int32.not_lt.mpr r0)
      have q6 := (nI_ltI (b := 6) hq (by decide)).mp r1
      show D (sc n (nI q)) i = E (sc n (nI q)) i
      rw [sc_n q6, e1 (n + 3 + q) (by omega) (by omega)]
    · obtain ⟨q, hq, rfl⟩ := nI_of (x := r) (Int32.not_lt.mpr r0)
      have q4 := (nI_ltI (b := 4) hq (by decide)).mp r1
      show D (wk n (nI q)) w = E (wk n (nI q)) w
      rw [wk_n q4, e1 (n + 10 + q) (by omega) (by omega)]
  exact hv.inv h
theorem MomEq.keep {D E : DT} {m s b : Nat} (h : MomEq D m s b) (e1 : ∀ z, m ≤ z → z < m + 45 → E z = D z) (e2 : E s = D s) : MomEq E m s b := by
  obtain ⟨h1, h2⟩ := h
  refine ⟨h1.keep (fun z z0 z1 => e1 z (by unfold mv at z0; omega) (by unfold mv at z1; omega)) e2, fun j hj => ?_⟩
  obtain ⟨a1, a2, a3⟩ := h2 j hj
  rw [e2, e1 (mt m) (by unfold mt; omega) (by unfold mt; omega)]
  exact ⟨a1, a2, fun q => (a3 q).keep (fun z z0 z1 => e1 z (by unfold slN at z0; omega) (by unfold slN at z1; omega)) e2⟩
theorem MomInv.keep {D E : DT} {m : Nat} (h : MomInv D m) (e1 : ∀ z, m ≤ z → z < m + 45 → E z = D z) : MomInv E m := by
  obtain ⟨h1, h2⟩ := h
  refine ⟨h1.keep (fun z z0 z1 => e1 z (by unfold mv at z0; omega) (by unfold mv at z1; omega)), fun j hj q => ?_⟩
  rw [e1 (mt m) (by unfold mt; omega) (by unfold mt; omega)] at q
  exact (h2 j hj q).keep (fun z z0 z1 => e1 z (by unfold slN at z0; omega) (by unfold slN at z1; omega))
theorem Rel.keep {K : KT} {G : GT} {D E : DT} {x a : Nat} (h : Rel K G D x a) (e1 : ∀ z, z < x + 325 → E z = D z) (e2 : ∀ z, z = a ∨ z = ms a ∨ z = mw a ∨ z = mx a → E z = D z) : Rel K G E x a := by
  obtain ⟨h0, ⟨h1, h2⟩, ⟨k, k6, k1, k2, k3⟩, t1, t2, t3, t4⟩ := h
  have m1 : ∀ z, xN x ≤ z → z < xN x + 45 → E z = D z := fun z z0 z1 => e1 z (by unfold xN at z1; omega)
  have xh : E (xH x) = D (xH x) := e1 _ (by unfold xH; omega)
  have xt : E (xT x) = D (xT x) := e1 _ (by unfold xT; omega)
  have xc : E (tc (xT x)) = D (tc (xT x)) := e1 _ (by unfold tc xT; omega)
  have ea : E a = D a := e2 _ (Or.inl rfl)
  refine ⟨h0, ⟨h1.keep m1 (e2 _ (Or.inr (Or.inl rfl))), h2.keep m1⟩, ⟨k, k6, by rw [xh]; exact k1, by rw [ea]; exact k2, fun i hi => ?_⟩, by rw [xt, ea]; exact t1, by rw [ea]; exact t2, by rw [ea]; exact t3, by rw [xc, e2 (mx a) (Or.inr (Or.inr (Or.inr rfl)))]; exact t4⟩
  have hp := h0.1.2.2.2.2.2 (nI i) ⟨nI_pos' (by omega), (nI_ltI (b := 6) (by omega) (by decide)).mpr (by omega)⟩
  have m2 : ∀ z, sta G (xH x) (nI i) ≤ z → z < sta G (xH x) (nI i) + 45 → E z = D z := fun z _ z1 => e1 z (by omega)
  obtain ⟨q1, q2⟩ := k3 i hi
  exact ⟨q1.keep m2 (e2 _ (Or.inr (Or.inr (Or.inl rfl)))), q2.keep m2⟩
/-! ### the tables of both sides keep one law -/
theorem TabP.to {rea lt rea' lt' : Nat → Nat → Int32 → Int32} {PP FF GG CC : Nat → Nat → Int32} {b e mo : Nat} (h : TabP rea lt PP FF GG CC b e mo) (hc : ∀ j f m, j < mo → b + j ≤ f → 1 ≤ m → f + m ≤ e → rea j f (nI m) = rea' j f (nI m) ∧ lt j f (nI m) = lt' j f (nI m)) : TabP rea' lt' PP FF GG CC b e mo := by
  obtain ⟨h1, h2, h3⟩ := h
  refine ⟨h1, h2, fun j f j1 f1 f2 f3 => ?_⟩
  obtain ⟨x, hx⟩ := h3 j f j1 f1 f2 f3
  refine ⟨x, hx.trans (foR_c (fun m m1 m2 => ?_) (e - f) (Nat.le_refl _))⟩
  obtain ⟨q1, q2⟩ := hc j f m j1 f1 m1 (by omega)
  exact ⟨rfl, rfl, rfl, q1, q2⟩
theorem Vw.mo {N N' : Int32 → Int32} {S W S' W' : Int32 → Int32 → Int32} (h : Vw N S W N' S' W') : moN N = moN N' := by
  unfold moN
  rw [h.n (i := 0) (by decide) (by decide), h.n (i := 1) (by decide) (by decide), h.n (i := 2) (by decide) (by decide)]
