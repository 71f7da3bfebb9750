/-! ### the bounds of a state by its 257 numbers -/
def InvI (f : Nat → Int32) : Prop := (0 ≤ f 1 ∧ f 1 ≤ f 0 ∧ f 0 ≤ 20 ∧ 0 ≤ f 2 ∧ f 2 ≤ 30 ∧ 0 ≤ f 4) ∧ (0 ≤ f 3 ∧ f 3 ≤ 999 ∧ 50 ≤ f 5 ∧ f 5 ≤ 999 ∧ 0 ≤ f 6 ∧ f 6 ≤ 9) ∧ (0 < f 4 → f 2 < 30) ∧ (∀ j, j < 20 → (0 ≤ f (137 + 6 * j + 0) ∧ f (137 + 6 * j + 0) ≤ 999) ∧ (0 ≤ f (137 + 6 * j + 1) ∧ f (137 + 6 * j + 1) ≤ 999) ∧ (0 ≤ f (137 + 6 * j + 2) ∧ f (137 + 6 * j + 2) ≤ 5) ∧ (0 ≤ f (137 + 6 * j + 3) ∧ f (137 + 6 * j + 3) ≤ 9)) ∧ ∀ w, w < 30 → (0 ≤ f (17 + 4 * w + 0) ∧ f (17 + 4 * w + 0) ≤ 4) ∧ (0 ≤ f (17 + 4 * w + 1) ∧ f (17 + 4 * w + 1) ≤ 999)
theorem novI_n {D : DT} {n k : Nat} (h : k < 17) : novI D n k = D (nu n) (nI k) := if_pos h
theorem novI_s {D : DT} {n r j : Nat} (hr : r < 6) (hj : j < 20) : novI D n (137 + 6 * j + r) = D (n + 3 + r) (nI j) := by
  unfold novI
  rw [if_neg (by omega), if_neg (by omega), show (137 + 6 * j + r - 137) % 6 = r by omega, show (137 + 6 * j + r - 137) / 6 = j by omega]
theorem novI_w {D : DT} {n r j : Nat} (hr : r < 4) (hj : j < 30) : novI D n (17 + 4 * j + r) = D (n + 10 + r) (nI j) := by
  unfold novI
  rw [if_neg (by omega), if_pos (by omega), show (17 + 4 * j + r - 17) % 4 = r by omega, show (17 + 4 * j + r - 17) / 4 = j by omega]
theorem InvI.c {f g : Nat → Int32} (h : InvI f) (e : ∀ k, k < 257 → g k = f k) : InvI g := by
  obtain ⟨h1, h2, h3, h4, h5⟩ := h
  unfold InvI
  rw [e 0 (by omega), e 1 (by omega), e 2 (by omega), e 3 (by omega), e 4 (by omega), e 5 (by omega), e 6 (by omega)]
  refine ⟨h1, h2, h3, fun j hj => ?_, fun w hw => ?_⟩
  · rw [e _ (by omega), e _ (by omega), e _ (by omega), e _ (by omega)]
    exact h4 j hj
  · rw [e _ (by omega), e _ (by omega)]
    exact h5 w hw
theorem inv_of {D : DT} {n : Nat} (h : InvI (novI D n)) : NovInv D n := by
  obtain ⟨h1, h2, h3, h4, h5⟩ := h
  rw [novI_n (by omega), novI_n (by omega), novI_n (by omega), novI_n (by omega)] at h1
  rw [novI_n (by omega), novI_n (by omega), novI_n (by omega)] at h2
  rw [novI_n (by omega), novI_n (by omega)] at h3
  refine ⟨h1, h2, h3, fun i i0 i1 => ?_, fun w w0 w1 => ?_⟩
  · obtain ⟨j, hj, rfl⟩ := nI_of (x := i) (Int32.not_lt.mpr i0)
    have j20 := (nI_ltI (b := 20) hj (by decide)).mp i1
    have := h4 j j20
    rw [novI_s (by omega) j20, novI_s (by omega) j20, novI_s (by omega) j20, novI_s (by omega) j20] at this
    exact this
  · obtain ⟨j, hj, rfl⟩ := nI_of (x := w) (Int32.not_lt.mpr w0)
    have j30 := (nI_ltI (b := 30) hj (by decide)).mp w1
    have := h5 j j30
    rw [novI_w (by omega) j30, novI_w (by omega) j30] at this
    exact this
theorem inv_to {D : DT} {n : Nat} (h : NovInv D n) : InvI (novI D n) := by
  obtain ⟨h1, h2, h3, h4, h5⟩ := h
  unfold InvI
  rw [novI_n (k := 0) (by omega), novI_n (k := 1) (by omega), novI_n (k := 2) (by omega), novI_n (k := 3) (by omega), novI_n (k := 4) (by omega), novI_n (k := 5) (by omega), novI_n (k := 6) (by omega)]
  refine ⟨h1, h2, h3, fun j hj => ?_, fun w hw => ?_⟩
  · rw [novI_s (by omega) hj, novI_s (by omega) hj, novI_s (by omega) hj, novI_s (by omega) hj]
    exact h4 (nI j) (nI_pos' (by omega)) ((nI_ltI (b := 20) (by omega) (by decide)).mpr hj)
  · rw [novI_w (by omega) hw, novI_w (by omega) hw]
    exact h5 (nI w) (nI_pos' (by omega)) ((nI_ltI (b := 30) (by omega) (by decide)).mpr hw)
/-- the model's numbers by index -/
def gM (D : DT) (a k : Nat) : Int32 := D (ms a) (nI k)
theorem uM_n {D : DT} {a i k : Nat} {v : Int32} (hi : i < 773) (hk : k < 773) : uD D (ms a) (nI i) v (ms a) (nI k) = if k = i then v else D (ms a) (nI k) := by
  unfold uD
  by_cases e : k = i
  · rw [if_pos e, if_pos ⟨rfl, by rw [e]⟩]
  · rw [if_neg e, if_neg (fun q => e ((nI_eq (by omega) (by omega)).mp q.2))]
section ACN
variable {K : KT} {G : GT} {D D' E : DT} {x a : Nat} {f : Nat → Int32}
theorem Rel.img (hR : Rel K G D x a) {k : Nat} (hk : k < 257) : novI D (xv x) k = gM D a k := by
  have := hR.2.1.1.1.img hk
  rw [Nat.zero_add] at this
  exact this
theorem Rel.invI (hR : Rel K G D x a) : InvI (gM D a) := (inv_to hR.2.1.2.1).c fun k hk => (hR.img hk).symm
theorem Rel.imgR (hR : Rel K G D x a) {k : Nat} (hk : k < 257) : novI (rD G D x) (xv x) k = gM D a k := by
  obtain ⟨st, sh, slot, -, -, -, -, -, r8, -, ⟨s0, s1⟩, -⟩ := rec_s hR
  rw [← hR.img hk]
  exact novI_c fun z z0 z1 => r8 z (by unfold xv mv xN at z1; omega) (by unfold xH; unfold xv mv xN at z1; omega)
/-- what the model sees behind the class's action -/
theorem Rel.to6 (hR : Rel K G D x a) (h1 : ∀ b, (b < x + 1 ∨ x + 46 ≤ b) → b ≠ xT x → D' b = rD G D x b) : MActS K (recG G D (xH x)) D' a ∧ D' (ms a) = D (ms a) ∧ yN D' a = yN D a ∧ yS D' a = yS D a ∧ yW D' a = yW D a ∧ sN D' a = sN D a ∧ gM D' a = gM D a ∧ D' a = D a := by
  obtain ⟨st, sh, slot, -, -, -, -, -, r8, -, ⟨s0, s1⟩, -⟩ := rec_s hR
  have ha := hR.1.2.2.1
  obtain ⟨⟨hM, hI⟩, hb⟩ := hR.see.2.2.1
  have oa : ∀ b, a ≤ b → D' b = D b := fun b hb => by
    rw [h1 b (by omega) (by unfold xT; omega), r8 b (by omega) (by unfold xH; omega)]
  have e0 := oa a (Nat.le_refl _)
  have e1 : D' (ms a) = D (ms a) := oa _ (by unfold ms; omega)
  have eG : recG G D (xH x) a = G a := recG_o (by rw [hS_x]; omega)
  have y1 : yN D' a = yN D a := e1
  have y2 : yS D' a = yS D a := by unfold yS; rw [e1]
  have y3 : yW D' a = yW D a := by unfold yW; rw [e1]
  refine ⟨⟨⟨?_, by rw [y1, y2, y3]; exact hI⟩, by rw [e0]; exact hb⟩, e1, y1, y2, y3, ?_, ?_, e0⟩
  · unfold Mod
    rw [eG]
    exact hM
  · funext i
    unfold sN
    rw [e1]
  · funext i
    unfold gM
    rw [e1]
theorem act_nv (hR : Rel K G D x a) (h1 : ∀ b, (b < xv x + 1 ∨ xv x + 14 ≤ b) → D' b = rD G D x b) (hM : MRec D' E a f) {F : Nat → Int32} (hf : ∀ k, k < 773 → f k = F k) (hF : ∀ k, 257 ≤ k → k < 773 → F k = gM D a k) (hn : ∀ k, k < 257 → novI D' (xv x) k = F k) (hI : InvI F) : Rel K (recG G D (xH x)) E x a :=
  act_nov hR h1 hM (fun k k0 k1 => (hf k k1).trans (hF k k0 k1)) (fun k hk => (hn k hk).trans (hf k (by omega)).symm) (inv_of (hI.c hn))
end ACN
