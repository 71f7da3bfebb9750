/-! ### the relation between the class's memory and the model's -/
/-- a novel of the class and a block of 257 numbers of the model -/
def NovEq (D : DT) (n s base : Nat) : Prop := (∀ i, i < 17 → D (nu n) (nI i) = D s (nI (base + i))) ∧ (∀ r i, r < 6 → i < 20 → D (n + 3 + r) (nI i) = D s (nI (base + 137 + 6 * i + r))) ∧ ∀ r w, r < 4 → w < 30 → D (n + 10 + r) (nI w) = D s (nI (base + 17 + 4 * w + r))
def slN (m j : Nat) : Nat := m + 17 + 14 * j
/-- a moment of the class and a block of 773 numbers of the model -/
def MomEq (D : DT) (m s base : Nat) : Prop := NovEq D (mv m) s base ∧ ∀ j, j < 2 → D (mt m) (nI j) = D s (nI (base + 771 + j)) ∧ (D (mt m) (nI j) = 0 ∨ D (mt m) (nI j) = 1) ∧ (D (mt m) (nI j) = 1 → NovEq D (slN m j) s (base + 257 + 257 * j))
def NovInv (D : DT) (n : Nat) : Prop := Inv (D (nu n)) (SS D n) (WW D n)
def MomInv (D : DT) (m : Nat) : Prop := NovInv D (mv m) ∧ ∀ j, j < 2 → D (mt m) (nI j) = 1 → NovInv D (slN m j)
def Apart (G : GT) (x : Nat) : Prop := ∀ i j, i < 6 → j < 6 → i ≠ j → Mdis (sta G (xH x) (nI i)) (sta G (xH x) (nI j))
def Rel (K : KT) (G : GT) (D : DT) (x a : Nat) : Prop := (Cls K G x ∧ Mod K G a ∧ x + 414 ≤ a ∧ Apart G x) ∧ (MomEq D (xN x) (ms a) 0 ∧ MomInv D (xN x)) ∧ (∃ h : Nat, h ≤ 6 ∧ D (xH x) 1 = nI h ∧ D a 3 = nI h ∧ ∀ i, i < h → MomEq D (sta G (xH x) (nI i)) (mw a) (773 * i) ∧ MomInv D (sta G (xH x) (nI i))) ∧ (D (xT x) 2 = D a 5 ∧ 0 ≤ D a 5 ∧ D a 5 ≤ 100 ∧ D (tc (xT x)) = D (mx a))
theorem NovEq.vw {D : DT} {n a : Nat} (h : NovEq D n (ms a) 0) : Vw (D (nu n)) (SS D n) (WW D n) (yN D a) (yS D a) (yW D a) := by
  obtain ⟨h1, h2, h3⟩ := h
  refine ⟨fun i i0 i1 => ?_, fun r i r0 r1 i0 i1 => ?_, fun r w r0 r1 w0 w1 => ?_⟩
  · obtain ⟨j, hj, rfl⟩ := nI_of (x := i) (Int32.not_lt.mpr i0)
    have := h1 j ((nI_ltI (b := 17) hj (by decide)).mp i1)
    rw [Nat.zero_add] at this
    exact this
  · obtain ⟨j, hj, rfl⟩ := nI_of (x := i) (Int32.not_lt.mpr i0)
    obtain ⟨q, hq, rfl⟩ := nI_of (x := r) (Int32.not_lt.mpr r0)
    have q6 := (nI_ltI (b := 6) hq (by decide)).mp r1
    have := h2 q j q6 ((nI_ltI (b := 20) hj (by decide)).mp i1)
    rw [yS_n]
    show D (sc n (nI q)) (nI j) = _
    rw [sc_n q6, this]
    all_goals exact congrArg (fun z => D (ms a) (nI z)) (by omega)
  · obtain ⟨j, hj, rfl⟩ := nI_of (x := w) (Int32.not_lt.mpr w0)
    obtain ⟨q, hq, rfl⟩ := nI_of (x := r) (Int32.not_lt.mpr r0)
    have q4 := (nI_ltI (b := 4) hq (by decide)).mp r1
    have := h3 q j q4 ((nI_ltI (b := 30) hj (by decide)).mp w1)
    unfold yW
    rw [show (17 : Int32) = nI 17 from rfl, show (4 : Int32) = nI 4 from rfl, pk_mul, nI_add, nI_add]
    show D (wk n (nI q)) (nI j) = _
    rw [wk_n q4, this]
    all_goals exact congrArg (fun z => D (ms a) (nI z)) (by omega)
/-- what is read of the relation at once -/
theorem Rel.see {K : KT} {G : GT} {D : DT} {x a : Nat} (h : Rel K G D x a) : Vw (D (nu (xv x))) (SS D (xv x)) (WW D (xv x)) (yN D a) (yS D a) (yW D a) ∧ Act K G D x ∧ MActS K G D a ∧ (∀ i : Int32, 0 ≤ i ∧ i < D (xH x) 1 → Boo D (sta G (xH x) i)) := by
  obtain ⟨⟨hC, hM, -, -⟩, ⟨⟨hN, hS⟩, hI, -⟩, ⟨h, h6, e1, e2, hK⟩, -⟩ := h
  have hv := NovEq.vw hN
  have boo : ∀ {m s b}, MomEq D m s b → Boo D m := fun {m s b} q => ⟨(q.2 0 (by omega)).2.1, (q.2 1 (by omega)).2.1⟩
  have hh : 0 ≤ nI h ∧ nI h ≤ 6 := ⟨nI_pos' (by omega), (nI_leI (b := 6) (by omega) (by decide)).mpr h6⟩
  refine ⟨hv, ⟨hC, hI.1, by rw [e1]; exact hh, boo ⟨hN, hS⟩⟩, ⟨⟨hM, hv.inv hI⟩, by rw [e2]; exact hh⟩, fun i ⟨i0, i1⟩ => ?_⟩
  obtain ⟨j, hj, rfl⟩ := nI_of (x := i) (Int32.not_lt.mpr i0)
  rw [e1] at i1
  exact boo (hK j ((nI_ltI hj (by omega)).mp i1)).1
