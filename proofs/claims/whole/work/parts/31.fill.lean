/-! ### the whole table -/
theorem tP_n {p j : Nat} (h : j < 21) : tP p (nI j) = p + 2 + j := by unfold tP; rw [nI_clamp (by omega)]
theorem tF_n {p j : Nat} (h : j < 21) : tF p (nI j) = p + 24 + j := by unfold tF; rw [nI_clamp (by omega)]
theorem tG_n {p j : Nat} (h : j < 21) : tG p (nI j) = p + 46 + j := by unfold tG; rw [nI_clamp (by omega)]
theorem tC_n {p j : Nat} (h : j < 21) : tC p (nI j) = p + 68 + j := by unfold tC; rw [nI_clamp (by omega)]
def Fra (D E : DT) (p : Nat) : Prop := ∀ a, a ≠ p → (a < p + 2 ∨ p + 89 ≤ a) → E a = D a
def Zer (E : DT) (p g e j : Nat) : Prop := ∀ f, g ≤ f → f < e → E (p + 2 + j) (nI f) = 0
def Ende (E : DT) (p e j : Nat) : Prop := E (p + 2 + j) (nI e) = 1 ∧ E (p + 24 + j) (nI e) = 0 ∧ E (p + 46 + j) (nI e) = 0
def celT (E : DT) (p j f : Nat) : T4 := (E (p + 2 + j) (nI f), E (p + 24 + j) (nI f), E (p + 46 + j) (nI f), E (p + 68 + j) (nI f))
/-- a place of the table is what the row behind it makes of it -/
def Cel (N : Int32 → Int32) (S W : Int32 → Int32 → Int32) (E : DT) (p e : Nat) (c v : Int32) (j f : Nat) : Prop := ∃ x : Int32 × Int32 × Int32,
  celT E p j f = foR (E (p + 2 + (j + 1))) (E (p + 24 + (j + 1))) (E (p + 46 + (j + 1))) (fun m => reaF N S W (nI f) m (N 2 + nI j) c v) (fun m => lastF S (nI f + m) c) (nI f) (0, x) (e - f)
/-- the first loop: the rows from r on are cleared -/
def FI1 (D E : DT) (p b e mo r : Nat) : Prop := Fra D E p ∧ (E p 4 = nI b ∧ E p 5 = nI e) ∧ ∀ j, r ≤ j → j ≤ mo → Ende E p e j ∧ Zer E p (b + j) e j
def FI2 (D E : DT) (p b e mo r g : Nat) : Prop := FI1 D E p b e mo (r + 1) ∧ ∀ f, b + r ≤ f → f < g → E (p + 2 + r) (nI f) = 0
/-- the second loop: the rows above r are made, of row r the places ahead of g -/
def FI4 (N : Int32 → Int32) (S W : Int32 → Int32 → Int32) (D E : DT) (p b e mo : Nat) (v : Int32) (r g : Nat) : Prop := Fra D E p ∧ (E p 4 = nI b ∧ E p 5 = nI e) ∧ (∀ j, j ≤ mo → Ende E p e j) ∧ Zer E p (b + mo) e mo ∧ (∀ j, j < r → j ≤ mo → Zer E p (b + j) e j) ∧ (r < mo → Zer E p g e r) ∧ (∀ f, r < mo → b + r ≤ f → f < g → f < e → Cel N S W E p e 0 v r f) ∧ ∀ j f, r < j → j < mo → b + j ≤ f → f < e → Cel N S W E p e 0 v j f
/-- what the table is in the end -/
def FilP (N : Int32 → Int32) (S W : Int32 → Int32 → Int32) (D E : DT) (p b e mo : Nat) (c v : Int32) : Prop := Fra D E p ∧ (E p 4 = nI b ∧ E p 5 = nI e) ∧ (∀ j, j ≤ mo → Ende E p e j) ∧ Zer E p (b + mo) e mo ∧ (0 < mo → Cel N S W E p e c v 0 b) ∧ ∀ j f, 0 < j → j < mo → b + j ≤ f → f < e → Cel N S W E p e 0 v j f
theorem uD_at {D : DT} {a b : Nat} {f g : Nat} {x : Int32} (hf : f < 1000) (hg : g < 1000) (h : b = a → g ≠ f) : uD D a (nI f) x b (nI g) = D b (nI g) := by
  unfold uD
  by_cases e : b = a
  · rw [if_neg (fun q => h e ((nI_eq (by omega) (by omega)).mp q.2))]
  · rw [if_neg (fun q => e q.1)]
theorem uD_eq {D : DT} {a : Nat} {i x : Int32} : uD D a i x a i = x := by
  unfold uD
  rw [if_pos ⟨rfl, rfl⟩]
theorem FI2_s {D E : DT} {p b e mo r g : Nat} (h : FI2 D E p b e mo r g) (hr : r ≤ mo) (hm : mo ≤ 20) (he : e ≤ 20) (hg : g < e) : FI2 D (uD E (tP p (nI r)) (nI g) 0) p b e mo r (g + 1) := by
  obtain ⟨⟨h1, h2, h3⟩, h4⟩ := h
  rw [tP_n (by omega)]
  refine ⟨⟨fun a a1 a2 => by rw [uD_o (by omega)]; exact h1 a a1 a2, by rw [uD_o (by omega)]; exact h2, fun j j1 j2 => ?_⟩, fun f f1 f2 => ?_⟩
  · obtain ⟨q1, q2⟩ := h3 j j1 j2
    refine ⟨?_, fun f f1 f2 => ?_⟩
    · unfold Ende at q1 ⊢
      rw [uD_o (by omega), uD_o (by omega), uD_o (by omega)]
      exact q1
    · rw [uD_o (by omega)]
      exact q2 f f1 f2
  · by_cases q : f = g
    · subst q
      rw [uD_eq]
    · rw [uD_at (by omega) (by omega) (fun _ => q)]
      exact h4 f f1 (by omega)
theorem FI1_s {D E : DT} {p b e mo r g : Nat} (h : FI2 D E p b e mo r g) (hr : r ≤ mo) (hm : mo ≤ 20) (he : e ≤ 20) (hg : e ≤ g) : FI1 D (uD (uD (uD E (tP p (nI r)) (nI e) 1) (tF p (nI r)) (nI e) 0) (tG p (nI r)) (nI e) 0) p b e mo r := by
  obtain ⟨⟨h1, h2, h3⟩, h4⟩ := h
  rw [tP_n (by omega), tF_n (by omega), tG_n (by omega)]
  refine ⟨fun a a1 a2 => ?_, ?_, fun j j1 j2 => ?_⟩
  · rw [uD_o (by omega), uD_o (by omega), uD_o (by omega)]
    exact h1 a a1 a2
  · rw [uD_o (by omega), uD_o (by omega), uD_o (by omega)]
    exact h2
  · by_cases q : j = r
    · subst q
      refine ⟨⟨?_, ?_, ?_⟩, fun f f1 f2 => ?_⟩
      · rw [uD_o (by omega), uD_o (by omega), uD_eq]
      · rw [uD_o (by omega), uD_eq]
      · rw [uD_eq]
      · rw [uD_o (by omega), uD_o (by omega), uD_at (by omega) (by omega) (fun _ => by omega)]
        exact h4 f f1 (by omega)
    · obtain ⟨q1, q2⟩ := h3 j (by omega) j2
      refine ⟨?_, fun f f1 f2 => ?_⟩
      · unfold Ende at q1 ⊢
        rw [uD_o (by omega), uD_o (by omega), uD_o (by omega), uD_o (by omega), uD_o (by omega), uD_o (by omega), uD_o (by omega), uD_o (by omega), uD_o (by omega)]
        exact q1
      · rw [uD_o (by omega), uD_o (by omega), uD_o (by omega)]
        exact q2 f f1 f2
theorem FI4_0 {N : Int32 → Int32} {S W : Int32 → Int32 → Int32} {D E : DT} {p b e mo : Nat} {v : Int32} (h : FI1 D E p b e mo 0) : FI4 N S W D E p b e mo v mo e := by
  obtain ⟨h1, h2, h3⟩ := h
  exact ⟨h1, h2, fun j hj => (h3 j (by omega) hj).1, (h3 mo (by omega) (by omega)).2, fun j hj hj2 => (h3 j (by omega) hj2).2, fun q => absurd q (by omega), fun f q => absurd q (by omega), fun j f q1 q2 => absurd q1 (by omega)⟩
theorem FI4_d {N : Int32 → Int32} {S W : Int32 → Int32 → Int32} {D E : DT} {p b e mo : Nat} {v : Int32} {r g : Nat} (h : FI4 N S W D E p b e mo v (r + 1) g) (hg : e ≤ g) (hr : r < mo) : FI4 N S W D E p b e mo v r (b + r) := by
  obtain ⟨h1, h2, h3, h4, h5, h6, h7, h8⟩ := h
  refine ⟨h1, h2, h3, h4, fun j hj hj2 => h5 j (by omega) hj2, fun _ => h5 r (by omega) (by omega), fun f _ q1 q2 => absurd q2 (by omega), fun j f q1 q2 q3 q4 => ?_⟩
  by_cases q : j = r + 1
  · subst q
    exact h7 f q2 q3 (by omega) q4
  · exact h8 j f (by omega) q2 q3 q4
theorem wr_celT {E : DT} {p r g : Nat} {T : T4} {j f : Nat} (hr : r < 21) (hj : j < 22) (hf : f < 1000) (hg : g < 1000) (h : j ≠ r ∨ f ≠ g) : celT (wr4 E p (nI r) (nI g) T) p j f = celT E p j f := by
  unfold celT wr4
  rw [tP_n hr, tF_n hr, tG_n hr, tC_n hr]
  have k : ∀ (E : DT) (a b : Nat) (x : Int32), (b = a → j = r) → uD E a (nI g) x b (nI f) = E b (nI f) := fun E a b x q => uD_at hg hf (fun z => by have := q z; omega)
  rw [k _ _ (p + 2 + j) _ (by omega), k _ _ (p + 2 + j) _ (by omega), k _ _ (p + 2 + j) _ (by omega), k _ _ (p + 2 + j) _ (by omega)]
  rw [k _ _ (p + 24 + j) _ (by omega), k _ _ (p + 24 + j) _ (by omega), k _ _ (p + 24 + j) _ (by omega), k _ _ (p + 24 + j) _ (by omega)]
  rw [k _ _ (p + 46 + j) _ (by omega), k _ _ (p + 46 + j) _ (by omega), k _ _ (p + 46 + j) _ (by omega), k _ _ (p + 46 + j) _ (by omega)]
  rw [k _ _ (p + 68 + j) _ (by omega), k _ _ (p + 68 + j) _ (by omega), k _ _ (p + 68 + j) _ (by omega), k _ _ (p + 68 + j) _ (by omega)]
theorem wr_celS {E : DT} {p r g : Nat} {T : T4} (hr : r < 21) : celT (wr4 E p (nI r) (nI g) T) p r g = T := by
  have h1 := wr4_P (D := E) (p := p) (r := nI r) (f := nI g) (T := T) (by rw [nI_clamp (by omega)]; omega)
  have h2 := wr4_F (D := E) (p := p) (r := nI r) (f := nI g) (T := T) (by rw [nI_clamp (by omega)]; omega)
  have h3 := wr4_G (D := E) (p := p) (r := nI r) (f := nI g) (T := T) (by rw [nI_clamp (by omega)]; omega)
  have h4 := wr4_C (D := E) (p := p) (r := nI r) (f := nI g) (T := T)
  rw [tP_n hr] at h1
  rw [tF_n hr] at h2
  rw [tG_n hr] at h3
  rw [tC_n hr] at h4
  unfold celT
  rw [h1, h2, h3, h4]
theorem wr_row {E : DT} {p r g : Nat} {T : T4} {a : Nat} (hr : r < 21) (h : a ≠ p + 2 + r ∧ a ≠ p + 24 + r ∧ a ≠ p + 46 + r ∧ a ≠ p + 68 + r) : wr4 E p (nI r) (nI g) T a = E a := by
  refine wr4_o ?_ ?_ ?_ ?_
  · rw [tP_n hr]; omega
  · rw [tF_n hr]; omega
  · rw [tG_n hr]; omega
  · rw [tC_n hr]; omega
theorem Cel_w {N : Int32 → Int32} {S W : Int32 → Int32 → Int32} {E : DT} {p e : Nat} {c v : Int32} {j f r g : Nat} {T : T4} (h : Cel N S W E p e c v j f) (hr : r < 21) (hj : j < 21) (hf : f < 1000) (hg : g < 1000) (h1 : j ≠ r ∨ f ≠ g) (h2 : j + 1 ≠ r) : Cel N S W (wr4 E p (nI r) (nI g) T) p e c v j f := by
  obtain ⟨x, hx⟩ := h
  refine ⟨x, ?_⟩
  rw [wr_celT hr (by omega) hf hg h1, hx, wr_row hr (by omega), wr_row hr (by omega), wr_row hr (by omega)]
theorem Cel_n {N : Int32 → Int32} {S W : Int32 → Int32 → Int32} {E : DT} {p e : Nat} {c v : Int32} {r g : Nat} (hr : r < 20) (hz : E (p + 2 + r) (nI g) = 0) : Cel N S W (wr4 E p (nI r) (nI g) (foR (E (p + 2 + (r + 1))) (E (p + 24 + (r + 1))) (E (p + 46 + (r + 1))) (fun m => reaF N S W (nI g) m (N 2 + nI r) c v) (fun m => lastF S (nI g + m) c) (nI g) (celT E p r g) (e - g))) p e c v r g := by
  refine ⟨(E (p + 24 + r) (nI g), E (p + 46 + r) (nI g), E (p + 68 + r) (nI g)), ?_⟩
  rw [wr_celS (by omega), wr_row (by omega) (by omega), wr_row (by omega) (by omega), wr_row (by omega) (by omega)]
  unfold celT
  rw [hz]
theorem FI4_s {N : Int32 → Int32} {S W : Int32 → Int32 → Int32} {D E : DT} {p b e mo : Nat} {v : Int32} {r g : Nat} (h : FI4 N S W D E p b e mo v r g) (hr : r < mo) (hm : mo ≤ 20) (he : e ≤ 20) (hg : g < e) (hgb : b + r ≤ g) :
    FI4 N S W D (wr4 E p (nI r) (nI g) (foR (E (p + 2 + (r + 1))) (E (p + 24 + (r + 1))) (E (p + 46 + (r + 1))) (fun m => reaF N S W (nI g) m (N 2 + nI r) 0 v) (fun m => lastF S (nI g + m) 0) (nI g) (celT E p r g) (e - g))) p b e mo v r (g + 1) := by
  obtain ⟨h1, h2, h3, h4, h5, h6, h7, h8⟩ := h
  have hz := h6 hr g (by omega) hg
  have hn := Cel_n (N := N) (S := S) (W := W) (E := E) (p := p) (e := e) (c := 0) (v := v) (r := r) (g := g) (by omega) hz
  generalize foR (E (p + 2 + (r + 1))) (E (p + 24 + (r + 1))) (E (p + 46 + (r + 1))) (fun m => reaF N S W (nI g) m (N 2 + nI r) 0 v) (fun m => lastF S (nI g + m) 0) (nI g) (celT E p r g) (e - g) = T at hn ⊢
  have key : ∀ j f, j < 22 → f < 1000 → (j ≠ r ∨ f ≠ g) → celT (wr4 E p (nI r) (nI g) T) p j f = celT E p j f := fun j f q1 q2 q3 => wr_celT (by omega) q1 q2 (by omega) q3
  have kP : ∀ j f, j < 22 → f < 1000 → (j ≠ r ∨ f ≠ g) → wr4 E p (nI r) (nI g) T (p + 2 + j) (nI f) = E (p + 2 + j) (nI f) := fun j f q1 q2 q3 => congrArg (fun z => z.1) (key j f q1 q2 q3)
  have kF : ∀ j f, j < 22 → f < 1000 → (j ≠ r ∨ f ≠ g) → wr4 E p (nI r) (nI g) T (p + 24 + j) (nI f) = E (p + 24 + j) (nI f) := fun j f q1 q2 q3 => congrArg (fun z => z.2.1) (key j f q1 q2 q3)
  have kG : ∀ j f, j < 22 → f < 1000 → (j ≠ r ∨ f ≠ g) → wr4 E p (nI r) (nI g) T (p + 46 + j) (nI f) = E (p + 46 + j) (nI f) := fun j f q1 q2 q3 => congrArg (fun z => z.2.2.1) (key j f q1 q2 q3)
  refine ⟨fun a a1 a2 => by rw [wr_row (by omega) (by omega)]; exact h1 a a1 a2, by rw [wr_row (by omega) (by omega)]; exact h2, fun j hj => ?_, fun f f1 f2 => by rw [kP mo f (by omega) (by omega) (Or.inl (by omega))]; exact h4 f f1 f2, fun j hj hj2 f f1 f2 => by rw [kP j f (by omega) (by omega) (Or.inl (by omega))]; exact h5 j hj hj2 f f1 f2, fun _ f f1 f2 => by rw [kP r f (by omega) (by omega) (Or.inr (by omega))]; exact h6 hr f (by omega) f2, fun f _ f1 f2 f3 => ?_, fun j f q1 q2 q3 q4 => Cel_w (h8 j f q1 q2 q3 q4) (by omega) (by omega) (by omega) (by omega) (Or.inl (by omega)) (by omega)⟩
  · obtain ⟨q1, q2, q3⟩ := h3 j hj
    exact ⟨by rw [kP j e (by omega) (by omega) (Or.inr (by omega))]; exact q1, by rw [kF j e (by omega) (by omega) (Or.inr (by omega))]; exact q2, by rw [kG j e (by omega) (by omega) (Or.inr (by omega))]; exact q3⟩
  · by_cases q : f = g
    · subst q
      exact hn
    · exact Cel_w (h7 f hr f1 (by omega) f3) (by omega) (by omega) (by omega) (by omega) (Or.inr q) (by omega)
theorem FilP_s {N : Int32 → Int32} {S W : Int32 → Int32 → Int32} {D E : DT} {p b e mo : Nat} {c v : Int32} {g : Nat} (h : FI4 N S W D E p b e mo v 1 g) (hg : e ≤ g) (hr : 0 < mo) (hm : mo ≤ 20) (he : e ≤ 20) (hb : b + mo ≤ e) :
    FilP N S W D (wr4 E p (nI 0) (nI b) (foR (E (p + 2 + (0 + 1))) (E (p + 24 + (0 + 1))) (E (p + 46 + (0 + 1))) (fun m => reaF N S W (nI b) m (N 2 + nI 0) c v) (fun m => lastF S (nI b + m) c) (nI b) (celT E p 0 b) (e - b))) p b e mo c v := by
  obtain ⟨h1, h2, h3, h4, h5, h6, h7, h8⟩ := h
  have hz := h5 0 (by omega) (by omega) b (by omega) (by omega)
  have hn := Cel_n (N := N) (S := S) (W := W) (E := E) (p := p) (e := e) (c := c) (v := v) (r := 0) (g := b) (by omega) hz
  generalize foR (E (p + 2 + (0 + 1))) (E (p + 24 + (0 + 1))) (E (p + 46 + (0 + 1))) (fun m => reaF N S W (nI b) m (N 2 + nI 0) c v) (fun m => lastF S (nI b + m) c) (nI b) (celT E p 0 b) (e - b) = T at hn ⊢
  have key : ∀ j f, j < 22 → f < 1000 → (j ≠ 0 ∨ f ≠ b) → celT (wr4 E p (nI 0) (nI b) T) p j f = celT E p j f := fun j f q1 q2 q3 => wr_celT (by omega) q1 q2 (by omega) q3
  have kP : ∀ j f, j < 22 → f < 1000 → (j ≠ 0 ∨ f ≠ b) → wr4 E p (nI 0) (nI b) T (p + 2 + j) (nI f) = E (p + 2 + j) (nI f) := fun j f q1 q2 q3 => congrArg (fun z => z.1) (key j f q1 q2 q3)
  have kF : ∀ j f, j < 22 → f < 1000 → (j ≠ 0 ∨ f ≠ b) → wr4 E p (nI 0) (nI b) T (p + 24 + j) (nI f) = E (p + 24 + j) (nI f) := fun j f q1 q2 q3 => congrArg (fun z => z.2.1) (key j f q1 q2 q3)
  have kG : ∀ j f, j < 22 → f < 1000 → (j ≠ 0 ∨ f ≠ b) → wr4 E p (nI 0) (nI b) T (p + 46 + j) (nI f) = E (p + 46 + j) (nI f) := fun j f q1 q2 q3 => congrArg (fun z => z.2.2.1) (key j f q1 q2 q3)
  refine ⟨fun a a1 a2 => by rw [wr_row (by omega) (by omega)]; exact h1 a a1 a2, by rw [wr_row (by omega) (by omega)]; exact h2, fun j hj => ?_, fun f f1 f2 => by rw [kP mo f (by omega) (by omega) (Or.inl (by omega))]; exact h4 f f1 f2, fun _ => hn, fun j f q1 q2 q3 q4 => ?_⟩
  · obtain ⟨q1, q2, q3⟩ := h3 j hj
    exact ⟨by rw [kP j e (by omega) (by omega) (Or.inr (by omega))]; exact q1, by rw [kF j e (by omega) (by omega) (Or.inr (by omega))]; exact q2, by rw [kG j e (by omega) (by omega) (Or.inr (by omega))]; exact q3⟩
  · refine Cel_w ?_ (by omega) (by omega) (by omega) (by omega) (Or.inl (by omega)) (by omega)
    by_cases q : j = 1
    · subst q
      exact h7 f q2 q3 (by omega) q4
    · exact h8 j f (by omega) q2 q3 q4
theorem FilP_0 {N : Int32 → Int32} {S W : Int32 → Int32 → Int32} {D E : DT} {p b e : Nat} {c v : Int32} {r g : Nat} (h : FI4 N S W D E p b e 0 v r g) : FilP N S W D E p b e 0 c v := by
  obtain ⟨h1, h2, h3, h4, h5, h6, h7, h8⟩ := h
  exact ⟨h1, h2, h3, h4, fun q => absurd q (by omega), fun j f _ q => absurd q (by omega)⟩
