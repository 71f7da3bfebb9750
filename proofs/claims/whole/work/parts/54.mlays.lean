/-! ### the model's plan table -/
def wrM (B : DT) (a : Nat) (h : Int32) (T : T4) : DT := uD (uD (uD (uD B (mW a) h T.1) (mF a) h T.2.1) (mG a) h T.2.2.1) (mT a) h T.2.2.2
def mcel (B : DT) (a j p : Nat) : T4 := (B (mW a) (nI (21 * j + p)), B (mF a) (nI (21 * j + p)), B (mG a) (nI (21 * j + p)), B (mT a) (nI (21 * j + p)))
theorem mm_ne {a : Nat} : mW a ≠ mF a ∧ mW a ≠ mG a ∧ mW a ≠ mT a ∧ mF a ≠ mW a ∧ mF a ≠ mG a ∧ mF a ≠ mT a ∧ mG a ≠ mW a ∧ mG a ≠ mF a ∧ mG a ≠ mT a ∧ mT a ≠ mW a ∧ mT a ≠ mF a ∧ mT a ≠ mG a := by
  unfold mW mF mG mT
  omega
theorem wrM_W {B : DT} {a : Nat} {h i : Int32} {T : T4} : wrM B a h T (mW a) i = if h.toInt = i.toInt then T.1 else B (mW a) i := by
  obtain ⟨h1, h2, h3, -⟩ := mm_ne (a := a)
  unfold wrM
  rw [uD_o h3, uD_o h2, uD_o h1, uD_s]
theorem wrM_F {B : DT} {a : Nat} {h i : Int32} {T : T4} : wrM B a h T (mF a) i = if h.toInt = i.toInt then T.2.1 else B (mF a) i := by
  obtain ⟨-, -, -, h4, h5, h6, -⟩ := mm_ne (a := a)
  unfold wrM
  rw [uD_o h6, uD_o h5, uD_s, uD_o h4]
theorem wrM_G {B : DT} {a : Nat} {h i : Int32} {T : T4} : wrM B a h T (mG a) i = if h.toInt = i.toInt then T.2.2.1 else B (mG a) i := by
  obtain ⟨-, -, -, -, -, -, h7, h8, h9, -⟩ := mm_ne (a := a)
  unfold wrM
  rw [uD_o h9, uD_s, uD_o h8, uD_o h7]
theorem wrM_T {B : DT} {a : Nat} {h i : Int32} {T : T4} : wrM B a h T (mT a) i = if h.toInt = i.toInt then T.2.2.2 else B (mT a) i := by
  obtain ⟨-, -, -, -, -, -, -, -, -, h10, h11, h12⟩ := mm_ne (a := a)
  unfold wrM
  rw [uD_s, uD_o h12, uD_o h11, uD_o h10]
theorem wrM_o {B : DT} {a x : Nat} {h : Int32} {T : T4} (h1 : x ≠ mF a) (h2 : x ≠ mG a) (h3 : x ≠ mT a) (h4 : x ≠ mW a) : wrM B a h T x = B x := by
  unfold wrM
  rw [uD_o h3, uD_o h2, uD_o h1, uD_o h4]
theorem wrM_uW {B : DT} {a : Nat} {h x : Int32} {T : T4} : uD (wrM B a h T) (mW a) h x = wrM B a h (x, T.2) := by
  obtain ⟨-, -, -, h4, -, -, h7, -, -, h10, -⟩ := mm_ne (a := a)
  unfold wrM
  rw [uD_c h10, uD_c h7, uD_c h4, uD_uu]
theorem wrM_uF {B : DT} {a : Nat} {h x : Int32} {T : T4} : uD (wrM B a h T) (mF a) h x = wrM B a h (T.1, x, T.2.2) := by
  obtain ⟨-, -, -, -, -, -, -, h8, -, -, h11, -⟩ := mm_ne (a := a)
  unfold wrM
  rw [uD_c h11, uD_c h8, uD_uu]
theorem wrM_uG {B : DT} {a : Nat} {h x : Int32} {T : T4} : uD (wrM B a h T) (mG a) h x = wrM B a h (T.1, T.2.1, x, T.2.2.2) := by
  obtain ⟨-, -, -, -, -, -, -, -, -, -, -, h12⟩ := mm_ne (a := a)
  unfold wrM
  rw [uD_c h12, uD_uu]
theorem wrM_uT {B : DT} {a : Nat} {h x : Int32} {T : T4} : uD (wrM B a h T) (mT a) h x = wrM B a h (T.1, T.2.1, T.2.2.1, x) := by
  unfold wrM
  rw [uD_uu]
theorem wrM_0 {B : DT} {a : Nat} {h x y z u : Int32} : uD (uD (uD (uD B (mF a) h x) (mG a) h y) (mT a) h z) (mW a) h u = wrM B a h (u, x, y, z) := by
  obtain ⟨-, -, -, h4, -, -, h7, -, -, h10, -⟩ := mm_ne (a := a)
  unfold wrM
  rw [uD_c h10, uD_c h7, uD_c h4]
theorem nI_ne {x y : Nat} (hx : x < 10000) (hy : y < 10000) (h : x ≠ y) : ((nI x).toInt = (nI y).toInt) = False := eq_false (by rw [nI_toInt (by omega), nI_toInt (by omega)]; omega)
theorem wr_mcel {B : DT} {a j p j' p' : Nat} {T : T4} (hj : j < 22) (hj' : j' < 23) (hp : p ≤ 20) (hp' : p' ≤ 20) : mcel (wrM B a (nI (21 * j + p)) T) a j' p' = if j' = j ∧ p' = p then T else mcel B a j' p' := by
  unfold mcel
  rw [wrM_W, wrM_F, wrM_G, wrM_T]
  by_cases h : j' = j ∧ p' = p
  · obtain ⟨rfl, rfl⟩ := h
    simp only [if_true, and_self]
  · rw [if_neg h]
    simp only [nI_ne (show 21 * j + p < 10000 by omega) (show 21 * j' + p' < 10000 by omega) (show 21 * j + p ≠ 21 * j' + p' by omega), if_false]
/-- a place of the model's table by the row behind it -/
def mfo (rea lt : Nat → Nat → Int32 → Int32) (B : DT) (a b e j p : Nat) (k : Nat) : T4 := foR (fun i => B (mW a) (nI (21 * (j + 1) + (i.toNatClampNeg - b)))) (fun i => B (mF a) (nI (21 * (j + 1) + (i.toNatClampNeg - b)))) (fun i => B (mG a) (nI (21 * (j + 1) + (i.toNatClampNeg - b)))) (rea j (b + p)) (lt j (b + p)) (nI (b + p)) (0, 99, 0, 0) k
def CelM (rea lt : Nat → Nat → Int32 → Int32) (w : Nat) (B : DT) (a b e j p : Nat) : Prop := (b + p = e → mcel B a j p = (1, 0, 0, 0)) ∧ (b + p < e → mcel B a j p = if j < 21 ∧ w + j < 30 then mfo rea lt B a b e j p (e - (b + p)) else (0, 99, 0, 0)) ∧ (0 ≤ (B (mW a) (nI (21 * j + p))).toInt ∧ (B (mW a) (nI (21 * j + p))).toInt ≤ (2 ^ (e - (b + p)) : Int)) ∧ (¬ B (mW a) (nI (21 * j + p)) = 0 → ∃ i : Nat, B (mF a) (nI (21 * j + p)) = nI i ∧ i ≤ e - (b + p))
theorem mfo_c {rea lt : Nat → Nat → Int32 → Int32} {B B' : DT} {a b e j p : Nat} (he : e ≤ 20) (h : ∀ q, b + q ≤ e → mcel B a (j + 1) q = mcel B' a (j + 1) q) : ∀ k, b + p + k ≤ e → mfo rea lt B a b e j p k = mfo rea lt B' a b e j p k := by
  intro k hk
  refine foR_c (n := k) (fun m m1 m2 => ?_) k (Nat.le_refl _)
  have hm := h (p + m) (by omega)
  unfold mcel at hm
  injection hm with h1 h2
  injection h2 with h2 h3
  injection h3 with h3 h4
  rw [nI_clamp (by omega), show b + p + m - b = p + m by omega]
  exact ⟨h1, h2, h3, rfl, rfl⟩
theorem CelM_w {rea lt : Nat → Nat → Int32 → Int32} {w : Nat} {B : DT} {a b e j p j' p' : Nat} {T : T4} (h : CelM rea lt w B a b e j' p') (he : e ≤ 20) (hj : j < 22) (hj' : j' < 22) (hp : b + p ≤ e) (hp' : b + p' ≤ e) (hlt : j ≤ j') (hne : ¬ (j' = j ∧ p' = p)) : CelM rea lt w (wrM B a (nI (21 * j + p)) T) a b e j' p' := by
  have hm := wr_mcel (B := B) (a := a) (T := T) hj (show j' < 23 by omega) (show p ≤ 20 by omega) (show p' ≤ 20 by omega)
  rw [if_neg hne] at hm
  have hr : ∀ q, b + q ≤ e → mcel (wrM B a (nI (21 * j + p)) T) a (j' + 1) q = mcel B a (j' + 1) q := fun q hq => by
    rw [wr_mcel hj (by omega) (by omega) (by omega), if_neg (by omega)]
  obtain ⟨h1, h2, h3, h4⟩ := h
  have e1 : wrM B a (nI (21 * j + p)) T (mW a) (nI (21 * j' + p')) = B (mW a) (nI (21 * j' + p')) := congrArg (fun z => z.1) hm
  have e2 : wrM B a (nI (21 * j + p)) T (mF a) (nI (21 * j' + p')) = B (mF a) (nI (21 * j' + p')) := congrArg (fun z => z.2.1) hm
  refine ⟨fun q => by rw [hm]; exact h1 q, fun q => ?_, by rw [e1]; exact h3, by rw [e1, e2]; exact h4⟩
  rw [hm, h2 q]
  split
  · exact (mfo_c he hr _ (by omega)).symm
  · rfl
/-- the table's places that are done: the rows from jj on, of the row ahead the places from pp on -/
def LayI (rea lt : Nat → Nat → Int32 → Int32) (w : Nat) (D B : DT) (a b e jj pp : Nat) : Prop := (∀ x, x ≠ mF a → x ≠ mG a → x ≠ mT a → x ≠ mW a → B x = D x) ∧ ∀ j p, j < 22 → b + p ≤ e → (jj ≤ j ∨ (j + 1 = jj ∧ pp ≤ p)) → CelM rea lt w B a b e j p
theorem LayI_s {rea lt : Nat → Nat → Int32 → Int32} {w : Nat} {D B : DT} {a b e j p : Nat} {T : T4} (h : LayI rea lt w D B a b e (j + 1) (p + 1)) (he : e ≤ 20) (hj : j < 22) (hp : b + p ≤ e) (hc : CelM rea lt w (wrM B a (nI (21 * j + p)) T) a b e j p) : LayI rea lt w D (wrM B a (nI (21 * j + p)) T) a b e (j + 1) p := by
  obtain ⟨h1, h2⟩ := h
  refine ⟨fun x x1 x2 x3 x4 => by rw [wrM_o x1 x2 x3 x4]; exact h1 x x1 x2 x3 x4, fun j' p' g1 g2 g3 => ?_⟩
  by_cases q : j' = j ∧ p' = p
  · obtain ⟨rfl, rfl⟩ := q
    exact hc
  · exact CelM_w (h2 j' p' g1 g2 (by omega)) he hj g1 hp g2 (by omega) q
theorem CelM_e {rea lt : Nat → Nat → Int32 → Int32} {w : Nat} {B : DT} {a b e j p : Nat} (he : e ≤ 20) (hj : j < 22) (hp : b + p = e) : CelM rea lt w (wrM B a (nI (21 * j + p)) (1, 0, 0, 0)) a b e j p := by
  have hm := wr_mcel (B := B) (a := a) (T := (1, 0, 0, 0)) hj (show j < 23 by omega) (show p ≤ 20 by omega) (show p ≤ 20 by omega)
  rw [if_pos ⟨rfl, rfl⟩] at hm
  have e1 : wrM B a (nI (21 * j + p)) (1, 0, 0, 0) (mW a) (nI (21 * j + p)) = 1 := congrArg (fun z => z.1) hm
  have e2 : wrM B a (nI (21 * j + p)) (1, 0, 0, 0) (mF a) (nI (21 * j + p)) = 0 := congrArg (fun z => z.2.1) hm
  refine ⟨fun _ => hm, fun q => absurd q (by omega), ?_, fun _ => ⟨0, e2, by omega⟩⟩
  rw [e1, show e - (b + p) = 0 by omega]
  decide
theorem CelM_0 {rea lt : Nat → Nat → Int32 → Int32} {w : Nat} {B : DT} {a b e j p : Nat} (he : e ≤ 20) (hj : j < 22) (hp : b + p < e) (hg : ¬ (j < 21 ∧ w + j < 30)) : CelM rea lt w (wrM B a (nI (21 * j + p)) (0, 99, 0, 0)) a b e j p := by
  have hm := wr_mcel (B := B) (a := a) (T := (0, 99, 0, 0)) hj (show j < 23 by omega) (show p ≤ 20 by omega) (show p ≤ 20 by omega)
  rw [if_pos ⟨rfl, rfl⟩] at hm
  have e1 : wrM B a (nI (21 * j + p)) (0, 99, 0, 0) (mW a) (nI (21 * j + p)) = 0 := congrArg (fun z => z.1) hm
  refine ⟨fun q => absurd q (by omega), fun _ => by rw [hm, if_neg hg], ?_, fun q => absurd e1 q⟩
  rw [e1]
  have : (0 : Int) < 2 ^ (e - (b + p)) := Int.pow_pos (by omega)
  exact ⟨by decide, by rw [show (0 : Int32).toInt = 0 from rfl]; omega⟩
theorem foR_z {P1 F1 G1 rea t : Int32 → Int32} {f n : Nat} {x : Int32 × Int32 × Int32} (hn : n ≤ 20) (hP : ∀ m, 1 ≤ m → m ≤ n → 0 ≤ (P1 (nI (f + m))).toInt ∧ (P1 (nI (f + m))).toInt ≤ (2 ^ (n - m) : Int)) : ∀ k, k ≤ n → (foR P1 F1 G1 rea t (nI f) (0, x) k).1 = 0 → (foR P1 F1 G1 rea t (nI f) (0, x) k).2 = x
  | 0, _, _ => rfl
  | k + 1, hk, q => by
    have n4 := (foR_inv (F1 := F1) (G1 := G1) (rea := rea) (t := t) (x := x) hn hP (k + 1) hk).2.2.2 q (k + 1) (by omega) (by omega)
    have ih := foR_z hn hP (F1 := F1) (G1 := G1) (rea := rea) (t := t) (x := x) k (by omega)
    rw [foR] at q ⊢
    generalize foR P1 F1 G1 rea t (nI f) (0, x) k = T at q ih ⊢
    unfold foS at q ⊢
    rw [nI_add] at q ⊢
    by_cases h1 : P1 (nI (f + (k + 1))) ≤ 0
    · rw [if_pos h1] at q ⊢
      exact ih q
    · rw [if_neg h1] at q ⊢
      by_cases h2 : rea (nI (k + 1)) = 0
      · rw [le0_i] at h1
        exact absurd ⟨by omega, h2⟩ n4
      · rw [if_neg h2] at q ⊢
        exact ih q
/-- the fold and its bounds, over a row that is done -/
theorem mfo_b {rea lt : Nat → Nat → Int32 → Int32} {w : Nat} {B : DT} {a b e j p : Nat} (he : e ≤ 20) (hp : b + p ≤ e) (h : ∀ q, b + q ≤ e → CelM rea lt w B a b e (j + 1) q) (k : Nat) (hk : b + p + k ≤ e) : (0 ≤ (mfo rea lt B a b e j p k).1.toInt ∧ (mfo rea lt B a b e j p k).1.toInt ≤ 2 ^ (e - (b + p)) - 2 ^ (e - (b + p) - k)) ∧ ((mfo rea lt B a b e j p k).1 = 0 → (mfo rea lt B a b e j p k).2 = (99, 0, 0)) ∧ (¬ (mfo rea lt B a b e j p k).1 = 0 → ∃ i : Nat, (mfo rea lt B a b e j p k).2.1 = nI i ∧ i ≤ e - (b + p)) := by
  have hq : ∀ m, m ≤ e - (b + p) → (nI (b + p + m)).toNatClampNeg - b = p + m := fun m hm => by rw [nI_clamp (by omega)]; omega
  unfold mfo
  generalize hP1 : (fun i : Int32 => B (mW a) (nI (21 * (j + 1) + (i.toNatClampNeg - b)))) = P1
  generalize hF1 : (fun i : Int32 => B (mF a) (nI (21 * (j + 1) + (i.toNatClampNeg - b)))) = F1
  generalize (fun i : Int32 => B (mG a) (nI (21 * (j + 1) + (i.toNatClampNeg - b)))) = G1
  have eP : ∀ m, m ≤ e - (b + p) → P1 (nI (b + p + m)) = B (mW a) (nI (21 * (j + 1) + (p + m))) := fun m hm => by rw [← hP1, ← hq m hm]
  have eF : ∀ m, m ≤ e - (b + p) → F1 (nI (b + p + m)) = B (mF a) (nI (21 * (j + 1) + (p + m))) := fun m hm => by rw [← hF1, ← hq m hm]
  have hP : ∀ m, 1 ≤ m → m ≤ e - (b + p) → 0 ≤ (P1 (nI (b + p + m))).toInt ∧ (P1 (nI (b + p + m))).toInt ≤ (2 ^ (e - (b + p) - m) : Int) := by
    intro m m1 m2
    rw [eP m m2, show e - (b + p) - m = e - (b + (p + m)) by omega]
    exact (h (p + m) (by omega)).2.2.1
  obtain ⟨i1, i2, i3, -⟩ := foR_inv (F1 := F1) (G1 := G1) (rea := rea j (b + p)) (t := lt j (b + p)) (x := (99, 0, 0)) (show e - (b + p) ≤ 20 by omega) hP k (by omega)
  refine ⟨⟨i1, i2⟩, fun q => foR_z (by omega) hP k (by omega) q, fun q => ?_⟩
  rcases i3 with i3 | ⟨m, m1, m2, m3, m4, m5⟩
  · exact absurd i3 q
  · rw [eP m (by omega)] at m3
    rw [m5]
    obtain ⟨i, u1, u2⟩ := (h (p + m) (by omega)).2.2.2 (fun z => by rw [z] at m3; exact absurd m3 (by decide))
    exact ⟨i + 1, by show F1 (nI (b + p + m)) + 1 = _; rw [eF m (by omega), u1, nI_1], by omega⟩
theorem CelM_f {rea lt : Nat → Nat → Int32 → Int32} {w : Nat} {B : DT} {a b e j p : Nat} (he : e ≤ 20) (hj : j < 22) (hp : b + p < e) (hg : j < 21 ∧ w + j < 30) (h : ∀ q, b + q ≤ e → CelM rea lt w B a b e (j + 1) q) : CelM rea lt w (wrM B a (nI (21 * j + p)) (mfo rea lt B a b e j p (e - (b + p)))) a b e j p := by
  obtain ⟨⟨g1, g2⟩, g3, g4⟩ := mfo_b (j := j) (p := p) he (by omega) h (e - (b + p)) (by omega)
  have hr : ∀ T q, b + q ≤ e → mcel (wrM B a (nI (21 * j + p)) T) a (j + 1) q = mcel B a (j + 1) q := fun T q hq => by
    rw [wr_mcel hj (by omega) (by omega) (by omega), if_neg (by omega)]
  have hk := mfo_c (rea := rea) (lt := lt) (p := p) he (hr (mfo rea lt B a b e j p (e - (b + p)))) (e - (b + p)) (by omega)
  generalize mfo rea lt B a b e j p (e - (b + p)) = T at *
  have hm := wr_mcel (B := B) (a := a) (T := T) hj (show j < 23 by omega) (show p ≤ 20 by omega) (show p ≤ 20 by omega)
  rw [if_pos ⟨rfl, rfl⟩] at hm
  have e1 : wrM B a (nI (21 * j + p)) T (mW a) (nI (21 * j + p)) = T.1 := congrArg (fun z => z.1) hm
  have e2 : wrM B a (nI (21 * j + p)) T (mF a) (nI (21 * j + p)) = T.2.1 := congrArg (fun z => z.2.1) hm
  have e4 : (0 : Int) < 2 ^ (e - (b + p) - (e - (b + p))) := Int.pow_pos (by omega)
  refine ⟨fun q => absurd q (by omega), fun _ => by rw [hm, if_pos hg, hk], ⟨by rw [e1]; exact g1, by rw [e1]; omega⟩, fun q => ?_⟩
  rw [e1] at q
  rw [e2]
  exact g4 q
/-- one step as the model makes it -/
theorem mfo_s {rea lt : Nat → Nat → Int32 → Int32} {w : Nat} {B : DT} {a b e j p k : Nat} (he : e ≤ 20) (hk : b + p + (k + 1) ≤ e) (h : ∀ q, b + q ≤ e → CelM rea lt w B a b e (j + 1) q) {T : T4} (hT : mfo rea lt B a b e j p k = T) {P F G : Int32} (hP : B (mW a) (nI (21 * (j + 1) + (p + (k + 1)))) = P) (hF : B (mF a) (nI (21 * (j + 1) + (p + (k + 1)))) = F) (hG : B (mG a) (nI (21 * (j + 1) + (p + (k + 1)))) = G) :
    mfo rea lt B a b e j p (k + 1) = if P ≤ 0 then T else if rea j (b + p) (nI (k + 1)) = 0 then (if F + 1 < T.2.1 then (T.1 + P, F + 1, G + lt j (b + p) (nI (k + 1)), nI (k + 1)) else if F + 1 = T.2.1 then (if G + lt j (b + p) (nI (k + 1)) ≤ T.2.2.1 then (T.1 + P, T.2) else (T.1 + P, F + 1, G + lt j (b + p) (nI (k + 1)), nI (k + 1))) else (T.1 + P, T.2)) else T := by
  obtain ⟨-, g3, -⟩ := mfo_b (j := j) (p := p) (rea := rea) (lt := lt) he (by omega) h k (by omega)
  have ex : (nI (b + p + (k + 1))).toNatClampNeg - b = p + (k + 1) := by rw [nI_clamp (by omega)]; omega
  obtain ⟨-, -, -, cF⟩ := h (p + (k + 1)) (by omega)
  rw [hP, hF] at cF
  rw [hT] at g3
  unfold mfo at hT ⊢
  rw [foR, hT]
  unfold foS foO
  rw [nI_add]
  simp only [ex, hP, hF, hG]
  by_cases c1' : P ≤ 0
  · rw [if_pos c1', if_pos c1']
  · rw [if_neg c1', if_neg c1']
    by_cases c2' : rea j (b + p) (nI (k + 1)) = 0
    · rw [if_pos c2', if_pos c2']
      by_cases c3' : T.1 = 0
      · have c4' : F + 1 < T.2.1 := by
          obtain ⟨i, u1, u2⟩ := cF (fun q => c1' (by rw [q]; decide))
          rw [g3 c3', u1, nI_1]
          exact (nI_ltI (b := 99) (by omega) (by decide)).mpr (by omega)
        rw [if_pos c3', if_pos c4']
      · rw [if_neg c3']
        split
        · rfl
        · split
          · split
            · rfl
            · rfl
          · rfl
    · rw [if_neg c2', if_neg c2']
theorem LayI_tab {rea lt : Nat → Nat → Int32 → Int32} {w : Nat} {D B : DT} {a b e : Nat} (h : LayI rea lt w D B a b e 0 0) (he : e ≤ 20) (hb : b ≤ e) : TabP rea lt (fun j f => B (mW a) (nI (21 * j + (f - b)))) (fun j f => B (mF a) (nI (21 * j + (f - b)))) (fun j f => B (mG a) (nI (21 * j + (f - b)))) (fun j f => B (mT a) (nI (21 * j + (f - b)))) b e (min (e - b) (30 - w)) := by
  obtain ⟨-, h2⟩ := h
  refine ⟨fun j hj => ?_, fun f f1 f2 => ?_, fun j f j1 f1 f2 f3 => ?_⟩
  · have hm := (h2 j (e - b) (by omega) (by omega) (by omega)).1 (by omega)
    unfold mcel at hm
    injection hm with h1 h2
    injection h2 with h2 h3
    injection h3 with h3 h4
    exact ⟨h1, h2, h3⟩
  · have hm := (h2 (min (e - b) (30 - w)) (f - b) (by omega) (by omega) (by omega)).2.1 (by omega)
    rw [if_neg (by omega)] at hm
    exact congrArg (fun z => z.1) hm
  · have hm := (h2 j (f - b) (by omega) (by omega) (by omega)).2.1 (by omega)
    rw [if_pos (by omega)] at hm
    unfold mfo at hm
    rw [show b + (f - b) = f by omega] at hm
    exact ⟨(99, 0, 0), hm⟩
