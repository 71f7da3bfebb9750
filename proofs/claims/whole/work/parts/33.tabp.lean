/-! ### a plan table in itself: rows by instalment, places by scene -/
def sel (P1 F1 G1 : Int32 → Int32) (rea t : Int32 → Int32) (f m : Nat) (T : T4) : Prop := 0 < (P1 (nI (f + m))).toInt ∧ rea (nI m) = 0 ∧ T.2 = (F1 (nI (f + m)) + 1, G1 (nI (f + m)) + t (nI m), nI m)
theorem le0_i {x : Int32} : x ≤ 0 ↔ x.toInt ≤ 0 := i_le x 0
theorem eq0_i {x : Int32} : x = 0 ↔ x.toInt = 0 := i_eq x 0
theorem foR_inv {P1 F1 G1 rea t : Int32 → Int32} {f n : Nat} {x : Int32 × Int32 × Int32} (hn : n ≤ 20) (hP : ∀ m, 1 ≤ m → m ≤ n → 0 ≤ (P1 (nI (f + m))).toInt ∧ (P1 (nI (f + m))).toInt ≤ (2 ^ (n - m) : Int)) :
    ∀ k, k ≤ n → 0 ≤ (foR P1 F1 G1 rea t (nI f) (0, x) k).1.toInt ∧ (foR P1 F1 G1 rea t (nI f) (0, x) k).1.toInt ≤ 2 ^ n - 2 ^ (n - k) ∧ ((foR P1 F1 G1 rea t (nI f) (0, x) k).1 = 0 ∨ ∃ m, 1 ≤ m ∧ m ≤ k ∧ sel P1 F1 G1 rea t f m (foR P1 F1 G1 rea t (nI f) (0, x) k)) ∧ ((foR P1 F1 G1 rea t (nI f) (0, x) k).1 = 0 → ∀ m, 1 ≤ m → m ≤ k → ¬ (0 < (P1 (nI (f + m))).toInt ∧ rea (nI m) = 0))
  | 0, _ => by
    refine ⟨?_, ?_, Or.inl rfl, fun _ m h1 h2 => absurd h1 (by omega)⟩
    · show (0 : Int) ≤ (0 : Int32).toInt
      decide
    · show (0 : Int32).toInt ≤ _
      rw [Nat.sub_zero, Int.sub_self]
      decide
  | k + 1, hk => by
    obtain ⟨a1, a2, a3, a4⟩ := foR_inv hn hP (F1 := F1) (G1 := G1) (rea := rea) (t := t) (x := x) k (by omega)
    obtain ⟨p1, p2⟩ := hP (k + 1) (by omega) hk
    rw [foR]
    generalize foR P1 F1 G1 rea t (nI f) (0, x) k = T at a1 a2 a3 a4
    have e1 : nI f + nI (k + 1) = nI (f + (k + 1)) := nI_add _ _
    have e2 : (2 : Int) ^ (n - k) = 2 * 2 ^ (n - (k + 1)) := by
      rw [show n - k = n - (k + 1) + 1 by omega, Int.pow_succ]
      omega
    have e3 : (2 : Int) ^ n ≤ 2 ^ 20 := by
      have : (2 : Nat) ^ n ≤ 2 ^ 20 := Nat.pow_le_pow_right (by omega) hn
      exact_mod_cast this
    have e4 : (0 : Int) < 2 ^ (n - (k + 1)) := Int.pow_pos (by omega)
    unfold foS
    rw [e1]
    split
    · rename_i h
      rw [le0_i] at h
      refine ⟨a1, by omega, ?_, ?_⟩
      · rcases a3 with a3 | ⟨m, m1, m2, m3⟩
        · exact Or.inl a3
        · exact Or.inr ⟨m, m1, by omega, m3⟩
      · intro q m m1 m2 m3
        by_cases e : m = k + 1
        · subst e
          omega
        · exact a4 q m m1 (by omega) m3
    · rename_i h
      rw [le0_i] at h
      split
      · rename_i h2
        have s : (T.1 + P1 (nI (f + (k + 1)))).toInt = T.1.toInt + (P1 (nI (f + (k + 1)))).toInt := a_add (by omega)
        refine ⟨?_, ?_, Or.inr ?_, ?_⟩
        · show 0 ≤ (T.1 + P1 (nI (f + (k + 1)))).toInt
          omega
        · show (T.1 + P1 (nI (f + (k + 1)))).toInt ≤ _
          omega
        · have now : sel P1 F1 G1 rea t f (k + 1) (T.1 + P1 (nI (f + (k + 1))), F1 (nI (f + (k + 1))) + 1, G1 (nI (f + (k + 1))) + t (nI (k + 1)), nI (k + 1)) := ⟨by omega, h2, rfl⟩
          have old : ¬ T.1 = 0 → ∃ m, 1 ≤ m ∧ m ≤ k + 1 ∧ sel P1 F1 G1 rea t f m (T.1 + P1 (nI (f + (k + 1))), T.2) := by
            intro q
            rcases a3 with a3 | ⟨m, m1, m2, m3⟩
            · exact absurd a3 q
            · exact ⟨m, m1, by omega, m3⟩
          unfold foO
          rw [e1]
          by_cases c1' : T.1 = 0
          · rw [if_pos c1']
            exact ⟨k + 1, by omega, by omega, now⟩
          · rw [if_neg c1']
            by_cases c2' : F1 (nI (f + (k + 1))) + 1 < T.2.1
            · rw [if_pos c2']
              exact ⟨k + 1, by omega, by omega, now⟩
            · rw [if_neg c2']
              by_cases c3' : F1 (nI (f + (k + 1))) + 1 = T.2.1
              · rw [if_pos c3']
                by_cases c4' : G1 (nI (f + (k + 1))) + t (nI (k + 1)) ≤ T.2.2.1
                · rw [if_pos c4']
                  exact old c1'
                · rw [if_neg c4']
                  exact ⟨k + 1, by omega, by omega, now⟩
              · rw [if_neg c3']
                exact old c1'
        · intro q
          have q' : T.1 + P1 (nI (f + (k + 1))) = 0 := q
          rw [eq0_i] at q'
          omega
      · rename_i h2
        refine ⟨a1, by omega, ?_, ?_⟩
        · rcases a3 with a3 | ⟨m, m1, m2, m3⟩
          · exact Or.inl a3
          · exact Or.inr ⟨m, m1, by omega, m3⟩
        · intro q m m1 m2 m3
          by_cases e : m = k + 1
          · subst e
            exact h2 m3.2
          · exact a4 q m m1 (by omega) m3
/-- two folds over rows that agree where there are plans -/
def T4r (T T' : T4) : Prop := T.1 = T'.1 ∧ (¬ T.1 = 0 → T.2 = T'.2)
theorem foR_r {P1 F1 G1 P1' F1' G1' rea t : Int32 → Int32} {f : Nat} {x x' : Int32 × Int32 × Int32} {n : Nat} (h : ∀ m, 1 ≤ m → m ≤ n → P1 (nI (f + m)) = P1' (nI (f + m)) ∧ (¬ P1 (nI (f + m)) = 0 → F1 (nI (f + m)) = F1' (nI (f + m)) ∧ G1 (nI (f + m)) = G1' (nI (f + m)))) :
    ∀ k, k ≤ n → T4r (foR P1 F1 G1 rea t (nI f) (0, x) k) (foR P1' F1' G1' rea t (nI f) (0, x') k)
  | 0, _ => ⟨rfl, fun q => absurd rfl q⟩
  | k + 1, hk => by
    obtain ⟨a1, a2⟩ := foR_r h (rea := rea) (t := t) (x := x) (x' := x') k (by omega)
    obtain ⟨h1, h2⟩ := h (k + 1) (by omega) hk
    rw [foR, foR]
    generalize foR P1 F1 G1 rea t (nI f) (0, x) k = T at a1 a2
    generalize foR P1' F1' G1' rea t (nI f) (0, x') k = T' at a1 a2
    have e1 : nI f + nI (k + 1) = nI (f + (k + 1)) := nI_add _ _
    unfold foS
    rw [e1, ← h1]
    split
    · exact ⟨a1, a2⟩
    · rename_i h3
      have h4 : ¬ P1 (nI (f + (k + 1))) = 0 := fun q => h3 (by rw [q]; decide)
      obtain ⟨g1, g2⟩ := h2 h4
      split
      · refine ⟨by show T.1 + _ = T'.1 + _; rw [a1], fun _ => ?_⟩
        show foO F1 G1 t (nI f) T (nI (k + 1)) = foO F1' G1' t (nI f) T' (nI (k + 1))
        unfold foO
        rw [e1, ← a1, g1, g2]
        by_cases q : T.1 = 0
        · rw [if_pos q, if_pos q]
        · rw [if_neg q, if_neg q, a2 q]
      · exact ⟨a1, a2⟩
/-- a table by its local law -/
def TabP (rea lt : Nat → Nat → Int32 → Int32) (PP FF GG CC : Nat → Nat → Int32) (b e mo : Nat) : Prop :=
  (∀ j, j ≤ mo → PP j e = 1 ∧ FF j e = 0 ∧ GG j e = 0) ∧ (∀ f, b + mo ≤ f → f < e → PP mo f = 0) ∧
  ∀ j f, j < mo → b + j ≤ f → f < e → (j = 0 → f = b) → ∃ x : Int32 × Int32 × Int32, (PP j f, FF j f, GG j f, CC j f) = foR (fun i => PP (j + 1) i.toNatClampNeg) (fun i => FF (j + 1) i.toNatClampNeg) (fun i => GG (j + 1) i.toNatClampNeg) (rea j f) (lt j f) (nI f) (0, x) (e - f)
def vald (b e mo j f : Nat) : Prop := j ≤ mo ∧ b + j ≤ f ∧ f ≤ e ∧ (j = 0 → f = b)
theorem tab_uniq {rea lt : Nat → Nat → Int32 → Int32} {PP FF GG CC PP' FF' GG' CC' : Nat → Nat → Int32} {b e mo : Nat} (he : e ≤ 20) (h : TabP rea lt PP FF GG CC b e mo) (h' : TabP rea lt PP' FF' GG' CC' b e mo) :
    ∀ k j f, e - f ≤ k → vald b e mo j f → PP j f = PP' j f ∧ (¬ PP j f = 0 → FF j f = FF' j f ∧ GG j f = GG' j f ∧ (f < e → CC j f = CC' j f)) := by
  obtain ⟨h1, h2, h3⟩ := h
  obtain ⟨h1', h2', h3'⟩ := h'
  intro k
  induction k with
  | zero =>
    intro j f hk ⟨v1, v2, v3, v4⟩
    obtain rfl : f = e := by omega
    obtain ⟨a1, a2, a3⟩ := h1 j v1
    obtain ⟨b1, b2, b3⟩ := h1' j v1
    exact ⟨by rw [a1, b1], fun _ => ⟨by rw [a2, b2], by rw [a3, b3], fun q => absurd q (by omega)⟩⟩
  | succ k ih =>
    intro j f hk ⟨v1, v2, v3, v4⟩
    rcases Nat.lt_or_ge f e with hf | hf
    · rcases Nat.lt_or_ge j mo with hj | hj
      · obtain ⟨x, hx⟩ := h3 j f hj v2 hf v4
        obtain ⟨x', hx'⟩ := h3' j f hj v2 hf v4
        have key := foR_r (P1 := fun i => PP (j + 1) i.toNatClampNeg) (F1 := fun i => FF (j + 1) i.toNatClampNeg) (G1 := fun i => GG (j + 1) i.toNatClampNeg) (P1' := fun i => PP' (j + 1) i.toNatClampNeg) (F1' := fun i => FF' (j + 1) i.toNatClampNeg) (G1' := fun i => GG' (j + 1) i.toNatClampNeg) (rea := rea j f) (t := lt j f) (f := f) (x := x) (x' := x') (n := e - f) (fun m m1 m2 => by
          obtain ⟨u1, u2⟩ := ih (j + 1) (f + m) (by omega) ⟨by omega, by omega, by omega, by omega⟩
          show PP (j + 1) (nI (f + m)).toNatClampNeg = _ ∧ (¬ PP (j + 1) (nI (f + m)).toNatClampNeg = 0 → FF (j + 1) (nI (f + m)).toNatClampNeg = FF' (j + 1) (nI (f + m)).toNatClampNeg ∧ GG (j + 1) (nI (f + m)).toNatClampNeg = GG' (j + 1) (nI (f + m)).toNatClampNeg)
          rw [nI_clamp (by omega)]
          exact ⟨u1, fun q => ⟨(u2 q).1, (u2 q).2.1⟩⟩) (e - f) (Nat.le_refl _)
        rw [← hx, ← hx'] at key
        obtain ⟨k1, k2⟩ := key
        refine ⟨k1, fun q => ?_⟩
        have k3 : (FF j f, GG j f, CC j f) = (FF' j f, GG' j f, CC' j f) := k2 q
        injection k3 with k4 k5
        injection k5 with k5 k6
        exact ⟨k4, k5, fun _ => k6⟩
      · obtain rfl : j = mo := by omega
        rw [h2 f v2 hf, h2' f v2 hf]
        exact ⟨rfl, fun q => absurd rfl q⟩
    · exact ih j f (by omega) ⟨v1, v2, v3, v4⟩
/-- the bounds of a table, and what stands at a place with plans -/
theorem tab_b {rea lt : Nat → Nat → Int32 → Int32} {PP FF GG CC : Nat → Nat → Int32} {b e mo : Nat} (he : e ≤ 20) (hm : b + mo ≤ e) (h : TabP rea lt PP FF GG CC b e mo) :
    ∀ k j f, e - f ≤ k → vald b e mo j f → (0 ≤ (PP j f).toInt ∧ (PP j f).toInt ≤ (2 ^ (e - f) : Int)) ∧ (¬ PP j f = 0 → ∃ i : Nat, FF j f = nI i ∧ i ≤ mo - j ∧ i ≤ e - f ∧ (f < e → 1 ≤ i ∧ j < mo ∧ ∃ m, 1 ≤ m ∧ m ≤ e - f ∧ ¬ PP (j + 1) (f + m) = 0 ∧ CC j f = nI m ∧ FF (j + 1) (f + m) = nI (i - 1) ∧ GG j f = GG (j + 1) (f + m) + lt j f (nI m) ∧ rea j f (nI m) = 0)) := by
  obtain ⟨h1, h2, h3⟩ := h
  intro k
  induction k with
  | zero =>
    intro j f hk ⟨v1, v2, v3, v4⟩
    obtain rfl : f = e := by omega
    obtain ⟨a1, a2, a3⟩ := h1 j v1
    rw [a1, a2, Nat.sub_self]
    exact ⟨by decide, fun _ => ⟨0, rfl, by omega, by omega, fun q => absurd q (by omega)⟩⟩
  | succ k ih =>
    intro j f hk ⟨v1, v2, v3, v4⟩
    rcases Nat.lt_or_ge f e with hf | hf
    · rcases Nat.lt_or_ge j mo with hj | hj
      · obtain ⟨x, hx⟩ := h3 j f hj v2 hf v4
        have nx : ∀ m, 1 ≤ m → m ≤ e - f → vald b e mo (j + 1) (f + m) := fun m m1 m2 => ⟨by omega, by omega, by omega, by omega⟩
        obtain ⟨i1, i2, i3, i4⟩ := foR_inv (P1 := fun i => PP (j + 1) i.toNatClampNeg) (F1 := fun i => FF (j + 1) i.toNatClampNeg) (G1 := fun i => GG (j + 1) i.toNatClampNeg) (rea := rea j f) (t := lt j f) (f := f) (n := e - f) (x := x) (by omega) (fun m m1 m2 => by
          obtain ⟨u1, -⟩ := ih (j + 1) (f + m) (by omega) (nx m m1 m2)
          show 0 ≤ (PP (j + 1) (nI (f + m)).toNatClampNeg).toInt ∧ (PP (j + 1) (nI (f + m)).toNatClampNeg).toInt ≤ _
          rw [nI_clamp (by omega), show e - f - m = e - (f + m) by omega]
          exact u1) (e - f) (Nat.le_refl _)
        rw [← hx] at i1 i2 i3 i4
        have i1 : 0 ≤ (PP j f).toInt := i1
        have i2 : (PP j f).toInt ≤ 2 ^ (e - f) - 2 ^ (e - f - (e - f)) := i2
        have e4 : (0 : Int) < 2 ^ (e - f - (e - f)) := Int.pow_pos (by omega)
        refine ⟨⟨i1, by omega⟩, fun q => ?_⟩
        rcases i3 with i3 | ⟨m, m1, m2, m3, m4, m5⟩
        · exact absurd i3 q
        · have m3 : 0 < (PP (j + 1) (nI (f + m)).toNatClampNeg).toInt := m3
          rw [nI_clamp (by omega)] at m3
          have m5 : (FF j f, GG j f, CC j f) = (FF (j + 1) (nI (f + m)).toNatClampNeg + 1, GG (j + 1) (nI (f + m)).toNatClampNeg + lt j f (nI m), nI m) := m5
          rw [nI_clamp (by omega)] at m5
          injection m5 with m6 m7
          injection m7 with m7 m8
          have m9 : ¬ PP (j + 1) (f + m) = 0 := fun z => by
            rw [z] at m3
            exact absurd m3 (by decide)
          obtain ⟨i, u1, u2, u3, u4⟩ := (ih (j + 1) (f + m) (by omega) (nx m m1 m2)).2 m9
          exact ⟨i + 1, by rw [m6, u1, nI_1], by omega, by omega, fun _ => ⟨by omega, hj, m, m1, m2, m9, m8, u1, m7, m4⟩⟩
      · obtain rfl : j = mo := by omega
        rw [h2 f v2 hf]
        exact ⟨⟨by decide, Int.le_of_lt (Int.pow_pos (by omega))⟩, fun q => absurd rfl q⟩
    · exact ih j f (by omega) ⟨v1, v2, v3, v4⟩
/-- where the instalments of the best plan begin -/
def stA (CC : Nat → Nat → Int32) (b : Nat) : Nat → Nat
  | 0 => b
  | k + 1 => stA CC b k + (CC k (stA CC b k)).toNatClampNeg
theorem tab_path {rea lt : Nat → Nat → Int32 → Int32} {PP FF GG CC : Nat → Nat → Int32} {b e mo i : Nat} (he : e ≤ 20) (hm : b + mo ≤ e) (h : TabP rea lt PP FF GG CC b e mo) (hp : ¬ PP 0 b = 0) (hi : FF 0 b = nI i) (hi2 : i ≤ 20) :
    i ≤ mo ∧ (b < e → 1 ≤ i) ∧ (∀ k, k ≤ i → vald b e mo k (stA CC b k) ∧ ¬ PP k (stA CC b k) = 0 ∧ FF k (stA CC b k) = nI (i - k)) ∧ (∀ k, k < i → stA CC b k < stA CC b (k + 1) ∧ stA CC b (k + 1) ≤ e ∧ CC k (stA CC b k) = nI (stA CC b (k + 1) - stA CC b k)) ∧ stA CC b i = e := by
  have tb := tab_b he hm h
  obtain ⟨i', g1, g2, g3, g4⟩ := (tb _ 0 b (Nat.le_refl _) ⟨by omega, by omega, by omega, fun _ => rfl⟩).2 hp
  have ei : i' = i := by
    rw [g1] at hi
    exact (nI_eq (by omega) (by omega)).mp hi
  subst ei
  have key : ∀ k, k ≤ i' → vald b e mo k (stA CC b k) ∧ ¬ PP k (stA CC b k) = 0 ∧ FF k (stA CC b k) = nI (i' - k) := by
    intro k
    induction k with
    | zero => exact fun _ => ⟨⟨by omega, Nat.le_refl _, by show b ≤ e; omega, fun _ => rfl⟩, hp, hi⟩
    | succ k ih =>
      intro hk
      obtain ⟨w1, w2, w3⟩ := ih (by omega)
      obtain ⟨i2, u1, u2, u3, u4⟩ := (tb _ k _ (Nat.le_refl _) w1).2 w2
      have e2 : i2 = i' - k := by
        rw [u1] at w3
        exact (nI_eq (by omega) (by omega)).mp w3
      have hlt : stA CC b k < e := by
        rcases Nat.lt_or_ge (stA CC b k) e with q | q
        · exact q
        · omega
      obtain ⟨u5, u6, m, m1, m2, m3, m4, m5, -⟩ := u4 hlt
      have es : stA CC b (k + 1) = stA CC b k + m := by
        rw [stA, m4, nI_clamp (by omega)]
      rw [es]
      obtain ⟨w4, w5, w6, w7⟩ := w1
      have a1 : k + 1 ≤ mo := u6
      have a2 : b + (k + 1) ≤ stA CC b k + m := by clear tb w7 u4 h m5 m3 es; omega
      have a3 : stA CC b k + m ≤ e := by clear tb w7 u4 h m5 m3 es; omega
      have a4 : i2 - 1 = i' - (k + 1) := by clear tb w7 u4 h m5 m3 es; omega
      exact ⟨⟨a1, a2, a3, fun q => absurd q (Nat.succ_ne_zero k)⟩, m3, m5.trans (congrArg nI a4)⟩
  refine ⟨by omega, fun q => (g4 q).1, key, fun k hk => ?_, ?_⟩
  · obtain ⟨w1, w2, w3⟩ := key k (by omega)
    obtain ⟨i2, u1, u2, u3, u4⟩ := (tb _ k _ (Nat.le_refl _) w1).2 w2
    have e2 : i2 = i' - k := by
      rw [u1] at w3
      exact (nI_eq (by omega) (by omega)).mp w3
    have hlt : stA CC b k < e := by
      rcases Nat.lt_or_ge (stA CC b k) e with q | q
      · exact q
      · omega
    obtain ⟨u5, u6, m, m1, m2, m3, m4, m5, -⟩ := u4 hlt
    have es : stA CC b (k + 1) = stA CC b k + m := by
      rw [stA, m4, nI_clamp (by omega)]
    rw [es]
    exact ⟨by omega, by omega, m4.trans (congrArg nI (by omega))⟩
  · obtain ⟨w1, w2, w3⟩ := key i' (Nat.le_refl _)
    obtain ⟨i2, u1, u2, u3, u4⟩ := (tb _ i' _ (Nat.le_refl _) w1).2 w2
    rw [Nat.sub_self] at w3
    have e2 : i2 = 0 := by
      rw [u1] at w3
      exact (nI_eq (by omega) (by omega)).mp w3
    obtain ⟨w4, w5, w6, w7⟩ := w1
    rcases Nat.lt_or_ge (stA CC b i') e with q | q
    · have := (u4 q).1
      omega
    · omega
theorem stA_eq {CC CC' : Nat → Nat → Int32} {b i : Nat} (h : ∀ k, k < i → CC k (stA CC b k) = CC' k (stA CC b k)) : ∀ k, k ≤ i → stA CC b k = stA CC' b k
  | 0, _ => rfl
  | k + 1, hk => by
    have ih := stA_eq h k (by omega)
    rw [stA, stA, h k (by omega), ← ih]
