/-! ### sums as whole numbers, and what a state keeps -/
def zS (g : Nat → Int) : Nat → Int
  | 0 => 0
  | n + 1 => zS g n + g n
theorem zS_c {f g : Nat → Int} : ∀ {n : Nat}, (∀ j, j < n → f j = g j) → zS f n = zS g n
  | 0, _ => rfl
  | n + 1, h => by
    unfold zS
    rw [zS_c (fun j hj => h j (by omega)), h n (by omega)]
theorem zS_b {g : Nat → Int} {B : Int} : ∀ {n : Nat}, (∀ j, j < n → 0 ≤ g j ∧ g j ≤ B) → 0 ≤ zS g n ∧ zS g n ≤ B * (n : Int)
  | 0, _ => by
    unfold zS
    simp
  | n + 1, h => by
    obtain ⟨a1, a2⟩ := zS_b (n := n) (fun j hj => h j (by omega))
    obtain ⟨b1, b2⟩ := h n (by omega)
    unfold zS
    have e : B * ((n + 1 : Nat) : Int) = B * (n : Int) + B := by
      rw [Int.natCast_add, Int.mul_add]
      simp
    rw [e]
    omega
theorem zS_add {f g : Nat → Int} : ∀ {n : Nat}, zS (fun j => f j + g j) n = zS f n + zS g n
  | 0 => rfl
  | n + 1 => by
    unfold zS
    rw [zS_add]
    omega
theorem zS_sub {f g : Nat → Int} : ∀ {n : Nat}, zS (fun j => f j - g j) n = zS f n - zS g n
  | 0 => rfl
  | n + 1 => by
    unfold zS
    rw [zS_sub]
    omega
theorem zS_0 {g : Nat → Int} : ∀ {n : Nat}, (∀ j, j < n → g j = 0) → zS g n = 0
  | 0, _ => rfl
  | n + 1, h => by
    unfold zS
    rw [zS_0 (fun j hj => h j (by omega)), h n (by omega)]
    rfl
/-- from p on both sums grow alike -/
theorem zS_r {f g : Nat → Int} {p : Nat} : ∀ {m : Nat}, (∀ j, p ≤ j → j < p + m → f j = g j) → zS f (p + m) - zS f p = zS g (p + m) - zS g p
  | 0, _ => by simp
  | m + 1, h => by
    have ih := zS_r (f := f) (g := g) (p := p) (m := m) (fun j h0 h1 => h j h0 (by omega))
    have e := h (p + m) (by omega) (by omega)
    show zS f (p + m) + f (p + m) - zS f p = zS g (p + m) + g (p + m) - zS g p
    omega
theorem zS_le {g : Nat → Int} {p B : Nat} : ∀ {m : Nat}, (∀ j, p ≤ j → j < p + m → 0 ≤ g j ∧ g j ≤ B) → 0 ≤ zS g (p + m) - zS g p ∧ zS g (p + m) - zS g p ≤ B * m
  | 0, _ => by simp
  | m + 1, h => by
    obtain ⟨a1, a2⟩ := zS_le (g := g) (p := p) (B := B) (m := m) (fun j h0 h1 => h j h0 (by omega))
    obtain ⟨b1, b2⟩ := h (p + m) (by omega) (by omega)
    have e : (B : Int) * ((m + 1 : Nat) : Int) = B * (m : Int) + B := by
      rw [Int.natCast_add, Int.mul_add]
      simp
    rw [e]
    show 0 ≤ zS g (p + m) + g (p + m) - zS g p ∧ zS g (p + m) + g (p + m) - zS g p ≤ B * (m : Int) + B
    omega
theorem sumI_zz {g : Int32 → Int32} : ∀ (n a : Nat), a + n ≤ 20 → (∀ j, a ≤ j → j < a + n → 0 ≤ (g (nI j)).toInt ∧ (g (nI j)).toInt ≤ 999) →
    (sumI g (nI a) (nI (a + n))).toInt = zS (fun j => (g (nI j)).toInt) (a + n) - zS (fun j => (g (nI j)).toInt) a ∧ 0 ≤ (sumI g (nI a) (nI (a + n))).toInt ∧ (sumI g (nI a) (nI (a + n))).toInt ≤ 999 * (n : Int)
  | 0, a, h, _ => by
    rw [Nat.add_zero, sumI_e (fun q => absurd ((nI_ltI (by omega) (by omega)).mp q) (by omega)) (nI_pos' (by omega)) (nI_pos' (by omega)), Int.sub_self]
    decide
  | n + 1, a, h, hg => by
    obtain ⟨e1, e2, e3⟩ := sumI_zz n (a + 1) (by omega) (fun j h0 h1 => hg j (by omega) (by omega))
    obtain ⟨b1, b2⟩ := hg a (by omega) (by omega)
    have e4 : a + 1 + n = a + (n + 1) := by omega
    rw [e4] at e1 e2 e3
    rw [sumI_s (nI_pos' (by omega)) ((nI_ltI (by omega) (by omega)).mpr (by omega)) ((nI_leI (b := 20) (by omega) (by decide)).mpr (by omega)), nI_1, a_add (by omega)]
    have e5 : zS (fun j => (g (nI j)).toInt) (a + 1) = zS (fun j => (g (nI j)).toInt) a + (g (nI a)).toInt := rfl
    omega
theorem sumI_z {g : Int32 → Int32} {a b : Nat} (hab : a ≤ b) (hb : b ≤ 20) (hg : ∀ j, a ≤ j → j < b → 0 ≤ (g (nI j)).toInt ∧ (g (nI j)).toInt ≤ 999) :
    (sumI g (nI a) (nI b)).toInt = zS (fun j => (g (nI j)).toInt) b - zS (fun j => (g (nI j)).toInt) a ∧ 0 ≤ (sumI g (nI a) (nI b)).toInt ∧ (sumI g (nI a) (nI b)).toInt ≤ 19980 := by
  obtain ⟨n, rfl⟩ : ∃ n, b = a + n := ⟨b - a, by omega⟩
  obtain ⟨e1, e2, e3⟩ := sumI_zz n a hb hg
  exact ⟨e1, e2, by omega⟩
/-- a row as whole numbers -/
def zR (S : Int32 → Int32 → Int32) (r : Int32) (j : Nat) : Int := (S r (nI j)).toInt
def ScOK (S : Int32 → Int32 → Int32) (j : Nat) : Prop := (1 ≤ zR S 0 j ∧ zR S 0 j ≤ 999) ∧ (0 ≤ zR S 1 j ∧ zR S 1 j < zR S 0 j) ∧ (0 ≤ zR S 2 j ∧ zR S 2 j ≤ 5) ∧ (0 ≤ zR S 3 j ∧ zR S 3 j ≤ 9) ∧ 0 ≤ zR S 4 j ∧ zR S 4 j ≤ zR S 1 j
def IvS (q p w : Nat) (S : Int32 → Int32 → Int32) : Prop := (∀ j, j < q → ScOK S j) ∧ (∀ j, j < p → 0 ≤ zR S 5 j ∧ zR S 5 j < w) ∧ (∀ j, p ≤ j → j < q → zR S 4 j = 0 ∧ S 5 (nI j) = -100009) ∧ ∀ j, j + 1 < p → zR S 5 j ≤ zR S 5 (j + 1)
def IvW (w : Nat) (W : Int32 → Int32 → Int32) : Prop := ∀ j, j < 30 → (1 ≤ zR W 0 j ∧ zR W 0 j ≤ 4) ∧ (0 ≤ zR W 1 j ∧ zR W 1 j ≤ 999) ∧ (j < w → (0 ≤ zR W 2 j ∧ zR W 2 j ≤ 20000) ∧ 0 ≤ zR W 3 j ∧ zR W 3 j ≤ 20) ∧ (w ≤ j → W 2 (nI j) = -100009)
def vG (S : Int32 → Int32 → Int32) (j : Nat) : Int := zR S 0 j - zR S 4 j
def IvR (q p w : Nat) (a3 a4 a5 a7 a9 a10 a11 a12 a13 : Int32) (S W : Int32 → Int32 → Int32) : Prop :=
  (0 ≤ a4.toInt ∧ 0 ≤ a3.toInt ∧ a3.toInt ≤ 999 ∧ 50 ≤ a5.toInt ∧ a5.toInt ≤ 999) ∧ (a7 = 400 ∧ -400 ≤ a9.toInt ∧ a9.toInt ≤ 400 * (w : Int)) ∧ (a12.toInt + a13.toInt = w ∧ 0 ≤ a12.toInt ∧ 0 ≤ a13.toInt) ∧ IvS q p w S ∧ IvW w W ∧ a10.toInt = zS (vG S) p ∧ a11.toInt = zS (zR S 4) p ∧ zS (zR W 2) w = a10.toInt ∧ zS (zR W 3) w = p
/-- what every state keeps -/
def Iv (N : Int32 → Int32) (S W : Int32 → Int32 → Int32) : Prop := ∃ q p w : Nat, (N 0 = nI q ∧ N 1 = nI p ∧ N 2 = nI w ∧ p ≤ q ∧ q ≤ 20 ∧ w ≤ 30) ∧ IvR q p w (N 3) (N 4) (N 5) (N 7) (N 9) (N 10) (N 11) (N 12) (N 13) S W
theorem Iv.num {N : Int32 → Int32} {S W : Int32 → Int32 → Int32} (h : Iv N S W) : Num N := by
  obtain ⟨q, p, w, ⟨e0, e1, e2, h1, h2, h3⟩, ⟨h4, -⟩, -⟩ := h
  unfold Num
  rw [e0, e1, e2]
  refine ⟨nI_pos' (by omega), (nI_leI (by omega) (by omega)).mpr h1, (nI_leI (b := 20) (by omega) (by decide)).mpr h2, nI_pos' (by omega), (nI_leI (b := 30) (by omega) (by decide)).mpr h3, ?_⟩
  rw [i_le]
  exact h4
theorem zR_c {S S' : Int32 → Int32 → Int32} {r : Int32} {j : Nat} (h : S' r (nI j) = S r (nI j)) : zR S' r j = zR S r j := congrArg Int32.toInt h
theorem ScOK.c {S S' : Int32 → Int32 → Int32} {i j : Nat} (h : ScOK S i) (e : ∀ r : Int32, 0 ≤ r → r < 6 → S' r (nI j) = S r (nI i)) : ScOK S' j := by
  have z : ∀ r : Int32, 0 ≤ r → r < 6 → zR S' r j = zR S r i := fun r r0 r1 => congrArg Int32.toInt (e r r0 r1)
  unfold ScOK at h ⊢
  rw [z 0 (by decide) (by decide), z 1 (by decide) (by decide), z 2 (by decide) (by decide), z 3 (by decide) (by decide), z 4 (by decide) (by decide)]
  exact h
theorem vG_b {q p w : Nat} {S : Int32 → Int32 → Int32} (h : IvS q p w S) {j : Nat} (hj : j < q) : 0 ≤ vG S j ∧ vG S j ≤ 999 := by
  obtain ⟨⟨a1, a2⟩, ⟨b1, b2⟩, -, -, c1', c2⟩ := h.1 j hj
  unfold vG
  omega
/-- states with equal numbers -/
def VwE (N : Int32 → Int32) (S W : Int32 → Int32 → Int32) (N' : Int32 → Int32) (S' W' : Int32 → Int32 → Int32) : Prop := (∀ i : Int32, 0 ≤ i → i < 17 → N' i = N i) ∧ (∀ r, 0 ≤ r → r < 6 → ∀ j, j < 20 → S' r (nI j) = S r (nI j)) ∧ ∀ r, 0 ≤ r → r < 4 → ∀ j, j < 30 → W' r (nI j) = W r (nI j)
theorem IvS.c {q p w : Nat} {S S' : Int32 → Int32 → Int32} (h : IvS q p w S) (hp : p ≤ q) (hq : q ≤ 20) (e : ∀ r, 0 ≤ r → r < 6 → ∀ j, j < 20 → S' r (nI j) = S r (nI j)) : IvS q p w S' := by
  obtain ⟨h1, h2, h3, h4⟩ := h
  have z5 : ∀ j, j < 20 → zR S' 5 j = zR S 5 j := fun j hj => zR_c (e 5 (by decide) (by decide) j hj)
  refine ⟨fun j hj => (h1 j hj).c (fun r r0 r1 => e r r0 r1 j (by omega)), fun j hj => ?_, fun j j0 j1 => ?_, fun j hj => ?_⟩
  · rw [z5 j (by omega)]
    exact h2 j hj
  · rw [zR_c (e 4 (by decide) (by decide) j (by omega)), e 5 (by decide) (by decide) j (by omega)]
    exact h3 j j0 j1
  · rw [z5 j (by omega), z5 (j + 1) (by omega)]
    exact h4 j hj
theorem IvW.c {w : Nat} {W W' : Int32 → Int32 → Int32} (h : IvW w W) (e : ∀ r, 0 ≤ r → r < 4 → ∀ j, j < 30 → W' r (nI j) = W r (nI j)) : IvW w W' := by
  intro j hj
  rw [zR_c (e 0 (by decide) (by decide) j hj), zR_c (e 1 (by decide) (by decide) j hj), zR_c (e 2 (by decide) (by decide) j hj), zR_c (e 3 (by decide) (by decide) j hj), e 2 (by decide) (by decide) j hj]
  exact h j hj
theorem IvR.c {q p w : Nat} {a3 a4 a5 a7 a9 a10 a11 a12 a13 : Int32} {S W S' W' : Int32 → Int32 → Int32} (h : IvR q p w a3 a4 a5 a7 a9 a10 a11 a12 a13 S W) (hp : p ≤ q) (hq : q ≤ 20) (hw : w ≤ 30) (e : ∀ r, 0 ≤ r → r < 6 → ∀ j, j < 20 → S' r (nI j) = S r (nI j)) (f : ∀ r, 0 ≤ r → r < 4 → ∀ j, j < 30 → W' r (nI j) = W r (nI j)) : IvR q p w a3 a4 a5 a7 a9 a10 a11 a12 a13 S' W' := by
  obtain ⟨h1, h2, h3, h4, h5, h6, h7, h8, h9⟩ := h
  refine ⟨h1, h2, h3, h4.c hp hq e, h5.c f, ?_, ?_, ?_, ?_⟩
  · rw [h6]
    exact zS_c (fun j hj => by
      unfold vG
      rw [zR_c (e 0 (by decide) (by decide) j (by omega)), zR_c (e 4 (by decide) (by decide) j (by omega))])
  · rw [h7]
    exact zS_c (fun j hj => (zR_c (e 4 (by decide) (by decide) j (by omega))).symm)
  · rw [← h8]
    exact zS_c (fun j hj => zR_c (f 2 (by decide) (by decide) j (by omega)))
  · rw [← h9]
    exact zS_c (fun j hj => zR_c (f 3 (by decide) (by decide) j (by omega)))
theorem Iv.c {N N' : Int32 → Int32} {S W S' W' : Int32 → Int32 → Int32} (h : Iv N S W) (e : VwE N S W N' S' W') : Iv N' S' W' := by
  obtain ⟨q, p, w, ⟨e0, e1, e2, h1, h2, h3⟩, h⟩ := h
  obtain ⟨n, s, t⟩ := e
  refine ⟨q, p, w, ⟨(n 0 (by decide) (by decide)).trans e0, (n 1 (by decide) (by decide)).trans e1, (n 2 (by decide) (by decide)).trans e2, h1, h2, h3⟩, ?_⟩
  rw [n 3 (by decide) (by decide), n 4 (by decide) (by decide), n 5 (by decide) (by decide), n 7 (by decide) (by decide), n 9 (by decide) (by decide), n 10 (by decide) (by decide), n 11 (by decide) (by decide), n 12 (by decide) (by decide), n 13 (by decide) (by decide)]
  exact h.c h1 h2 h3 s t
