/-! ### how the numbers of a state change: weeks, print, insert, change -/
theorem mxI_z {x y : Int32} : (mxI x y).toInt = if x.toInt < y.toInt then y.toInt else x.toInt := by
  unfold mxI
  by_cases h : x < y
  · rw [if_pos h, if_pos ((i_lt x y).mp h)]
  · rw [if_neg h, if_neg (fun q => h ((i_lt x y).mpr q))]
theorem mnI_z {x y : Int32} : (mnI x y).toInt = if y.toInt < x.toInt then y.toInt else x.toInt := by
  unfold mnI
  by_cases h : y < x
  · rw [if_pos h, if_pos ((i_lt y x).mp h)]
  · rw [if_neg h, if_neg (fun q => h ((i_lt y x).mpr q))]
theorem z_400 : (400 : Int32).toInt = 400 := by decide
theorem owd_z {a7 a9 wd : Int32} {w : Nat} (h7 : a7 = 400) (h0 : -400 ≤ a9.toInt) (h1 : a9.toInt ≤ 400 * (w : Int)) (hw : w ≤ 30) (d0 : 0 ≤ wd.toInt) (d1 : wd.toInt ≤ 20000) :
    (mxI (a9 + a7 - wd) (-a7)).toInt = if a9.toInt + 400 - wd.toInt < -400 then -400 else a9.toInt + 400 - wd.toInt := by
  subst h7
  have e1 : (a9 + 400).toInt = a9.toInt + 400 := by rw [a_add (by rw [z_400]; omega), z_400]
  have e2 : (a9 + 400 - wd).toInt = a9.toInt + 400 - wd.toInt := by rw [a_sub (by omega), e1]
  have e3 : (-(400 : Int32)).toInt = -400 := by decide
  rw [mxI_z, e2, e3]
theorem owd_0 {a7 a9 : Int32} {w : Nat} (h7 : a7 = 400) (h0 : -400 ≤ a9.toInt) (h1 : a9.toInt ≤ 400 * (w : Int)) (hw : w ≤ 30) : mxI (a9 + a7 - 0) (-a7) = a9 + a7 := by
  have := owd_z (wd := 0) h7 h0 h1 hw (by decide) (by decide)
  rw [show (0 : Int32).toInt = 0 from rfl] at this
  rw [← Int32.toInt_inj, this, h7, a_add (by rw [z_400]; omega), z_400]
  rw [if_neg (by omega)]
  omega
theorem IvW.pass {w : Nat} {W W' : Int32 → Int32 → Int32} {wd m : Int32} (h : IvW w W) (hw : w < 30) (d0 : 0 ≤ wd.toInt) (d1 : wd.toInt ≤ 20000) (m0 : 0 ≤ m.toInt) (m1 : m.toInt ≤ 20) (e0 : ∀ j, j < 30 → W' 0 (nI j) = W 0 (nI j)) (e1 : ∀ j, j < 30 → W' 1 (nI j) = W 1 (nI j)) (e2 : ∀ j, j < 30 → W' 2 (nI j) = if j = w then wd else W 2 (nI j)) (e3 : ∀ j, j < 30 → W' 3 (nI j) = if j = w then m else W 3 (nI j)) :
    IvW (w + 1) W' ∧ zS (zR W' 2) (w + 1) = zS (zR W 2) w + wd.toInt ∧ zS (zR W' 3) (w + 1) = zS (zR W 3) w + m.toInt := by
  refine ⟨fun j hj => ?_, ?_, ?_⟩
  · obtain ⟨h1, h2, h3, h4⟩ := h j hj
    rw [zR_c (e0 j hj), zR_c (e1 j hj)]
    refine ⟨h1, h2, fun hl => ?_, fun hl => ?_⟩
    · unfold zR
      rw [e2 j hj, e3 j hj]
      by_cases q : j = w
      · rw [if_pos q, if_pos q]
        exact ⟨⟨d0, d1⟩, m0, m1⟩
      · rw [if_neg q, if_neg q]
        exact h3 (by omega)
    · rw [e2 j hj, if_neg (by omega)]
      exact h4 (by omega)
  · show zS (zR W' 2) w + zR W' 2 w = _
    rw [show zR W' 2 w = wd.toInt by unfold zR; rw [e2 w hw, if_pos rfl]]
    rw [zS_c (f := zR W' 2) (g := zR W 2) (fun j hj => zR_c (by rw [e2 j (by omega), if_neg (by omega)]))]
  · show zS (zR W' 3) w + zR W' 3 w = _
    rw [show zR W' 3 w = m.toInt by unfold zR; rw [e3 w hw, if_pos rfl]]
    rw [zS_c (f := zR W' 3) (g := zR W 3) (fun j hj => zR_c (by rw [e3 j (by omega), if_neg (by omega)]))]
/-- a week passes without an instalment -/
theorem IvR.skip {q p w : Nat} {a3 a4 a5 a7 a9 a10 a11 a12 a13 : Int32} {S W S' W' : Int32 → Int32 → Int32} (h : IvR q p w a3 a4 a5 a7 a9 a10 a11 a12 a13 S W) (hp : p ≤ q) (hq : q ≤ 20) (hw : w < 30) (s : ∀ r, 0 ≤ r → r < 6 → ∀ j, j < 20 → S' r (nI j) = S r (nI j)) (e0 : ∀ j, j < 30 → W' 0 (nI j) = W 0 (nI j)) (e1 : ∀ j, j < 30 → W' 1 (nI j) = W 1 (nI j)) (e2 : ∀ j, j < 30 → W' 2 (nI j) = if j = w then 0 else W 2 (nI j)) (e3 : ∀ j, j < 30 → W' 3 (nI j) = if j = w then 0 else W 3 (nI j)) :
    IvR q p (w + 1) 0 a4 a5 a7 (mxI (a9 + a7 - 0) (-a7)) a10 a11 a12 (a13 + 1) S' W' := by
  obtain ⟨⟨b1, b2, b3, b4, b5⟩, ⟨c1', c2, c3⟩, ⟨d1, d2, d3⟩, hS, hW, h6, h7, h8, h9⟩ := h
  obtain ⟨w1, w2, w3⟩ := hW.pass (wd := 0) (m := 0) hw (by decide) (by decide) (by decide) (by decide) e0 e1 e2 e3
  have hS' := hS.c hp hq s
  refine ⟨⟨b1, by decide, by decide, b4, b5⟩, ⟨c1', ?_, ?_⟩, ⟨?_, d2, ?_⟩, ?_, w1, ?_, ?_, ?_, ?_⟩
  · rw [owd_0 c1' c2 c3 (by omega), c1', a_add (by rw [z_400]; omega), z_400]
    omega
  · rw [owd_0 c1' c2 c3 (by omega), c1', a_add (by rw [z_400]; omega), z_400]
    push_cast
    omega
  · rw [a_add (by rw [show (1 : Int32).toInt = 1 from rfl]; omega), show (1 : Int32).toInt = 1 from rfl]
    push_cast
    omega
  · rw [a_add (by rw [show (1 : Int32).toInt = 1 from rfl]; omega), show (1 : Int32).toInt = 1 from rfl]
    omega
  · obtain ⟨g1, g2, g3, g4⟩ := hS'
    exact ⟨g1, fun j hj => ⟨(g2 j hj).1, by have := (g2 j hj).2; push_cast; omega⟩, g3, g4⟩
  · rw [h6]
    exact zS_c (fun j hj => by
      unfold vG
      rw [zR_c (s 0 (by decide) (by decide) j (by omega)), zR_c (s 4 (by decide) (by decide) j (by omega))])
  · rw [h7]
    exact zS_c (fun j hj => (zR_c (s 4 (by decide) (by decide) j (by omega))).symm)
  · rw [w2, h8]
    exact Int.add_zero _
  · rw [w3, h9]
    exact Int.add_zero _
theorem zS_tel {g R : Nat → Int} {p : Nat} : ∀ {m : Nat}, (∀ j, p ≤ j → j < p + m → g j = R (j + 1) - R j) → zS g (p + m) - zS g p = R (p + m) - R p
  | 0, _ => by simp
  | m + 1, h => by
    have ih := zS_tel (g := g) (R := R) (p := p) (m := m) (fun j h0 h1 => h j h0 (by omega))
    have e := h (p + m) (by omega) (by omega)
    show zS g (p + m) + g (p + m) - zS g p = R (p + (m + 1)) - R p
    rw [show p + (m + 1) = p + m + 1 by omega]
    omega
/-- what is left to be cut of c ahead of scene j, from e back -/
def lfZ (S : Int32 → Int32 → Int32) (c : Int) (e j : Nat) : Int := if c - (zS (zR S 1) e - zS (zR S 1) j) < 0 then 0 else c - (zS (zR S 1) e - zS (zR S 1) j)
theorem cutF_z {S : Int32 → Int32 → Int32} {c : Int32} {j e : Nat} (hj : j < e) (he : e ≤ 20) (hs : ∀ i, j ≤ i → i < e → 0 ≤ zR S 1 i ∧ zR S 1 i ≤ 999) (c0 : 0 ≤ c.toInt) (c1' : c.toInt ≤ 999) :
    (cutF S (nI j) (nI e) c).toInt = lfZ S c.toInt e (j + 1) - lfZ S c.toInt e j ∧ 0 ≤ (cutF S (nI j) (nI e) c).toInt ∧ (cutF S (nI j) (nI e) c).toInt ≤ zR S 1 j := by
  obtain ⟨s1, s2, s3⟩ := sumI_z (g := S 1) (a := j + 1) (b := e) (by omega) he (fun i i0 i1 => hs i (by omega) i1)
  obtain ⟨b1, b2⟩ := hs j (Nat.le_refl _) hj
  have e1 : zS (zR S 1) (j + 1) = zS (zR S 1) j + zR S 1 j := rfl
  have s4 : (sumI (S 1) (nI j + 1) (nI e)).toInt = zS (zR S 1) e - zS (zR S 1) (j + 1) := by
    rw [nI_1]
    exact s1
  rw [← nI_1] at s2 s3
  unfold cutF lfZ
  rw [mnI_z, mxI_z, a_sub (by omega), s4, show (0 : Int32).toInt = 0 from rfl, show (S 1 (nI j)).toInt = zR S 1 j from rfl]
  split <;> split <;> split <;> split <;> omega
theorem tenF_z {S : Int32 → Int32 → Int32} {c : Int32} {j : Nat} (hs : 0 ≤ zR S 3 j ∧ zR S 3 j ≤ 9) : 0 ≤ (tenF S (nI j) c).toInt ∧ (tenF S (nI j) c).toInt ≤ 9 := by
  unfold tenF
  have e : (S 3 (nI j)).toInt = zR S 3 j := rfl
  split
  · split
    · decide
    · rename_i h
      rw [i_le, e, show (2 : Int32).toInt = 2 from rfl] at h
      rw [a_sub (by rw [e, show (2 : Int32).toInt = 2 from rfl]; omega), e, show (2 : Int32).toInt = 2 from rfl]
      omega
  · rw [e]
    exact hs
/-- an instalment of m scenes is printed -/
theorem IvS.print {q p w m : Nat} {S S' : Int32 → Int32 → Int32} {c : Int32} (h : IvS q p w S) (hm : 1 ≤ m) (hpq : p + m ≤ q) (hq : q ≤ 20) (hw : w ≤ 30) (c0 : 0 ≤ c.toInt) (c1' : c.toInt ≤ 999) (c2 : c.toInt ≤ zS (zR S 1) (p + m) - zS (zR S 1) p)
    (eo : ∀ r, 0 ≤ r → r < 6 → ∀ j, j < 20 → (j < p ∨ p + m ≤ j) → S' r (nI j) = S r (nI j)) (e0 : ∀ j, j < 20 → S' 0 (nI j) = S 0 (nI j)) (e1 : ∀ j, j < 20 → S' 1 (nI j) = S 1 (nI j)) (e2 : ∀ j, j < 20 → S' 2 (nI j) = S 2 (nI j)) (e3 : ∀ j, p ≤ j → j < p + m → S' 3 (nI j) = tenF S (nI j) (cutF S (nI j) (nI (p + m)) c)) (e4 : ∀ j, p ≤ j → j < p + m → S' 4 (nI j) = cutF S (nI j) (nI (p + m)) c) (e5 : ∀ j, p ≤ j → j < p + m → S' 5 (nI j) = nI w) :
    IvS q (p + m) (w + 1) S' ∧ zS (zR S' 4) (p + m) = zS (zR S 4) p + c.toInt ∧ zS (vG S') (p + m) = zS (vG S) p + (zS (zR S 0) (p + m) - zS (zR S 0) p - c.toInt) := by
  obtain ⟨h1, h2, h3, h4⟩ := h
  have hs : ∀ i, i < q → 0 ≤ zR S 1 i ∧ zR S 1 i ≤ 999 := fun i hi => by
    obtain ⟨⟨a1, a2⟩, ⟨b1, b2⟩, -⟩ := h1 i hi
    omega
  have k4 : ∀ j, p ≤ j → j < p + m → zR S' 4 j = lfZ S c.toInt (p + m) (j + 1) - lfZ S c.toInt (p + m) j ∧ 0 ≤ zR S' 4 j ∧ zR S' 4 j ≤ zR S 1 j := fun j j0 j1 => by
    unfold zR
    rw [e4 j j0 j1]
    exact cutF_z j1 (by omega) (fun i i0 i1 => hs i (by omega)) c0 c1'
  have k5 : ∀ j, p ≤ j → j < p + m → zR S' 5 j = w := fun j j0 j1 => by
    unfold zR
    rw [e5 j j0 j1, nI_toInt (by omega)]
  have z4 : zS (zR S' 4) p = zS (zR S 4) p := zS_c (fun j hj => zR_c (eo 4 (by decide) (by decide) j (by omega) (Or.inl hj)))
  have t4 : zS (zR S' 4) (p + m) - zS (zR S' 4) p = c.toInt := by
    rw [zS_tel (R := lfZ S c.toInt (p + m)) (fun j j0 j1 => (k4 j j0 j1).1)]
    unfold lfZ
    split <;> split <;> omega
  refine ⟨⟨fun j hj => ?_, fun j hj => ?_, fun j j0 j1 => ?_, fun j hj => ?_⟩, by omega, ?_⟩
  · obtain ⟨a1, a2, a3, a4, a5, a6⟩ := h1 j hj
    unfold ScOK
    rw [zR_c (e0 j (by omega)), zR_c (e1 j (by omega)), zR_c (e2 j (by omega))]
    by_cases hl : p ≤ j ∧ j < p + m
    · refine ⟨a1, a2, a3, ?_, (k4 j hl.1 hl.2).2⟩
      unfold zR
      rw [e3 j hl.1 hl.2]
      exact tenF_z a4
    · have ho : j < p ∨ p + m ≤ j := by omega
      rw [zR_c (eo 3 (by decide) (by decide) j (by omega) ho), zR_c (eo 4 (by decide) (by decide) j (by omega) ho)]
      exact ⟨a1, a2, a3, a4, a5, a6⟩
  · by_cases hl : p ≤ j
    · rw [k5 j hl hj]
      push_cast
      omega
    · rw [zR_c (eo 5 (by decide) (by decide) j (by omega) (Or.inl (by omega)))]
      have := h2 j (by omega)
      push_cast
      omega
  · rw [zR_c (eo 4 (by decide) (by decide) j (by omega) (Or.inr j0)), eo 5 (by decide) (by decide) j (by omega) (Or.inr j0)]
    exact h3 j (by omega) j1
  · by_cases hl : p ≤ j
    · rw [k5 j hl (by omega), k5 (j + 1) (by omega) hj]
      omega
    · rw [zR_c (eo 5 (by decide) (by decide) j (by omega) (Or.inl (by omega)))]
      by_cases hl2 : p ≤ j + 1
      · rw [k5 (j + 1) hl2 hj]
        have := (h2 j (by omega)).2
        omega
      · rw [zR_c (eo 5 (by decide) (by decide) (j + 1) (by omega) (Or.inl (by omega)))]
        exact h4 j (by omega)
  · have v0 : zS (vG S') (p + m) = zS (zR S' 0) (p + m) - zS (zR S' 4) (p + m) := zS_sub (f := zR S' 0) (g := zR S' 4)
    have v1 : zS (vG S) p = zS (zR S 0) p - zS (zR S 4) p := zS_sub (f := zR S 0) (g := zR S 4)
    have v2 : zS (zR S' 0) (p + m) = zS (zR S 0) (p + m) := zS_c (fun j hj => zR_c (e0 j (by omega)))
    rw [v0, v1, v2]
    omega
/-- the whole state behind a print -/
theorem IvR.print {q p w m : Nat} {a3 a4 a5 a7 a9 a10 a11 a12 a13 wd : Int32} {S W S' W' : Int32 → Int32 → Int32} (h : IvR q p w a3 a4 a5 a7 a9 a10 a11 a12 a13 S W) (hm : 1 ≤ m) (hpq : p + m ≤ q) (hq : q ≤ 20) (hw : w < 30) (c2 : a3.toInt ≤ zS (zR S 1) (p + m) - zS (zR S 1) p) (hd : wd.toInt = zS (zR S 0) (p + m) - zS (zR S 0) p - a3.toInt)
    (eo : ∀ r, 0 ≤ r → r < 6 → ∀ j, j < 20 → (j < p ∨ p + m ≤ j) → S' r (nI j) = S r (nI j)) (e0 : ∀ j, j < 20 → S' 0 (nI j) = S 0 (nI j)) (e1 : ∀ j, j < 20 → S' 1 (nI j) = S 1 (nI j)) (e2 : ∀ j, j < 20 → S' 2 (nI j) = S 2 (nI j)) (e3 : ∀ j, p ≤ j → j < p + m → S' 3 (nI j) = tenF S (nI j) (cutF S (nI j) (nI (p + m)) a3)) (e4 : ∀ j, p ≤ j → j < p + m → S' 4 (nI j) = cutF S (nI j) (nI (p + m)) a3) (e5 : ∀ j, p ≤ j → j < p + m → S' 5 (nI j) = nI w)
    (f0 : ∀ j, j < 30 → W' 0 (nI j) = W 0 (nI j)) (f1 : ∀ j, j < 30 → W' 1 (nI j) = W 1 (nI j)) (f2 : ∀ j, j < 30 → W' 2 (nI j) = if j = w then wd else W 2 (nI j)) (f3 : ∀ j, j < 30 → W' 3 (nI j) = if j = w then nI m else W 3 (nI j)) :
    IvR q (p + m) (w + 1) 0 0 a5 a7 (mxI (a9 + a7 - wd) (-a7)) (a10 + wd) (a11 + a3) (a12 + 1) a13 S' W' := by
  obtain ⟨⟨b1, b2, b3, b4, b5⟩, ⟨c1', c3, c4⟩, ⟨d1, d2, d3⟩, hS, hW, h6, h7, h8, h9⟩ := h
  have hs0 : ∀ i, p ≤ i → i < p + m → 0 ≤ zR S 0 i ∧ zR S 0 i ≤ (999 : Nat) := fun i i0 i1 => by
    obtain ⟨⟨x1, x2⟩, -⟩ := hS.1 i (by omega)
    omega
  have hs1 : ∀ i, p ≤ i → i < p + m → 0 ≤ zR S 0 i - zR S 1 i ∧ zR S 0 i - zR S 1 i ≤ (999 : Nat) := fun i i0 i1 => by
    obtain ⟨⟨x1, x2⟩, ⟨x3, x4⟩, -⟩ := hS.1 i (by omega)
    omega
  obtain ⟨u1, u2⟩ := zS_le hs0
  obtain ⟨u3, u4⟩ := zS_le (g := fun i => zR S 0 i - zR S 1 i) hs1
  rw [zS_sub, zS_sub] at u3 u4
  have wd0 : 0 ≤ wd.toInt := by omega
  have wd1 : wd.toInt ≤ 20000 := by
    rw [hd]
    omega
  obtain ⟨w1, w2, w3⟩ := hW.pass (wd := wd) (m := nI m) hw wd0 wd1 (by rw [nI_toInt (by omega)]; omega) (by rw [nI_toInt (by omega)]; omega) f0 f1 f2 f3
  obtain ⟨g1, g2, g3⟩ := hS.print hm hpq hq (by omega) b2 b3 c2 eo e0 e1 e2 e3 e4 e5
  have v4 : ∀ j, j < p → 0 ≤ vG S j ∧ vG S j ≤ 999 := fun j hj => vG_b hS (by omega)
  have v5 : ∀ j, j < p → 0 ≤ zR S 4 j ∧ zR S 4 j ≤ 999 := fun j hj => by
    obtain ⟨⟨x1, x2⟩, ⟨x3, x4⟩, -, -, x5, x6⟩ := hS.1 j (by omega)
    omega
  obtain ⟨k1, k2⟩ := zS_b v4
  obtain ⟨k3, k4⟩ := zS_b v5
  have z10 : (a10 + wd).toInt = a10.toInt + wd.toInt := a_add (by omega)
  have z11 : (a11 + a3).toInt = a11.toInt + a3.toInt := a_add (by omega)
  have z12 : (a12 + 1).toInt = a12.toInt + 1 := a_add (by rw [show (1 : Int32).toInt = 1 from rfl]; omega)
  refine ⟨⟨by decide, by decide, by decide, b4, b5⟩, ⟨c1', ?_, ?_⟩, ⟨?_, ?_, d3⟩, g1, w1, ?_, ?_, ?_, ?_⟩
  · rw [owd_z c1' c3 c4 (by omega) wd0 wd1]
    split <;> omega
  · rw [owd_z c1' c3 c4 (by omega) wd0 wd1]
    push_cast
    split <;> omega
  · rw [z12]
    push_cast
    omega
  · rw [z12]
    omega
  · rw [z10, g3, h6, hd]
  · rw [z11, g2, h7]
  · rw [w2, z10, h8]
  · rw [w3, h9, nI_toInt (by omega)]
    push_cast
    rfl
/-- a scene is put in at a -/
theorem IvR.insert {q p w a : Nat} {a3 a4 a5 a7 a9 a10 a11 a12 a13 v0 v1 v2 v3 : Int32} {S W S' W' : Int32 → Int32 → Int32} (h : IvR q p w a3 a4 a5 a7 a9 a10 a11 a12 a13 S W) (hp : p ≤ a) (ha : a ≤ q) (hq : q < 20) (hw : w ≤ 30) (y0 : 1 ≤ v0.toInt ∧ v0.toInt ≤ 999) (y1 : 0 ≤ v1.toInt ∧ v1.toInt < v0.toInt) (y2 : 0 ≤ v2.toInt ∧ v2.toInt ≤ 5) (y3 : 0 ≤ v3.toInt ∧ v3.toInt ≤ 9)
    (eb : ∀ r, 0 ≤ r → r < 6 → ∀ j, j < a → S' r (nI j) = S r (nI j)) (eu : ∀ r, 0 ≤ r → r < 6 → ∀ j, a < j → j ≤ q → S' r (nI j) = S r (nI (j - 1))) (ea : S' 0 (nI a) = v0 ∧ S' 1 (nI a) = v1 ∧ S' 2 (nI a) = v2 ∧ S' 3 (nI a) = v3 ∧ S' 4 (nI a) = 0 ∧ S' 5 (nI a) = -100009)
    (f : ∀ r, 0 ≤ r → r < 4 → ∀ j, j < 30 → W' r (nI j) = W r (nI j)) : IvR (q + 1) p w a3 a4 a5 a7 a9 a10 a11 a12 a13 S' W' := by
  obtain ⟨h1, h2, h3, ⟨s1, s2, s3, s4⟩, h5, h6, h7, h8, h9⟩ := h
  obtain ⟨x0, x1, x2, x3, x4, x5⟩ := ea
  have b5 : ∀ j, j < a → zR S' 5 j = zR S 5 j := fun j hj => zR_c (eb 5 (by decide) (by decide) j hj)
  refine ⟨h1, h2, h3, ⟨fun j hj => ?_, fun j hj => ?_, fun j j0 j1 => ?_, fun j hj => ?_⟩, h5.c f, ?_, ?_, ?_, ?_⟩
  · rcases Nat.lt_trichotomy j a with hl | hl | hl
    · exact (s1 j (by omega)).c (fun r r0 r1 => eb r r0 r1 j hl)
    · subst hl
      unfold ScOK zR
      rw [x0, x1, x2, x3, x4]
      exact ⟨y0, y1, y2, y3, by decide, y1.1⟩
    · exact (s1 (j - 1) (by omega)).c (fun r r0 r1 => eu r r0 r1 j hl (by omega))
  · rw [b5 j (by omega)]
    exact s2 j hj
  · rcases Nat.lt_trichotomy j a with hl | hl | hl
    · rw [zR_c (eb 4 (by decide) (by decide) j hl), eb 5 (by decide) (by decide) j hl]
      exact s3 j j0 (by omega)
    · subst hl
      unfold zR
      rw [x4, x5]
      exact ⟨by decide, rfl⟩
    · have e4 : zR S' 4 j = zR S 4 (j - 1) := congrArg Int32.toInt (eu 4 (by decide) (by decide) j hl (by omega))
      rw [e4, eu 5 (by decide) (by decide) j hl (by omega)]
      exact s3 (j - 1) (by omega) (by omega)
  · rw [b5 j (by omega), b5 (j + 1) (by omega)]
    exact s4 j hj
  · rw [h6]
    exact zS_c (fun j hj => by
      unfold vG
      rw [zR_c (eb 0 (by decide) (by decide) j (by omega)), zR_c (eb 4 (by decide) (by decide) j (by omega))])
  · rw [h7]
    exact zS_c (fun j hj => (zR_c (eb 4 (by decide) (by decide) j (by omega))).symm)
  · rw [← h8]
    exact zS_c (fun j hj => zR_c (f 2 (by decide) (by decide) j (by omega)))
  · rw [← h9]
    exact zS_c (fun j hj => zR_c (f 3 (by decide) (by decide) j (by omega)))
/-- the tension of a scene to come is changed -/
theorem IvR.change {q p w a : Nat} {a3 a4 a5 a7 a9 a10 a11 a12 a13 v : Int32} {S W S' W' : Int32 → Int32 → Int32} (h : IvR q p w a3 a4 a5 a7 a9 a10 a11 a12 a13 S W) (hp : p ≤ a) (ha : a < q) (hq : q ≤ 20) (hw : w ≤ 30) (y3 : 0 ≤ v.toInt ∧ v.toInt ≤ 9)
    (eb : ∀ r, 0 ≤ r → r < 6 → ∀ j, j < 20 → ¬ (r = 3 ∧ j = a) → S' r (nI j) = S r (nI j)) (ea : S' 3 (nI a) = v) (f : ∀ r, 0 ≤ r → r < 4 → ∀ j, j < 30 → W' r (nI j) = W r (nI j)) : IvR q p w a3 a4 a5 a7 a9 a10 a11 a12 a13 S' W' := by
  obtain ⟨h1, h2, h3, ⟨s1, s2, s3, s4⟩, h5, h6, h7, h8, h9⟩ := h
  have b : ∀ r : Int32, 0 ≤ r → r < 6 → ¬ r = 3 → ∀ j, j < 20 → S' r (nI j) = S r (nI j) := fun r r0 r1 r3 j hj => eb r r0 r1 j hj (fun q => r3 q.1)
  refine ⟨h1, h2, h3, ⟨fun j hj => ?_, fun j hj => ?_, fun j j0 j1 => ?_, fun j hj => ?_⟩, h5.c f, ?_, ?_, ?_, ?_⟩
  · obtain ⟨a1, a2, a3, a4, a5⟩ := s1 j hj
    unfold ScOK
    rw [zR_c (b 0 (by decide) (by decide) (by decide) j (by omega)), zR_c (b 1 (by decide) (by decide) (by decide) j (by omega)), zR_c (b 2 (by decide) (by decide) (by decide) j (by omega)), zR_c (b 4 (by decide) (by decide) (by decide) j (by omega))]
    refine ⟨a1, a2, a3, ?_, a5⟩
    by_cases e : j = a
    · subst e
      unfold zR
      rw [ea]
      exact y3
    · rw [zR_c (eb 3 (by decide) (by decide) j (by omega) (fun q => e q.2))]
      exact a4
  · rw [zR_c (b 5 (by decide) (by decide) (by decide) j (by omega))]
    exact s2 j hj
  · rw [zR_c (b 4 (by decide) (by decide) (by decide) j (by omega)), b 5 (by decide) (by decide) (by decide) j (by omega)]
    exact s3 j j0 j1
  · rw [zR_c (b 5 (by decide) (by decide) (by decide) j (by omega)), zR_c (b 5 (by decide) (by decide) (by decide) (j + 1) (by omega))]
    exact s4 j hj
  · rw [h6]
    exact zS_c (fun j hj => by
      unfold vG
      rw [zR_c (b 0 (by decide) (by decide) (by decide) j (by omega)), zR_c (b 4 (by decide) (by decide) (by decide) j (by omega))])
  · rw [h7]
    exact zS_c (fun j hj => (zR_c (b 4 (by decide) (by decide) (by decide) j (by omega))).symm)
  · rw [← h8]
    exact zS_c (fun j hj => zR_c (f 2 (by decide) (by decide) j (by omega)))
  · rw [← h9]
    exact zS_c (fun j hj => zR_c (f 3 (by decide) (by decide) j (by omega)))
/-- a week's paper is set -/
theorem IvR.paper {q p w a : Nat} {a3 a4 a5 a7 a9 a10 a11 a12 a13 v0 v1 : Int32} {S W S' W' : Int32 → Int32 → Int32} (h : IvR q p w a3 a4 a5 a7 a9 a10 a11 a12 a13 S W) (hp : p ≤ q) (hq : q ≤ 20) (hw : w ≤ 30) (y0 : 1 ≤ v0.toInt ∧ v0.toInt ≤ 4) (y1 : 0 ≤ v1.toInt ∧ v1.toInt ≤ 999)
    (e : ∀ r, 0 ≤ r → r < 6 → ∀ j, j < 20 → S' r (nI j) = S r (nI j)) (f0 : ∀ j, j < 30 → W' 0 (nI j) = if j = a then v0 else W 0 (nI j)) (f1 : ∀ j, j < 30 → W' 1 (nI j) = if j = a then v1 else W 1 (nI j)) (f2 : ∀ j, j < 30 → W' 2 (nI j) = W 2 (nI j)) (f3 : ∀ j, j < 30 → W' 3 (nI j) = W 3 (nI j)) : IvR q p w a3 a4 a5 a7 a9 a10 a11 a12 a13 S' W' := by
  have hh := h.c (W' := W) hp hq hw e (fun _ _ _ _ _ => rfl)
  obtain ⟨h1, h2, h3, h4, h5, h6, h7, h8, h9⟩ := hh
  refine ⟨h1, h2, h3, h4, fun j hj => ?_, h6, h7, ?_, ?_⟩
  · obtain ⟨b1, b2, b3⟩ := h5 j hj
    rw [zR_c (f2 j hj), zR_c (f3 j hj), f2 j hj]
    refine ⟨?_, ?_, b3⟩
    · unfold zR
      rw [f0 j hj]
      split
      · exact y0
      · exact b1
    · unfold zR
      rw [f1 j hj]
      split
      · exact y1
      · exact b2
  · rw [← h8]
    exact zS_c (fun j hj => zR_c (f2 j (by omega)))
  · rw [← h9]
    exact zS_c (fun j hj => zR_c (f3 j (by omega)))
