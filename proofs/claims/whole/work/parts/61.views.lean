/-! ===== the tie: equal views, equal answers ===== -/
/-- two views of a state agree wherever a state has numbers -/
def Vw (N : Int32 → Int32) (S W : Int32 → Int32 → Int32) (N' : Int32 → Int32) (S' W' : Int32 → Int32 → Int32) : Prop := (∀ i : Int32, 0 ≤ i → i < 17 → N i = N' i) ∧ (∀ r i : Int32, 0 ≤ r → r < 6 → 0 ≤ i → i < 20 → S r i = S' r i) ∧ ∀ r w : Int32, 0 ≤ r → r < 4 → 0 ≤ w → w < 30 → W r w = W' r w
section VWS
variable {N N' : Int32 → Int32} {S W S' W' : Int32 → Int32 → Int32}
theorem Vw.n (h : Vw N S W N' S' W') {i : Int32} (h0 : 0 ≤ i) (h1 : i < 17) : N i = N' i := h.1 i h0 h1
theorem Vw.room (h : Vw N S W N' S' W') {w : Int32} (h0 : 0 ≤ w) (h1 : w < 30) : roomF N W w = roomF N' W' w := by
  unfold roomF
  rw [h.n (i := 5) (by decide) (by decide), h.2.2 0 w (by decide) (by decide) h0 h1, h.2.2 1 w (by decide) (by decide) h0 h1]
theorem Vw.sum (h : Vw N S W N' S' W') {r f e : Int32} (r0 : 0 ≤ r) (r6 : r < 6) (h0 : 0 ≤ f) (h1 : 0 ≤ e) (h2 : e ≤ 20) : sumI (S r) f e = sumI (S' r) f e := sumI_c h0 h1 h2 (fun i i0 i1 => h.2.1 r i r0 r6 i0 i1)
theorem Vw.ten (h : Vw N S W N' S' W') {x c : Int32} (h0 : 0 ≤ x) (h1 : x < 20) : tenF S x c = tenF S' x c := by
  unfold tenF
  rw [h.2.1 1 x (by decide) (by decide) h0 h1, h.2.1 3 x (by decide) (by decide) h0 h1]
theorem Vw.cut (h : Vw N S W N' S' W') {x e c : Int32} (h0 : 0 ≤ x) (h1 : x < e) (h2 : e ≤ 20) : cutF S x e c = cutF S' x e c := cutF_c (fun i i0 i1 => h.2.1 1 i (by decide) (by decide) i0 i1) h0 h1 h2
theorem Vw.last (h : Vw N S W N' S' W') {e c : Int32} (h0 : 0 < e) (h1 : e ≤ 20) : lastF S e c = lastF S' e c := by
  obtain ⟨z1, z2, z3, z4, z5⟩ := e_m1 h0 h1
  unfold lastF
  rw [h.2.1 1 (e - 1) (by decide) (by decide) z1 z4, h.ten z1 z4]
theorem Vw.cli (h : Vw N S W N' S' W') {x t v : Int32} (h0 : 0 ≤ x) (h1 : x < 20) (h2 : N 0 ≤ 20) : cliD N S x t v = cliD N' S' x t v := by
  unfold cliD
  rw [← h.n (i := 0) (by decide) (by decide)]
  by_cases c1' : t < v
  · rw [if_pos c1', if_pos c1']
  · rw [if_neg c1', if_neg c1']
    by_cases c2' : N 0 ≤ x + 1
    · rw [if_pos c2', if_pos c2']
    · rw [if_neg c2', if_neg c2']
      have h3 : 0 ≤ x + 1 ∧ x + 1 < 20 := by
        refine ⟨?_, Int32.lt_of_lt_of_le (Int32.not_le.mp c2') h2⟩
        clear c1' c2'
        (simp only [i_lt, i_le, i_eq, i_cl, Int32.reduceToInt, ne_eq] at * <;> (first | omega | (simp (disch := (first | omega | (simp (disch := (first | omega | (simp (disch := (first | omega | (simp only [Int32.reduceToInt]; omega))) only [a_add, a_sub, a_mul, a_neg, i_lt, i_le, i_eq, i_cl, Int32.reduceToInt, Int32.reduceToNatClampNeg]; omega))) only [a_add, a_sub, a_mul, a_neg, i_lt, i_le, i_eq, i_cl, Int32.reduceToInt, Int32.reduceToNatClampNeg]; omega))) only [a_add, a_sub, a_mul, a_neg, i_lt, i_le, i_eq, i_cl, Int32.reduceToInt, Int32.reduceToNatClampNeg] at * <;> (first | omega | (simp (disch := (first | omega | (simp (disch := (first | omega | (simp (disch := (first | omega | (simp only [Int32.reduceToInt]; omega))) only [a_add, a_sub, a_mul, a_neg, i_lt, i_le, i_eq, i_cl, Int32.reduceToInt, Int32.reduceToNatClampNeg]; omega))) only [a_add, a_sub, a_mul, a_neg, i_lt, i_le, i_eq, i_cl, Int32.reduceToInt, Int32.reduceToNatClampNeg]; omega))) only [a_add, a_sub, a_mul, a_neg, i_lt, i_le, i_eq, i_cl, Int32.reduceToInt, Int32.reduceToNatClampNeg] at * <;> omega)))))
      rw [h.2.1 2 (x + 1) (by decide) (by decide) h3.1 h3.2, h.2.1 2 x (by decide) (by decide) h0 h1, h.2.1 3 (x + 1) (by decide) (by decide) h3.1 h3.2]
theorem Vw.rea (h : Vw N S W N' S' W') {f n w c v : Int32} (h0 : 0 ≤ f) (h1 : f ≤ N 0) (h2 : N 0 ≤ 20) (h3 : 0 ≤ w) (h4 : w < 30) : reaF N S W f n w c v = reaF N' S' W' f n w c v := by
  unfold reaF
  rw [← h.n (i := 0) (by decide) (by decide), ← h.n (i := 5) (by decide) (by decide), ← h.room h3 h4]
  by_cases c1' : n < 1
  · rw [if_pos c1', if_pos c1']
  · rw [if_neg c1', if_neg c1']
    by_cases c2' : n ≤ N 0 - f
    · rw [if_pos c2', if_pos c2']
      have z : 0 < f + n ∧ f + n ≤ N 0 ∧ f + n ≤ 20 ∧ 0 ≤ f + n := by
        refine ⟨?_, ?_, ?_, ?_⟩ <;> (simp only [i_lt, i_le, i_eq, i_cl, Int32.reduceToInt, ne_eq] at * <;> (first | omega | (simp (disch := (first | omega | (simp (disch := (first | omega | (simp (disch := (first | omega | (simp only [Int32.reduceToInt]; omega))) only [a_add, a_sub, a_mul, a_neg, i_lt, i_le, i_eq, i_cl, Int32.reduceToInt, Int32.reduceToNatClampNeg]; omega))) only [a_add, a_sub, a_mul, a_neg, i_lt, i_le, i_eq, i_cl, Int32.reduceToInt, Int32.reduceToNatClampNeg]; omega))) only [a_add, a_sub, a_mul, a_neg, i_lt, i_le, i_eq, i_cl, Int32.reduceToInt, Int32.reduceToNatClampNeg] at * <;> (first | omega | (simp (disch := (first | omega | (simp (disch := (first | omega | (simp (disch := (first | omega | (simp only [Int32.reduceToInt]; omega))) only [a_add, a_sub, a_mul, a_neg, i_lt, i_le, i_eq, i_cl, Int32.reduceToInt, Int32.reduceToNatClampNeg]; omega))) only [a_add, a_sub, a_mul, a_neg, i_lt, i_le, i_eq, i_cl, Int32.reduceToInt, Int32.reduceToNatClampNeg]; omega))) only [a_add, a_sub, a_mul, a_neg, i_lt, i_le, i_eq, i_cl, Int32.reduceToInt, Int32.reduceToNatClampNeg] at * <;> omega)))))
      obtain ⟨z1, z2, z3, z4⟩ := z
      obtain ⟨q1, q2, q3, q4, q5⟩ := e_m1 z1 z3
      rw [h.sum (r := 1) (by decide) (by decide) h0 z4 z3, h.sum (r := 0) (by decide) (by decide) h0 z4 z3, h.last z1 z3, h.cli q1 q4 h2, h.2.1 2 (f + n - 1) (by decide) (by decide) q1 q4]
      by_cases c3' : f ≤ 0
      · rw [if_pos c3', if_pos c3']
      · have z5 : 0 ≤ f - 1 ∧ f - 1 < 20 := by
          clear c1' c2' z1 z2 z3 z4 q1 q2 q3 q4 q5 h3 h4
          refine ⟨?_, ?_⟩ <;> (simp only [i_lt, i_le, i_eq, i_cl, Int32.reduceToInt, ne_eq] at * <;> (first | omega | (simp (disch := (first | omega | (simp (disch := (first | omega | (simp (disch := (first | omega | (simp only [Int32.reduceToInt]; omega))) only [a_add, a_sub, a_mul, a_neg, i_lt, i_le, i_eq, i_cl, Int32.reduceToInt, Int32.reduceToNatClampNeg]; omega))) only [a_add, a_sub, a_mul, a_neg, i_lt, i_le, i_eq, i_cl, Int32.reduceToInt, Int32.reduceToNatClampNeg]; omega))) only [a_add, a_sub, a_mul, a_neg, i_lt, i_le, i_eq, i_cl, Int32.reduceToInt, Int32.reduceToNatClampNeg] at * <;> (first | omega | (simp (disch := (first | omega | (simp (disch := (first | omega | (simp (disch := (first | omega | (simp only [Int32.reduceToInt]; omega))) only [a_add, a_sub, a_mul, a_neg, i_lt, i_le, i_eq, i_cl, Int32.reduceToInt, Int32.reduceToNatClampNeg]; omega))) only [a_add, a_sub, a_mul, a_neg, i_lt, i_le, i_eq, i_cl, Int32.reduceToInt, Int32.reduceToNatClampNeg]; omega))) only [a_add, a_sub, a_mul, a_neg, i_lt, i_le, i_eq, i_cl, Int32.reduceToInt, Int32.reduceToNatClampNeg] at * <;> omega)))))
        rw [h.2.1 2 (f - 1) (by decide) (by decide) z5.1 z5.2]
    · rw [if_neg c2', if_neg c2']
theorem Vw.num (h : Vw N S W N' S' W') (hN : Num N) : Num N' := by
  obtain ⟨y1, y2, y3, y4, y5, y6⟩ := hN
  unfold Num
  rw [← h.n (i := 1) (by decide) (by decide), ← h.n (i := 0) (by decide) (by decide), ← h.n (i := 2) (by decide) (by decide), ← h.n (i := 4) (by decide) (by decide)]
  exact ⟨y1, y2, y3, y4, y5, y6⟩
theorem Vw.goo (h : Vw N S W N' S' W') (hN : Num N) {m : Int32} : gooD N S W m = gooD N' S' W' m := by
  obtain ⟨y1, y2, y3, y4, y5, y6⟩ := hN
  unfold gooD
  rw [← h.n (i := 2) (by decide) (by decide), ← h.n (i := 1) (by decide) (by decide), ← h.n (i := 3) (by decide) (by decide), ← h.n (i := 6) (by decide) (by decide)]
  by_cases c1' : 30 ≤ N 2
  · rw [if_pos c1', if_pos c1']
  · rw [if_neg c1', if_neg c1', h.rea y1 y2 y3 y4 (Int32.not_le.mp c1')]
theorem Vw.ng (h : Vw N S W N' S' W') (hN : Num N) {m : Int32} : ∀ (k : Nat) (a : Int32), ngF N S W m k a = ngF N' S' W' m k a
  | 0, _ => rfl
  | k + 1, a => by
    rw [ngF, ngF, h.goo hN, h.goo hN, Vw.ng h hN k]
theorem Vw.setv (h : Vw N S W N' S' W') : setV N = setV N' := by
  unfold setV
  rw [h.n (i := 4) (by decide) (by decide)]
theorem Vw.itc (h : Vw N S W N' S' W') {x : Int32} : itcD N x = itcD N' x := by
  unfold itcD
  rw [h.n (i := 0) (by decide) (by decide), h.n (i := 1) (by decide) (by decide)]
theorem Vw.sin (h : Vw N S W N' S' W') {w st : Int32} : ∀ k : Nat, k ≤ 20 → sinF S w st k = sinF S' w st k
  | 0, _ => rfl
  | k + 1, hk => by
    obtain ⟨z1, z2, -⟩ := nI_b (r := k) (k := 20) (by omega) (by omega)
    rw [sinF, sinF, h.2.1 2 (nI k) (by decide) (by decide) z1 z2, h.2.1 5 (nI k) (by decide) (by decide) z1 z2, Vw.sin h k (by omega)]
theorem Vw.str (h : Vw N S W N' S' W') {st f e : Int32} (h0 : 0 ≤ f) (h1 : 0 ≤ e) (h2 : e ≤ 20) : sumI (stF S st) f e = sumI (stF S' st) f e := sumI_c h0 h1 h2 (fun i i0 i1 => by
  unfold stF
  rw [h.2.1 2 i (by decide) (by decide) i0 i1, h.2.1 0 i (by decide) (by decide) i0 i1, h.2.1 4 i (by decide) (by decide) i0 i1])
theorem Vw.owd (h : Vw N S W N' S' W') {o w : Int32} : owdF N o w = owdF N' o w := by
  unfold owdF
  rw [h.n (i := 7) (by decide) (by decide)]
theorem Vw.inv (h : Vw N S W N' S' W') (hI : Inv N S W) : Inv N' S' W' := by
  obtain ⟨hN, ⟨w1, w2, w3, w4, w5, w6⟩, hset, hB, hW⟩ := hI
  refine ⟨h.num hN, ?_, ?_, fun i i0 i1 => ?_, fun w i0 i1 => ?_⟩
  · rw [← h.n (i := 3) (by decide) (by decide), ← h.n (i := 5) (by decide) (by decide), ← h.n (i := 6) (by decide) (by decide)]
    exact ⟨w1, w2, w3, w4, w5, w6⟩
  · rw [← h.n (i := 4) (by decide) (by decide), ← h.n (i := 2) (by decide) (by decide)]
    exact hset
  · rw [← h.2.1 0 i (by decide) (by decide) i0 i1, ← h.2.1 1 i (by decide) (by decide) i0 i1, ← h.2.1 2 i (by decide) (by decide) i0 i1, ← h.2.1 3 i (by decide) (by decide) i0 i1]
    exact hB i i0 i1
  · rw [← h.2.2 0 w (by decide) (by decide) i0 i1, ← h.2.2 1 w (by decide) (by decide) i0 i1]
    exact hW w i0 i1
end VWS
