/-! ### the tie of print -/
theorem prD_img {D : DT} {n f e k : Nat} (hk : k < 257) (hf : f ≤ e) (he : e ≤ 20) : novI (prD D n (nI f) (nI e) (nI e)) n k = prS (SS D n) (novI D n) (D (nu n) 2) (D (nu n) 3) f e e k := by
  have s3 : sc n 3 = n + 3 + 3 := sc_n (r := 3) (by omega)
  have s4 : sc n 4 = n + 3 + 4 := sc_n (r := 4) (by omega)
  have s5 : sc n 5 = n + 3 + 5 := sc_n (r := 5) (by omega)
  have far : ∀ b j, (b < n + 6 ∨ n + 9 ≤ b) → prD D n (nI f) (nI e) (nI e) b j = D b j := fun b j hb => by
    unfold prD
    rw [s3, s4, s5, if_neg (show ¬ b = n + 3 + 3 by omega), if_neg (show ¬ b = n + 3 + 4 by omega), if_neg (show ¬ b = n + 3 + 5 by omega), ite_self]
  unfold prS
  by_cases c1' : k < 137
  · rw [if_neg (by omega)]
    unfold novI
    by_cases c0' : k < 17
    · rw [if_pos c0', if_pos c0', far _ _ (by unfold nu; omega)]
    · rw [if_neg c0', if_neg c0', if_pos c1', if_pos c1', far _ _ (by omega)]
  · obtain ⟨j, r, j20, r6, rfl⟩ : ∃ j r, j < 20 ∧ r < 6 ∧ k = 137 + 6 * j + r := ⟨(k - 137) / 6, (k - 137) % 6, by omega, by omega, by omega⟩
    rw [novI_s r6 j20, novI_s r6 j20, show (137 + 6 * j + r - 137) / 6 = j by omega, show (137 + 6 * j + r - 137) % 6 = r by omega]
    by_cases c2' : f ≤ j ∧ j < e
    · rw [if_pos (show 137 ≤ 137 + 6 * j + r ∧ 137 + 6 * j + r < 257 ∧ f ≤ j ∧ j < e from ⟨by omega, hk, c2'⟩)]
      unfold prD
      rw [if_pos (show nI f ≤ nI j ∧ nI j < nI e from ⟨(nI_leI (by omega) (by omega)).mpr c2'.1, (nI_ltI (by omega) (by omega)).mpr c2'.2⟩), s3, s4, s5]
      by_cases r3 : r = 3
      · rw [if_pos (by omega), if_pos r3]
      · rw [if_neg (by omega), if_neg r3]
        by_cases r4 : r = 4
        · rw [if_pos (by omega), if_pos r4]
        · rw [if_neg (by omega), if_neg r4]
          by_cases r5 : r = 5
          · rw [if_pos (by omega), if_pos r5]
          · rw [if_neg (by omega), if_neg r5]
    · rw [if_neg (show ¬ (137 ≤ 137 + 6 * j + r ∧ 137 + 6 * j + r < 257 ∧ f ≤ j ∧ j < e) from fun q => c2' q.2.2)]
      unfold prD
      rw [if_neg (show ¬ (nI f ≤ nI j ∧ nI j < nI e) from fun q => c2' ⟨(nI_leI (by omega) (by omega)).mp q.1, (nI_ltI (by omega) (by omega)).mp q.2⟩)]
theorem prS_c {N N' : Int32 → Int32} {S W S' W' : Int32 → Int32 → Int32} (hv : Vw N S W N' S' W') {s s' : Nat → Int32} {w c : Int32} {f e i : Nat} (he : e ≤ 20) (hs : s i = s' i) : prS S s w c f e e i = prS S' s' w c f e e i := by
  unfold prS
  by_cases q : 137 ≤ i ∧ i < 257 ∧ f ≤ (i - 137) / 6 ∧ (i - 137) / 6 < e
  · have qq := q
    obtain ⟨q1, q2, q3, q4⟩ := q
    have z0 : 0 ≤ nI ((i - 137) / 6) := nI_pos' (by omega)
    have z1 : nI ((i - 137) / 6) < nI e := (nI_ltI (by omega) (by omega)).mpr q4
    have z2 : nI e ≤ 20 := (nI_leI (b := 20) (by omega) (by decide)).mpr he
    have z3 : nI ((i - 137) / 6) < 20 := (nI_ltI (b := 20) (by omega) (by decide)).mpr (by omega)
    rw [if_pos qq, if_pos qq, hv.cut z0 z1 z2, hv.ten z0 z3, hs]
  · rw [if_neg q, if_neg q, hs]
/-- the numbers of a print ahead of the week's end -/
def prG (S : Int32 → Int32 → Int32) (g : Nat → Int32) (f e : Nat) (wd : Int32) (k : Nat) : Int32 := if k = 1 then nI e else if k = 15 then g 15 + (g 8 * wd + 10 * prS S g (g 2) (g 3) f e e (137 + 6 * (e - 1) + 3)) else if k = 12 then g 12 + 1 else if k = 11 then g 11 + g 3 else if k = 10 then g 10 + wd else prS S g (g 2) (g 3) f e e k
theorem prG_o {S : Int32 → Int32 → Int32} {g : Nat → Int32} {f e k : Nat} {wd : Int32} (h : k = 0 ∨ (2 ≤ k ∧ k ≤ 9) ∨ k = 13 ∨ k = 14 ∨ (16 ≤ k ∧ k < 137) ∨ 257 ≤ k) : prG S g f e wd k = g k := by
  unfold prG
  rw [if_neg (by omega), if_neg (by omega), if_neg (by omega), if_neg (by omega), if_neg (by omega)]
  unfold prS
  rw [if_neg (by omega)]
theorem prG_s {S : Int32 → Int32 → Int32} {g : Nat → Int32} {f e j r : Nat} {wd : Int32} (hj : j < 20) (hr : r < 6) : prG S g f e wd (137 + 6 * j + r) = if f ≤ j ∧ j < e then (if r = 3 then tenF S (nI j) (cutF S (nI j) (nI e) (g 3)) else if r = 4 then cutF S (nI j) (nI e) (g 3) else if r = 5 then g 2 else g (137 + 6 * j + r)) else g (137 + 6 * j + r) := by
  unfold prG
  rw [if_neg (by omega), if_neg (by omega), if_neg (by omega), if_neg (by omega), if_neg (by omega)]
  unfold prS
  rw [show (137 + 6 * j + r - 137) / 6 = j by omega, show (137 + 6 * j + r - 137) % 6 = r by omega]
  by_cases q : f ≤ j ∧ j < e
  · rw [if_pos q, if_pos (show 137 ≤ 137 + 6 * j + r ∧ 137 + 6 * j + r < 257 ∧ f ≤ j ∧ j < e from ⟨by omega, by omega, q⟩)]
  · rw [if_neg q, if_neg (fun z => q z.2.2)]
theorem ten_b9 {S : Int32 → Int32 → Int32} {x c : Int32} (h0 : 0 ≤ S 3 x) (h1 : S 3 x ≤ 9) : 0 ≤ tenF S x c ∧ tenF S x c ≤ 9 := by
  unfold tenF
  split
  · split
    · exact ⟨by decide, by decide⟩
    · rename_i h2 h3
      clear h2
      refine ⟨?_, ?_⟩ <;> (simp only [i_lt, i_le, i_eq, i_cl, Int32.reduceToInt, ne_eq] at * <;> (first | omega | (simp (disch := (first | omega | (simp (disch := (first | omega | (simp (disch := (first | omega | (simp only [Int32.reduceToInt]; omega))) only [a_add, a_sub, a_mul, a_neg, i_lt, i_le, i_eq, i_cl, Int32.reduceToInt, Int32.reduceToNatClampNeg]; omega))) only [a_add, a_sub, a_mul, a_neg, i_lt, i_le, i_eq, i_cl, Int32.reduceToInt, Int32.reduceToNatClampNeg]; omega))) only [a_add, a_sub, a_mul, a_neg, i_lt, i_le, i_eq, i_cl, Int32.reduceToInt, Int32.reduceToNatClampNeg] at * <;> (first | omega | (simp (disch := (first | omega | (simp (disch := (first | omega | (simp (disch := (first | omega | (simp only [Int32.reduceToInt]; omega))) only [a_add, a_sub, a_mul, a_neg, i_lt, i_le, i_eq, i_cl, Int32.reduceToInt, Int32.reduceToNatClampNeg]; omega))) only [a_add, a_sub, a_mul, a_neg, i_lt, i_le, i_eq, i_cl, Int32.reduceToInt, Int32.reduceToNatClampNeg]; omega))) only [a_add, a_sub, a_mul, a_neg, i_lt, i_le, i_eq, i_cl, Int32.reduceToInt, Int32.reduceToNatClampNeg] at * <;> omega)))))
  · exact ⟨h0, h1⟩
theorem prG_inv {S : Int32 → Int32 → Int32} {g : Nat → Int32} {f e n0 : Nat} {wd : Int32} (h : InvI g) (hS : ∀ j, j < 20 → S 3 (nI j) = g (137 + 6 * j + 3)) (h0 : g 0 = nI n0) (he : e ≤ n0) (hn : n0 ≤ 20) : InvI (prG S g f e wd) := by
  obtain ⟨⟨a1, a2, a3, a4, a5, a6⟩, ⟨b1, b2, b3, b4, b5, b6⟩, cc, d, ee⟩ := h
  have q1 : prG S g f e wd 1 = nI e := rfl
  unfold InvI
  rw [q1, prG_o (k := 0) (by omega), prG_o (k := 2) (by omega), prG_o (k := 3) (by omega), prG_o (k := 4) (by omega), prG_o (k := 5) (by omega), prG_o (k := 6) (by omega)]
  refine ⟨⟨nI_pos' (by omega), by rw [h0]; exact (nI_leI (by omega) (by omega)).mpr he, a3, a4, a5, a6⟩, ⟨b1, b2, b3, b4, b5, b6⟩, cc, fun j hj => ?_, fun w hw => ?_⟩
  · obtain ⟨d0, d1, d2, d3⟩ := d j hj
    rw [prG_s hj (by omega), prG_s hj (by omega), prG_s hj (by omega), prG_s hj (by omega)]
    refine ⟨?_, ?_, ?_, ?_⟩
    · rw [if_neg (show ¬ 0 = 3 by omega), if_neg (show ¬ 0 = 4 by omega), if_neg (show ¬ 0 = 5 by omega), ite_self]
      exact d0
    · rw [if_neg (show ¬ 1 = 3 by omega), if_neg (show ¬ 1 = 4 by omega), if_neg (show ¬ 1 = 5 by omega), ite_self]
      exact d1
    · rw [if_neg (show ¬ 2 = 3 by omega), if_neg (show ¬ 2 = 4 by omega), if_neg (show ¬ 2 = 5 by omega), ite_self]
      exact d2
    · rw [if_pos (show 3 = 3 from rfl)]
      split
      · rw [← hS j hj] at d3
        exact ten_b9 d3.1 d3.2
      · exact d3
  · rw [prG_o (by omega), prG_o (by omega)]
    exact ee w hw
