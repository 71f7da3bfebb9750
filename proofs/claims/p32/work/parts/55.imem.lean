/-! ### the present novel behind insert, change, setWeek, take, restore, undo -/
theorem sc_0 {n : Nat} : sc n 0 = n + 3 := sc_n (r := 0) (by omega)
theorem sc_1 {n : Nat} : sc n 1 = n + 4 := sc_n (r := 1) (by omega)
theorem sc_2 {n : Nat} : sc n 2 = n + 5 := sc_n (r := 2) (by omega)
theorem wk_0 {n : Nat} : wk n 0 = n + 10 := wk_n (r := 0) (by omega)
theorem wk_1 {n : Nat} : wk n 1 = n + 11 := wk_n (r := 1) (by omega)
theorem shU_r' {E : DT} {n a q k j : Nat} (hk : k < 6) (ha : a < 1000) (hq : q < 1000) (hj : j < 1000) : shU E n (nI a) (nI q) 6 (nI q) (n + 3 + k) (nI j) = if a < j ∧ j ≤ q then E (n + 3 + k) (nI (j - 1)) else E (n + 3 + k) (nI j) := by
  unfold shU
  by_cases c : a < j ∧ j ≤ q
  · have e : nI j - 1 = nI (j - 1) := by
      obtain ⟨i, rfl⟩ : ∃ i, j = i + 1 := ⟨j - 1, by omega⟩
      exact nI_pred i
    rw [if_pos c, if_pos ⟨by omega, by omega, (nI_ltI (by omega) (by omega)).mpr c.1, (nI_leI (by omega) (by omega)).mpr c.2⟩, e]
  · rw [if_neg c, if_neg, if_neg]
    · rintro ⟨h, -⟩
      omega
    · rintro ⟨-, -, h1, h2⟩
      exact c ⟨(nI_ltI (by omega) (by omega)).mp h1, (nI_leI (by omega) (by omega)).mp h2⟩
theorem shU_o {E : DT} {n b : Nat} {y e : Int32} (h : b < n + 3 ∨ n + 9 ≤ b) : shU E n y e 6 e b = E b := by
  funext j
  unfold shU
  rw [if_neg (by omega), if_neg]
  rintro ⟨-, h1, h2⟩
  exact Int32.lt_irrefl (Int32.lt_of_lt_of_le h1 h2)
def insV (w s st t : Int32) : Nat → Int32
  | 0 => w
  | 1 => s
  | 2 => st
  | 3 => t
  | 4 => 0
  | _ => -100009
theorem ins_S {E : DT} {n a q k j : Nat} {w s st t : Int32} (hN : E (nu n) 0 = nI q) (hk : k < 6) (ha : a < 1000) (hq : q < 1000) (hj : j < 1000) : addD E n (nI a) w s st t (sc n (nI k)) (nI j) = if j = a then insV w s st t k else if a < j ∧ j ≤ q then E (sc n (nI k)) (nI (j - 1)) else E (sc n (nI k)) (nI j) := by
  rw [sc_n hk]
  unfold addD
  rw [hN, sc_0, sc_1, sc_2, sc_3, sc_4, sc_5]
  obtain rfl | rfl | rfl | rfl | rfl | rfl : k = 0 ∨ k = 1 ∨ k = 2 ∨ k = 3 ∨ k = 4 ∨ k = 5 := by omega
  · rw [uD_o (show n + 3 + 0 ≠ nu n by unfold nu; omega), uD_o (show n + 3 + 0 ≠ n + 8 by omega), uD_o (show n + 3 + 0 ≠ n + 7 by omega), uD_o (show n + 3 + 0 ≠ n + 6 by omega), uD_o (show n + 3 + 0 ≠ n + 5 by omega), uD_o (show n + 3 + 0 ≠ n + 4 by omega), show n + 3 = n + 3 + 0 by omega, uD_if ha hj, shU_r' (by omega) ha hq hj]
    rfl
  · rw [uD_o (show n + 3 + 1 ≠ nu n by unfold nu; omega), uD_o (show n + 3 + 1 ≠ n + 8 by omega), uD_o (show n + 3 + 1 ≠ n + 7 by omega), uD_o (show n + 3 + 1 ≠ n + 6 by omega), uD_o (show n + 3 + 1 ≠ n + 5 by omega), show n + 4 = n + 3 + 1 by omega, uD_if ha hj, uD_o (show n + 3 + 1 ≠ n + 3 by omega), shU_r' (by omega) ha hq hj]
    rfl
  · rw [uD_o (show n + 3 + 2 ≠ nu n by unfold nu; omega), uD_o (show n + 3 + 2 ≠ n + 8 by omega), uD_o (show n + 3 + 2 ≠ n + 7 by omega), uD_o (show n + 3 + 2 ≠ n + 6 by omega), show n + 5 = n + 3 + 2 by omega, uD_if ha hj, uD_o (show n + 3 + 2 ≠ n + 4 by omega), uD_o (show n + 3 + 2 ≠ n + 3 by omega), shU_r' (by omega) ha hq hj]
    rfl
  · rw [uD_o (show n + 3 + 3 ≠ nu n by unfold nu; omega), uD_o (show n + 3 + 3 ≠ n + 8 by omega), uD_o (show n + 3 + 3 ≠ n + 7 by omega), show n + 6 = n + 3 + 3 by omega, uD_if ha hj, uD_o (show n + 3 + 3 ≠ n + 5 by omega), uD_o (show n + 3 + 3 ≠ n + 4 by omega), uD_o (show n + 3 + 3 ≠ n + 3 by omega), shU_r' (by omega) ha hq hj]
    rfl
  · rw [uD_o (show n + 3 + 4 ≠ nu n by unfold nu; omega), uD_o (show n + 3 + 4 ≠ n + 8 by omega), show n + 7 = n + 3 + 4 by omega, uD_if ha hj, uD_o (show n + 3 + 4 ≠ n + 6 by omega), uD_o (show n + 3 + 4 ≠ n + 5 by omega), uD_o (show n + 3 + 4 ≠ n + 4 by omega), uD_o (show n + 3 + 4 ≠ n + 3 by omega), shU_r' (by omega) ha hq hj]
    rfl
  · rw [uD_o (show n + 3 + 5 ≠ nu n by unfold nu; omega), show n + 8 = n + 3 + 5 by omega, uD_if ha hj, uD_o (show n + 3 + 5 ≠ n + 7 by omega), uD_o (show n + 3 + 5 ≠ n + 6 by omega), uD_o (show n + 3 + 5 ≠ n + 5 by omega), uD_o (show n + 3 + 5 ≠ n + 4 by omega), uD_o (show n + 3 + 5 ≠ n + 3 by omega), shU_r' (by omega) ha hq hj]
    rfl
theorem ins_N {E : DT} {n : Nat} {y w s st t : Int32} : addD E n y w s st t (nu n) = fun i => if (0 : Int32).toInt = i.toInt then E (nu n) 0 + 1 else E (nu n) i := by
  funext i
  unfold addD
  rw [uD_s, uD_o (by rw [sc_5]; unfold nu; omega), uD_o (by rw [sc_4]; unfold nu; omega), uD_o (by rw [sc_3]; unfold nu; omega), uD_o (by rw [sc_2]; unfold nu; omega), uD_o (by rw [sc_1]; unfold nu; omega), uD_o (by rw [sc_0]; unfold nu; omega), shU_n]
theorem ins_o {E : DT} {n b : Nat} {y w s st t : Int32} (h : b < n + 1 ∨ n + 9 ≤ b) : addD E n y w s st t b = E b := by
  unfold addD
  rw [uD_o (by unfold nu; omega), uD_o (by rw [sc_5]; omega), uD_o (by rw [sc_4]; omega), uD_o (by rw [sc_3]; omega), uD_o (by rw [sc_2]; omega), uD_o (by rw [sc_1]; omega), uD_o (by rw [sc_0]; omega), shU_o (by omega)]
section IMM
variable {K : KT} {G : GT} {D : DT} {x : Nat}
theorem x_v {x : Nat} : xv x = x + 2 := by
  unfold xv mv xN
  omega
abbrev inD (G : GT) (D : DT) (x a : Nat) (w s st t : Int32) : DT := addD (rD G D x) (xv x) (nI a) w s st t
/-- a scene is put in at a -/
theorem ins_w (hW : Wld K G D x) (hI : vI D x) {q p a : Nat} {w s st t : Int32} (e0 : D (nu (xv x)) 0 = nI q) (e1 : D (nu (xv x)) 1 = nI p) (hp : p ≤ a) (ha : a ≤ q) (hq : q < 20) (y0 : 1 ≤ w.toInt ∧ w.toInt ≤ 999) (y1 : 0 ≤ s.toInt ∧ s.toInt < w.toInt) (y2 : 0 ≤ st.toInt ∧ st.toInt ≤ 5) (y3 : 0 ≤ t.toInt ∧ t.toInt ≤ 9) :
    Wld K (recG G D (xH x)) (inD G D x a w s st t) x ∧ vI (inD G D x a w s st t) x ∧ inD G D x a w s st t (nu (xv x)) = fun i => if (0 : Int32).toInt = i.toInt then D (nu (xv x)) 0 + 1 else D (nu (xv x)) i := by
  have hA := hW.1
  have hN : inD G D x a w s st t (nu (xv x)) = fun i => if (0 : Int32).toInt = i.toInt then D (nu (xv x)) 0 + 1 else D (nu (xv x)) i := by
    show addD _ _ _ _ _ _ _ _ = _
    rw [ins_N, rD_N hA]
  obtain ⟨q', p', wk', ⟨f0, f1, f2, g1, g2, g3⟩, h⟩ := hI
  obtain rfl : q' = q := (nI_eq (by omega) (by omega)).mp (f0.symm.trans e0)
  have hp20 : p < 2 ^ 31 := by omega
  obtain rfl : p' = p := (nI_eq (by omega) hp20).mp (f1.symm.trans e1)
  have eS : ∀ k, k < 6 → ∀ j, j < 1000 → inD G D x a w s st t (sc (xv x) (nI k)) (nI j) = if j = a then insV w s st t k else if a < j ∧ j ≤ q' then D (sc (xv x) (nI k)) (nI (j - 1)) else D (sc (xv x) (nI k)) (nI j) := fun k hk j hj => by
    show addD _ _ _ _ _ _ _ _ _ = _
    rw [ins_S (q := q') (by rw [rD_N hA]; exact e0) hk (by omega) (by omega) hj, rD_S hA (nI_pos' (by omega)) ((nI_ltI (b := 6) (by omega) (by decide)).mpr hk)]
  have hk := h.insert (a := a) (S' := SS (inD G D x a w s st t) (xv x)) (W' := WW (inD G D x a w s st t) (xv x)) (v0 := w) (v1 := s) (v2 := st) (v3 := t) hp ha hq g3 y0 y1 y2 y3 (fun r r0 r1 j hj => ?_) (fun r r0 r1 j j0 j1 => ?_) ⟨?_, ?_, ?_, ?_, ?_, ?_⟩ (fun r r0 r1 j hj => ?_)
  · have hv : vI (inD G D x a w s st t) x := by
      refine ⟨q' + 1, p', wk', ⟨?_, ?_, ?_, by omega, by omega, g3⟩, ?_⟩
      · rw [hN]
        show D (nu (xv x)) 0 + 1 = _
        rw [e0, nI_1]
      · rw [hN]
        exact e1
      · rw [hN]
        exact f2
      · rw [hN]
        exact hk
    refine ⟨act_w hW (fun b hb => ins_o (by rw [x_v]; omega)) hv.num ?_, hv, hN⟩
    have et : inD G D x a w s st t (mt (xN x)) = D (mt (xN x)) := by
      show addD _ _ _ _ _ _ _ _ = _
      rw [ins_o (by rw [x_v, x_mt]; omega), rD_v hA (by rw [x_mt]; omega)]
    unfold Boo
    rw [et]
    exact hA.2.2.2
  · obtain ⟨k, hk, rfl⟩ := r_6 r0 r1
    show inD G D x a w s st t (sc (xv x) (nI k)) (nI j) = _
    rw [eS k hk j (by omega), if_neg (by omega), if_neg (by omega)]
  · obtain ⟨k, hk, rfl⟩ := r_6 r0 r1
    show inD G D x a w s st t (sc (xv x) (nI k)) (nI j) = _
    rw [eS k hk j (by omega), if_neg (by omega), if_pos ⟨j0, j1⟩]
  · have := eS 0 (by omega) a (by omega)
    rw [if_pos rfl] at this
    exact this
  · have := eS 1 (by omega) a (by omega)
    rw [if_pos rfl] at this
    exact this
  · have := eS 2 (by omega) a (by omega)
    rw [if_pos rfl] at this
    exact this
  · have := eS 3 (by omega) a (by omega)
    rw [if_pos rfl] at this
    exact this
  · have := eS 4 (by omega) a (by omega)
    rw [if_pos rfl] at this
    exact this
  · have := eS 5 (by omega) a (by omega)
    rw [if_pos rfl] at this
    exact this
  · obtain ⟨k, hk, rfl⟩ := r_4 r0 r1
    show addD _ _ _ _ _ _ _ _ _ = _
    rw [ins_o (by rw [wk_n hk]; omega), rD_W hA r0 r1]
abbrev chD (G : GT) (D : DT) (x a : Nat) (v : Int32) : DT := uD (rD G D x) (sc (xv x) 3) (nI a) v
/-- the tension of scene a to come is changed -/
theorem chg_w (hW : Wld K G D x) (hI : vI D x) {q p a : Nat} {v : Int32} (e0 : D (nu (xv x)) 0 = nI q) (e1 : D (nu (xv x)) 1 = nI p) (hp : p ≤ a) (ha : a < q) (hq20 : q ≤ 20) (y3 : 0 ≤ v.toInt ∧ v.toInt ≤ 9) : Wld K (recG G D (xH x)) (chD G D x a v) x ∧ vI (chD G D x a v) x ∧ chD G D x a v (nu (xv x)) = D (nu (xv x)) := by
  have hA := hW.1
  have hN : chD G D x a v (nu (xv x)) = D (nu (xv x)) := by
    show uD _ _ _ _ _ = _
    rw [uD_o (by rw [sc_3]; unfold nu; omega), rD_N hA]
  obtain ⟨q', p', wk', ⟨f0, f1, f2, g1, g2, g3⟩, h⟩ := hI
  obtain rfl : q' = q := (nI_eq (by omega) (by omega)).mp (f0.symm.trans e0)
  obtain rfl : p' = p := (nI_eq (by omega) (by omega)).mp (f1.symm.trans e1)
  have hk := h.change (a := a) (v := v) (S' := SS (chD G D x a v) (xv x)) (W' := WW (chD G D x a v) (xv x)) hp ha g2 g3 y3 (fun r r0 r1 j hj hn => ?_) ?_ (fun r r0 r1 j hj => ?_)
  · have hv : vI (chD G D x a v) x := by
      refine ⟨q', p', wk', ⟨?_, ?_, ?_, g1, g2, g3⟩, ?_⟩
      · rw [hN]; exact f0
      · rw [hN]; exact f1
      · rw [hN]; exact f2
      · rw [hN]
        exact hk
    refine ⟨act_w hW (fun b hb => uD_o (by rw [sc_3, x_v]; omega)) hv.num ?_, hv, hN⟩
    have et : chD G D x a v (mt (xN x)) = D (mt (xN x)) := by
      show uD _ _ _ _ _ = _
      rw [uD_o (by rw [sc_3, x_v, x_mt]; omega), rD_v hA (by rw [x_mt]; omega)]
    unfold Boo
    rw [et]
    exact hA.2.2.2
  · obtain ⟨k, hk, rfl⟩ := r_6 r0 r1
    show uD _ _ _ _ _ _ = _
    by_cases e : k = 3
    · subst e
      show uD (rD G D x) (sc (xv x) 3) (nI a) v (sc (xv x) 3) (nI j) = _
      rw [uD_if (by omega) (by omega), if_neg (fun z => hn ⟨rfl, z⟩), rD_S hA (by decide) (by decide)]
      rfl
    · rw [uD_o (by rw [sc_3, sc_n hk]; omega), rD_S hA r0 r1]
  · show uD (rD G D x) (sc (xv x) 3) (nI a) v (sc (xv x) 3) (nI a) = v
    exact uD_eq
  · show uD _ _ _ _ _ _ = _
    obtain ⟨k, hk, rfl⟩ := r_4 r0 r1
    rw [uD_o (by rw [sc_3, wk_n hk]; omega), rD_W hA r0 r1]
abbrev paD (G : GT) (D : DT) (x a : Nat) (u v : Int32) : DT := uD (uD (rD G D x) (wk (xv x) 0) (nI a) u) (wk (xv x) 1) (nI a) v
/-- week a's paper is set -/
theorem pap_w (hW : Wld K G D x) (hI : vI D x) {a : Nat} {u v : Int32} (ha : a < 30) (y0 : 1 ≤ u.toInt ∧ u.toInt ≤ 4) (y1 : 0 ≤ v.toInt ∧ v.toInt ≤ 999) : Wld K (recG G D (xH x)) (paD G D x a u v) x ∧ vI (paD G D x a u v) x ∧ paD G D x a u v (nu (xv x)) = D (nu (xv x)) := by
  have hA := hW.1
  have po : ∀ b, b ≠ x + 12 → b ≠ x + 13 → paD G D x a u v b = rD G D x b := fun b b0 b1 => by
    show uD _ _ _ _ _ = _
    rw [uD_o (by rw [wk_1, x_v]; omega), uD_o (by rw [wk_0, x_v]; omega)]
  have hN : paD G D x a u v (nu (xv x)) = D (nu (xv x)) := by
    rw [po _ (by rw [x_nu]; omega) (by rw [x_nu]; omega), rD_N hA]
  obtain ⟨q', p', wk', ⟨f0, f1, f2, g1, g2, g3⟩, h⟩ := hI
  have hk := h.paper (a := a) (v0 := u) (v1 := v) (S' := SS (paD G D x a u v) (xv x)) (W' := WW (paD G D x a u v) (xv x)) g1 g2 g3 y0 y1 (fun r r0 r1 j hj => ?_) (fun j hj => ?_) (fun j hj => ?_) (fun j hj => ?_) (fun j hj => ?_)
  · have hv : vI (paD G D x a u v) x := by
      refine ⟨q', p', wk', ⟨?_, ?_, ?_, g1, g2, g3⟩, ?_⟩
      · rw [hN]; exact f0
      · rw [hN]; exact f1
      · rw [hN]; exact f2
      · rw [hN]
        exact hk
    refine ⟨act_w hW (fun b hb => po b (by omega) (by omega)) hv.num ?_, hv, hN⟩
    have et : paD G D x a u v (mt (xN x)) = D (mt (xN x)) := by
      rw [po _ (by rw [x_mt]; omega) (by rw [x_mt]; omega), rD_v hA (by rw [x_mt]; omega)]
    unfold Boo
    rw [et]
    exact hA.2.2.2
  · obtain ⟨k, hk, rfl⟩ := r_6 r0 r1
    show paD G D x a u v (sc (xv x) (nI k)) _ = _
    rw [po _ (by rw [x_sc hk]; omega) (by rw [x_sc hk]; omega), rD_S hA r0 r1]
  · show uD (uD (rD G D x) (wk (xv x) 0) (nI a) u) (wk (xv x) 1) (nI a) v (wk (xv x) 0) (nI j) = _
    rw [uD_o (by rw [wk_0, wk_1]; omega), uD_if (by omega) (by omega), rD_W hA (by decide) (by decide)]
  · show uD (uD (rD G D x) (wk (xv x) 0) (nI a) u) (wk (xv x) 1) (nI a) v (wk (xv x) 1) (nI j) = _
    rw [uD_if (by omega) (by omega), uD_o (by rw [wk_0, wk_1]; omega), rD_W hA (by decide) (by decide)]
  · show paD G D x a u v (wk (xv x) 2) _ = _
    rw [po _ (by rw [wk_2, x_v]; omega) (by rw [wk_2, x_v]; omega), rD_W hA (by decide) (by decide)]
  · show paD G D x a u v (wk (xv x) 3) _ = _
    rw [po _ (by rw [wk_3, x_v]; omega) (by rw [wk_3, x_v]; omega), rD_W hA (by decide) (by decide)]
end IMM
/-! ### snapshots and undo -/
def vN (D : DT) (n : Nat) : Prop := Iv (D (nu n)) (SS D n) (WW D n)
theorem cp_v {D E : DT} {m n : Nat} (h : NovCp D E m n) (hI : vN D m) : vN E n := by
  obtain ⟨h1, h2, h3⟩ := h
  refine Iv.c hI ⟨fun i i0 i1 => ?_, fun r r0 r1 j hj => ?_, fun r r0 r1 j hj => ?_⟩
  · obtain ⟨k, hk, rfl⟩ := in_n (N := 17) (by omega) ⟨i0, i1⟩
    exact h1 k hk
  · obtain ⟨k, hk, rfl⟩ := r_6 r0 r1
    show E (sc n (nI k)) (nI j) = D (sc m (nI k)) (nI j)
    rw [sc_n hk, sc_n hk]
    exact h2 k j hk hj
  · obtain ⟨k, hk, rfl⟩ := r_4 r0 r1
    show E (wk n (nI k)) (nI j) = D (wk m (nI k)) (nI j)
    rw [wk_n hk, wk_n hk]
    exact h3 k j hk hj
theorem cp_n {D E : DT} {m n i : Nat} (h : NovCp D E m n) (hi : i < 17) : E (nu n) (nI i) = D (nu m) (nI i) := h.1 i hi
theorem cp_r {D : DT} {m : Nat} : NovCp D D m m := ⟨fun _ _ => rfl, fun _ _ _ _ => rfl, fun _ _ _ _ => rfl⟩
theorem x_sl {x : Nat} : sl1 (xN x) = x + 32 := by
  unfold sl1 xN
  omega
/-- what the second slot holds: the numbers of a state with week y and words z -/
def SlotV (D : DT) (x : Nat) (y z : Int32) : Prop := D (mt (xN x)) 1 = 1 ∧ vN D (sl1 (xN x)) ∧ D (nu (sl1 (xN x))) 2 = y ∧ D (nu (sl1 (xN x))) 10 = z
section SNP
variable {K : KT} {G : GT} {D : DT} {x : Nat}
abbrev tkD (G : GT) (D : DT) (x : Nat) : DT := uD (cpR (rD G D x) (xv x) (sl1 (xN x)) 6 4) (mt (xN x)) 1 1
theorem tak_w (hW : Wld K G D x) (hI : vI D x) : Wld K (recG G D (xH x)) (tkD G D x) x ∧ vI (tkD G D x) x ∧ tkD G D x (nu (xv x)) = D (nu (xv x)) ∧ SlotV (tkD G D x) x (D (nu (xv x)) 2) (D (nu (xv x)) 10) := by
  have hA := hW.1
  have to : ∀ b, b ≠ x + 17 → (b ≤ x + 32 ∨ x + 46 ≤ b) → tkD G D x b = rD G D x b := fun b b0 b1 => by
    show uD _ _ _ _ _ = _
    rw [uD_o (by rw [x_mt]; omega), cpR_o (by rw [x_sl]; omega) (by omega) (by omega)]
  have c0 : NovCp D (tkD G D x) (xv x) (xv x) := cp_r.to fun z z0 z1 => by
    rw [x_v] at z0 z1
    rw [to z (by omega) (by omega), rD_v hA (by omega)]
  have c1' : NovCp D (tkD G D x) (xv x) (sl1 (xN x)) := (cpR_cp.fro (fun z z0 z1 => rD_v hA (by rw [x_v] at z1; omega))).to fun z z0 z1 => by
    rw [x_sl] at z0
    show uD _ _ _ _ _ = _
    rw [uD_o (by rw [x_mt]; omega)]
  have hv : vI (tkD G D x) x := cp_v c0 hI
  refine ⟨act_w hW (fun b hb => to b (by omega) (by omega)) hv.num ?_, hv, ?_, ⟨uD_eq, cp_v c1' hI, cp_n c1' (i := 2) (by omega), cp_n c1' (i := 10) (by omega)⟩⟩
  · refine ⟨?_, Or.inr uD_eq⟩
    have e : tkD G D x (mt (xN x)) 0 = D (mt (xN x)) 0 := by
      show uD _ _ _ _ _ _ = _
      rw [uD_s, if_neg (by decide), cpR_o (by rw [x_sl, x_mt]; omega) (by omega) (by omega), rD_v hA (by rw [x_mt]; omega)]
    rw [e]
    exact hA.2.2.2.1
  · rw [to _ (by rw [x_nu]; omega) (by rw [x_nu]; omega), rD_N hA]
theorem skp_s (hA : Act K G D x) {y z : Int32} (h : SlotV D x y z) : SlotV (skD G D x) x y z := by
  obtain ⟨h1, h2, h3, h4⟩ := h
  have c0 : NovCp D (skD G D x) (sl1 (xN x)) (sl1 (xN x)) := cp_r.to fun z z0 z1 => by
    rw [x_sl] at z0 z1
    exact skp_t hA z (by omega) (by omega)
  refine ⟨?_, cp_v c0 h2, ?_, ?_⟩
  · rw [skp_t hA _ (by rw [x_mt]; omega) (by rw [x_mt]; omega)]
    exact h1
  · rw [skp_t hA _ (by unfold nu; rw [x_sl]; omega) (by unfold nu; rw [x_sl]; omega)]
    exact h3
  · rw [skp_t hA _ (by unfold nu; rw [x_sl]; omega) (by unfold nu; rw [x_sl]; omega)]
    exact h4
abbrev reD (G : GT) (D : DT) (x : Nat) : DT := cpR (rD G D x) (sl1 (xN x)) (xv x) 6 4
/-- what the latest state of the history holds -/
def Last (G : GT) (D : DT) (x : Nat) : Prop := ∃ st, st ≤ 5 ∧ D (xH x) 1 = nI (st + 1) ∧ vN D (mv (sta G (xH x) (nI st)))
theorem res_w (hW : Wld K G D x) (hI : vI D x) {y z : Int32} (h : SlotV D x y z) : Wld K (recG G D (xH x)) (reD G D x) x ∧ vI (reD G D x) x ∧ reD G D x (nu (xv x)) 2 = y ∧ reD G D x (nu (xv x)) 10 = z ∧ Last (recG G D (xH x)) (reD G D x) x := by
  have hA := hW.1
  obtain ⟨h1, h2, h3, h4⟩ := h
  have ro : ∀ b, (b ≤ x + 2 ∨ x + 16 ≤ b) → reD G D x b = rD G D x b := fun b b1 => cpR_o (by rw [x_v]; omega) (by omega) (by omega)
  have c0 : NovCp D (reD G D x) (sl1 (xN x)) (xv x) := cpR_cp.fro (fun z z0 z1 => rD_v hA (by rw [x_sl] at z1; omega))
  have hv : vI (reD G D x) x := cp_v c0 h2
  refine ⟨act_w hW (fun b hb => ro b (by omega)) hv.num ?_, hv, (cp_n c0 (i := 2) (by omega)).trans h3, (cp_n c0 (i := 10) (by omega)).trans h4, ?_⟩
  · unfold Boo
    rw [ro _ (by rw [x_mt]; omega), rD_v hA (by rw [x_mt]; omega)]
    exact hA.2.2.2
  · obtain ⟨st, sh, slot, ⟨hh, h6, e1, hs, h5⟩, r5, r6, r7, r8, r9, ⟨s0, s1⟩, r11, r12⟩ := rec_s hW
    refine ⟨st, h5, ?_, ?_⟩
    · rw [ro _ (by unfold xH; omega)]
      exact r5
    · rw [r6]
      exact cp_v (r9.1.to fun z z0 z1 => ro z (by unfold mv at z0; omega)) hI
/-- undo brings the latest state back -/
theorem und_w (hW : Wld K G D x) (h : Last G D x) : ∃ st, D (xH x) 1 = nI (st + 1) ∧ st ≤ 5 ∧ Act K G (cpM (uD D (xH x) 1 (nI st)) (sta G (xH x) (nI st)) (xN x)) x ∧ vI (cpM (uD D (xH x) 1 (nI st)) (sta G (xH x) (nI st)) (xN x)) x := by
  obtain ⟨⟨hC, hN, hh, hB⟩, hAp, hK⟩ := hW
  obtain ⟨st, h5, e1, hv⟩ := h
  obtain ⟨q1, q2⟩ := hC.2.2.2.2.2 (nI st) ⟨nI_pos' (by omega), (nI_ltI (b := 6) (by omega) (by decide)).mpr (by omega)⟩
  have hb := hK (nI st) ⟨nI_pos' (by omega), by rw [e1]; exact (nI_ltI (by omega) (by omega)).mpr (by omega)⟩
  generalize hs : sta G (xH x) (nI st) = o at q1 q2 hb hv
  have hd : Mdis o (xN x) := Or.inr (by unfold xN; omega)
  have hc : MomCp D (cpM (uD D (xH x) 1 (nI st)) o (xN x)) o (xN x) := (cpM_cp hd).fro (fun z z0 z1 => uD_o (by unfold xH; omega))
  have hv' : vI (cpM (uD D (xH x) 1 (nI st)) o (xN x)) x := cp_v hc.1 hv
  refine ⟨st, e1, h5, ?_⟩
  rw [hs]
  refine ⟨⟨hC, hv'.num, ?_, ?_⟩, hv'⟩
  · rw [cpM_o (by unfold xH xN; omega), uD_eq]
    exact ⟨nI_pos' (by omega), (nI_leI (b := 6) (by omega) (by decide)).mpr (by omega)⟩
  · have a0 : cpM (uD D (xH x) 1 (nI st)) o (xN x) (mt (xN x)) 0 = D (mt o) 0 := (hc.2 0 (by omega)).1
    have a1 : cpM (uD D (xH x) 1 (nI st)) o (xN x) (mt (xN x)) 1 = D (mt o) 1 := (hc.2 1 (by omega)).1
    unfold Boo
    rw [a0, a1]
    exact hb
end SNP
