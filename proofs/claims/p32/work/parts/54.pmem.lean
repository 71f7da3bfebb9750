/-! ### the present novel behind a print -/
/-- the memory that an instalment leaves ahead of the week's end -/
def priF (E : DT) (n : Nat) (m : Int32) : DT := uD (uD (uD (uD (uD (uD (prD E n (E (nu n) 1) (E (nu n) 1 + m) (E (nu n) 1 + m)) (nu n) 1 (E (nu n) 1 + m)) (nu n) 4 0) (nu n) 10 (E (nu n) 10 + wdF (E (nu n)) (SS E n) m)) (nu n) 11 (E (nu n) 11 + E (nu n) 3)) (nu n) 12 (E (nu n) 12 + 1)) (nu n) 15 (E (nu n) 15 + (E (nu n) 8 * wdF (E (nu n)) (SS E n) m + 10 * prD E n (E (nu n) 1) (E (nu n) 1 + m) (E (nu n) 1 + m) (sc n 3) (E (nu n) 1 + m - 1)))
theorem priD_F {E : DT} {n : Nat} {m : Int32} : priD E n m = passD (priF E n m) n (wdF (E (nu n)) (SS E n) m) m := rfl
theorem sc_3 {n : Nat} : sc n 3 = n + 6 := sc_n (r := 3) (by omega)
theorem sc_4 {n : Nat} : sc n 4 = n + 7 := sc_n (r := 4) (by omega)
theorem sc_5 {n : Nat} : sc n 5 = n + 8 := sc_n (r := 5) (by omega)
theorem prF_N {E : DT} {n : Nat} {m : Int32} : priF E n m (nu n) = fun i => if (15 : Int32).toInt = i.toInt then E (nu n) 15 + (E (nu n) 8 * wdF (E (nu n)) (SS E n) m + 10 * prD E n (E (nu n) 1) (E (nu n) 1 + m) (E (nu n) 1 + m) (sc n 3) (E (nu n) 1 + m - 1)) else if (12 : Int32).toInt = i.toInt then E (nu n) 12 + 1 else if (11 : Int32).toInt = i.toInt then E (nu n) 11 + E (nu n) 3 else if (10 : Int32).toInt = i.toInt then E (nu n) 10 + wdF (E (nu n)) (SS E n) m else if (4 : Int32).toInt = i.toInt then 0 else if (1 : Int32).toInt = i.toInt then E (nu n) 1 + m else E (nu n) i := by
  funext i
  unfold priF
  rw [uD_s, uD_s, uD_s, uD_s, uD_s, uD_s, prD_o (a := nu n) (by rw [sc_3]; unfold nu; omega) (by rw [sc_4]; unfold nu; omega) (by rw [sc_5]; unfold nu; omega)]
theorem prF_o {E : DT} {n b : Nat} {m : Int32} (h : b ≠ nu n) : priF E n m b = prD E n (E (nu n) 1) (E (nu n) 1 + m) (E (nu n) 1 + m) b := by
  unfold priF
  rw [uD_o h, uD_o h, uD_o h, uD_o h, uD_o h, uD_o h]
/-- the numbers behind a print -/
theorem pri_N {E : DT} {n : Nat} {m : Int32} : priD E n m (nu n) 0 = E (nu n) 0 ∧ priD E n m (nu n) 1 = E (nu n) 1 + m ∧ priD E n m (nu n) 2 = E (nu n) 2 + 1 ∧ priD E n m (nu n) 3 = 0 ∧ priD E n m (nu n) 4 = 0 ∧ priD E n m (nu n) 5 = E (nu n) 5 ∧ priD E n m (nu n) 6 = E (nu n) 6 ∧ priD E n m (nu n) 7 = E (nu n) 7 ∧ priD E n m (nu n) 8 = E (nu n) 8 ∧ priD E n m (nu n) 9 = mxI (E (nu n) 9 + E (nu n) 7 - wdF (E (nu n)) (SS E n) m) (-(E (nu n) 7)) ∧ priD E n m (nu n) 10 = E (nu n) 10 + wdF (E (nu n)) (SS E n) m ∧ priD E n m (nu n) 11 = E (nu n) 11 + E (nu n) 3 ∧ priD E n m (nu n) 12 = E (nu n) 12 + 1 ∧ priD E n m (nu n) 13 = E (nu n) 13 ∧ priD E n m (nu n) 15 = E (nu n) 15 + (E (nu n) 8 * wdF (E (nu n)) (SS E n) m + 10 * prD E n (E (nu n) 1) (E (nu n) 1 + m) (E (nu n) 1 + m) (sc n 3) (E (nu n) 1 + m - 1)) := by
  rw [priD_F, pass_N]
  unfold owdF
  rw [prF_N]
  simp only [Int32.reduceToInt, Int.reduceEq, Int.reduceNeg, ↓reduceIte, if_true, if_false, and_self]
theorem pri_o {E : DT} {n b : Nat} {m : Int32} (h : b ≠ nu n) (h2 : b ≠ wk n 2) (h3 : b ≠ wk n 3) (s3 : b ≠ sc n 3) (s4 : b ≠ sc n 4) (s5 : b ≠ sc n 5) : priD E n m b = E b := by
  rw [priD_F, pass_o h h2 h3, prF_o h, prD_o s3 s4 s5]
theorem pri_s {E : DT} {n k : Nat} {m : Int32} (hk : k < 6) : priD E n m (sc n (nI k)) = prD E n (E (nu n) 1) (E (nu n) 1 + m) (E (nu n) 1 + m) (sc n (nI k)) := by
  have h : sc n (nI k) ≠ nu n := by
    rw [sc_n hk]
    unfold nu
    omega
  rw [priD_F, pass_o h (by rw [sc_n hk, wk_2]; omega) (by rw [sc_n hk, wk_3]; omega), prF_o h]
theorem pri_w {E : DT} {n : Nat} {m : Int32} : priD E n m (wk n 2) = (fun i => if (E (nu n) 2).toInt = i.toInt then wdF (E (nu n)) (SS E n) m else E (wk n 2) i) ∧ priD E n m (wk n 3) = fun i => if (E (nu n) 2).toInt = i.toInt then m else E (wk n 3) i := by
  have h2 : wk n 2 ≠ nu n := by
    rw [wk_2]
    unfold nu
    omega
  have h3 : wk n 3 ≠ nu n := by
    rw [wk_3]
    unfold nu
    omega
  have o2 : priF E n m (wk n 2) = E (wk n 2) := by
    rw [prF_o h2, prD_o (by rw [wk_2, sc_3]; omega) (by rw [wk_2, sc_4]; omega) (by rw [wk_2, sc_5]; omega)]
  have o3 : priF E n m (wk n 3) = E (wk n 3) := by
    rw [prF_o h3, prD_o (by rw [wk_3, sc_3]; omega) (by rw [wk_3, sc_4]; omega) (by rw [wk_3, sc_5]; omega)]
  have n2 : priF E n m (nu n) 2 = E (nu n) 2 := by
    rw [prF_N]
    simp only [Int32.reduceToInt, Int.reduceEq, Int.reduceNeg, ↓reduceIte, if_true, if_false]
  rw [priD_F, pass_2, pass_3, n2, o2, o3]
  exact ⟨rfl, rfl⟩
/-- a scene within the instalment, behind a print -/
theorem prD_in {E : DT} {n p m j : Nat} (hpm : p + m ≤ 20) (h0 : p ≤ j) (h1 : j < p + m) : prD E n (nI p) (nI (p + m)) (nI (p + m)) (sc n 3) (nI j) = tenF (SS E n) (nI j) (cutF (SS E n) (nI j) (nI (p + m)) (E (nu n) 3)) ∧ prD E n (nI p) (nI (p + m)) (nI (p + m)) (sc n 4) (nI j) = cutF (SS E n) (nI j) (nI (p + m)) (E (nu n) 3) ∧ prD E n (nI p) (nI (p + m)) (nI (p + m)) (sc n 5) (nI j) = E (nu n) 2 := by
  have hc : nI p ≤ nI j ∧ nI j < nI (p + m) := ⟨(nI_leI (by omega) (by omega)).mpr h0, (nI_ltI (by omega) (by omega)).mpr h1⟩
  unfold prD
  rw [if_pos hc, if_pos hc, if_pos hc, if_pos rfl, if_neg (by rw [sc_3, sc_4]; omega), if_pos rfl, if_neg (by rw [sc_3, sc_5]; omega), if_neg (by rw [sc_4, sc_5]; omega), if_pos rfl]
  exact ⟨rfl, rfl, rfl⟩
theorem prD_out {E : DT} {n p m j a : Nat} (hpm : p + m ≤ 20) (hj : j < 20) (h : j < p ∨ p + m ≤ j) : prD E n (nI p) (nI (p + m)) (nI (p + m)) a (nI j) = E a (nI j) := by
  unfold prD
  rw [if_neg]
  rintro ⟨a0, a1⟩
  have b0 := (nI_leI (by omega) (by omega)).mp a0
  have b1 := (nI_ltI (by omega) (by omega)).mp a1
  omega
section PRT
variable {K : KT} {G : GT} {D : DT} {x : Nat}
/-- of the record's memory everything that a print reads is as before -/
theorem rD_S (hA : Act K G D x) {r : Int32} (r0 : 0 ≤ r) (r1 : r < 6) : rD G D x (sc (xv x) r) = D (sc (xv x) r) := by
  obtain ⟨k, hk, rfl⟩ := r_6 r0 r1
  exact rD_v hA (by rw [x_sc hk]; omega)
theorem rD_W (hA : Act K G D x) {r : Int32} (r0 : 0 ≤ r) (r1 : r < 4) : rD G D x (wk (xv x) r) = D (wk (xv x) r) := by
  obtain ⟨k, hk, rfl⟩ := r_4 r0 r1
  exact rD_v hA (by rw [x_wk hk]; omega)
theorem rD_N (hA : Act K G D x) : rD G D x (nu (xv x)) = D (nu (xv x)) := rD_v hA (by rw [x_nu]; omega)
theorem wdF_c {N : Int32 → Int32} {S S' : Int32 → Int32 → Int32} {m : Int32} (h : S' 0 = S 0) : wdF N S' m = wdF N S m := by
  unfold wdF
  rw [h]
theorem cutF_r {S S' : Int32 → Int32 → Int32} {y e c : Int32} (h : S' 1 = S 1) : cutF S' y e c = cutF S y e c := by
  unfold cutF
  rw [h]
theorem tenF_r {S S' : Int32 → Int32 → Int32} {y c : Int32} (h1 : S' 1 = S 1) (h3 : S' 3 = S 3) : tenF S' y c = tenF S y c := by
  unfold tenF
  rw [h1, h3]
theorem rD_wd (hA : Act K G D x) {m : Int32} : wdF (rD G D x (nu (xv x))) (SS (rD G D x) (xv x)) m = wdF (D (nu (xv x))) (SS D (xv x)) m := by
  rw [rD_N hA]
  exact wdF_c (rD_S hA (by decide) (by decide))
theorem pri_h {m : Int32} : ∀ b, (b < x + 1 ∨ x + 46 ≤ b) → priD (rD G D x) (xv x) m b = rD G D x b := fun b hb => by
  have e : xv x = x + 2 := by unfold xv mv xN; omega
  refine pri_o ?_ ?_ ?_ ?_ ?_ ?_
  · rw [x_nu]; omega
  · rw [wk_2]; omega
  · rw [wk_3]; omega
  · rw [sc_3]; omega
  · rw [sc_4]; omega
  · rw [sc_5]; omega
/-- an instalment of m scenes is printed: the numbers that are told of it, and what is kept -/
theorem pri_v (hW : Wld K G D x) {q p w m : Nat} (e0 : D (nu (xv x)) 0 = nI q) (e1 : D (nu (xv x)) 1 = nI p) (e2 : D (nu (xv x)) 2 = nI w) (g1 : p ≤ q) (g2 : q ≤ 20) (hw : w < 30) (hm : 1 ≤ m) (hpq : p + m ≤ q) (h : IvR q p w (D (nu (xv x)) 3) (D (nu (xv x)) 4) (D (nu (xv x)) 5) (D (nu (xv x)) 7) (D (nu (xv x)) 9) (D (nu (xv x)) 10) (D (nu (xv x)) 11) (D (nu (xv x)) 12) (D (nu (xv x)) 13) (SS D (xv x)) (WW D (xv x)))
    (c2 : (D (nu (xv x)) 3).toInt ≤ zS (zR (SS D (xv x)) 1) (p + m) - zS (zR (SS D (xv x)) 1) p) (hd : (wdF (D (nu (xv x))) (SS D (xv x)) (nI m)).toInt = zS (zR (SS D (xv x)) 0) (p + m) - zS (zR (SS D (xv x)) 0) p - (D (nu (xv x)) 3).toInt) :
    Wld K (recG G D (xH x)) (priD (rD G D x) (xv x) (nI m)) x ∧ vI (priD (rD G D x) (xv x) (nI m)) x ∧ priD (rD G D x) (xv x) (nI m) (sc (xv x) 3) (nI (p + m - 1)) = tenF (SS D (xv x)) (nI (p + m - 1)) (cutF (SS D (xv x)) (nI (p + m - 1)) (nI (p + m)) (D (nu (xv x)) 3)) ∧ priD (rD G D x) (xv x) (nI m) (sc (xv x) 2) = D (sc (xv x) 2) := by
  have hA := hW.1
  obtain ⟨n0, n1, n2, n3, n4, n5, n6, n7, n8, n9, n10, n11, n12, n13, n15⟩ := pri_N (E := rD G D x) (n := xv x) (m := nI m)
  rw [rD_wd hA, rD_N hA] at n9
  rw [rD_wd hA, rD_N hA] at n10
  rw [rD_N hA] at n0 n1 n2 n5 n7 n11 n12 n13
  have es : ∀ k, k < 6 → priD (rD G D x) (xv x) (nI m) (sc (xv x) (nI k)) = prD (rD G D x) (xv x) (nI p) (nI (p + m)) (nI (p + m)) (sc (xv x) (nI k)) := fun k hk => by
    rw [pri_s hk, rD_N hA, e1, nI_add]
  have s0 : ∀ r : Int32, 0 ≤ r → r < 6 → SS (rD G D x) (xv x) r = SS D (xv x) r := fun r r0 r1 => rD_S hA r0 r1
  have cc : ∀ j, cutF (SS (rD G D x) (xv x)) (nI j) (nI (p + m)) (rD G D x (nu (xv x)) 3) = cutF (SS D (xv x)) (nI j) (nI (p + m)) (D (nu (xv x)) 3) := fun j => by
    rw [rD_N hA]
    exact cutF_r (s0 1 (by decide) (by decide))
  have tt : ∀ j c, tenF (SS (rD G D x) (xv x)) (nI j) c = tenF (SS D (xv x)) (nI j) c := fun j c => tenF_r (s0 1 (by decide) (by decide)) (s0 3 (by decide) (by decide))
  have eo : ∀ r, 0 ≤ r → r < 6 → ∀ j, j < 20 → (j < p ∨ p + m ≤ j) → priD (rD G D x) (xv x) (nI m) (sc (xv x) r) (nI j) = D (sc (xv x) r) (nI j) := fun r r0 r1 j hj ho => by
    obtain ⟨k, hk, rfl⟩ := r_6 r0 r1
    rw [es k hk, prD_out (by omega) hj ho, rD_S hA r0 r1]
  have ek : ∀ k, k < 3 → priD (rD G D x) (xv x) (nI m) (sc (xv x) (nI k)) = D (sc (xv x) (nI k)) := fun k hk => by
    rw [es k (by omega), prD_o (by rw [sc_3, sc_n (by omega)]; omega) (by rw [sc_4, sc_n (by omega)]; omega) (by rw [sc_5, sc_n (by omega)]; omega)]
    exact rD_S hA (nI_pos' (by omega)) ((nI_ltI (b := 6) (by omega) (by decide)).mpr (by omega))
  have e3 : ∀ j, p ≤ j → j < p + m → priD (rD G D x) (xv x) (nI m) (sc (xv x) 3) (nI j) = tenF (SS D (xv x)) (nI j) (cutF (SS D (xv x)) (nI j) (nI (p + m)) (D (nu (xv x)) 3)) := fun j j0 j1 => by
    have := (prD_in (E := rD G D x) (n := xv x) (by omega) j0 j1).1
    rw [cc, tt] at this
    exact (congrFun (es 3 (by omega)) (nI j)).trans this
  have e4 : ∀ j, p ≤ j → j < p + m → priD (rD G D x) (xv x) (nI m) (sc (xv x) 4) (nI j) = cutF (SS D (xv x)) (nI j) (nI (p + m)) (D (nu (xv x)) 3) := fun j j0 j1 => by
    have := (prD_in (E := rD G D x) (n := xv x) (by omega) j0 j1).2.1
    rw [cc] at this
    exact (congrFun (es 4 (by omega)) (nI j)).trans this
  have e5 : ∀ j, p ≤ j → j < p + m → priD (rD G D x) (xv x) (nI m) (sc (xv x) 5) (nI j) = nI w := fun j j0 j1 => by
    have := (prD_in (E := rD G D x) (n := xv x) (by omega) j0 j1).2.2
    rw [rD_N hA, e2] at this
    exact (congrFun (es 5 (by omega)) (nI j)).trans this
  obtain ⟨pw2, pw3⟩ := pri_w (E := rD G D x) (n := xv x) (m := nI m)
  rw [rD_wd hA, rD_N hA, e2] at pw2
  rw [rD_N hA, e2] at pw3
  have w01 : ∀ k, k < 2 → priD (rD G D x) (xv x) (nI m) (wk (xv x) (nI k)) = D (wk (xv x) (nI k)) := fun k hk => by
    rw [pri_o (by rw [wk_n (by omega)]; unfold nu; omega) (by rw [wk_2, wk_n (by omega)]; omega) (by rw [wk_3, wk_n (by omega)]; omega) (by rw [sc_3, wk_n (by omega)]; omega) (by rw [sc_4, wk_n (by omega)]; omega) (by rw [sc_5, wk_n (by omega)]; omega)]
    exact rD_W hA (nI_pos' (by omega)) ((nI_ltI (b := 4) (by omega) (by decide)).mpr (by omega))
  have w2 : ∀ j, j < 30 → priD (rD G D x) (xv x) (nI m) (wk (xv x) 2) (nI j) = if j = w then wdF (D (nu (xv x))) (SS D (xv x)) (nI m) else D (wk (xv x) 2) (nI j) := fun j hj => by
    rw [pw2]
    show (if _ then _ else _) = _
    rw [nI_if (by omega) (by omega), rD_W hA (by decide) (by decide)]
  have w3 : ∀ j, j < 30 → priD (rD G D x) (xv x) (nI m) (wk (xv x) 3) (nI j) = if j = w then nI m else D (wk (xv x) 3) (nI j) := fun j hj => by
    rw [pw3]
    show (if _ then _ else _) = _
    rw [nI_if (by omega) (by omega), rD_W hA (by decide) (by decide)]
  have hk := h.print (S' := SS (priD (rD G D x) (xv x) (nI m)) (xv x)) (W' := WW (priD (rD G D x) (xv x) (nI m)) (xv x)) hm hpq g2 hw c2 hd eo (fun j _ => congrFun (ek 0 (by omega)) (nI j)) (fun j _ => congrFun (ek 1 (by omega)) (nI j)) (fun j _ => congrFun (ek 2 (by omega)) (nI j)) e3 e4 e5 (fun j _ => congrFun (w01 0 (by omega)) (nI j)) (fun j _ => congrFun (w01 1 (by omega)) (nI j)) w2 w3
  have hv : vI (priD (rD G D x) (xv x) (nI m)) x := by
    refine ⟨q, p + m, w + 1, ⟨n0.trans e0, ?_, ?_, by omega, g2, by omega⟩, ?_⟩
    · rw [n1, e1, nI_add]
    · rw [n2, e2, nI_1]
    · rw [n3, n4, n5, n7, n9, n10, n11, n12, n13]
      exact hk
  refine ⟨act_w hW pri_h hv.num ?_, hv, e3 (p + m - 1) (by omega) (by omega), ek 2 (by omega)⟩
  have et : priD (rD G D x) (xv x) (nI m) (mt (xN x)) = D (mt (xN x)) := by
    have e : xv x = x + 2 := by unfold xv mv xN; omega
    rw [pri_o (by rw [x_nu, x_mt]; omega) (by rw [wk_2, x_mt]; omega) (by rw [wk_3, x_mt]; omega) (by rw [sc_3, x_mt]; omega) (by rw [sc_4, x_mt]; omega) (by rw [sc_5, x_mt]; omega)]
    exact rD_v hA (by rw [x_mt]; omega)
  unfold Boo
  rw [et]
  exact hA.2.2.2
end PRT
