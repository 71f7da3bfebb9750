/-! ### what the present novel shows behind each action -/
theorem x_nu {x : Nat} : nu (xv x) = x + 3 := by
  unfold nu xv mv xN
  omega
theorem x_sc {x k : Nat} (h : k < 6) : sc (xv x) (nI k) = x + 5 + k := by
  rw [sc_n h]
  unfold xv mv xN
  omega
theorem x_wk {x k : Nat} (h : k < 4) : wk (xv x) (nI k) = x + 12 + k := by
  rw [wk_n h]
  unfold xv mv xN
  omega
theorem x_mt {x : Nat} : mt (xN x) = x + 17 := by
  unfold mt xN
  omega
theorem r_6 {r : Int32} (h0 : 0 ≤ r) (h6 : r < 6) : ∃ k, k < 6 ∧ r = nI k := in_n (N := 6) (by omega) ⟨h0, h6⟩
theorem r_4 {r : Int32} (h0 : 0 ≤ r) (h4 : r < 4) : ∃ k, k < 4 ∧ r = nI k := in_n (N := 4) (by omega) ⟨h0, h4⟩
/-- the rows of two memories' present novels are alike -/
def Row (D E : DT) (x : Nat) : Prop := (∀ r : Int32, 0 ≤ r → r < 6 → E (sc (xv x) r) = D (sc (xv x) r)) ∧ ∀ r : Int32, 0 ≤ r → r < 4 → E (wk (xv x) r) = D (wk (xv x) r)
theorem row_of {D E : DT} {x : Nat} (h : ∀ b, x + 5 ≤ b → b < x + 16 → E b = D b) : Row D E x := by
  refine ⟨fun r r0 r1 => ?_, fun r r0 r1 => ?_⟩
  · obtain ⟨k, hk, rfl⟩ := r_6 r0 r1
    rw [x_sc hk]
    exact h _ (by omega) (by omega)
  · obtain ⟨k, hk, rfl⟩ := r_4 r0 r1
    rw [x_wk hk]
    exact h _ (by omega) (by omega)
def vI (D : DT) (x : Nat) : Prop := Iv (D (nu (xv x))) (SS D (xv x)) (WW D (xv x))
/-- numbers that Iv names without bounds of their own -/
def fixN : List Int32 := [0, 1, 2, 7, 9, 10, 11, 12, 13]
theorem iv_num {D E : DT} {x : Nat} (h : vI D x) (hr : Row D E x) (e : ∀ i, i ∈ fixN → E (nu (xv x)) i = D (nu (xv x)) i) (h3 : 0 ≤ (E (nu (xv x)) 3).toInt ∧ (E (nu (xv x)) 3).toInt ≤ 999) (h4 : 0 ≤ (E (nu (xv x)) 4).toInt) (h5 : 50 ≤ (E (nu (xv x)) 5).toInt ∧ (E (nu (xv x)) 5).toInt ≤ 999) : vI E x := by
  obtain ⟨q, p, w, ⟨e0, e1, e2, g1, g2, g3⟩, h⟩ := h
  refine ⟨q, p, w, ⟨(e 0 (by decide)).trans e0, (e 1 (by decide)).trans e1, (e 2 (by decide)).trans e2, g1, g2, g3⟩, ?_⟩
  have hc := h.c (S' := SS E (xv x)) (W' := WW E (xv x)) g1 g2 g3 (fun r r0 r1 j _ => congrFun (hr.1 r r0 r1) (nI j)) (fun r r0 r1 j _ => congrFun (hr.2 r r0 r1) (nI j))
  rw [e 7 (by decide), e 9 (by decide), e 10 (by decide), e 11 (by decide), e 12 (by decide), e 13 (by decide)]
  obtain ⟨a, b⟩ := hc
  exact ⟨⟨h4, h3.1, h3.2, h5.1, h5.2⟩, b⟩
theorem iv_3 {D : DT} {x : Nat} (h : vI D x) : (0 ≤ (D (nu (xv x)) 3).toInt ∧ (D (nu (xv x)) 3).toInt ≤ 999) ∧ 0 ≤ (D (nu (xv x)) 4).toInt ∧ 50 ≤ (D (nu (xv x)) 5).toInt ∧ (D (nu (xv x)) 5).toInt ≤ 999 := by
  obtain ⟨q, p, w, -, ⟨a, b, c, d, e⟩, -⟩ := h
  exact ⟨⟨b, c⟩, a, d, e⟩
section MEM
variable {K : KT} {G : GT} {D : DT} {x : Nat}
theorem one_h {k v : Int32} : ∀ b, (b < x + 1 ∨ x + 46 ≤ b) → uD (rD G D x) (nu (xv x)) k v b = rD G D x b := fun b hb => uD_o (by rw [x_nu]; omega)
theorem one_N (hA : Act K G D x) {k v : Int32} : uD (rD G D x) (nu (xv x)) k v (nu (xv x)) = fun i => if k.toInt = i.toInt then v else D (nu (xv x)) i := by
  funext i
  rw [uD_s, rD_v hA (by rw [x_nu]; omega)]
theorem one_R (hA : Act K G D x) {k v : Int32} : Row D (uD (rD G D x) (nu (xv x)) k v) x := row_of fun b b0 b1 => by
  rw [uD_o (by rw [x_nu]; omega), rD_v hA (by omega)]
theorem one_t (hA : Act K G D x) {k v : Int32} : uD (rD G D x) (nu (xv x)) k v (mt (xN x)) = D (mt (xN x)) := by
  rw [uD_o (by rw [x_nu, x_mt]; omega), rD_v hA (by rw [x_mt]; omega)]
/-- one number k is set -/
theorem one_w (hW : Wld K G D x) (hI : vI D x) {k v : Int32} (hk : k = 3 ∨ k = 4 ∨ k = 5 ∨ k = 6) (h3 : k = 3 → 0 ≤ v.toInt ∧ v.toInt ≤ 999) (h4 : k = 4 → 0 ≤ v.toInt) (h5 : k = 5 → 50 ≤ v.toInt ∧ v.toInt ≤ 999) :
    Wld K (recG G D (xH x)) (uD (rD G D x) (nu (xv x)) k v) x ∧ vI (uD (rD G D x) (nu (xv x)) k v) x := by
  have hA := hW.1
  obtain ⟨i3, i4, i5⟩ := iv_3 hI
  have hv : vI (uD (rD G D x) (nu (xv x)) k v) x := by
    refine iv_num hI (one_R hA) (fun i hi => ?_) ?_ ?_ ?_
    · rw [one_N hA]
      refine if_neg ?_
      rcases hk with rfl | rfl | rfl | rfl
      all_goals (revert i; decide)
    · rw [one_N hA]
      rcases hk with rfl | rfl | rfl | rfl
      · exact h3 rfl
      · exact i3
      · exact i3
      · exact i3
    · rw [one_N hA]
      rcases hk with rfl | rfl | rfl | rfl
      · exact i4
      · exact h4 rfl
      · exact i4
      · exact i4
    · rw [one_N hA]
      rcases hk with rfl | rfl | rfl | rfl
      · exact i5
      · exact i5
      · exact h5 rfl
      · exact i5
  refine ⟨act_w hW one_h hv.num ?_, hv⟩
  unfold Boo
  rw [one_t hA]
  exact hA.2.2.2
end MEM
theorem pass_N {E : DT} {n : Nat} {w m : Int32} : passD E n w m (nu n) = fun i => if (2 : Int32).toInt = i.toInt then E (nu n) 2 + 1 else if (3 : Int32).toInt = i.toInt then 0 else if (16 : Int32).toInt = i.toInt then E (nu n) 16 + mxI 0 (owdF (E (nu n)) (E (nu n) 9) w) / 10 else if (9 : Int32).toInt = i.toInt then owdF (E (nu n)) (E (nu n) 9) w else E (nu n) i := by
  funext i
  unfold passD
  rw [uD_s, uD_s, uD_s, uD_s, uD_o (by unfold nu wk; omega), uD_o (by unfold nu wk; omega)]
theorem pass_o {E : DT} {n b : Nat} {w m : Int32} (h1 : b ≠ nu n) (h2 : b ≠ wk n 2) (h3 : b ≠ wk n 3) : passD E n w m b = E b := by
  unfold passD
  rw [uD_o h1, uD_o h1, uD_o h1, uD_o h1, uD_o h3, uD_o h2]
theorem wk_2 {n : Nat} : wk n 2 = n + 12 := wk_n (r := 2) (by omega)
theorem wk_3 {n : Nat} : wk n 3 = n + 13 := wk_n (r := 3) (by omega)
theorem pass_2 {E : DT} {n : Nat} {w m : Int32} : passD E n w m (wk n 2) = fun i => if (E (nu n) 2).toInt = i.toInt then w else E (wk n 2) i := by
  funext i
  have h1 : wk n 2 ≠ nu n := by
    rw [wk_2]
    unfold nu
    omega
  unfold passD
  rw [uD_o h1, uD_o h1, uD_o h1, uD_o h1, uD_o (by rw [wk_2, wk_3]; omega), uD_s]
theorem pass_3 {E : DT} {n : Nat} {w m : Int32} : passD E n w m (wk n 3) = fun i => if (E (nu n) 2).toInt = i.toInt then m else E (wk n 3) i := by
  funext i
  have h1 : wk n 3 ≠ nu n := by
    rw [wk_3]
    unfold nu
    omega
  unfold passD
  rw [uD_o h1, uD_o h1, uD_o h1, uD_o h1, uD_s, uD_o (by rw [wk_2, wk_3]; omega)]
theorem nI_if {α : Type} {a b : Nat} (ha : a < 1000) (hb : b < 1000) {u v : α} : (if (nI a).toInt = (nI b).toInt then u else v) = if b = a then u else v := by
  rw [nI_toInt (by omega), nI_toInt (by omega)]
  by_cases e : b = a
  · rw [if_pos e, if_pos (by omega)]
  · rw [if_neg e, if_neg (by omega)]
section SKP
variable {K : KT} {G : GT} {D : DT} {x : Nat}
abbrev skD (G : GT) (D : DT) (x : Nat) : DT := passD (uD (rD G D x) (nu (xv x)) 13 (D (nu (xv x)) 13 + 1)) (xv x) 0 0
theorem skp_N (hA : Act K G D x) : skD G D x (nu (xv x)) = fun i => if (2 : Int32).toInt = i.toInt then D (nu (xv x)) 2 + 1 else if (3 : Int32).toInt = i.toInt then 0 else if (16 : Int32).toInt = i.toInt then D (nu (xv x)) 16 + mxI 0 (owdF (D (nu (xv x))) (D (nu (xv x)) 9) 0) / 10 else if (9 : Int32).toInt = i.toInt then owdF (D (nu (xv x))) (D (nu (xv x)) 9) 0 else if (13 : Int32).toInt = i.toInt then D (nu (xv x)) 13 + 1 else D (nu (xv x)) i := by
  show passD _ _ _ _ _ = _
  rw [pass_N, one_N hA]
  rfl
theorem skp_h : ∀ b, (b < x + 1 ∨ x + 46 ≤ b) → skD G D x b = rD G D x b := fun b hb => by
  show passD _ _ _ _ _ = _
  rw [pass_o (by rw [x_nu]; omega) (by rw [wk_2]; unfold xv mv xN; omega) (by rw [wk_3]; unfold xv mv xN; omega)]
  exact one_h b hb
theorem skp_t (hA : Act K G D x) : ∀ b, x + 16 ≤ b → b < x + 46 → skD G D x b = D b := fun b h0 h1 => by
  show passD _ _ _ _ _ = _
  rw [pass_o (by rw [x_nu]; omega) (by rw [wk_2]; unfold xv mv xN; omega) (by rw [wk_3]; unfold xv mv xN; omega), uD_o (by rw [x_nu]; omega), rD_v hA (by omega)]
/-- the week is skipped -/
theorem skp_w (hW : Wld K G D x) (hI : vI D x) (h30 : D (nu (xv x)) 2 < 30) : Wld K (recG G D (xH x)) (skD G D x) x ∧ vI (skD G D x) x ∧ owdF (D (nu (xv x))) (D (nu (xv x)) 9) 0 = D (nu (xv x)) 9 + D (nu (xv x)) 7 ∧ -400 ≤ (D (nu (xv x)) 9).toInt ∧ (D (nu (xv x)) 9).toInt ≤ 12000 ∧ D (nu (xv x)) 7 = 400 := by
  have hA := hW.1
  obtain ⟨q, p, w, ⟨e0, e1, e2, g1, g2, g3⟩, h⟩ := hI
  have hw : w < 30 := by
    rw [e2] at h30
    exact (nI_ltI (b := 30) (by omega) (by decide)).mp h30
  have hr := one_R hA (k := 13) (v := D (nu (xv x)) 13 + 1)
  have s1 : ∀ r : Int32, 0 ≤ r → r < 6 → skD G D x (sc (xv x) r) = D (sc (xv x) r) := fun r r0 r1 => by
    show passD _ _ _ _ _ = _
    obtain ⟨k, hk, rfl⟩ := r_6 r0 r1
    rw [pass_o (by rw [x_nu, x_sc hk]; omega) (by rw [wk_2, x_sc hk]; unfold xv mv xN; omega) (by rw [wk_3, x_sc hk]; unfold xv mv xN; omega)]
    exact hr.1 _ r0 r1
  have w1 : ∀ k, k < 2 → skD G D x (wk (xv x) (nI k)) = D (wk (xv x) (nI k)) := fun k hk => by
    show passD _ _ _ _ _ = _
    rw [pass_o (by rw [x_nu, x_wk (by omega)]; omega) (by rw [wk_2, wk_n (by omega)]; omega) (by rw [wk_3, wk_n (by omega)]; omega)]
    exact hr.2 _ (nI_pos' (by omega)) ((nI_ltI (b := 4) (by omega) (by decide)).mpr (by omega))
  have n2 : uD (rD G D x) (nu (xv x)) 13 (D (nu (xv x)) 13 + 1) (nu (xv x)) 2 = nI w := by
    rw [one_N hA]
    exact e2
  have w2 : ∀ j, j < 30 → skD G D x (wk (xv x) 2) (nI j) = if j = w then 0 else D (wk (xv x) 2) (nI j) := fun j hj => by
    show passD _ _ _ _ _ _ = _
    rw [pass_2]
    show (if _ then _ else _) = _
    rw [n2, nI_if (by omega) (by omega), hr.2 2 (by decide) (by decide)]
  have w3 : ∀ j, j < 30 → skD G D x (wk (xv x) 3) (nI j) = if j = w then 0 else D (wk (xv x) 3) (nI j) := fun j hj => by
    show passD _ _ _ _ _ _ = _
    rw [pass_3]
    show (if _ then _ else _) = _
    rw [n2, nI_if (by omega) (by omega), hr.2 3 (by decide) (by decide)]
  have hk := h.skip (S' := SS (skD G D x) (xv x)) (W' := WW (skD G D x) (xv x)) g1 g2 hw (fun r r0 r1 j _ => congrFun (s1 r r0 r1) (nI j)) (fun j _ => congrFun (w1 0 (by omega)) (nI j)) (fun j _ => congrFun (w1 1 (by omega)) (nI j)) w2 w3
  have hv : vI (skD G D x) x := by
    refine ⟨q, p, w + 1, ⟨?_, ?_, ?_, g1, g2, by omega⟩, ?_⟩
    · rw [skp_N hA]
      exact e0
    · rw [skp_N hA]
      exact e1
    · rw [skp_N hA]
      show D (nu (xv x)) 2 + 1 = _
      rw [e2, nI_1]
    · rw [skp_N hA]
      exact hk
  refine ⟨act_w hW skp_h hv.num ?_, hv, ?_, ?_, ?_, ?_⟩
  · unfold Boo
    rw [skp_t hA _ (by rw [x_mt]; omega) (by rw [x_mt]; omega)]
    exact hA.2.2.2
  · obtain ⟨-, ⟨c1', c2, c3⟩, -⟩ := h
    exact owd_0 c1' c2 c3 (by omega)
  · obtain ⟨-, ⟨c1', c2, c3⟩, -⟩ := h
    exact c2
  · obtain ⟨-, ⟨c1', c2, c3⟩, -⟩ := h
    omega
  · exact h.2.1.1
end SKP
