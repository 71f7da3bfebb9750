/-! ### the ties of skip, setWeek -/
def pasF (g : Nat → Int32) (c : Nat) (w m : Int32) (k : Nat) : Int32 := if k = 2 then g 2 + 1 else if k = 3 then 0 else if k = 16 then g 16 + mxI 0 (mxI (g 9 + g 7 - w) (-g 7)) / 10 else if k = 9 then mxI (g 9 + g 7 - w) (-g 7) else if k = 17 + 4 * c + 3 then m else if k = 17 + 4 * c + 2 then w else g k
theorem passD_img {D : DT} {n c k : Nat} {w m : Int32} (hc : D (nu n) 2 = nI c) (hc30 : c < 30) (hk : k < 257) : novI (passD D n w m) n k = pasF (novI D n) c w m k := by
  have e1 : passD D n w m = uD (uD (uD (uD (uD (uD D (n + 10 + 2) (nI c) w) (n + 10 + 3) (nI c) m) (nu n) (nI 9) (owdF (D (nu n)) (D (nu n) 9) w)) (nu n) (nI 16) (D (nu n) 16 + mxI 0 (owdF (D (nu n)) (D (nu n) 9) w) / 10)) (nu n) (nI 3) 0) (nu n) (nI 2) (D (nu n) 2 + 1) := by
    unfold passD
    rw [hc, ← wk_n (n := n) (r := 2) (by omega), ← wk_n (n := n) (r := 3) (by omega)]
    rfl
  rw [e1, novI_N (by omega) hk, novI_N (by omega) hk, novI_N (by omega) hk, novI_N (by omega) hk, novI_W (by omega) hc30 hk, novI_W (by omega) hc30 hk]
  unfold pasF
  rw [novI_n (D := D) (n := n) (k := 2) (by omega), novI_n (D := D) (n := n) (k := 16) (by omega), novI_n (D := D) (n := n) (k := 9) (by omega), novI_n (D := D) (n := n) (k := 7) (by omega)]
  rfl
theorem passM_img {D : DT} {a c k : Nat} {w m : Int32} (hc : D (ms a) 2 = nI c) (hc30 : c < 30) (hk : k < 773) : passM D a w m (ms a) (nI k) = if k = 4 then 0 else pasF (gM D a) c w m k := by
  have f2 : (17 : Int32) + 4 * nI c + 2 = nI (17 + 4 * c + 2) := by
    rw [← nL17, ← nL4, ← nL2, pk_mul, nI_add, nI_add]
  have f3 : (17 : Int32) + 4 * nI c + 3 = nI (17 + 4 * c + 3) := by
    rw [← nL17, ← nL4, ← nL3, pk_mul, nI_add, nI_add]
  have e1 : passM D a w m = uD (uD (uD (uD (uD (uD (uD D (ms a) (nI (17 + 4 * c + 2)) w) (ms a) (nI (17 + 4 * c + 3)) m) (ms a) (nI 9) (owdF (D (ms a)) (D (ms a) 9) w)) (ms a) (nI 16) (D (ms a) 16 + mxI 0 (owdF (D (ms a)) (D (ms a) 9) w) / 10)) (ms a) (nI 3) 0) (ms a) (nI 4) 0) (ms a) (nI 2) (D (ms a) 2 + 1) := by
    unfold passM
    rw [hc, f2, f3]
    rfl
  rw [e1, uM_n (by omega) hk, uM_n (by omega) hk, uM_n (by omega) hk, uM_n (by omega) hk, uM_n (by omega) hk, uM_n (by omega) hk, uM_n (by omega) hk]
  unfold pasF gM
  by_cases k4 : k = 4
  · rw [if_pos k4, if_neg (by omega), if_pos k4]
  · rw [if_neg k4, if_neg k4]
    rfl
theorem pas_inv {g : Nat → Int32} {c : Nat} {w m : Int32} (h : InvI g) (hc : g 2 = nI c) (hc30 : c < 30) : InvI (fun k => if k = 4 then 0 else pasF g c w m k) := by
  obtain ⟨⟨a1, a2, a3, a4, a5, a6⟩, ⟨b1, b2, b3, b4, b5, b6⟩, cc, d, e⟩ := h
  have o : ∀ k, ¬ k = 2 → ¬ k = 3 → ¬ k = 4 → ¬ k = 16 → ¬ k = 9 → ¬ k = 17 + 4 * c + 3 → ¬ k = 17 + 4 * c + 2 → (if k = 4 then 0 else pasF g c w m k) = g k := fun k h2 h3 h4 h5 h6 h7 h8 => by
    unfold pasF
    rw [if_neg h4, if_neg h2, if_neg h3, if_neg h5, if_neg h6, if_neg h7, if_neg h8]
  have q2 : (if 2 = 4 then 0 else pasF g c w m 2) = nI (c + 1) := by
    rw [← nI_1, ← hc]
    rfl
  have q3 : (if 3 = 4 then 0 else pasF g c w m 3) = 0 := rfl
  unfold InvI
  simp only []
  rw [q2, q3, o 0 (by omega) (by omega) (by omega) (by omega) (by omega) (by omega) (by omega), o 1 (by omega) (by omega) (by omega) (by omega) (by omega) (by omega) (by omega), o 5 (by omega) (by omega) (by omega) (by omega) (by omega) (by omega) (by omega), o 6 (by omega) (by omega) (by omega) (by omega) (by omega) (by omega) (by omega)]
  refine ⟨⟨a1, a2, a3, nI_pos' (by omega), (nI_leI (b := 30) (by omega) (by decide)).mpr (by omega), Int32.le_refl _⟩, ⟨Int32.le_refl _, by decide, b3, b4, b5, b6⟩, fun q => absurd (show (0 : Int32) < 0 from q) (by decide), fun j hj => ?_, fun v hv => ?_⟩
  · rw [o _ (by omega) (by omega) (by omega) (by omega) (by omega) (by omega) (by omega), o _ (by omega) (by omega) (by omega) (by omega) (by omega) (by omega) (by omega), o _ (by omega) (by omega) (by omega) (by omega) (by omega) (by omega) (by omega), o _ (by omega) (by omega) (by omega) (by omega) (by omega) (by omega) (by omega)]
    exact d j hj
  · rw [o _ (by omega) (by omega) (by omega) (by omega) (by omega) (by omega) (by omega), o _ (by omega) (by omega) (by omega) (by omega) (by omega) (by omega) (by omega)]
    exact e v hv
theorem pasF_c {g g' : Nat → Int32} {B c k : Nat} {w m : Int32} (hB : 17 ≤ B) (h : ∀ i, i < B → i ≠ 4 → g i = g' i) (hk : k < B) (h4 : k ≠ 4) : pasF g c w m k = pasF g' c w m k := by
  unfold pasF
  rw [h 2 (by omega) (by omega), h 16 (by omega) (by omega), h 9 (by omega) (by omega), h 7 (by omega) (by omega), h k hk h4]
theorem pasF_4 {g : Nat → Int32} {c : Nat} {w m : Int32} : pasF g c w m 4 = g 4 := by
  unfold pasF
  rw [if_neg (by omega), if_neg (by omega), if_neg (by omega), if_neg (by omega), if_neg (by omega), if_neg (by omega)]
theorem passD_o {D : DT} {n b : Nat} {w m : Int32} (h : b < n + 1 ∨ n + 14 ≤ b) : passD D n w m b = D b := by
  unfold passD
  have e2 : wk n 2 = n + 10 + 2 := wk_n (r := 2) (by omega)
  have e3 : wk n 3 = n + 10 + 3 := wk_n (r := 3) (by omega)
  rw [uD_o (by unfold nu; omega), uD_o (by unfold nu; omega), uD_o (by unfold nu; omega), uD_o (by unfold nu; omega), uD_o (by rw [e3]; omega), uD_o (by rw [e2]; omega)]
section TSK
variable {K : KT} {R0 : DT} {sa : Nat → Nat} {x a : Nat}
theorem Rel.nuR {G : GT} {D : DT} (hR : Rel K G D x a) : rD G D x (nu (xv x)) = D (nu (xv x)) := by
  obtain ⟨st, sh, slot, -, -, -, -, -, r8, -, ⟨s0, s1⟩, -⟩ := rec_s hR
  exact r8 _ (by unfold nu xv mv xN; omega) (by unfold nu xv mv xN xH; omega)
theorem tie_skip : Tie K R0 sa x a t_X5_skip t_X6_skip [] := by
  intro G D hR hS Q2 hQ
  obtain ⟨hv, hA, hB, -⟩ := hR.see
  obtain ⟨y1, y2, y3, y4, y5, y6⟩ := id hA.2.1
  refine ⟨hA, ?_⟩
  have es : setV (D (nu (xv x))) = setV (yN D a) := hv.setv
  have n2 := hv.n (i := 2) (by decide) (by decide)
  have n4 := hv.n (i := 4) (by decide) (by decide)
  have n9 := hv.n (i := 9) (by decide) (by decide)
  by_cases h1 : setV (D (nu (xv x))) = 0
  · rw [if_pos h1]
    by_cases h2 : D (nu (xv x)) 2 < 30
    · rw [if_pos h2]
      obtain ⟨c, hc, ec⟩ := nI_of (x := D (nu (xv x)) 2) (Int32.not_lt.mpr y4)
      have c30 : c < 30 := by
        rw [ec] at h2
        exact (nI_ltI (b := 30) hc (by decide)).mp h2
      have eR := hR.nuR
      have hb : ∀ b, (b < xv x + 1 ∨ xv x + 14 ≤ b) → passD (uD (rD G D x) (nu (xv x)) 13 (D (nu (xv x)) 13 + 1)) (xv x) 0 0 b = rD G D x b := fun b hb => by
        rw [passD_o hb]
        exact nov_1 b hb
      obtain ⟨z1, z2, z3, z4, z5, z6, z7, -⟩ := hR.to6 (nov_m hb)
      refine ⟨z1, ?_⟩
      rw [z3, ← es, if_pos h1, ← n2, if_pos h2]
      intro E hE
      have g2 : gM D a 2 = nI c := by
        rw [← ec]
        exact n2.symm
      have g4 : gM D a 4 = 0 := by
        have : D (nu (xv x)) 4 = gM D a 4 := n4
        rw [← this]
        exact Int32.le_antisymm (setV_0 h1) y6
      have hI := inv_n (i := 13) (v := gM D a 13 + 1) hR.invI (by omega) (by omega) (fun q => absurd q (by omega)) (fun q => absurd q (by omega)) (fun q => absurd q (by omega)) (fun q => absurd q (by omega))
      have gN : ∀ i, i < 257 → novI (uD (rD G D x) (nu (xv x)) 13 (D (nu (xv x)) 13 + 1)) (xv x) i = (fun k => if k = 13 then gM D a 13 + 1 else gM D a k) i := fun i hi => by
        show novI (uD (rD G D x) (nu (xv x)) (nI 13) (D (nu (xv x)) (nI 13) + 1)) (xv x) i = _
        rw [novI_N (by omega) hi, hR.imgR hi, show D (nu (xv x)) (nI 13) = gM D a 13 from hv.n (i := 13) (by decide) (by decide)]
      have r2 : uD (rD G D x) (nu (xv x)) 13 (D (nu (xv x)) 13 + 1) (nu (xv x)) 2 = nI c := by
        rw [uD_s, if_neg (by decide), eR]
        exact ec
      refine q2_e (hQ _ _ E (act_nv hR hb hE (F := fun k => if k = 4 then 0 else pasF (fun k => if k = 13 then gM D a 13 + 1 else gM D a k) c 0 0 k) (fun k hk => ?_) (fun k k0 k1 => ?_) (fun k hk => ?_) (pas_inv hI g2 c30))) ?_
      · refine (passM_img (c := c) ?_ c30 hk).trans ?_
        · rw [uD_s, if_neg (by decide), z2]
          exact g2
        · by_cases k4 : k = 4
          · rw [if_pos k4, if_pos k4]
          · rw [if_neg k4, if_neg k4]
            refine pasF_c (B := 773) (by omega) (fun i hi _ => ?_) hk k4
            show uD _ (ms a) (nI 13) _ (ms a) (nI i) = _
            rw [uM_n (by omega) hi, z2]
            rfl
      · show (if k = 4 then 0 else pasF _ c 0 0 k) = _
        unfold pasF
        rw [if_neg (by omega), if_neg (by omega), if_neg (by omega), if_neg (by omega), if_neg (by omega), if_neg (by omega), if_neg (by omega)]
        exact if_neg (by omega)
      · rw [passD_img r2 c30 hk]
        by_cases k4 : k = 4
        · subst k4
          rw [if_pos rfl]
          rw [pasF_4]
          exact (gN 4 (by omega)).trans g4
        · rw [if_neg k4]
          exact pasF_c (B := 257) (by omega) (fun i hi _ => gN i hi) hk k4
      · have e9 := passD_img (n := xv x) (k := 9) (w := 0) (m := 0) r2 c30 (by omega)
        rw [pasF_c (B := 257) (by omega) (fun i hi _ => gN i hi) (by omega) (by omega), novI_n (by omega)] at e9
        exact e9
    · rw [if_neg h2]
      refine ⟨hB, ?_⟩
      rw [← es, if_pos h1, ← n2, if_neg h2]
      exact hQ _ G D hR
  · rw [if_neg h1]
    refine ⟨hB, ?_⟩
    rw [← es, if_neg h1]
    exact hQ _ G D hR
end TSK
