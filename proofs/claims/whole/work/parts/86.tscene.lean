/-! ### the ties of insert, remove, change -/
theorem shU_img {D : DT} {n p e k : Nat} (hk : k < 257) (hp : p ≤ e) (he : e < 20) : novI (shU D n (nI p) (nI e) 6 (nI e)) n k = if 137 + 6 * p + 6 ≤ k ∧ k < 137 + 6 * e + 6 then novI D n (k - 6) else novI D n k := by
  have far : ∀ b j, (b < n + 3 ∨ n + 9 ≤ b) → shU D n (nI p) (nI e) 6 (nI e) b j = D b j := fun b j hb => by
    unfold shU
    rw [if_neg (by omega), if_neg]
    rintro ⟨-, q2, q3⟩
    exact absurd (Int32.lt_of_lt_of_le q2 q3) Int32.lt_irrefl
  by_cases c1' : k < 137
  · rw [if_neg (by omega)]
    unfold novI
    by_cases c0' : k < 17
    · rw [if_pos c0', if_pos c0', far _ _ (by unfold nu; omega)]
    · rw [if_neg c0', if_neg c0', if_pos c1', if_pos c1', far _ _ (by omega)]
  · obtain ⟨j, r, hj, hr, rfl⟩ : ∃ j r, j < 20 ∧ r < 6 ∧ k = 137 + 6 * j + r := ⟨(k - 137) / 6, (k - 137) % 6, by omega, by omega, by omega⟩
    rw [novI_s hr hj]
    unfold shU
    by_cases c2' : p < j ∧ j ≤ e
    · rw [if_pos ⟨by omega, by omega, (nI_ltI (by omega) (by omega)).mpr c2'.1, (nI_leI (by omega) (by omega)).mpr c2'.2⟩, if_pos ⟨by omega, by omega⟩, show 137 + 6 * j + r - 6 = 137 + 6 * (j - 1) + r by omega, novI_s hr (by omega), ← nL1, pk_sub (by omega)]
    · rw [if_neg (fun q => c2' ⟨(nI_ltI (by omega) (by omega)).mp q.2.2.1, (nI_leI (by omega) (by omega)).mp q.2.2.2⟩), if_neg (fun q => by omega), if_neg (fun q => by omega), novI_s hr hj]
theorem addD_img {D : DT} {n p e k : Nat} {w s st t : Int32} (h0 : D (nu n) 0 = nI e) (hk : k < 257) (hp : p ≤ e) (he : e < 20) : novI (addD D n (nI p) w s st t) n k = opF (novI D n) p e w s st t k := by
  have e1 : addD D n (nI p) w s st t = uD (uD (uD (uD (uD (uD (uD (shU D n (nI p) (nI e) 6 (nI e)) (n + 3 + 0) (nI p) w) (n + 3 + 1) (nI p) s) (n + 3 + 2) (nI p) st) (n + 3 + 3) (nI p) t) (n + 3 + 4) (nI p) 0) (n + 3 + 5) (nI p) (-100009)) (nu n) (nI 0) (nI (e + 1)) := by
    unfold addD
    rw [h0, nI_1, show sc n 0 = n + 3 + 0 from sc_n (r := 0) (by omega), show sc n 1 = n + 3 + 1 from sc_n (r := 1) (by omega), show sc n 2 = n + 3 + 2 from sc_n (r := 2) (by omega), show sc n 3 = n + 3 + 3 from sc_n (r := 3) (by omega), show sc n 4 = n + 3 + 4 from sc_n (r := 4) (by omega), show sc n 5 = n + 3 + 5 from sc_n (r := 5) (by omega)]
    rfl
  rw [e1, novI_N (by omega) hk, novI_S (by omega) (by omega) hk, novI_S (by omega) (by omega) hk, novI_S (by omega) (by omega) hk, novI_S (by omega) (by omega) hk, novI_S (by omega) (by omega) hk, novI_S (by omega) (by omega) hk, shU_img hk hp he]
  unfold opF
  by_cases k0 : k = 0
  · rw [if_pos k0, if_pos k0]
  · rw [if_neg k0, if_neg k0, Nat.add_zero]
    repeat' split
    all_goals first | rfl | omega
theorem opF_o {g : Nat → Int32} {p e k : Nat} {w s st t : Int32} (h : 0 < k ∧ (k < 137 ∨ 257 ≤ k)) (hp : p ≤ e) (he : e < 20) : opF g p e w s st t k = g k := by
  unfold opF
  rw [if_neg (by omega), if_neg (by omega), if_neg (by omega), if_neg (by omega), if_neg (by omega), if_neg (by omega), if_neg (by omega), if_neg (by omega)]
theorem opF_s {g : Nat → Int32} {p e j r : Nat} {w s st t : Int32} (hr : r < 6) : opF g p e w s st t (137 + 6 * j + r) = if j = p then (if r = 0 then w else if r = 1 then s else if r = 2 then st else if r = 3 then t else if r = 4 then 0 else -100009) else if p < j ∧ j ≤ e then g (137 + 6 * (j - 1) + r) else g (137 + 6 * j + r) := by
  unfold opF
  rw [if_neg (by omega)]
  by_cases q : j = p
  · subst q
    rw [if_pos rfl]
    repeat' split
    all_goals first | rfl | omega
  · rw [if_neg q, if_neg (by omega), if_neg (by omega), if_neg (by omega), if_neg (by omega), if_neg (by omega), if_neg (by omega)]
    by_cases q2 : p < j ∧ j ≤ e
    · rw [if_pos q2, if_pos (by omega)]
      exact congrArg g (by omega)
    · rw [if_neg q2, if_neg (by omega)]
theorem opF_c {g g' : Nat → Int32} {p e B k : Nat} {w s st t : Int32} (h : ∀ i, i < B → g i = g' i) (hk : k < B) : opF g p e w s st t k = opF g' p e w s st t k := by
  unfold opF
  rw [h k hk, h (k - 6) (by omega)]
theorem opF_inv {g : Nat → Int32} {p e : Nat} {w s st t : Int32} (h : InvI g) (h0 : g 0 = nI e) (hp : p ≤ e) (he : e < 20) (hw : 0 ≤ w ∧ w ≤ 999) (hs : 0 ≤ s ∧ s ≤ 999) (hst : 0 ≤ st ∧ st ≤ 5) (ht : 0 ≤ t ∧ t ≤ 9) : InvI (opF g p e w s st t) := by
  obtain ⟨⟨a1, a2, a3, a4, a5, a6⟩, b, cc, d, ee⟩ := h
  have q0 : opF g p e w s st t 0 = nI (e + 1) := if_pos rfl
  unfold InvI
  rw [q0, opF_o (k := 1) (by omega) hp he, opF_o (k := 2) (by omega) hp he, opF_o (k := 3) (by omega) hp he, opF_o (k := 4) (by omega) hp he, opF_o (k := 5) (by omega) hp he, opF_o (k := 6) (by omega) hp he]
  refine ⟨⟨a1, Int32.le_trans a2 ?_, (nI_leI (b := 20) (by omega) (by decide)).mpr (by omega), a4, a5, a6⟩, b, cc, fun j hj => ?_, fun v hv => ?_⟩
  · rw [h0]
    exact (nI_leI (by omega) (by omega)).mpr (by omega)
  · rw [opF_s (by omega), opF_s (by omega), opF_s (by omega), opF_s (by omega)]
    by_cases q : j = p
    · rw [if_pos q, if_pos q, if_pos q, if_pos q]
      exact ⟨hw, hs, hst, ht⟩
    · rw [if_neg q, if_neg q, if_neg q, if_neg q]
      by_cases q2 : p < j ∧ j ≤ e
      · rw [if_pos q2, if_pos q2, if_pos q2, if_pos q2]
        exact d _ (by omega)
      · rw [if_neg q2, if_neg q2, if_neg q2, if_neg q2]
        exact d j hj
  · rw [opF_o (by omega) hp he, opF_o (by omega) hp he]
    exact ee v hv
theorem shD_img {D : DT} {n p e k : Nat} (hk : k < 257) (hp : p < 20) (he : e < 20) : novI (shD D n (nI p) (nI e) 6 (nI p)) n k = if 137 + 6 * p ≤ k ∧ k + 6 < 137 + 6 * e + 6 then novI D n (k + 6) else novI D n k := by
  have far : ∀ b j, (b < n + 3 ∨ n + 9 ≤ b) → shD D n (nI p) (nI e) 6 (nI p) b j = D b j := fun b j hb => by
    unfold shD
    rw [if_neg (by omega), if_neg]
    rintro ⟨-, q2, q3⟩
    exact absurd (Int32.lt_of_le_of_lt q2 q3) Int32.lt_irrefl
  by_cases c1' : k < 137
  · rw [if_neg (by omega)]
    unfold novI
    by_cases c0' : k < 17
    · rw [if_pos c0', if_pos c0', far _ _ (by unfold nu; omega)]
    · rw [if_neg c0', if_neg c0', if_pos c1', if_pos c1', far _ _ (by omega)]
  · obtain ⟨j, r, hj, hr, rfl⟩ : ∃ j r, j < 20 ∧ r < 6 ∧ k = 137 + 6 * j + r := ⟨(k - 137) / 6, (k - 137) % 6, by omega, by omega, by omega⟩
    rw [novI_s hr hj]
    unfold shD
    by_cases c2' : p ≤ j ∧ j < e
    · rw [if_pos ⟨by omega, by omega, (nI_leI (by omega) (by omega)).mpr c2'.1, (nI_ltI (by omega) (by omega)).mpr c2'.2⟩, if_pos ⟨by omega, by omega⟩, show 137 + 6 * j + r + 6 = 137 + 6 * (j + 1) + r by omega, novI_s hr (by omega), nI_1]
    · rw [if_neg (fun q => c2' ⟨(nI_leI (by omega) (by omega)).mp q.2.2.1, (nI_ltI (by omega) (by omega)).mp q.2.2.2⟩), if_neg (fun q => by omega), if_neg (fun q => by omega), novI_s hr hj]
theorem dropD_img {D : DT} {n p e k : Nat} (h0 : D (nu n) 0 = nI (e + 1)) (hk : k < 257) (hp : p < 20) (he : e < 20) : novI (dropD D n (nI p)) n k = rmF (novI D n) p (e + 1) k := by
  have e0 : nI (e + 1) - 1 = nI e := nI_pred e
  have e1 : dropD D n (nI p) = uD (shD D n (nI p) (nI e) 6 (nI p)) (nu n) (nI 0) (nI e) := by
    unfold dropD
    rw [h0, e0]
    rfl
  have z0 : novI D n 0 - 1 = nI e := by
    rw [novI_n (by omega), ← e0, ← h0]
    rfl
  rw [e1, novI_N (by omega) hk, shD_img hk hp he]
  unfold rmF
  rw [z0]
  by_cases k0 : k = 0
  · rw [if_pos k0, if_pos k0]
  · rw [if_neg k0, if_neg k0]
    by_cases q : 137 + 6 * p ≤ k ∧ k + 6 < 137 + 6 * e + 6
    · rw [if_pos q, if_pos (by omega)]
    · rw [if_neg q, if_neg (by omega)]
theorem rmF_o {g : Nat → Int32} {p e k : Nat} (h : 0 < k ∧ (k < 137 ∨ 257 ≤ k)) (he : e ≤ 20) : rmF g p e k = g k := by
  unfold rmF
  rw [if_neg (by omega), if_neg (by omega)]
theorem rmF_s {g : Nat → Int32} {p e j r : Nat} (hr : r < 6) : rmF g p e (137 + 6 * j + r) = if p ≤ j ∧ j + 1 < e then g (137 + 6 * (j + 1) + r) else g (137 + 6 * j + r) := by
  unfold rmF
  rw [if_neg (by omega)]
  by_cases q : p ≤ j ∧ j + 1 < e
  · rw [if_pos q, if_pos (by omega)]
    exact congrArg g (by omega)
  · rw [if_neg q, if_neg (by omega)]
theorem rmF_c {g g' : Nat → Int32} {p e k : Nat} (h : ∀ i, i < 257 → g i = g' i) (hk : k < 257) (he : e ≤ 20) : rmF g p e k = rmF g' p e k := by
  unfold rmF
  rw [h k hk, h 0 (by omega)]
  by_cases q : 137 + 6 * p ≤ k ∧ k + 6 < 137 + 6 * e
  · rw [if_pos q, if_pos q, h (k + 6) (by omega)]
  · rw [if_neg q, if_neg q]
theorem rmF_inv {g : Nat → Int32} {p b e : Nat} (h : InvI g) (h1 : g 1 = nI b) (h0 : g 0 = nI (e + 1)) (hb : b ≤ e) (he : e < 20) : InvI (rmF g p (e + 1)) := by
  obtain ⟨⟨a1, a2, a3, a4, a5, a6⟩, bb, cc, d, ee⟩ := h
  have q0 : rmF g p (e + 1) 0 = nI e := by
    rw [← nI_pred e, ← h0]
    rfl
  unfold InvI
  rw [q0, rmF_o (k := 1) (by omega) (by omega), rmF_o (k := 2) (by omega) (by omega), rmF_o (k := 3) (by omega) (by omega), rmF_o (k := 4) (by omega) (by omega), rmF_o (k := 5) (by omega) (by omega), rmF_o (k := 6) (by omega) (by omega)]
  refine ⟨⟨a1, ?_, (nI_leI (b := 20) (by omega) (by decide)).mpr (by omega), a4, a5, a6⟩, bb, cc, fun j hj => ?_, fun v hv => ?_⟩
  · rw [h1]
    exact (nI_leI (by omega) (by omega)).mpr hb
  · rw [rmF_s (by omega), rmF_s (by omega), rmF_s (by omega), rmF_s (by omega)]
    by_cases q : p ≤ j ∧ j + 1 < e + 1
    · rw [if_pos q, if_pos q, if_pos q, if_pos q]
      exact d _ (by omega)
    · rw [if_neg q, if_neg q, if_neg q, if_neg q]
      exact d j hj
  · rw [rmF_o (by omega) (by omega), rmF_o (by omega) (by omega)]
    exact ee v hv
theorem ios_1 {lo hi v : Int32} (h : ¬ iosV lo hi v = 0) : lo ≤ v ∧ v ≤ hi := by
  unfold iosV at h
  by_cases q : v < lo
  · rw [if_pos q] at h
    exact absurd rfl h
  · rw [if_neg q] at h
    by_cases q2 : hi < v
    · rw [if_pos q2] at h
      exact absurd rfl h
    · exact ⟨Int32.not_lt.mp q, Int32.not_lt.mp q2⟩
theorem isc_1 {w s st t : Int32} (h : ¬ iscV w s st t = 0) : (0 ≤ w ∧ w ≤ 999) ∧ (0 ≤ s ∧ s ≤ 999) ∧ (0 ≤ st ∧ st ≤ 5) ∧ (0 ≤ t ∧ t ≤ 9) := by
  unfold iscV at h
  by_cases h1 : iosV 1 999 w = 0
  · rw [if_pos h1] at h
    exact absurd rfl h
  · rw [if_neg h1] at h
    by_cases h2 : iosV 0 998 s = 0
    · rw [if_pos h2] at h
      exact absurd rfl h
    · rw [if_neg h2] at h
      by_cases h3 : iosV 0 5 st = 0
      · rw [if_pos h3] at h
        exact absurd rfl h
      · rw [if_neg h3] at h
        by_cases h4 : iosV 0 9 t = 0
        · rw [if_pos h4] at h
          exact absurd rfl h
        · obtain ⟨a1, a2⟩ := ios_1 h1
          obtain ⟨b1, b2⟩ := ios_1 h2
          exact ⟨⟨Int32.le_trans (by decide) a1, a2⟩, ⟨b1, Int32.le_trans b2 (by decide)⟩, ios_1 h3, ios_1 h4⟩
theorem shU_o2 {D : DT} {n p e b : Nat} (h : b < n + 1 ∨ n + 14 ≤ b) : shU D n (nI p) (nI e) 6 (nI e) b = D b := by
  funext j
  unfold shU
  rw [if_neg (by omega), if_neg]
  rintro ⟨-, q2, q3⟩
  exact absurd (Int32.lt_of_lt_of_le q2 q3) Int32.lt_irrefl
theorem addD_o2 {D : DT} {n p e b : Nat} {w s st t : Int32} (h0 : D (nu n) 0 = nI e) (h : b < n + 1 ∨ n + 14 ≤ b) : addD D n (nI p) w s st t b = D b := by
  unfold addD
  have s0 : sc n 0 = n + 3 + 0 := sc_n (r := 0) (by omega)
  have s1 : sc n 1 = n + 3 + 1 := sc_n (r := 1) (by omega)
  have s2 : sc n 2 = n + 3 + 2 := sc_n (r := 2) (by omega)
  have s3 : sc n 3 = n + 3 + 3 := sc_n (r := 3) (by omega)
  have s4 : sc n 4 = n + 3 + 4 := sc_n (r := 4) (by omega)
  have s5 : sc n 5 = n + 3 + 5 := sc_n (r := 5) (by omega)
  rw [uD_o (by unfold nu; omega), uD_o (by rw [s5]; omega), uD_o (by rw [s4]; omega), uD_o (by rw [s3]; omega), uD_o (by rw [s2]; omega), uD_o (by rw [s1]; omega), uD_o (by rw [s0]; omega), h0]
  exact shU_o2 h
theorem dropD_o2 {D : DT} {n p b : Nat} (h : b < n + 1 ∨ n + 14 ≤ b) : dropD D n (nI p) b = D b := by
  unfold dropD
  rw [uD_o (by unfold nu; omega)]
  funext j
  unfold shD
  rw [if_neg (by omega), if_neg]
  rintro ⟨-, q2, q3⟩
  exact absurd (Int32.lt_of_le_of_lt q2 q3) Int32.lt_irrefl
section TSC
variable {K : KT} {R0 : DT} {sa : Nat → Nat} {x a : Nat}
theorem tie_insert (p w s st t : Int32) : Tie K R0 sa x a t_X5_insert t_X6_insert [.int p, .int w, .int s, .int st, .int t] := by
  intro G D hR hS Q2 hQ
  obtain ⟨hv, hA, hB, -⟩ := hR.see
  refine ⟨hS, hA.1, hA.2.1, hA.2.2.1, hA.2.2.2, ?_⟩
  have es : setV (D (nu (xv x))) = setV (yN D a) := hv.setv
  have n0 := hv.n (i := 0) (by decide) (by decide)
  have n1 := hv.n (i := 1) (by decide) (by decide)
  by_cases h1 : p < D (nu (xv x)) 1
  · rw [if_pos h1]
    refine ⟨hB, ?_⟩
    rw [← n1, if_pos h1]
    exact hQ _ G D hR
  · rw [if_neg h1]
    by_cases h2 : D (nu (xv x)) 0 < p
    · rw [if_pos h2]
      refine ⟨hB, ?_⟩
      rw [← n1, if_neg h1, ← n0, if_pos h2]
      exact hQ _ G D hR
    · rw [if_neg h2]
      by_cases h3 : iscV w s st t = 0
      · rw [if_pos h3]
        refine ⟨hB, ?_⟩
        rw [← n1, if_neg h1, ← n0, if_neg h2, if_pos h3]
        exact hQ _ G D hR
      · rw [if_neg h3]
        by_cases h4 : setV (D (nu (xv x))) = 0
        · rw [if_pos h4]
          by_cases h5 : 20 ≤ D (nu (xv x)) 0
          · rw [if_pos h5]
            refine ⟨hB, ?_⟩
            rw [← n1, if_neg h1, ← n0, if_neg h2, if_neg h3, ← es, if_pos h4, if_pos h5]
            exact hQ _ G D hR
          · rw [if_neg h5, show recD G D (xH x) (xN x) = rD G D x from rfl]
            obtain ⟨b, e, c, hb, he, hw, q1, q2, q3, -, -, hb', he', hw'⟩ := Num.nats hA.2.1
            obtain ⟨i, hi, rfl⟩ := nI_of (x := p) (Int32.not_lt.mpr (Int32.le_trans hA.2.1.1 (Int32.not_lt.mp h1)))
            have ie : i ≤ e := by
              rw [he] at h2
              exact (nI_leI hi (by omega)).mp (Int32.not_lt.mp h2)
            have e20 : e < 20 := by
              rw [he] at h5
              have : ¬ 20 ≤ e := fun q => h5 ((nI_leI (a := 20) (by decide) (by omega)).mpr q)
              omega
            have eR : rD G D x (nu (xv x)) 0 = nI e := by
              rw [hR.nuR]
              exact he
            have hb0 : ∀ z, (z < xv x + 1 ∨ xv x + 14 ≤ z) → addD (rD G D x) (xv x) (nI i) w s st t z = rD G D x z := fun z hz => addD_o2 eR hz
            obtain ⟨z1, z2, z3, z4, z5, z6, z7, -⟩ := hR.to6 (nov_m hb0)
            refine ⟨z1, ?_⟩
            rw [z3, ← n1, if_neg h1, ← n0, if_neg h2, if_neg h3, ← es, if_pos h4, if_neg h5]
            intro E hE
            obtain ⟨j1, j2, j3, j4⟩ := isc_1 h3
            have g0 : gM D a 0 = nI e := by
              rw [← he]
              exact n0.symm
            refine hQ _ _ E (act_nv hR hb0 hE (F := opF (gM D a) i e w s st t) (fun k hk => ?_) (fun k k0 k1 => opF_o (by omega) ie e20) (fun k hk => ?_) (opF_inv hR.invI g0 ie e20 j1 j2 j3 j4))
            · rw [nI_clamp hi, he', show sN (addD (rD G D x) (xv x) (nI i) w s st t) a = gM D a from z6]
            · show novI (addD (rD G D x) (xv x) (nI i) w s st t) (xv x) k = _
              rw [addD_img eR hk ie e20]
              exact opF_c (fun z hz => hR.imgR hz) hk
        · rw [if_neg h4]
          refine ⟨hB, ?_⟩
          rw [← n1, if_neg h1, ← n0, if_neg h2, if_neg h3, ← es, if_neg h4]
          exact hQ _ G D hR
end TSC
