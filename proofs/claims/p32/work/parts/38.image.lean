/-! ### a novel of the class as 257 numbers, copies of novels and moments -/
theorem uD_eq {D : DT} {a : Nat} {i x : Int32} : uD D a i x a i = x := by
  unfold uD
  rw [if_pos ⟨rfl, rfl⟩]
theorem uD_at' {D : DT} {a b : Nat} {f g : Nat} {x : Int32} (hf : f < 10000) (hg : g < 10000) (h : b = a → g ≠ f) : uD D a (nI f) x b (nI g) = D b (nI g) := by
  unfold uD
  by_cases e : b = a
  · rw [if_neg (fun q => h e ((nI_eq (by omega) (by omega)).mp q.2))]
  · rw [if_neg (fun q => e q.1)]
def slN (m j : Nat) : Nat := m + 17 + 14 * j
def novI (D : DT) (n k : Nat) : Int32 := if k < 17 then D (nu n) (nI k) else if k < 137 then D (n + 10 + (k - 17) % 4) (nI ((k - 17) / 4)) else D (n + 3 + (k - 137) % 6) (nI ((k - 137) / 6))
theorem novI_c {D E : DT} {n k : Nat} (h : ∀ z, n + 1 ≤ z → z < n + 14 → E z = D z) : novI E n k = novI D n k := by
  unfold novI nu
  rw [h (n + 1) (by omega) (by omega), h (n + 10 + (k - 17) % 4) (by omega) (by omega), h (n + 3 + (k - 137) % 6) (by omega) (by omega)]
theorem novI_N {D : DT} {n i k : Nat} {v : Int32} (hi : i < 17) (hk : k < 257) : novI (uD D (nu n) (nI i) v) n k = if k = i then v else novI D n k := by
  unfold novI uD nu
  by_cases c1' : k < 17
  · rw [if_pos c1', if_pos c1']
    by_cases e : k = i
    · rw [if_pos e, if_pos ⟨rfl, by rw [e]⟩]
    · rw [if_neg e, if_neg (fun q => e ((nI_eq (by omega) (by omega)).mp q.2))]
  · rw [if_neg c1', if_neg c1', if_neg (show ¬ k = i by omega), if_neg (show ¬ (n + 10 + (k - 17) % 4 = n + 1 ∧ nI ((k - 17) / 4) = nI i) from fun q => absurd q.1 (by omega)), if_neg (show ¬ (n + 3 + (k - 137) % 6 = n + 1 ∧ nI ((k - 137) / 6) = nI i) from fun q => absurd q.1 (by omega))]
theorem novI_S {D : DT} {n r j k : Nat} {v : Int32} (hr : r < 6) (hj : j < 20) (hk : k < 257) : novI (uD D (n + 3 + r) (nI j) v) n k = if k = 137 + 6 * j + r then v else novI D n k := by
  unfold novI uD nu
  by_cases c1' : k < 17
  · rw [if_pos c1', if_pos c1', if_neg (fun q => absurd q.1 (by omega)), if_neg (by omega)]
  · rw [if_neg c1', if_neg c1']
    by_cases c2' : k < 137
    · rw [if_pos c2', if_pos c2', if_neg (fun q => absurd q.1 (by omega)), if_neg (by omega)]
    · rw [if_neg c2', if_neg c2']
      by_cases e : k = 137 + 6 * j + r
      · rw [if_pos e, if_pos ⟨by omega, congrArg nI (by omega)⟩]
      · rw [if_neg e, if_neg]
        rintro ⟨q1, q2⟩
        have := (nI_eq (by omega) (by omega)).mp q2
        omega
theorem novI_W {D : DT} {n r j k : Nat} {v : Int32} (hr : r < 4) (hj : j < 30) (hk : k < 257) : novI (uD D (n + 10 + r) (nI j) v) n k = if k = 17 + 4 * j + r then v else novI D n k := by
  unfold novI uD nu
  by_cases c1' : k < 17
  · rw [if_pos c1', if_pos c1', if_neg (fun q => absurd q.1 (by omega)), if_neg (by omega)]
  · rw [if_neg c1', if_neg c1']
    by_cases c2' : k < 137
    · rw [if_pos c2', if_pos c2']
      by_cases e : k = 17 + 4 * j + r
      · rw [if_pos e, if_pos ⟨by omega, congrArg nI (by omega)⟩]
      · rw [if_neg e, if_neg]
        rintro ⟨q1, q2⟩
        have := (nI_eq (by omega) (by omega)).mp q2
        omega
    · rw [if_neg c2', if_neg c2', if_neg (fun q => absurd q.1 (by omega)), if_neg (by omega)]
/-- the novel n of E is the novel m of D -/
def NovCp (D E : DT) (m n : Nat) : Prop := (∀ i, i < 17 → E (nu n) (nI i) = D (nu m) (nI i)) ∧ (∀ r i, r < 6 → i < 20 → E (n + 3 + r) (nI i) = D (m + 3 + r) (nI i)) ∧ ∀ r w, r < 4 → w < 30 → E (n + 10 + r) (nI w) = D (m + 10 + r) (nI w)
theorem cpR_cp {D : DT} {m n : Nat} : NovCp D (cpR D m n 6 4) m n := by
  refine ⟨fun i hi => ?_, fun r i hr hi => ?_, fun r w hr hw => ?_⟩
  · unfold cpR
    rw [if_pos ⟨rfl, nI_pos' (by omega), (nI_ltI (b := 17) (by omega) (by decide)).mpr hi⟩]
  · unfold cpR
    rw [if_neg (fun q => absurd q.1 (by unfold nu; omega)), if_pos ⟨by omega, by omega, nI_pos' (by omega), (nI_ltI (b := 20) (by omega) (by decide)).mpr hi⟩, show n + 3 + r - n + m = m + 3 + r by omega]
  · unfold cpR
    rw [if_neg (fun q => absurd q.1 (by unfold nu; omega)), if_neg (fun q => absurd q.2.1 (by omega)), if_pos ⟨by omega, by omega, nI_pos' (by omega), (nI_ltI (b := 30) (by omega) (by decide)).mpr hw⟩, show n + 10 + r - n + m = m + 10 + r by omega]
theorem NovCp.img {D E : DT} {m n k : Nat} (h : NovCp D E m n) (hk : k < 257) : novI E n k = novI D m k := by
  obtain ⟨h1, h2, h3⟩ := h
  unfold novI
  by_cases c1' : k < 17
  · rw [if_pos c1', if_pos c1', h1 k c1']
  · rw [if_neg c1', if_neg c1']
    by_cases c2' : k < 137
    · rw [if_pos c2', if_pos c2', h3 _ _ (by omega) (by omega)]
    · rw [if_neg c2', if_neg c2', h2 _ _ (by omega) (by omega)]
theorem NovCp.to {D E E' : DT} {m n : Nat} (h : NovCp D E m n) (e : ∀ z, n ≤ z → z < n + 14 → E' z = E z) : NovCp D E' m n := by
  obtain ⟨h1, h2, h3⟩ := h
  refine ⟨fun i hi => ?_, fun r i hr hi => ?_, fun r w hr hw => ?_⟩
  · rw [e _ (by unfold nu; omega) (by unfold nu; omega)]
    exact h1 i hi
  · rw [e _ (by omega) (by omega)]
    exact h2 r i hr hi
  · rw [e _ (by omega) (by omega)]
    exact h3 r w hr hw
theorem NovCp.fro {D D' E : DT} {m n : Nat} (h : NovCp D E m n) (e : ∀ z, m ≤ z → z < m + 14 → D z = D' z) : NovCp D' E m n := by
  obtain ⟨h1, h2, h3⟩ := h
  refine ⟨fun i hi => ?_, fun r i hr hi => ?_, fun r w hr hw => ?_⟩
  · rw [← e _ (by unfold nu; omega) (by unfold nu; omega)]
    exact h1 i hi
  · rw [← e _ (by omega) (by omega)]
    exact h2 r i hr hi
  · rw [← e _ (by omega) (by omega)]
    exact h3 r w hr hw
def MomCp (D E : DT) (o m : Nat) : Prop := NovCp D E (mv o) (mv m) ∧ ∀ j, j < 2 → E (mt m) (nI j) = D (mt o) (nI j) ∧ NovCp D E (slN o j) (slN m j)
theorem cpM_cp {D : DT} {o m : Nat} (h : Mdis o m) : MomCp D (cpM D o m) o m := by
  unfold Mdis at h
  have a1 : ∀ (z : Nat), z < m + 16 → cpM D o m z = cpR D (mv o) (mv m) 6 4 z := fun z hz => by
    unfold cpM
    rw [uD_o (by unfold mt; omega), cpR_o (by unfold sl1; omega) (by omega) (by omega), uD_o (by unfold mt; omega), cpR_o (by unfold sl0; omega) (by omega) (by omega)]
  have a2 : ∀ (z : Nat), z < m + 1 ∨ m + 16 ≤ z → cpR D (mv o) (mv m) 6 4 z = D z := fun z hz => cpR_o (by unfold mv; omega) (by omega) (by omega)
  have a3 : ∀ (z : Nat), z ≠ m + 16 → (z < m + 31) → cpM D o m z = cpR (cpR D (mv o) (mv m) 6 4) (sl0 o) (sl0 m) 6 4 z := fun z h1 h2 => by
    unfold cpM
    rw [uD_o (by unfold mt; omega), cpR_o (by unfold sl1; omega) (by omega) (by omega), uD_o (by unfold mt; omega)]
  refine ⟨(cpR_cp).to (fun z h1 h2 => a1 z (by unfold mv at h2; omega)), fun j hj => ?_⟩
  obtain rfl | rfl : j = 0 ∨ j = 1 := by omega
  · refine ⟨?_, ?_⟩
    · unfold cpM
      show uD _ (mt m) (nI 1) _ (mt m) (nI 0) = _
      rw [uD_at' (by omega) (by omega) (fun _ => by omega), cpR_o (by unfold sl1 mt; omega) (by omega) (by omega)]
      exact uD_eq
    · have e0 : NovCp D (cpR (cpR D (mv o) (mv m) 6 4) (sl0 o) (sl0 m) 6 4) (sl0 o) (sl0 m) := cpR_cp.fro (fun z h1 h2 => a2 z (by unfold sl0 at h1 h2; omega))
      have e1 := e0.to (E' := cpM D o m) (fun z h1 h2 => a3 z (by unfold sl0 at h1 h2; omega) (by unfold sl0 at h1 h2; omega))
      exact e1
  · refine ⟨?_, ?_⟩
    · unfold cpM
      exact uD_eq
    · have a4 : ∀ (z : Nat), z < m ∨ m + 45 ≤ z → uD (cpR (cpR D (mv o) (mv m) 6 4) (sl0 o) (sl0 m) 6 4) (mt m) 0 (D (mt o) 0) z = D z := fun z hz => by
        rw [uD_o (by unfold mt; omega), cpR_o (by unfold sl0; omega) (by omega) (by omega), a2 z (by omega)]
      have e0 : NovCp D (cpR (uD (cpR (cpR D (mv o) (mv m) 6 4) (sl0 o) (sl0 m) 6 4) (mt m) 0 (D (mt o) 0)) (sl1 o) (sl1 m) 6 4) (sl1 o) (sl1 m) := cpR_cp.fro (fun z h1 h2 => a4 z (by unfold sl1 at h1 h2; omega))
      have e1 := e0.to (E' := cpM D o m) (fun z h1 h2 => by
        unfold cpM
        rw [uD_o (by unfold mt; unfold sl1 at h1 h2; omega)])
      exact e1
theorem MomCp.to {D E E' : DT} {o m : Nat} (h : MomCp D E o m) (e : ∀ z, m ≤ z → z < m + 45 → E' z = E z) : MomCp D E' o m := by
  obtain ⟨h1, h2⟩ := h
  refine ⟨h1.to (fun z z0 z1 => e z (by unfold mv at z0; omega) (by unfold mv at z1; omega)), fun j hj => ?_⟩
  obtain ⟨a1, a2⟩ := h2 j hj
  rw [e (mt m) (by unfold mt; omega) (by unfold mt; omega)]
  exact ⟨a1, a2.to (fun z z0 z1 => e z (by unfold slN at z0; omega) (by unfold slN at z1; omega))⟩
theorem MomCp.fro {D D' E : DT} {o m : Nat} (h : MomCp D E o m) (e : ∀ z, o ≤ z → z < o + 45 → D z = D' z) : MomCp D' E o m := by
  obtain ⟨h1, h2⟩ := h
  refine ⟨h1.fro (fun z z0 z1 => e z (by unfold mv at z0; omega) (by unfold mv at z1; omega)), fun j hj => ?_⟩
  obtain ⟨a1, a2⟩ := h2 j hj
  rw [← e (mt o) (by unfold mt; omega) (by unfold mt; omega)]
  exact ⟨a1, a2.fro (fun z z0 z1 => e z (by unfold slN at z0; omega) (by unfold slN at z1; omega))⟩
theorem novI_n {D : DT} {n k : Nat} (h : k < 17) : novI D n k = D (nu n) (nI k) := if_pos h
theorem novI_s {D : DT} {n r j : Nat} (hr : r < 6) (hj : j < 20) : novI D n (137 + 6 * j + r) = D (n + 3 + r) (nI j) := by
  unfold novI
  rw [if_neg (by omega), if_neg (by omega), show (137 + 6 * j + r - 137) % 6 = r by omega, show (137 + 6 * j + r - 137) / 6 = j by omega]
theorem novI_w {D : DT} {n r j : Nat} (hr : r < 4) (hj : j < 30) : novI D n (17 + 4 * j + r) = D (n + 10 + r) (nI j) := by
  unfold novI
  rw [if_neg (by omega), if_pos (by omega), show (17 + 4 * j + r - 17) % 4 = r by omega, show (17 + 4 * j + r - 17) / 4 = j by omega]
