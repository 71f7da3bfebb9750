/-! ### the object's world, and what an action's record leaves -/
theorem rot_n {G : GT} {h i : Nat} (hi : i < 6) : rotG G h (hS h) (nI i) = some (sta G h (nI (if i = 5 then 0 else i + 1))) := by
  obtain rfl | rfl | rfl | rfl | rfl | rfl : i = 0 ∨ i = 1 ∨ i = 2 ∨ i = 3 ∨ i = 4 ∨ i = 5 := by omega
  · show rotG G h (hS h) 0 = some (sta G h 1)
    simp [rotG, uG_s]
  · show rotG G h (hS h) 1 = some (sta G h 2)
    simp [rotG, uG_s]
  · show rotG G h (hS h) 2 = some (sta G h 3)
    simp [rotG, uG_s]
  · show rotG G h (hS h) 3 = some (sta G h 4)
    simp [rotG, uG_s]
  · show rotG G h (hS h) 4 = some (sta G h 5)
    simp [rotG, uG_s]
  · show rotG G h (hS h) 5 = some (sta G h 0)
    simp [rotG, uG_s]
theorem rot_sta {G : GT} {h i : Nat} (hi : i < 6) : sta (rotG G h) h (nI i) = sta G h (nI (if i = 5 then 0 else i + 1)) := by
  show (rotG G h (hS h) (nI i)).getD 0 = _
  rw [rot_n hi]
  rfl
def Apart (G : GT) (x : Nat) : Prop := ∀ i j, i < 6 → j < 6 → i ≠ j → Mdis (sta G (xH x) (nI i)) (sta G (xH x) (nI j))
def Wld (K : KT) (G : GT) (D : DT) (x : Nat) : Prop := Act K G D x ∧ Apart G x ∧ ∀ i : Int32, 0 ≤ i ∧ i < D (xH x) 1 → Boo D (sta G (xH x) i)
/-- what the class's record leaves -/
def RecS (G : GT) (D : DT) (x st sh slot : Nat) : Prop := (∃ h, h ≤ 6 ∧ D (xH x) 1 = nI h ∧ st + sh ≤ h ∧ st ≤ 5) ∧ rD G D x (xH x) 1 = nI (st + 1) ∧ sta (recG G D (xH x)) (xH x) (nI st) = slot ∧ (∀ i, i < st → sta (recG G D (xH x)) (xH x) (nI i) = sta G (xH x) (nI (i + sh))) ∧ (∀ b, (b < slot ∨ slot + 45 ≤ b) → b ≠ xH x → rD G D x b = D b) ∧ MomCp D (rD G D x) (xN x) slot ∧ (x + 48 ≤ slot ∧ slot + 45 ≤ x + 318) ∧ (∀ i, i < st → Mdis slot (sta G (xH x) (nI (i + sh)))) ∧ Apart (recG G D (xH x)) x
theorem rec_s {K : KT} {G : GT} {D : DT} {x : Nat} (hR : Wld K G D x) : ∃ st sh slot, RecS G D x st sh slot := by
  obtain ⟨⟨hC, -, ⟨y1, y2⟩, -⟩, hAp, -⟩ := hR
  obtain ⟨h, hh, e1⟩ := nI_of (x := D (xH x) 1) (Int32.not_lt.mpr y1)
  have h6 : h ≤ 6 := by
    rw [e1] at y2
    exact (nI_leI (b := 6) hh (by decide)).mp y2
  have hst := hC.2.2.2.2.2
  have z : ∀ i, i < 6 → 0 ≤ nI i ∧ nI i < 6 := fun i hi => ⟨nI_pos' (by omega), (nI_ltI (b := 6) (by omega) (by decide)).mpr hi⟩
  by_cases q : h = 6
  · subst q
    have d6 : D (xH x) 1 = 6 := e1
    obtain ⟨s0, s1⟩ := hst 0 (by decide)
    have hd : Mdis (xN x) (sta G (xH x) 0) := Or.inl (by unfold xN; omega)
    refine ⟨5, 1, sta G (xH x) 0, ⟨6, Nat.le_refl _, e1, Nat.le_refl _, Nat.le_refl _⟩, ?_, ?_, fun i hi => ?_, fun b hb1 hb2 => ?_, ?_, ⟨s0, s1⟩, fun i hi => ?_, fun i j hi hj hij => ?_⟩
    · unfold rD recD
      rw [if_pos d6]
      exact uD_eq
    · unfold recG
      rw [if_pos d6, rot_sta (by omega), if_pos rfl]
      rfl
    · unfold recG
      rw [if_pos d6, rot_sta (by omega), if_neg (by omega)]
    · unfold rD recD
      rw [if_pos d6, uD_o hb2, cpM_o (by omega), uD_o hb2]
    · unfold rD recD
      rw [if_pos d6]
      refine ((cpM_cp (D := uD D (xH x) 1 5) hd).fro (fun w w0 w1 => ?_)).to (fun w w0 w1 => ?_)
      · rw [uD_o (by unfold xH; unfold xN at w1; omega)]
      · rw [uD_o (by unfold xH; omega)]
    · exact hAp 0 (i + 1) (by omega) (by omega) (by omega)
    · unfold recG
      rw [if_pos d6, rot_sta hi, rot_sta hj]
      exact hAp _ _ (by split <;> omega) (by split <;> omega) (by split <;> split <;> omega)
  · have h5 : h < 6 := by omega
    have n6 : ¬ nI h = 6 := fun w => q ((nI_eq (b := 6) (by omega) (by omega)).mp w)
    have d6 : ¬ D (xH x) 1 = 6 := by rw [e1]; exact n6
    obtain ⟨s0, s1⟩ := hst (nI h) (z h h5)
    have hd : Mdis (xN x) (sta G (xH x) (nI h)) := Or.inl (by unfold xN; omega)
    refine ⟨h, 0, sta G (xH x) (nI h), ⟨h, h6, e1, Nat.le_refl _, by omega⟩, ?_, ?_, fun i hi => ?_, fun b hb1 hb2 => ?_, ?_, ⟨s0, s1⟩, fun i hi => ?_, ?_⟩
    · unfold rD recD
      rw [if_neg d6, uD_eq, e1, nI_1]
    · unfold recG
      rw [if_neg d6]
    · unfold recG
      rw [if_neg d6, Nat.add_zero]
    · unfold rD recD
      rw [if_neg d6, uD_o hb2, e1, cpM_o (by omega)]
    · unfold rD recD
      rw [if_neg d6, e1]
      refine (cpM_cp hd).to (fun w w0 w1 => ?_)
      rw [uD_o (by unfold xH; omega)]
    · exact hAp h (i + 0) h5 (by omega) (by omega)
    · unfold recG
      rw [if_neg d6]
      exact hAp
/-- the present moment is not touched by the record -/
theorem rD_v {K : KT} {G : GT} {D : DT} {x b : Nat} (hR : Act K G D x) (h1 : b < x + 46) : rD G D x b = D b := recD_o hR.1 hR.2.2.1.1 hR.2.2.1.2 (Or.inl h1)
/-- the world behind an action on the present moment -/
theorem act_w {K : KT} {G : GT} {D D' : DT} {x : Nat} (hR : Wld K G D x) (h1 : ∀ b, (b < x + 1 ∨ x + 46 ≤ b) → D' b = rD G D x b) (hN : Num (D' (nu (xv x)))) (hB : Boo D' (xN x)) : Wld K (recG G D (xH x)) D' x := by
  obtain ⟨st, sh, slot, ⟨h, h6, e1, hh, h5⟩, r5, r6, r7, r8, r9, ⟨s0, s1⟩, r11, r12⟩ := rec_s hR
  obtain ⟨⟨hC, -, -, hB0⟩, hAp, hK⟩ := hR
  have hst := hC.2.2.2.2.2
  have eH : D' (xH x) 1 = nI (st + 1) := by
    rw [h1 _ (by unfold xH; omega)]
    exact r5
  refine ⟨⟨hC.rec, hN, ?_, hB⟩, r12, fun i ⟨i0, i1⟩ => ?_⟩
  · rw [eH]
    exact ⟨nI_pos' (by omega), (nI_leI (b := 6) (by omega) (by decide)).mpr (by omega)⟩
  · obtain ⟨j, hj, rfl⟩ := nI_of (x := i) (Int32.not_lt.mpr i0)
    rw [eH] at i1
    have j1 := (nI_ltI hj (by omega)).mp i1
    rcases Nat.lt_or_ge j st with hlt | hge
    · rw [r7 j hlt]
      obtain ⟨q1, q2⟩ := hst (nI (j + sh)) ⟨nI_pos' (by omega), (nI_ltI (b := 6) (by omega) (by decide)).mpr (by omega)⟩
      have hd := r11 j hlt
      unfold Mdis at hd
      have hb := hK (nI (j + sh)) ⟨nI_pos' (by omega), by rw [e1]; exact (nI_ltI (by omega) (by omega)).mpr (by omega)⟩
      generalize sta G (xH x) (nI (j + sh)) = o at q1 q2 hd hb
      have e : D' (mt o) = D (mt o) := by
        rw [h1 _ (by unfold mt; omega), r8 _ (by unfold mt; omega) (by unfold mt xH; omega)]
      unfold Boo
      rw [e]
      exact hb
    · obtain rfl : j = st := by omega
      rw [r6]
      have e : D' (mt slot) = rD G D x (mt slot) := h1 _ (by unfold mt; omega)
      have a0 : rD G D x (mt slot) 0 = D (mt (xN x)) 0 := (r9.2 0 (by omega)).1
      have a1 : rD G D x (mt slot) 1 = D (mt (xN x)) 1 := (r9.2 1 (by omega)).1
      unfold Boo
      rw [e, a0, a1]
      exact hB0
