/-! ### the relation behind an action -/
theorem rot_n {G : GT} {h i : Nat} (hi : i < 6) : rotG G h (hS h) (nI i) = some (sta G h (nI (if i = 5 then 0 else i + 1))) := by
  obtain rfl | rfl | rfl | rfl | rfl | rfl : i = 0 ∨ i = 1 ∨ i = 2 ∨ i = 3 ∨ i = 4 ∨ i = 5 := by omega
  · show rotG G h (hS h) 0 = some (sta G h 1)
    simp [rotG, uG_s]
  · show rotG G h (hS h) 1 = some (sta G h 2)
    simp [rotG, uG_s]
  · show rotG G h (hS h) 2 = some (sta G h 3)
    simp [rotG, uG_s]
  · show rotG G h (hS h) 3 = some (sta G h 4)
    simp [rotG, uG_s]
  · show rotG G h (hS h) 4 = some (sta G h 5)
    simp [rotG, uG_s]
  · show rotG G h (hS h) 5 = some (sta G h 0)
    simp [rotG, uG_s]
theorem rot_sta {G : GT} {h i : Nat} (hi : i < 6) : sta (rotG G h) h (nI i) = sta G h (nI (if i = 5 then 0 else i + 1)) := by
  show (rotG G h (hS h) (nI i)).getD 0 = _
  rw [rot_n hi]
  rfl
theorem NovCp.rfl' {D : DT} {m : Nat} : NovCp D D m m := ⟨fun _ _ => rfl, fun _ _ _ _ => rfl, fun _ _ _ _ => rfl⟩
theorem MomCp.rfl' {D : DT} {m : Nat} : MomCp D D m m := ⟨NovCp.rfl', fun _ _ => ⟨rfl, NovCp.rfl'⟩⟩
/-- what the class's record leaves -/
def RecS (G : GT) (D : DT) (x a st sh slot : Nat) : Prop := (st ≤ 5 ∧ actN (D a 3) = st ∧ actH (D a 3) = sh) ∧ (∃ h, h ≤ 6 ∧ D a 3 = nI h ∧ st + sh ≤ h) ∧ rD G D x (xH x) 1 = nI (st + 1) ∧ sta (recG G D (xH x)) (xH x) (nI st) = slot ∧ (∀ i, i < st → sta (recG G D (xH x)) (xH x) (nI i) = sta G (xH x) (nI (i + sh))) ∧ (∀ b, (b < slot ∨ slot + 45 ≤ b) → b ≠ xH x → rD G D x b = D b) ∧ MomCp D (rD G D x) (xN x) slot ∧ (x + 48 ≤ slot ∧ slot + 45 ≤ x + 318) ∧ (∀ i, i < st → Mdis slot (sta G (xH x) (nI (i + sh)))) ∧ Apart (recG G D (xH x)) x
theorem rec_s {K : KT} {G : GT} {D : DT} {x a : Nat} (hR : Rel K G D x a) : ∃ st sh slot, RecS G D x a st sh slot := by
  obtain ⟨⟨hC, hM, ha, hAp⟩, -, ⟨h, h6, e1, e2, hK⟩, -⟩ := hR
  have hst := hC.2.2.2.2.2
  have z : ∀ i, i < 6 → 0 ≤ nI i ∧ nI i < 6 := fun i hi => ⟨nI_pos' (by omega), (nI_ltI (b := 6) (by omega) (by decide)).mpr hi⟩
  by_cases q : h = 6
  · subst q
    have d6 : D (xH x) 1 = 6 := e1
    have a6 : D a 3 = 6 := e2
    obtain ⟨s0, s1⟩ := hst 0 (by decide)
    have hd : Mdis (xN x) (sta G (xH x) 0) := Or.inl (by unfold xN; omega)
    refine ⟨5, 1, sta G (xH x) 0, ⟨Nat.le_refl _, if_pos a6, if_pos a6⟩, ⟨6, Nat.le_refl _, e2, Nat.le_refl _⟩, ?_, ?_, fun i hi => ?_, fun b hb1 hb2 => ?_, ?_, ⟨s0, s1⟩, fun i hi => ?_, fun i j hi hj hij => ?_⟩
    · unfold rD recD
      rw [if_pos d6]
      exact uD_eq
    · unfold recG
      rw [if_pos d6, rot_sta (by omega), if_pos rfl]
      rfl
    · unfold recG
      rw [if_pos d6, rot_sta (by omega), if_neg (by omega)]
    · unfold rD recD
      rw [if_pos d6, uD_o hb2, cpM_o (by omega), uD_o hb2]
    · unfold rD recD
      rw [if_pos d6]
      refine ((cpM_cp (D := uD D (xH x) 1 5) hd).fro (fun w w0 w1 => ?_)).to (fun w w0 w1 => ?_)
      · rw [uD_o (by unfold xH; unfold xN at w1; omega)]
      · rw [uD_o (by unfold xH; omega)]
    · exact hAp 0 (i + 1) (by omega) (by omega) (by omega)
    · unfold recG
      rw [if_pos d6, rot_sta hi, rot_sta hj]
      exact hAp _ _ (by split <;> omega) (by split <;> omega) (by split <;> split <;> omega)
  · have h5 : h < 6 := by omega
    have n6 : ¬ nI h = 6 := fun w => q ((nI_eq (b := 6) (by omega) (by omega)).mp w)
    have d6 : ¬ D (xH x) 1 = 6 := by rw [e1]; exact n6
    have a6 : ¬ D a 3 = 6 := by rw [e2]; exact n6
    obtain ⟨s0, s1⟩ := hst (nI h) (z h h5)
    have hd : Mdis (xN x) (sta G (xH x) (nI h)) := Or.inl (by unfold xN; omega)
    refine ⟨h, 0, sta G (xH x) (nI h), ⟨by omega, ?_, if_neg a6⟩, ⟨h, h6, e2, Nat.le_refl _⟩, ?_, ?_, fun i hi => ?_, fun b hb1 hb2 => ?_, ?_, ⟨s0, s1⟩, fun i hi => ?_, ?_⟩
    · unfold actN
      rw [if_neg a6, e2, nI_clamp (by omega)]
    · unfold rD recD
      rw [if_neg d6, uD_eq, e1, nI_1]
    · unfold recG
      rw [if_neg d6]
    · unfold recG
      rw [if_neg d6, Nat.add_zero]
    · unfold rD recD
      rw [if_neg d6, uD_o hb2, e1, cpM_o (by omega)]
    · unfold rD recD
      rw [if_neg d6, e1]
      refine (cpM_cp hd).to (fun w w0 w1 => ?_)
      rw [uD_o (by unfold xH; omega)]
    · exact hAp h (i + 0) h5 (by omega) (by omega)
    · unfold recG
      rw [if_neg d6]
      exact hAp
theorem act_rel {K : KT} {G : GT} {D D' D2 E : DT} {x a : Nat} {f : Nat → Int32} (hR : Rel K G D x a) (h1 : ∀ b, (b < x + 1 ∨ x + 46 ≤ b) → b ≠ xT x → D' b = rD G D x b) (h2 : (∀ b, b < a → D2 b = D' b) ∧ D2 (ms a) = D' (ms a) ∧ D2 (mw a) = D' (mw a) ∧ D2 a 3 = D' a 3) (hM : MRec D2 E a f) (hn : MomEq E (xN x) (ms a) 0) (hI : MomInv D' (xN x)) (ht : D' (xT x) 2 = E a 5 ∧ 0 ≤ E a 5 ∧ E a 5 ≤ 100 ∧ D' (tc (xT x)) = E (mx a)) : Rel K (recG G D (xH x)) E x a := by
  obtain ⟨st, sh, slot, ⟨r1, r2, r3⟩, ⟨h, h6, e3, hh⟩, r5, r6, r7, r8, r9, ⟨s0, s1⟩, r11, r12⟩ := rec_s hR
  obtain ⟨⟨hC, hMo, ha, hAp⟩, ⟨p1, p2⟩, ⟨h', h6', e1, e2, hK⟩, -⟩ := hR
  have hh' : h' = h := (nI_eq (by omega) (by omega)).mp (e2.symm.trans e3)
  subst hh'
  have hst := hC.2.2.2.2.2
  obtain ⟨b1, b2, b3, b4⟩ := h2
  obtain ⟨m1, m2, m3, m4, m5, m6⟩ := hM
  have ob : ∀ b, b < a → E b = D' b := fun b hb => by
    rw [m1 b (by omega) (by unfold ms; omega) (by unfold mw; omega) (by unfold mb; omega), b1 b hb]
  have oa : ∀ b, a ≤ b → D' b = D b := fun b hb => by
    rw [h1 b (by omega) (by unfold xT; omega), r8 b (by omega) (by unfold xH; omega)]
  have o3 : D2 a 3 = D a 3 := by rw [b4, oa a (Nat.le_refl _)]
  have os : D2 (ms a) = D (ms a) := by rw [b2, oa _ (by unfold ms; omega)]
  have ow : D2 (mw a) = D (mw a) := by rw [b3, oa _ (by unfold mw; omega)]
  rw [o3, r2] at m3 m4 m5
  rw [r3, ow] at m5
  rw [os] at m4
  have eG : recG G D (xH x) a = G a := recG_o (by rw [hS_x]; omega)
  refine ⟨⟨hC.rec, ?_, ha, r12⟩, ⟨hn, hI.keep (fun z z0 z1 => ob z (by unfold xN at z1; omega))⟩, ⟨st + 1, by omega, ?_, m3, fun i hi => ?_⟩, ?_, ht.2.1, ht.2.2.1, ?_⟩
  · unfold Mod
    rw [eG]
    exact hMo
  · rw [ob _ (by unfold xH; omega), h1 _ (by unfold xH; omega) (by unfold xH xT; omega)]
    exact r5
  · rcases Nat.lt_or_ge i st with hlt | hge
    · rw [r7 i hlt]
      obtain ⟨q1, q2⟩ := hst (nI (i + sh)) ⟨nI_pos' (by omega), (nI_ltI (b := 6) (by omega) (by decide)).mpr (by omega)⟩
      obtain ⟨k1, k2⟩ := hK (i + sh) (by omega)
      have hd := r11 i hlt
      unfold Mdis at hd
      have cp : MomCp D E (sta G (xH x) (nI (i + sh))) (sta G (xH x) (nI (i + sh))) := MomCp.rfl'.to (fun z z0 z1 => by
        rw [ob z (by omega), h1 z (by omega) (by unfold xT; omega), r8 z (by omega) (by unfold xH; omega)])
      exact ⟨cp.eq k1 (fun k hk => m5 i k hlt hk), cp.inv k2⟩
    · obtain rfl : i = st := by omega
      rw [r6]
      have cp : MomCp D E (xN x) slot := r9.to (fun z z0 z1 => by
        rw [ob z (by omega), h1 z (by omega) (by unfold xT; omega)])
      exact ⟨cp.eq p1 (fun k hk => by rw [Nat.zero_add]; exact m4 k hk), cp.inv p2⟩
  · rw [ob _ (by unfold xT; omega)]
    exact ht.1
  · rw [ob _ (by unfold tc xT; omega)]
    exact ht.2.2.2
/-- an action on the present novel alone -/
theorem act_nov {K : KT} {G : GT} {D D' E : DT} {x a : Nat} {f : Nat → Int32} (hR : Rel K G D x a) (h1 : ∀ b, (b < xv x + 1 ∨ xv x + 14 ≤ b) → D' b = rD G D x b) (hM : MRec D' E a f) (hf : ∀ k, 257 ≤ k → k < 773 → f k = D (ms a) (nI k)) (hn : ∀ k, k < 257 → novI D' (xv x) k = f k) (hI : NovInv D' (xv x)) : Rel K (recG G D (xH x)) E x a := by
  obtain ⟨st, sh, slot, -, -, -, -, -, r8, -, ⟨s0, s1⟩, -⟩ := rec_s hR
  have ha := hR.1.2.2.1
  obtain ⟨-, ⟨⟨p1, p2⟩, p3, p4⟩, -, t1, t2, t3, t4⟩ := id hR
  obtain ⟨m1, m2, m3, m4, m5, m6⟩ := id hM
  have ob : ∀ b, b < a → E b = D' b := fun b hb => m1 b (by omega) (by unfold ms; omega) (by unfold mw; omega) (by unfold mb; omega)
  have od : ∀ b, (b < xv x + 1 ∨ xv x + 14 ≤ b) → (b < x + 46 ∨ x + 318 ≤ b) → D' b = D b := fun b hb hb2 => by
    rw [h1 b hb, r8 b (by omega) (by unfold xH; omega)]
  have oE : ∀ b, xN x + 15 ≤ b → b < xN x + 45 → D' b = D b := fun b hb hb2 => od b (by unfold xv mv; omega) (by unfold xN at hb2; omega)
  have vd : ∀ b, b < xN x + 45 → b < a := fun b hb => by unfold xN at hb; omega
  refine act_rel hR (D2 := D') (fun b hb _ => h1 b (by unfold xv mv xN; omega)) ⟨fun _ _ => rfl, rfl, rfl, rfl⟩ hM ⟨NovEq.of fun k hk => ?_, fun j hj => ?_⟩ ⟨hI, fun j hj => ?_⟩ ?_
  · rw [Nat.zero_add, m6 k (by omega), ← hn k hk]
    exact novI_c (fun z z0 z1 => ob z (vd z (by unfold mv at z1; omega)))
  · obtain ⟨a1, a2, a3⟩ := p2 j hj
    have e1 : E (mt (xN x)) = D (mt (xN x)) := by
      rw [ob _ (vd _ (by unfold mt; omega)), oE _ (by unfold mt; omega) (by unfold mt; omega)]
    rw [Nat.zero_add] at a1 a3 ⊢
    rw [Nat.zero_add, e1, m6 _ (by omega), hf _ (by omega) (by omega)]
    refine ⟨a1, a2, fun q => NovEq.of fun k hk => ?_⟩
    rw [m6 _ (by omega), hf _ (by omega) (by omega), ← (a3 q).img hk]
    exact novI_c (fun z z0 z1 => by
      rw [ob _ (vd _ (by unfold slN at z1; omega)), oE _ (by unfold slN at z0; omega) (by unfold slN at z1; omega)])
  · have e1 : D' (mt (xN x)) = D (mt (xN x)) := oE _ (by unfold mt; omega) (by unfold mt; omega)
    rw [e1]
    exact fun q => (p4 j hj q).keep (fun z z0 z1 => oE _ (by unfold slN at z0; omega) (by unfold slN at z1; omega))
  · have e1 : E a 5 = D a 5 := by
      rw [m2 5 (by decide), od a (by unfold xv mv xN; omega) (by omega)]
    have e2 : E (mx a) = D (mx a) := by
      rw [m1 _ (by unfold mx; omega) (by unfold mx ms; omega) (by unfold mx mw; omega) (by unfold mx mb; omega), od _ (by unfold mx xv mv xN; omega) (by unfold mx; omega)]
    rw [e1, e2, od _ (by unfold xT xv mv xN; omega) (by unfold xT; omega), od _ (by unfold tc xT xv mv xN; omega) (by unfold tc xT; omega)]
    exact ⟨t1, t2, t3, t4⟩
