/-! ===== what the law finds at its start ===== -/
theorem arr_of {s : State} {cA : ClassId} {kA : Class} {comp : ClassId} {ty : FieldType} (h1 : s.vm.classes[cA]? = some kA) (h2 : kA.kind = .array comp ty) : ArrOfT s cA ty := fun N z => ⟨(fun k h => by cases h), kA, h1, comp, h2⟩
theorem law_know {s : State} {args : Array Value} (hts : ∀ w ∈ lw_tbl, w.before args s = true) : ∃ (dC : Nat → ClassId) (dI : Nat → Nat → Nat) (cy : Nat → ClassId), va_K (dC, dI) vwCl (tysL cy) s := by
  have hg : ∀ w ∈ gT, w.before args s = true := fun w hw => hts w (List.mem_filter.mp hw).1
  obtain ⟨c0, i0, h0⟩ := u_known (C := RX0) (T := TX0) (N := 2) (n := 2) hg inG0 (hg _ ins_X0)
  obtain ⟨c1, i1, h1⟩ := u_known (C := RX1) (T := TX1) (N := 3) (n := 3) hg inG1 (hg _ ins_X1)
  obtain ⟨c2, i2, h2⟩ := u_known (C := RX2) (T := TX2) (N := 3) (n := 3) hg inG2 (hg _ ins_X2)
  obtain ⟨c3, i3, h3⟩ := u_known (C := RX3) (T := TX3) (N := 6) (n := 6) hg inG3 (hg _ ins_X3)
  obtain ⟨c4, i4, h4⟩ := u_known (C := RX4) (T := TX4) (N := 5) (n := 5) hg inG4 (hg _ ins_X4)
  obtain ⟨c5, i5, h5⟩ := u_known (C := RX5) (T := TX5) (N := 4) (n := 4) hg inG5 (hg _ ins_X5)
  obtain ⟨a0, k0, m0, e0, q0, r0⟩ := Cond.arrayClass_spec (hg _ ac_int)
  obtain ⟨a1, k1, m1, e1, q1, r1⟩ := Cond.arrayClass_spec (hg _ ac_boolean)
  obtain ⟨m3, a3, k3, -, q3, r3, e3⟩ := Cond.arrayOver_specA (hts (.arrayOver (.array .int)) (List.mem_of_getElem? (i := 34) (by decide +kernel)))
  obtain ⟨m4, a4, k4, f4, -, q4, r4, e4⟩ := Cond.arrayOver_spec (hts (.arrayOver (.object RX1)) (List.mem_of_getElem? (i := 72) (by decide +kernel)))
  obtain ⟨m5, a5, k5, f5, -, q5, r5, e5⟩ := Cond.arrayOver_spec (hts (.arrayOver (.object RX2)) (List.mem_of_getElem? (i := 50) (by decide +kernel)))
  refine ⟨fun k => match k with | 0 => c0 | 1 => c1 | 2 => c2 | 3 => c3 | 4 => c4 | _ => c5, fun k => match k with | 0 => i0 | 1 => i1 | 2 => i2 | 3 => i3 | 4 => i4 | _ => i5, fun k => match k with | 10 => a0 | 11 => a1 | 12 => a1 | 13 => a3 | 14 => a4 | _ => a5, ?_, ?_⟩
  · intro k q hq
    match k, hq with
    | 0, hq => cases hq; exact h0
    | 1, hq => cases hq; exact h1
    | 2, hq => cases hq; exact h2
    | 3, hq => cases hq; exact h3
    | 4, hq => cases hq; exact h4
    | 5, hq => cases hq; exact h5
    | k + 6, hq => simp [vwCl] at hq
  · intro k q hq
    match k, hq with
    | 0, hq => cases hq; exact ⟨arr_of q0 r0, e0⟩
    | 1, hq => cases hq; exact ⟨arr_of q1 r1, e1⟩
    | 2, hq => cases hq; exact ⟨arr_of q1 r1, e1⟩
    | 3, hq => cases hq; exact ⟨arr_of q3 r3, e3⟩
    | 4, hq => cases hq; exact ⟨arr_of q4 r4, k4, m4, q4, r4, f4, e4⟩
    | 5, hq => cases hq; exact ⟨arr_of q5 r5, k5, m5, q5, r5, f5, e5⟩
    | k + 6, hq => simp [tysL] at hq
/-- the numbers of the arrays that were there before -/
def rdI (H : Heap) : DT := fun a i => match (H[a]?).bind (fun u => u.slots[i.toNatClampNeg]?) with
  | some (.int v) => v
  | _ => 0
theorem rdI_T {t N : Nat} {f : Nat → Int32} {A : Nat → Prop} {U : State} {H : Heap} (h : va_T .int t N (fun j => .int (f j)) A U H) {j : Nat} (hj : j < N) (hj2 : j < 2 ^ 31) : rdI H t (nI j) = f j := by
  obtain ⟨cell, h1, -, -, -, -, h6, -⟩ := h
  have h7 := h6 j hj
  have h8 : cell.slots[(nI j).toNatClampNeg]? = some (.int (f j)) := by rw [nI_clamp hj2]; exact h7
  unfold rdI
  rw [h1, Option.bind_some, h8]
theorem T_rd {t N : Nat} {f : Nat → Int32} {A : Nat → Prop} {U : State} {H : Heap} (h : va_T .int t N (fun j => .int (f j)) A U H) (hN : N < 2 ^ 31) : va_T .int t N (fun j => .int (rdI H t (nI j))) A U H := by
  obtain ⟨cell, h1, h2, h3, h4, h5, h6, h7⟩ := id h
  refine ⟨cell, h1, h2, h3, h4, h5, fun j hj => ?_, h7⟩
  have e := rdI_T h hj (by omega)
  show cell.slots[j]? = some (Value.int (rdI H t (nI j)))
  rw [e]
  exact h6 j hj
theorem st_one {args : Array Value} {s : State} {nm : String} {f : Nat → Int32} {A : Nat → Prop} (hl : (Cond.laysStatic RX5 nm "[I").before args s = true) (hini : (Cond.initialized RX5).before args s = true) (har : (Cond.arrayOf (.static RX5 nm "[I") .int).before args s = true) (hlen : (Cond.eq (.length (.static RX5 nm "[I")) (.int 4)).before args s = true) (h0 : (Cond.eq (.elem (.static RX5 nm "[I") (.int 0)) (.int (f 0))).before args s = true) (h1 : (Cond.eq (.elem (.static RX5 nm "[I") (.int 1)) (.int (f 1))).before args s = true) (h2 : (Cond.eq (.elem (.static RX5 nm "[I") (.int 2)) (.int (f 2))).before args s = true) (h3 : (Cond.eq (.elem (.static RX5 nm "[I") (.int 3)) (.int (f 3))).before args s = true) (hA : ∀ a : Nat, a < s.heap.size → ¬ A a) :
    ∃ t : Nat, va_Z RX5 nm "[I" (.ref t) A s s.heap ∧ va_T .int t 4 (fun j => .int (f j)) A s s.heap ∧ (Term.static RX5 nm "[I").eval args s none [] s = some (.ref t) := by
  obtain ⟨t, ht, hT⟩ := va_Tof (tm := .static RX5 nm "[I") (ty := .int) (N := 4) (f := fun j => .int (f j)) (A := A) (by decide) har (va_eqt hlen) (fun j hj => by
    rcases (show j = 0 ∨ j = 1 ∨ j = 2 ∨ j = 3 by omega) with rfl | rfl | rfl | rfl
    · exact va_eqt h0
    · exact va_eqt h1
    · exact va_eqt h2
    · exact va_eqt h3) hA
  exact ⟨t, va_Zref hl hini ht hA, hT, ht⟩
theorem ne_one {s : State} {b t : Nat} {nm : String} (h : (Cond.not (Cond.eq (.arg 0) (.static RX5 nm "[I"))).before #[Value.ref b] s = true) (ht : (Term.static RX5 nm "[I").eval #[Value.ref b] s none [] s = some (.ref t)) : t ≠ b := by
  intro e
  subst e
  have ha : (Term.arg 0).eval #[Value.ref t] s none [] s = some (.ref t) := rfl
  simp [Cond.before, Cond.holds, Cond.value, ha, ht] at h

def tb0 : Nat → Int32 := fun j => match j with | 0 => 1 | 1 => 0 | 2 => 0 | _ => 0
def tb1 : Nat → Int32 := fun j => match j with | 0 => 999 | 1 => 998 | 2 => 5 | _ => 9
def tb2 : Nat → Int32 := fun j => match j with | 0 => 50 | 1 => 0 | 2 => 0 | _ => 1
def tb3 : Nat → Int32 := fun j => match j with | 0 => 999 | 1 => 9 | 2 => 999 | _ => 9
theorem law_stat {s : State} {b : Nat} (hts : ∀ w ∈ lw_tbl, w.before #[Value.ref b] s = true) (hgv : (Jvm.Cond.and given_1 narrow_1).before #[Value.ref b] s = true) : ∃ sa : Nat → Nat, (∀ i, i < 4 → va_Z RX5 (stn i) "[I" (.ref (sa i)) (fun q => s.heap.size ≤ q) s s.heap) ∧ (va_T .int (sa 0) 4 (fun j => .int (tb0 j)) (fun q => s.heap.size ≤ q) s s.heap ∧ va_T .int (sa 1) 4 (fun j => .int (tb1 j)) (fun q => s.heap.size ≤ q) s s.heap ∧ va_T .int (sa 2) 4 (fun j => .int (tb2 j)) (fun q => s.heap.size ≤ q) s s.heap ∧ va_T .int (sa 3) 4 (fun j => .int (tb3 j)) (fun q => s.heap.size ≤ q) s s.heap) ∧ sa 0 ≠ b ∧ sa 1 ≠ b ∧ sa 2 ≠ b ∧ sa 3 ≠ b := by
  have hs := flat_of_before _ hgv
  have hi : (Cond.initialized RX5).before #[Value.ref b] s = true := hts _ (List.mem_filter.mp ini_X5).1
  have hA : ∀ a : Nat, a < s.heap.size → ¬ s.heap.size ≤ a := fun a h => by omega
  obtain ⟨t0, z0, w0, v0⟩ := st_one (nm := "LOWEST_OF_SCENE") (f := tb0) (hts (.laysStatic RX5 "LOWEST_OF_SCENE" "[I") (List.mem_of_getElem? (i := 156) (by decide +kernel))) hi (hs (.arrayOf (.static RX5 "LOWEST_OF_SCENE" "[I") .int) (by decide +kernel)) (hs (.eq (.length (.static RX5 "LOWEST_OF_SCENE" "[I")) (.int 4)) (by decide +kernel)) (hs (.eq (.elem (.static RX5 "LOWEST_OF_SCENE" "[I") (.int 0)) (.int 1)) (by decide +kernel)) (hs (.eq (.elem (.static RX5 "LOWEST_OF_SCENE" "[I") (.int 1)) (.int 0)) (by decide +kernel)) (hs (.eq (.elem (.static RX5 "LOWEST_OF_SCENE" "[I") (.int 2)) (.int 0)) (by decide +kernel)) (hs (.eq (.elem (.static RX5 "LOWEST_OF_SCENE" "[I") (.int 3)) (.int 0)) (by decide +kernel)) hA
  have n0 := ne_one (hs (.not (.eq (.arg 0) (.static RX5 "LOWEST_OF_SCENE" "[I"))) (by decide +kernel)) v0
  obtain ⟨t1, z1, w1, v1⟩ := st_one (nm := "HIGHEST_OF_SCENE") (f := tb1) (hts (.laysStatic RX5 "HIGHEST_OF_SCENE" "[I") (List.mem_of_getElem? (i := 158) (by decide +kernel))) hi (hs (.arrayOf (.static RX5 "HIGHEST_OF_SCENE" "[I") .int) (by decide +kernel)) (hs (.eq (.length (.static RX5 "HIGHEST_OF_SCENE" "[I")) (.int 4)) (by decide +kernel)) (hs (.eq (.elem (.static RX5 "HIGHEST_OF_SCENE" "[I") (.int 0)) (.int 999)) (by decide +kernel)) (hs (.eq (.elem (.static RX5 "HIGHEST_OF_SCENE" "[I") (.int 1)) (.int 998)) (by decide +kernel)) (hs (.eq (.elem (.static RX5 "HIGHEST_OF_SCENE" "[I") (.int 2)) (.int 5)) (by decide +kernel)) (hs (.eq (.elem (.static RX5 "HIGHEST_OF_SCENE" "[I") (.int 3)) (.int 9)) (by decide +kernel)) hA
  have n1 := ne_one (hs (.not (.eq (.arg 0) (.static RX5 "HIGHEST_OF_SCENE" "[I"))) (by decide +kernel)) v1
  obtain ⟨t2, z2, w2, v2⟩ := st_one (nm := "LOWEST_OF_NUMBER") (f := tb2) (hts (.laysStatic RX5 "LOWEST_OF_NUMBER" "[I") (List.mem_of_getElem? (i := 225) (by decide +kernel))) hi (hs (.arrayOf (.static RX5 "LOWEST_OF_NUMBER" "[I") .int) (by decide +kernel)) (hs (.eq (.length (.static RX5 "LOWEST_OF_NUMBER" "[I")) (.int 4)) (by decide +kernel)) (hs (.eq (.elem (.static RX5 "LOWEST_OF_NUMBER" "[I") (.int 0)) (.int 50)) (by decide +kernel)) (hs (.eq (.elem (.static RX5 "LOWEST_OF_NUMBER" "[I") (.int 1)) (.int 0)) (by decide +kernel)) (hs (.eq (.elem (.static RX5 "LOWEST_OF_NUMBER" "[I") (.int 2)) (.int 0)) (by decide +kernel)) (hs (.eq (.elem (.static RX5 "LOWEST_OF_NUMBER" "[I") (.int 3)) (.int 1)) (by decide +kernel)) hA
  have n2 := ne_one (hs (.not (.eq (.arg 0) (.static RX5 "LOWEST_OF_NUMBER" "[I"))) (by decide +kernel)) v2
  obtain ⟨t3, z3, w3, v3⟩ := st_one (nm := "HIGHEST_OF_NUMBER") (f := tb3) (hts (.laysStatic RX5 "HIGHEST_OF_NUMBER" "[I") (List.mem_of_getElem? (i := 227) (by decide +kernel))) hi (hs (.arrayOf (.static RX5 "HIGHEST_OF_NUMBER" "[I") .int) (by decide +kernel)) (hs (.eq (.length (.static RX5 "HIGHEST_OF_NUMBER" "[I")) (.int 4)) (by decide +kernel)) (hs (.eq (.elem (.static RX5 "HIGHEST_OF_NUMBER" "[I") (.int 0)) (.int 999)) (by decide +kernel)) (hs (.eq (.elem (.static RX5 "HIGHEST_OF_NUMBER" "[I") (.int 1)) (.int 9)) (by decide +kernel)) (hs (.eq (.elem (.static RX5 "HIGHEST_OF_NUMBER" "[I") (.int 2)) (.int 999)) (by decide +kernel)) (hs (.eq (.elem (.static RX5 "HIGHEST_OF_NUMBER" "[I") (.int 3)) (.int 9)) (by decide +kernel)) hA
  have n3 := ne_one (hs (.not (.eq (.arg 0) (.static RX5 "HIGHEST_OF_NUMBER" "[I"))) (by decide +kernel)) v3
  refine ⟨fun i => match i with | 0 => t0 | 1 => t1 | 2 => t2 | _ => t3, fun i hi => ?_, ⟨w0, w1, w2, w3⟩, n0, n1, n2, n3⟩
  rcases (show i = 0 ∨ i = 1 ∨ i = 2 ∨ i = 3 by omega) with rfl | rfl | rfl | rfl
  · exact z0
  · exact z1
  · exact z2
  · exact z3
/-! ### the kinds of all cells -/
def kN (j : Nat) : Nat × Nat := if j = 0 then (2, 0) else if j = 1 then (10, 17) else if j = 2 then (13, 6) else if j < 9 then (10, 20) else if j = 9 then (13, 4) else (10, 30)
def kM (j : Nat) : Nat × Nat := if j = 0 then (1, 0) else if j < 15 then kN (j - 1) else if j = 15 then (15, 2) else if j = 16 then (11, 2) else if j < 31 then kN (j - 17) else kN (j - 31)
def kC (j : Nat) : Nat × Nat := if j = 0 then (5, 0) else if j < 46 then kM (j - 1) else if j = 46 then (0, 0) else if j = 47 then (14, 6) else if j < 318 then kM ((j - 48) % 45) else if j = 318 then (4, 0) else if j = 319 then (10, 100) else if j = 320 then (13, 4) else if j < 325 then (10, 20) else if j = 325 then (3, 0) else if j = 326 ∨ j = 348 ∨ j = 370 ∨ j = 392 then (13, 21) else (10, 21)
def kW (j : Nat) : Nat × Nat := if j < 414 then kC j else (99, 0)
def KA (n b L : Nat) (sa : Nat → Nat) : KT := fun z => if z < n then (if z = b then (20, L) else if z = sa 0 ∨ z = sa 1 ∨ z = sa 2 ∨ z = sa 3 then (20, 4) else (99, 0)) else kW (z - n)
theorem KA_w {n b L : Nat} {sa : Nat → Nat} (j : Nat) : KA n b L sa (n + j) = kW j := by
  unfold KA
  rw [if_neg (by omega), Nat.add_sub_cancel_left]
theorem KA_b {n b L : Nat} {sa : Nat → Nat} (h : b < n) : KA n b L sa b = (20, L) := by
  unfold KA
  rw [if_pos h, if_pos rfl]
theorem KA_s {n b L t : Nat} {sa : Nat → Nat} (h : t < n) (hb : t ≠ b) (hm : t = sa 0 ∨ t = sa 1 ∨ t = sa 2 ∨ t = sa 3) : KA n b L sa t = (20, 4) := by
  unfold KA
  rw [if_pos h, if_neg hb, if_pos hm]
theorem kW_in : ∀ j, j < 414 → (kW j).1 ≤ 15 ∧ (kW j).2 ≤ 4638 := by decide +kernel
theorem kW_out {j : Nat} (h : 414 ≤ j) : kW j = (99, 0) := by
  unfold kW
  rw [if_neg (by omega)]
theorem KA_ok {n b L : Nat} {sa : Nat → Nat} (hL : L ≤ 260) : KOK (KA n b L sa) n := by
  refine ⟨fun a => ?_, fun a ha => ?_⟩
  · unfold KA
    by_cases h : a < n
    · rw [if_pos h]
      split
      · show L < _
        omega
      · split <;> decide
    · rw [if_neg h]
      rcases Nat.lt_or_ge (a - n) 414 with q | q
      · have := (kW_in _ q).2
        omega
      · rw [kW_out q]
        decide
  · unfold KA
    rw [if_neg (by omega)]
    rcases Nat.lt_or_ge (a - n) 414 with q | q
    · have := (kW_in _ q).1
      omega
    · rw [kW_out q]
      decide
theorem KA_pp {n b L : Nat} {sa : Nat → Nat} (hL : L ≤ 260) : Pp (wL n 414) (KA n b L sa) := by
  refine ⟨wL_nd, fun a ha => ?_, (KA_ok hL).1⟩
  unfold KA at ha
  by_cases h : a < n
  · rw [if_pos h] at ha
    split at ha
    · exact absurd ha (show ¬ (20 : Nat) ≤ 15 by decide)
    · split at ha <;> exact absurd ha (by decide)
  · rw [if_neg h] at ha
    rcases Nat.lt_or_ge (a - n) 414 with q | q
    · exact mem_wL.mpr ⟨by omega, by omega⟩
    · rw [kW_out q] at ha
      exact absurd ha (by decide)
theorem KA_20 {n b L a : Nat} {sa : Nat → Nat} (h : (KA n b L sa a).1 = 20) : (a = b ∧ KA n b L sa a = (20, L)) ∨ ((a = sa 0 ∨ a = sa 1 ∨ a = sa 2 ∨ a = sa 3) ∧ KA n b L sa a = (20, 4)) := by
  have hk := h
  unfold KA at h ⊢
  by_cases q : a < n
  · rw [if_pos q] at h ⊢
    split
    · rename_i e
      exact Or.inl ⟨e, rfl⟩
    · rename_i e
      rw [if_neg e] at h
      split
      · rename_i e2
        exact Or.inr ⟨e2, rfl⟩
      · rename_i e2
        rw [if_neg e2] at h
        exact absurd h (by decide)
  · rw [if_neg q] at h
    rcases Nat.lt_or_ge (a - n) 414 with w | w
    · have := (kW_in _ w).1
      omega
    · rw [kW_out w] at h
      exact absurd h (by decide)
section SHF
variable {K f : KT} {n o : Nat}
theorem e_sh (e : ∀ j, K (n + j) = f j) {q : Nat} {v : Nat × Nat} (h : f (o + q) = v) : K (n + o + q) = v := by
  rw [Nat.add_assoc, e]
  exact h
theorem e_sh2 (e : ∀ j, K (n + j) = f j) {q j : Nat} {v : Nat × Nat} (h : f (o + q + j) = v) : K (n + o + q + j) = v := by
  rw [Nat.add_assoc n o q, Nat.add_assoc n (o + q) j, e]
  exact h
theorem NovK.to {K : KT} {a b : Nat} (h : NovK K a) (e : a = b) : NovK K b := e ▸ h
theorem MomK.to {K : KT} {a b : Nat} (h : MomK K a) (e : a = b) : MomK K b := e ▸ h
theorem NovK.sh (e : ∀ j, K (n + j) = f j) (h : NovK f o) : NovK K (n + o) := by
  obtain ⟨h0, h1, h2, h3, h4, h5⟩ := h
  exact ⟨(e o).trans h0, e_sh e (q := 1) h1, e_sh e (q := 2) h2, e_sh e (q := 9) h3, fun j hj => e_sh2 e (q := 3) (h4 j hj), fun j hj => e_sh2 e (q := 10) (h5 j hj)⟩
theorem MomK.sh (e : ∀ j, K (n + j) = f j) (h : MomK f o) : MomK K (n + o) := by
  obtain ⟨h0, h1, h2, h3, h4, h5⟩ := h
  exact ⟨(e o).trans h0, e_sh e (q := 15) h1, e_sh e (q := 16) h2, (h3.sh e).to (by unfold mv; omega), (h4.sh e).to (by unfold sl0; omega), (h5.sh e).to (by unfold sl1; omega)⟩
theorem HistK.sh (e : ∀ j, K (n + j) = f j) (h : HistK f o) : HistK K (n + o) := by
  obtain ⟨h0, h1, h2⟩ := h
  exact ⟨(e o).trans h0, e_sh e (q := 1) h1, fun i hi => ((h2 i hi).sh e).to (by omega)⟩
theorem TxtK.sh (e : ∀ j, K (n + j) = f j) (h : TxtK f o) : TxtK K (n + o) := by
  obtain ⟨h0, h1, h2, h3⟩ := h
  exact ⟨(e o).trans h0, e_sh e (q := 1) h1, e_sh e (q := 2) h2, fun j hj => e_sh2 e (q := 3) (h3 j hj)⟩
theorem TabK.sh (e : ∀ j, K (n + j) = f j) (h : TabK f o) : TabK K (n + o) := by
  obtain ⟨h0, ⟨h1, h2, h3, h4⟩, h5, h6, h7, h8⟩ := h
  exact ⟨(e o).trans h0, ⟨e_sh e (q := 1) h1, e_sh e (q := 23) h2, e_sh e (q := 45) h3, e_sh e (q := 67) h4⟩, fun j hj => e_sh2 e (q := 2) (h5 j hj), fun j hj => e_sh2 e (q := 24) (h6 j hj), fun j hj => e_sh2 e (q := 46) (h7 j hj), fun j hj => e_sh2 e (q := 68) (h8 j hj)⟩
end SHF
theorem nk_0 : NovK kW 2 ∧ NovK kW 18 ∧ NovK kW 32 := by
  simp only [NovK]
  decide +kernel
theorem mk_0 : MomK kW 1 := ⟨by decide +kernel, by decide +kernel, by decide +kernel, nk_0.1, nk_0.2.1, nk_0.2.2⟩
theorem nk_1 : ∀ i, i < 6 → NovK kW (49 + 45 * i) ∧ NovK kW (65 + 45 * i) ∧ NovK kW (79 + 45 * i) := by
  intro i hi
  rcases (show i = 0 ∨ i = 1 ∨ i = 2 ∨ i = 3 ∨ i = 4 ∨ i = 5 by omega) with rfl | rfl | rfl | rfl | rfl | rfl <;> (simp only [NovK]; decide +kernel)
theorem mk_1 : ∀ i, i < 6 → kW (48 + 45 * i) = (1, 0) ∧ kW (63 + 45 * i) = (15, 2) ∧ kW (64 + 45 * i) = (11, 2) := by decide +kernel
theorem hk_0 : HistK kW 46 := ⟨by decide +kernel, by decide +kernel, fun i hi => ⟨(mk_1 i hi).1, by rw [show mS (46 + 2 + 45 * i) = 63 + 45 * i by unfold mS; omega]; exact (mk_1 i hi).2.1, by rw [show mt (46 + 2 + 45 * i) = 64 + 45 * i by unfold mt; omega]; exact (mk_1 i hi).2.2, (nk_1 i hi).1.to (by unfold mv; omega), (nk_1 i hi).2.1.to (by unfold sl0; omega), (nk_1 i hi).2.2.to (by unfold sl1; omega)⟩⟩
theorem tk_0 : TxtK kW 318 := by
  simp only [TxtK]
  decide +kernel
theorem pk_0 : TabK kW 325 := by
  simp only [TabK]
  decide +kernel
theorem KA_cls {n b L : Nat} {sa : Nat → Nat} : ClsK (KA n b L sa) n := ⟨(KA_w 0).trans (by decide +kernel), mk_0.sh KA_w, hk_0.sh KA_w, tk_0.sh KA_w, pk_0.sh KA_w⟩
