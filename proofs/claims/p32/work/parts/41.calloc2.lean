/-! ### constructors: arrays -/
section CTB
variable {p : Program} {l : Launch} {e : Env} {R : Room} {s : State} {m : MethodId} {args : Array Value} {below : List Frame} {meth : Method} {c : Code} {Q0 : State → Prop}
variable {dC : Nat → ClassId} {dI : Nat → Nat → Nat} {cy : Nat → ClassId} {K : KT} {R0 : DT} {sa : Nat → Nat} {cc : ByteArray} {own : String} {nL n k0 : Nat}
/-- the world with one array more -/
theorem hw_push {k : Nat} {G : GT} {D : DT} {H1 : Heap} {w : Nat} {e1 : va_E} (h0 : s.heap.size = n + k0) (hk0 : k0 ≤ k) {T1 : State} {locs : List Loc} {sl : Nat} (hT1 : T1.heap = H1) (X1 : Stand p l e R s m args below meth c T1 locs (k - k0 + 1) sl)
    (hP1 : va_P (dC, dI) vwCl (va_pl (wL n k) (eD cy (trK K n k) G D) ++ [(w, e1)]) H1) (hD1 : va_D (fun q => n ≤ q) (va_pl (wL n k) (eD cy (trK K n k) G D) ++ [(w, e1)])) (he : eD cy K G D (n + k) = e1) : w = n + k ∧ HW dC dI cy n (k + 1) K G D H1 := by
  have b1 : (T1.setVm s.vm).heap.size ≤ s.heap.size + (k - k0 + 1) := X1.same.2.2.1
  have b2 : T1.heap.size ≤ s.heap.size + (k - k0 + 1) := b1
  rw [hT1, h0] at b2
  have hin : (w, e1) ∈ va_pl (wL n k) (eD cy (trK K n k) G D) ++ [(w, e1)] := List.mem_append_right _ (List.mem_singleton.mpr rfl)
  have hlt : w < H1.size := vat_lt (vP_mem hP1 hin)
  have hge : n ≤ w := by
    obtain ⟨j, hj⟩ := List.getElem?_of_mem hin
    exact hD1.2 j _ hj
  have hnm : w ∉ wL n k := va_pl_fresh2 (X := []) hD1
  have hq : w = n + k := by
    have : ¬ w < n + k := fun z => hnm (mem_wL.mpr ⟨hge, z⟩)
    omega
  refine ⟨hq, fun a a1 a2 => ?_⟩
  rcases Nat.lt_or_ge a (n + k) with z | z
  · have := vP_mem hP1 (q := (a, eD cy (trK K n k) G D a)) (List.mem_append_left _ (List.mem_map.mpr ⟨a, mem_wL.mpr ⟨a1, z⟩, rfl⟩))
    rw [eD_tr a1 z] at this
    exact this
  · obtain rfl : a = n + k := by omega
    rw [he]
    have := vP_mem hP1 hin
    rw [hq] at this
    exact this
theorem eD_a {κ N a : Nat} {G : GT} {D : DT} (hk : K a = (κ, N)) (h1 : 10 ≤ κ) (h2 : κ < 13) (hD : D a = fun _ => 0) : eD cy K G D a = .inl (cy κ, N, .inl (fun _ => 0)) := by
  rw [eD_arr (c := κ) (by rw [hk]) h1 h2, hk, hD]
  refine congrArg (fun f : Nat → Int32 => (Sum.inl (cy κ, (N, Sum.inl f)) : va_E)) (funext fun j => ite_self _)
theorem eD_q {κ N a : Nat} {G : GT} {D : DT} (hk : K a = (κ, N)) (h1 : 13 ≤ κ) (hG : G a = fun _ => none) : eD cy K G D a = .inl (cy κ, N, .inr (.inr (.inr (.inr (fun _ => none))))) := by
  rw [eD_ref (c := κ) (by rw [hk]) h1, hk, hG]
  refine congrArg (fun f : Nat → Option Nat => (Sum.inl (cy κ, (N, Sum.inr (Sum.inr (Sum.inr (Sum.inr f))))) : va_E)) (funext fun j => ite_self _)
/-- new t[N], t a primitive type -/
theorem sj_newa (X : CxA p s m args c dC dI cy K sa cc own nL n k0) {t : ArrayType} {ty : FieldType} {κ N k sl pc : Nat} {z : Int32} {LL : LT} {st : List Value} {G : GT} {D : DT} (hty : newarray.typeOf t = ty) (harr : Cond.arrayClass ty ∈ gT) (h1 : 10 ≤ κ) (h2 : κ < 13) (htys : (tysL cy)[κ - 10]? = some (cy κ, ty)) (hRA : ∀ (U : State) (cA : ClassId), va_RA U cA ty → U.vm.findClass ("[" ++ ty.toString) = some cA) (hdv : defaultValue ty = .int 0)
    (hz : z = nI N) (hN : N < 2 ^ 31) (hbytes : N * componentBytes ty ≤ 536870912) (hk : K (n + k) = (κ, N)) (hD : D (n + k) = fun _ => 0) (hcell : k + 1 - k0 ≤ R.cells) (hslot : sl + N ≤ R.slots) (hk0 : k0 ≤ k) (hdg : decode cc pc = .ok (.newarray t, 2))
    (kk : SJ p l e R s m args below meth c Q0 dC dI cy K nL n k0 (k + 1) (sl + N) (pc + 2) LL (.ref (n + k) :: st) G D) : SJ p l e R s m args below meth c Q0 dC dI cy K nL n k0 k sl pc LL (.int z :: st) G D := by
  intro ls hl H locs hP hS T0 hT0 XS
  obtain ⟨⟨hx, hb, hml, hown, hts⟩, hPk, h0, hKK⟩ := id X
  have hsz := sz_eq h0 hk0 hP hS hT0 XS
  subst hz hty
  refine va_newa (A := fun q => n ≤ q) (a0 := (N, .inl (fun _ => 0))) hx hb (hts _ harr) rfl hPk.1 hP (wDA _) (vS_up hS) (fun q h => by omega) (fun cA => ?_) (nI_pos hN) (nI_clamp hN) hbytes (by omega) hslot hdg (fun q cA H1 hK1 hP1 hD1 hS1 => ?_) T0 hT0 XS
  · rw [hdv]
    rfl
  · intro T1 hT1 X1
    have ec : cA = cy κ := by
      have g1 := hRA s cA (hK1.2 6 (cA, _) rfl).2
      have g2 := hRA s (cy κ) (hPk.1.2 (κ - 10) _ htys).2
      exact Option.some.inj (g1.symm.trans g2)
    subst ec
    obtain ⟨hq, hw⟩ := hw_push (cy := cy) (K := K) h0 hk0 hT1 X1 hP1 hD1 (eD_a hk h1 h2 hD)
    subst hq
    exact W.cs (cells' := k + 1 - k0) (by omega) rfl (kk ls hl H1 locs (Rp_i.mpr hw) (vS_dn h0 (by omega) hS1 hS.2.2 (by omega))) T1 hT1 X1
/-- new C[N] -/
theorem sj_newq (X : CxA p s m args c dC dI cy K sa cc own nL n k0) {C : String} {κ N i k sl pc : Nat} {z : Int32} {LL : LT} {st : List Value} {G : GT} {D : DT} (hcl : Cond.classLink own i C ∈ gT) (hov : va_AO C s) (h1 : 13 ≤ κ) (htys : (tysL cy)[κ - 10]? = some (cy κ, .object C))
    (hz : z = nI N) (hN : N < 2 ^ 31) (hbytes : N * 4 ≤ 536870912) (hk : K (n + k) = (κ, N)) (hG : G (n + k) = fun _ => none) (hcell : k + 1 - k0 ≤ R.cells) (hslot : sl + N ≤ R.slots) (hk0 : k0 ≤ k) (hdg : decode cc pc = .ok (.anewarray i, 3))
    (kk : SJ p l e R s m args below meth c Q0 dC dI cy K nL n k0 (k + 1) (sl + N) (pc + 3) LL (.ref (n + k) :: st) G D) : SJ p l e R s m args below meth c Q0 dC dI cy K nL n k0 k sl pc LL (.int z :: st) G D := by
  intro ls hl H locs hP hS T0 hT0 XS
  obtain ⟨⟨hx, hb, hml, hown, hts⟩, hPk, h0, hKK⟩ := id X
  have hsz := sz_eq h0 hk0 hP hS hT0 XS
  subst hz
  refine va_newq (A := fun q => n ≤ q) (N' := N) hx hb hown (hts _ hcl) hov hPk.1 hP (wDA _) (vS_up hS) (fun q h => by omega) (nI_pos hN) (nI_clamp hN) hbytes (by omega) hslot hdg (fun q cA H1 hK1 hP1 hD1 hS1 => ?_) T0 hT0 XS
  intro T1 hT1 X1
  have ec : cA = cy κ := by
    obtain ⟨-, -, -, -, -, g1⟩ := (hK1.2 6 (cA, _) rfl).2
    obtain ⟨-, -, -, -, -, g2⟩ := (hPk.1.2 (κ - 10) _ htys).2
    exact Option.some.inj (g1.symm.trans g2)
  subst ec
  obtain ⟨hq, hw⟩ := hw_push (cy := cy) (K := K) h0 hk0 hT1 X1 hP1 hD1 (eD_q hk h1 hG)
  subst hq
  exact W.cs (cells' := k + 1 - k0) (by omega) rfl (kk ls hl H1 locs (Rp_i.mpr hw) (vS_dn h0 (by omega) hS1 hS.2.2 (by omega))) T1 hT1 X1
/-- the rows of a table behind its outer array -/
def rowG (G : GT) (a N : Nat) : GT := fun b j => if b = a ∧ 0 ≤ j ∧ j < nI N then some (a + 1 + j.toNatClampNeg) else G b j
theorem outer_r (c : ClassId) (N h0 : Nat) : ∀ i : Nat, Jvm.Free.Multi.outerC c N h0 i = arrV c N (fun j => va_rf (if j < i then some (h0 + 1 + j) else none))
  | 0 => by
    show ({ cls := c, slots := Array.replicate N .null, vm := .none } : Cell) = _
    rw [arrV_new]
    refine congrArg (arrV c N) (funext fun j => ?_)
    rw [if_neg (Nat.not_lt_zero _)]
    rfl
  | i + 1 => by
    show (Jvm.Free.Multi.outerC c N h0 i).setSlot i (.ref (h0 + 1 + i)) = _
    rw [outer_r c N h0 i, arrV_store]
    refine congrArg (arrV c N) (funext fun j => ?_)
    unfold updV
    by_cases e : j = i
    · subst e
      rw [if_pos rfl, if_pos (Nat.lt_succ_self _)]
      rfl
    · rw [if_neg e]
      show va_rf (if j < i then some (h0 + 1 + j) else none) = _
      by_cases h : j < i
      · rw [if_pos h, if_pos (Nat.lt_succ_of_lt h)]
      · rw [if_neg h, if_neg (by omega)]
theorem sj_mna (X : CxA p s m args c dC dI cy K sa cc own nL n k0) {N M i k sl pc : Nat} {z y : Int32} {LL : LT} {st : List Value} {G : GT} {D : DT} (hcl : Cond.classLink own i "[[I" ∈ gT) (harr : Cond.arrayClass .int ∈ gT)
    (hz : z = nI N) (hy : y = nI M) (hN : N < 1000) (hM : M < 1000) (hk : K (n + k) = (13, N)) (hr : ∀ j, j < N → K (n + k + 1 + j) = (10, M)) (hG : G (n + k) = fun _ => none) (hD : ∀ j, j < N → D (n + k + 1 + j) = fun _ => 0) (hcell : k + 1 + N - k0 ≤ R.cells) (hslot : sl + (N + N * M) ≤ R.slots) (hk0 : k0 ≤ k) (hdg : decode cc pc = .ok (.multianewarray i 2, 4))
    (kk : SJ p l e R s m args below meth c Q0 dC dI cy K nL n k0 (k + 1 + N) (sl + N + N * M) (pc + 4) LL (.ref (n + k) :: st) (rowG G (n + k) N) D) : SJ p l e R s m args below meth c Q0 dC dI cy K nL n k0 k sl pc LL (.int y :: .int z :: st) G D := by
  intro ls hl H locs hP hS T0 hT0 XS
  obtain ⟨⟨hx, hb, hml, hown, hts⟩, hPk, h0, hKK⟩ := id X
  have hsz := sz_eq h0 hk0 hP hS hT0 XS
  subst hz hy
  have hcN : (nI N).toNatClampNeg = N := nI_clamp (by omega)
  have hcM : (nI M).toNatClampNeg = M := nI_clamp (by omega)
  have es : ("[" ++ (FieldType.array FieldType.int).toString) = "[[I" := by decide +kernel
  have hcl' : (Cond.classLink own i ("[" ++ (FieldType.array FieldType.int).toString)).before args s = true := by
    rw [es]
    exact hts _ hcl
  have hov : (Cond.arrayOver (.array .int)).before args s = true := hPk.2.2.2.2.2.1
  have bN : (nI N).toNatClampNeg * 4 ≤ 536870912 := by rw [hcN]; omega
  have bM : (nI M).toNatClampNeg * componentBytes FieldType.int ≤ 536870912 := by
    rw [hcM, show componentBytes FieldType.int = 4 from rfl]
    omega
  have bM2 : (nI M).toNatClampNeg ≤ 536870912 := by rw [hcM]; omega
  obtain ⟨vm₁, cA, comp, -, fA, fC, -, -, X', step⟩ := XS.multianewarray2F hx hown hcl' hov (hts _ harr) (g := F0 m pc ls (.int (nI M) :: .int (nI N) :: st)) rfl (by rw [hb]; exact hdg) rfl (nI_pos (by omega)) (nI_pos (by omega)) bN bM bM2 rfl rfl (by rw [hcN]; omega) (by rw [hcN, hcM]; exact hslot)
  rw [hcN, hcM] at X' step
  have eC : comp = cy 10 := by
    have g2 : s.vm.findClass ("[" ++ FieldType.int.toString) = some (cy 10) := (hPk.1.2 0 (cy 10, .int) rfl).2
    exact Option.some.inj (fC.symm.trans g2)
  have eA : cA = cy 13 := by
    have g2 : s.vm.findClass ("[" ++ (FieldType.array FieldType.int).toString) = some (cy 13) := (hPk.1.2 3 (cy 13, .array .int) rfl).2
    exact Option.some.inj (fA.symm.trans g2)
  subst eC eA
  have hTh : (T0.setVm vm₁).heap = H := hT0
  obtain ⟨f1, f2, -, -⟩ := Jvm.Free.Multi.fill_facts (T0.setVm vm₁) (cy 13) (cy 10) N M (defaultValue .int) N
  have fo := fun (a : Nat) (ha : a < (T0.setVm vm₁).heap.size) => Jvm.Free.Multi.fill_old (T0.setVm vm₁) (cy 13) (cy 10) N M (defaultValue .int) (a := a) ha N
  have fi := Jvm.Free.Multi.fill_inner (T0.setVm vm₁) (cy 13) (cy 10) N M (defaultValue .int) N
  generalize Jvm.Free.Multi.fill (T0.setVm vm₁) (cy 13) (cy 10) N M (defaultValue .int) N = F at X' step f1 f2 fo fi
  rw [hTh, hsz] at f1 f2 fi
  rw [hTh] at fo
  rw [outer_r] at f2
  have hW := Rp_i.mp hP
  have hRp : Rp dC dI cy (wL n (k + 1 + N)) (trK K n (k + 1 + N)) (rowG G (n + k) N) D F.heap := by
    refine Rp_i.mpr fun a a1 a2 => ?_
    rcases Nat.lt_trichotomy a (n + k) with z | z | z
    · have ee : eD cy K (rowG G (n + k) N) D a = eD cy K G D a := by
        unfold eD
        have : rowG G (n + k) N a = G a := by
          funext q
          unfold rowG
          rw [if_neg (fun w => absurd w.1 (by omega))]
        rw [this]
      rw [ee]
      exact (hW a a1 z).kept (fo a (by omega))
    · subst z
      rw [eD_ref (c := 13) (by rw [hk]) (by decide), hk]
      refine f2.trans (congrArg some ?_)
      show _ = arrV (cy 13) N (fun j => va_rf (if j < N then rowG G (n + k) N (n + k) (nI j) else none))
      refine congrArg (arrV (cy 13) N) (funext fun j => ?_)
      by_cases q : j < N
      · rw [if_pos q, if_pos q]
        unfold rowG
        rw [if_pos ⟨rfl, nI_pos' (by omega), (nI_ltI (by omega) (by omega)).mpr q⟩, nI_clamp (by omega)]
      · rw [if_neg q, if_neg q]
    · obtain ⟨j, hj, rfl⟩ : ∃ j, j < N ∧ a = n + k + 1 + j := ⟨a - (n + k + 1), by omega, by omega⟩
      rw [eD_a (hr j hj) (by decide) (by decide) (hD j hj)]
      refine (fi j hj).trans (congrArg some ?_)
      show ({ cls := cy 10, slots := Array.replicate M (defaultValue .int), vm := .none } : Cell) = _
      rw [arrV_new]
      rfl
  have hS2 : va_S (aL (wL n (k + 1 + N))) s.heap F.heap locs := by
    refine ⟨by rw [f1, h0]; omega, fun q q1 q2 => ?_, fun x hx' => ?_⟩
    · have q3 : ¬ n ≤ q := fun w => q2 (mem_wL.mpr ⟨w, by omega⟩)
      rw [fo q (by omega)]
      exact (vS_up hS).2.1 q q1 q3
    · have := mem_wL.mp (hS.2.2 x hx')
      exact mem_wL.mpr ⟨this.1, by omega⟩
  rw [show k - k0 + 1 + N = k + 1 + N - k0 by omega] at X'
  obtain ⟨t2, a1, b1⟩ := kk ls hl F.heap locs hRp hS2 F rfl X'
  refine ⟨t2, step t2 ?_, b1⟩
  have e9 : T0.heap.size = n + k := by rw [hT0, hsz]
  rw [e9]
  exact a1
/-- Object's own constructor -/
theorem sj_obj (X : CxA p s m args c dC dI cy K sa cc own nL n k0) {i k sl pc a : Nat} {LL : LT} {st : List Value} {G : GT} {D : DT} (hlk : Cond.methodLink own i Lib.objectInit ∈ gT) (hin : Cond.instanceMethod Lib.objectInit ∈ gT) (hco : Cond.code Lib.objectInit ⟨#[0xb1]⟩ 1 none ∈ gT) (hf : 1 ≤ R.frames) (hlo : 20 ≤ R.locals) (hst : c1 8 st) (hdg : decode cc pc = .ok (.invokespecial i, 3))
    (kk : SJ p l e R s m args below meth c Q0 dC dI cy K nL n k0 k sl (pc + 3) LL st G D) : SJ p l e R s m args below meth c Q0 dC dI cy K nL n k0 k sl pc LL (.ref a :: st) G D := by
  intro ls hl H locs hP hS
  obtain ⟨⟨hx, hb, hml, hown, hts⟩, hPk, h0, hKK⟩ := id X
  have hc8 := c1_of 8 st hst
  exact W.objInit hx hb hown (hts _ hlk) (hts _ hin) (hts _ hco) rfl (by rw [hml]; exact hl.size) rfl hdg hf (by show 2 * (F0 m pc ls (.ref a :: st)).monitorRoom + _ + 12 ≤ R.locals; have : (F0 m pc ls (.ref a :: st)).monitorRoom = 0 := rfl; rw [this]; omega) (kk ls hl H locs hP hS)
/-- a field of the class's own that holds a cell, and is final -/
def flR (own : String) (i ci k : Nat) : Prop := ∃ (T : u_T) (N : Nat) (ty0 : Nat → FieldType) (ty : FieldType), vwCl[ci]? = some (own, T, N) ∧ (∀ w ∈ u_ws own T N, w ∈ gT) ∧ k < N ∧ N = fN ci ∧ ci < 10 ∧ Cond.fieldLink own i own (T k).2.1 (T k).2.2.1 ∈ gT ∧ (T k).1 = own ∧ (∀ k, k < N → parseFieldDescriptor (T k).2.2.1 = some (ty0 k)) ∧ (∀ a, a < N → ∀ b, b < N → a ≠ b → (T a).2.1 ≠ (T b).2.1) ∧ fI ci k = false ∧ parseFieldDescriptor (T k).2.2.1 = some ty ∧ (T k).2.2.2 = true ∧ ∀ a : Nat, narrow ty (.ref a) = .ref a ∧ fits ty (.ref a) = true
theorem eD_putG {a ci k v : Nat} {G : GT} {D : DT} (h : (K a).1 = ci) (hc : ci < 10) (hI : fI ci k = false) (hk : k < fN ci) (b : Nat) :
    va_up (eD cy K G D) a (.inr (ci, ((List.range (fN ci)).map (fun i => if fI ci i = true then Value.int (D a (nI i)) else va_rf (G a (nI i)))).set k (.ref v))) b = eD cy K (uG G a (nI k) v) D b := by
  have hF : ∀ c, fN c < 2 ^ 31 := by
    intro c
    unfold fN
    split <;> decide
  by_cases hb : b = a
  · subst hb
    rw [va_up_self, eD_obj h hc]
    congr 2
    apply List.ext_getElem?
    intro i
    rw [List.getElem?_set, List.getElem?_map, List.getElem?_map]
    by_cases hi : i < fN ci
    · rw [List.getElem?_range hi]
      by_cases e : k = i
      · subst e
        simp [hi, hI, uG, va_rf]
      · have hne : ¬ nI i = nI k := fun q => e (nI_inj (Nat.lt_trans hi (hF ci)) (Nat.lt_trans hk (hF ci)) q).symm
        simp [e, uG, hne]
    · have hn : (List.range (fN ci))[i]? = none := List.getElem?_eq_none (by rw [List.length_range]; omega)
      rw [hn]
      by_cases e : k = i
      · omega
      · simp [e]
  · rw [va_up_ne _ _ hb]
    unfold eD
    simp [uG, hb]
theorem sj_put (X : CxA p s m args c dC dI cy K sa cc own nL n k0) {i ci j k sl pc a v : Nat} {LL : LT} {st : List Value} {G : GT} {D : DT} (hf : flR own i ci j) (hin : meth.name = "<init>") (ha : n ≤ a) (ha2 : a < n + k) (hk : (K a).1 = ci) (hdg : decode cc pc = .ok (.putfield i, 3))
    (kk : SJ p l e R s m args below meth c Q0 dC dI cy K nL n k0 k sl (pc + 3) LL st (uG G a (nI j) v) D) : SJ p l e R s m args below meth c Q0 dC dI cy K nL n k0 k sl pc LL (.ref v :: .ref a :: st) G D := by
  intro ls hl H locs hP hS
  obtain ⟨⟨hx, hb, hml, hown, hts⟩, hPk, h0, hKK⟩ := id X
  obtain ⟨T, N, ty0, ty, f1, f2, f3, f4, f5, f6, f7, f8, f9, f10, f11, f12, f13⟩ := hf
  have hL : a ∈ wL n k := mem_wL.mpr ⟨ha, ha2⟩
  have hkt : (trK K n k a).1 = ci := by rw [trK_in ha ha2]; exact hk
  obtain ⟨q, hq⟩ := va_pl_get (X := []) (f := eD cy (trK K n k) G D) hL
  have hq' := hq
  rw [eD_obj hkt f5] at hq'
  refine va_putF (D := (dC, dI)) (T := T) (N := N) (C := own) (ty := ty) (v := .ref v) hx hb hts f2 ty0 f8 f9 hown hPk.1 hP (wD wL_nd _) hS q hq' f1 j f3 (hts _ f6) (fun _ h => by rw [← f7]; rw [f7] at h ⊢; exact h) f12 hin f7 f11 (f13 v).1 (f13 v).2 (by simp; omega) hdg (fun H1 locs1 hP1 _ hS1 => kk ls hl H1 locs1 ?_ hS1)
  have ee := va_pl_set (X := []) (e := (.inr (ci, ((List.range (fN ci)).map (fun i => if fI ci i = true then Value.int (D a (nI i)) else va_rf (G a (nI i)))).set j (.ref v)))) (wD wL_nd (eD cy (trK K n k) G D)) hL hq
  unfold Rp
  rw [← va_pl_congr (L := wL n k) (eD_putG (cy := cy) (G := G) (D := D) (v := v) hkt f5 f10 (by omega))]
  rw [List.nil_append, List.nil_append] at ee
  rw [← ee]
  exact hP1
/-- a novel into an array of novels, a moment into one of moments -/
theorem sj_aast (X : CxA p s m args c dC dI cy K sa cc own nL n k0) {κ ci N k sl pc a v j : Nat} {r : vw_C} {z : Int32} {LL : LT} {st : List Value} {G : GT} {D : DT} (hz : z = nI j) (hκ : 13 ≤ κ) (htys : (tysL cy)[κ - 10]? = some (cy κ, .object r.1)) (hr : vwCl[ci]? = some r) (hci : ci < 10) (ha : n ≤ a) (ha2 : a < n + k) (hk : K a = (κ, N)) (hv : n ≤ v) (hv2 : v < n + k) (hkv : (K v).1 = ci) (hj : j < N) (hdg : decode cc pc = .ok (.aastore, 1))
    (kk : SJ p l e R s m args below meth c Q0 dC dI cy K nL n k0 k sl (pc + 1) LL st (uG G a (nI j) v) D) : SJ p l e R s m args below meth c Q0 dC dI cy K nL n k0 k sl pc LL (.ref v :: .int z :: .ref a :: st) G D := by
  intro ls hl H locs hP hS
  subst hz
  obtain ⟨⟨hx, hb, hml, hown, hts⟩, hPk, h0, hKK⟩ := id X
  have hL : a ∈ wL n k := mem_wL.mpr ⟨ha, ha2⟩
  have hLv : v ∈ wL n k := mem_wL.mpr ⟨hv, hv2⟩
  have hkt : trK K n k a = (κ, N) := by rw [trK_in ha ha2]; exact hk
  have hkt1 : (trK K n k a).1 = κ := by rw [hkt]
  have hkt2 : (trK K n k a).2 = N := by rw [hkt]
  have hktv : (trK K n k v).1 = ci := by rw [trK_in hv hv2]; exact hkv
  have hN : N < 2 ^ 31 := by
    have := hKK.1 a
    rw [hk] at this
    exact this
  obtain ⟨q, hq⟩ := va_pl_get (X := []) (f := eD cy (trK K n k) G D) hL
  obtain ⟨qv, hqv⟩ := va_pl_get (X := []) (f := eD cy (trK K n k) G D) hLv
  rw [eD_obj hktv hci] at hqv
  have hq' := hq
  rw [eD_ref hkt1 hκ, hkt2] at hq'
  refine va_astq hx hb hPk.1 hP (wD wL_nd _) hS q (κ - 10) qv ci (r := r) hq' htys hqv hr (vp_in_nI hj hN) hdg (fun H1 locs1 hP1 _ hS1 => kk ls hl H1 locs1 ?_ hS1)
  have hc : (nI j).toNatClampNeg = j := nI_clamp (Nat.lt_trans hj hN)
  rw [hc] at hP1
  have ee := va_pl_set (X := []) (e := (.inl (cy κ, N, .inr (.inr (.inr (.inr (va_up (fun j => if j < N then G a (nI j) else none) j (some v)))))))) (wD wL_nd (eD cy (trK K n k) G D)) hL hq
  unfold Rp
  rw [← va_pl_congr (L := wL n k) (eD_str (cy := cy) (G := G) (D := D) (v := v) hkt1 hκ (by rw [hkt2]; exact hj) (by rw [hkt2]; exact hN)), hkt2]
  rw [List.nil_append, List.nil_append] at ee
  rw [← ee]
  exact hP1
end CTB
