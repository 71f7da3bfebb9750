/-! ### constructors: worlds of consecutive cells -/
theorem okc_e {cc : ByteArray} {pc : Nat} : okc cc [] pc = true := rfl
def trK (K : KT) (n k : Nat) : KT := fun a => if n ≤ a ∧ a < n + k then K a else (99, 0)
def wL (n k : Nat) : List Nat := List.range' n k
theorem mem_wL {n k a : Nat} : a ∈ wL n k ↔ n ≤ a ∧ a < n + k := List.mem_range'_1
theorem wL_nd {n k : Nat} : (wL n k).Nodup := List.nodup_range'
theorem trK_in {K : KT} {n k a : Nat} (h : n ≤ a) (h2 : a < n + k) : trK K n k a = K a := if_pos ⟨h, h2⟩
def HW (dC : Nat → ClassId) (dI : Nat → Nat → Nat) (cy : Nat → ClassId) (n k : Nat) (K : KT) (G : GT) (D : DT) (H : Heap) : Prop := ∀ a, n ≤ a → a < n + k → va_at (dC, dI) vwCl (a, eD cy K G D a) H
theorem vP_mem {Dg : va_G} {cl : List vw_C} {ws : va_W} {H : Heap} (h : va_P Dg cl ws H) {q : Nat × va_E} (hq : q ∈ ws) : va_at Dg cl q H := by
  obtain ⟨k, hk⟩ := List.getElem?_of_mem hq
  exact h k q hk
theorem vP_of {Dg : va_G} {cl : List vw_C} {ws : va_W} {H : Heap} (h : ∀ q ∈ ws, va_at Dg cl q H) : va_P Dg cl ws H := fun k q hk => h q (List.mem_of_getElem? hk)
theorem eD_tr {cy : Nat → ClassId} {K : KT} {G : GT} {D : DT} {n k a : Nat} (h : n ≤ a) (h2 : a < n + k) : eD cy (trK K n k) G D a = eD cy K G D a := by
  unfold eD
  rw [trK_in h h2]
theorem Rp_i {dC : Nat → ClassId} {dI : Nat → Nat → Nat} {cy : Nat → ClassId} {n k : Nat} {K : KT} {G : GT} {D : DT} {H : Heap} : Rp dC dI cy (wL n k) (trK K n k) G D H ↔ HW dC dI cy n k K G D H := by
  constructor
  · intro h a h1 h2
    have := vP_mem h (q := (a, eD cy (trK K n k) G D a)) (List.mem_map.mpr ⟨a, mem_wL.mpr ⟨h1, h2⟩, rfl⟩)
    rw [eD_tr h1 h2] at this
    exact this
  · intro h
    refine vP_of fun q hq => ?_
    obtain ⟨a, ha, rfl⟩ := List.mem_map.mp hq
    obtain ⟨h1, h2⟩ := mem_wL.mp ha
    rw [eD_tr h1 h2]
    exact h a h1 h2
theorem vat_lt {Dg : va_G} {cl : List vw_C} {q : Nat × va_E} {H : Heap} (h : va_at Dg cl q H) : q.1 < H.size := va_at.lt h
/-- the table of an array class over arrays -/
def aoI (U : State) : Prop := (Cond.arrayOver (.array .int)).before #[] U = true
theorem aoI.moved {u U : State} (hvm : u.vm.Alike U.vm) (h : aoI u) : aoI U := Jvm.Stand.arrayOver_alikeB hvm h
/-- what constructors stand on, of the tables and the statics -/
def PkA (dC : Nat → ClassId) (dI : Nat → Nat → Nat) (cy : Nat → ClassId) (sa : Nat → Nat) (n : Nat) (U : State) (H : Heap) : Prop := va_K (dC, dI) vwCl (tysL cy) U ∧ va_Nw (.methodLinkNest RX2 83 yX5_fineFor RX5) U ∧ (∀ i, i < 4 → va_Z RX5 (stn i) "[I" (.ref (sa i)) (fun q => n ≤ q) U H) ∧ va_AO RX1 U ∧ va_AO RX2 U ∧ aoI U ∧ va_Nw (.methodLinkNest RX5 25 yX4_init RX5) U ∧ va_Nw (.methodLinkNest RX5 32 yX3_init RX5) U
def KOK (K : KT) (n : Nat) : Prop := (∀ a, (K a).2 < 2 ^ 31) ∧ ∀ a, n ≤ a → ¬ (K a).1 = 20
theorem PkA.pk {dC : Nat → ClassId} {dI : Nat → Nat → Nat} {cy : Nat → ClassId} {sa : Nat → Nat} {n b k : Nat} {U : State} {H : Heap} {K : KT} {R0 : DT} (h : PkA dC dI cy sa n U H) (hb : n ≤ b) (hK : KOK K n) : Pk dC dI cy (wL b k) (trK K b k) R0 sa U H := by
  obtain ⟨h1, h2, h3, -⟩ := h
  refine ⟨h1, h2, fun a ha => ?_, fun i hi => (h3 i hi).narrow (fun q hq => ?_)⟩
  · unfold trK at ha
    split at ha
    · rename_i q
      exact absurd ha (hK.2 a (by omega))
    · exact absurd ha (by decide)
  · have := (mem_wL.mp hq).1
    omega
theorem PkA.moved {dC : Nat → ClassId} {dI : Nat → Nat → Nat} {cy : Nat → ClassId} {sa : Nat → Nat} {n b : Nat} {s U : State} {H H1 : Heap} (h : PkA dC dI cy sa n s H) (hW : s.WarmedH U.vm) (hb : n ≤ b) (hq : ∀ a : Nat, a < H.size → ¬ n ≤ a → H1[a]? = H[a]?) : PkA dC dI cy sa b U H1 := by
  obtain ⟨h1, h2, h3, h4, h5, h6, h7, h8⟩ := h
  exact ⟨va_K.moved hW.alike h1, va_Nw.warmM hW h2, fun i hi => (va_Z.kept (va_Z.moved hW.alike (h3 i hi)) hq).narrow (fun q g => Nat.le_trans hb g), va_AO.moved hW.alike h4, va_AO.moved hW.alike h5, aoI.moved hW.alike h6, va_Nw.warmM hW h7, va_Nw.warmM hW h8⟩
theorem KOK.pp {K : KT} {n b k : Nat} (h : KOK K n) : Pp (wL b k) (trK K b k) := by
  refine ⟨wL_nd, fun a ha => ?_, fun a => ?_⟩
  · unfold trK at ha
    split at ha
    · rename_i q
      exact mem_wL.mpr q
    · exact absurd ha (by decide)
  · unfold trK
    split
    · exact h.1 a
    · show 0 < 2 ^ 31
      decide
section CTA
variable {p : Program} {l : Launch} {e : Env} {R : Room} {s : State} {m : MethodId} {args : Array Value} {below : List Frame} {meth : Method} {c : Code} {Q0 : State → Prop}
variable {dC : Nat → ClassId} {dI : Nat → Nat → Nat} {cy : Nat → ClassId} {K : KT} {R0 : DT} {sa : Nat → Nat} {cc : ByteArray} {own : String} {nL n k0 : Nat}
/-- all that a constructor's walk stands on -/
def CxA (p : Program) (s : State) (m : MethodId) (args : Array Value) (c : Code) (dC : Nat → ClassId) (dI : Nat → Nat → Nat) (cy : Nat → ClassId) (K : KT) (sa : Nat → Nat) (cc : ByteArray) (own : String) (nL n k0 : Nat) : Prop := CallFix p m c cc nL s args gT own ∧ PkA dC dI cy sa n s s.heap ∧ s.heap.size = n + k0 ∧ KOK K n
theorem CxA.cx (X : CxA p s m args c dC dI cy K sa cc own nL n k0) (k : Nat) : Cx p s m args c dC dI cy (wL n k) (trK K n k) R0 sa cc own nL := ⟨X.1, X.2.2.2.pp, X.2.1.pk (Nat.le_refl _) X.2.2.2⟩
/-- at a place of a constructor's code, k cells of its world being made, of sl slots -/
def SJ (p : Program) (l : Launch) (e : Env) (R : Room) (s : State) (m : MethodId) (args : Array Value) (below : List Frame) (meth : Method) (c : Code) (Q0 : State → Prop) (dC : Nat → ClassId) (dI : Nat → Nat → Nat) (cy : Nat → ClassId) (K : KT) (nL n k0 k sl pc : Nat) (LL : LT) (st : List Value) (G : GT) (D : DT) : Prop :=
  ∀ ls, lsOK ls nL LL → Wc p l e R s m args below meth c (k - k0) sl Q0 dC dI cy (wL n k) (trK K n k) G D (F0 m pc ls st)
theorem vS_up {H0 H : Heap} {locs : List Loc} {k : Nat} (h : va_S (aL (wL n k)) H0 H locs) : va_S (fun q => n ≤ q) H0 H locs := ⟨h.1, fun q h1 h2 => h.2.1 q h1 (fun z => h2 (mem_wL.mp z).1), fun x hx => (mem_wL.mp (h.2.2 x hx)).1⟩
theorem vS_dn {H0 H : Heap} {locs : List Loc} {k k' : Nat} (h0 : H0.size = n + k0) (hk : k0 ≤ k') (h : va_S (fun q => n ≤ q) H0 H locs) (hl : ∀ x ∈ locs, x.base ∈ wL n k) (hkk : k ≤ k') : va_S (aL (wL n k')) H0 H locs := ⟨h.1, fun q h1 h2 => h.2.1 q h1 (fun z => h2 (mem_wL.mpr ⟨z, by omega⟩)), fun x hx => by
  have := mem_wL.mp (hl x hx)
  exact mem_wL.mpr ⟨this.1, by omega⟩⟩
theorem wDA {k : Nat} (f : Nat → va_E) : va_D (fun q => n ≤ q) (va_pl (wL n k) f) := (wD wL_nd f).weaken (fun _ _ _ h => (mem_wL.mp h).1)
/-- the heap's size, from both sides -/
theorem sz_eq {H : Heap} {locs : List Loc} {T : State} {k sl : Nat} {G : GT} {D : DT} (h0 : s.heap.size = n + k0) (hk : k0 ≤ k) (hP : Rp dC dI cy (wL n k) (trK K n k) G D H) (hS : va_S (aL (wL n k)) s.heap H locs) (hT : T.heap = H) (X : Stand p l e R s m args below meth c T locs (k - k0) sl) : H.size = n + k := by
  have h1 : (T.setVm s.vm).heap.size ≤ s.heap.size + (k - k0) := X.same.2.2.1
  have h2 : T.heap.size ≤ s.heap.size + (k - k0) := h1
  rw [hT, h0] at h2
  rcases Nat.lt_or_ge k0 k with q | q
  · have h3 := vat_lt ((Rp_i.mp hP) (n + k - 1) (by omega) (by omega))
    have h4 : n + k - 1 < H.size := h3
    omega
  · have := hS.1
    omega
/-- a stretch of old instructions -/
theorem sj_old (X : CxA p s m args c dC dI cy K sa cc own nL n k0) {fl : Nat → Option (Nat × Nat)} {sg : Nat → Option Nat} {kc : Nat → Option Int32} {na rc : Nat → Nat} (hE : EnvOK own fl sg kc) {code : List (Instr × Nat)} {k sl pc : Nat} {LL : LT} {st : List Value} {G : GT} {D : DT} (hok : okc cc code pc = true)
    (h : wpl none fl sg kc na rc (fun _ _ _ _ _ => False) (fun _ _ _ _ _ => False) (trK K n k) R0 sa (fun _ _ _ => False) (SJ p l e R s m args below meth c Q0 dC dI cy K nL n k0 k sl) code pc LL st G D) : SJ p l e R s m args below meth c Q0 dC dI cy K nL n k0 k sl pc LL st G D := fun ls hl =>
  wpl_sound (X.cx (R0 := R0) k) hE (cv := fun _ _ _ _ _ => False) (cs := fun _ _ _ _ _ => False) (fun _ _ _ _ _ _ _ _ _ _ _ _ _ _ h => h.elim) (fun _ _ _ _ _ _ _ _ _ _ _ _ h => h.elim) (fun _ _ _ _ _ _ _ h => h.elim) (fun _ _ _ _ _ _ h => h.elim) (fun _ _ _ _ _ ls hl h => h ls hl) code pc hok LL st G D ls hl h
theorem eD_n {ci a : Nat} {G : GT} {D : DT} (hk : K a = (ci, 0)) (hc : ci < 10) (hG : G a = fun _ => none) (hD : D a = fun _ => 0) : eD cy K G D a = .inr (ci, (List.range (fN ci)).map (fun i => if fI ci i = true then .int 0 else .null)) := by
  rw [eD_obj (c := ci) (by rw [hk]) hc, hG, hD]
  rfl
/-- new C -/
theorem sj_new (X : CxA p s m args c dC dI cy K sa cc own nL n k0) {C : String} {T : u_T} {N ci i : Nat} {ty : Nat → FieldType} {k sl pc : Nat} {LL : LT} {st : List Value} {G : GT} {D : DT} (hcl : Cond.classLink own i C ∈ gT) (hinst : Cond.instantiable C N ∈ gT) (hini : Cond.initialized C ∈ gT) (hc : vwCl[ci]? = some (C, T, N)) (hws : ∀ w ∈ u_ws C T N, w ∈ gT) (hty : ∀ k, k < N → parseFieldDescriptor (T k).2.2.1 = some (ty k)) (hN : N = fN ci) (hci : ci < 10) (hI : ∀ j, j < N → defaultValue (ty j) = if fI ci j = true then .int 0 else .null)
    (hk : K (n + k) = (ci, 0)) (hG : G (n + k) = fun _ => none) (hD : D (n + k) = fun _ => 0) (hcell : k + 1 - k0 ≤ R.cells) (hslot : sl + N ≤ R.slots) (hk0 : k0 ≤ k) (hdg : decode cc pc = .ok (.new i, 3))
    (kk : SJ p l e R s m args below meth c Q0 dC dI cy K nL n k0 (k + 1) (sl + N) (pc + 3) LL (.ref (n + k) :: st) G D) : SJ p l e R s m args below meth c Q0 dC dI cy K nL n k0 k sl pc LL st G D := by
  intro ls hl H locs hP hS T0 hT0 XS
  obtain ⟨⟨hx, hb, hml, hown, hts⟩, hPk, h0, hKK⟩ := id X
  have hsz := sz_eq h0 hk0 hP hS hT0 XS
  refine va_new (A := fun q => n ≤ q) (fs := (List.range N).map (fun j => if fI ci j = true then .int 0 else .null)) hx hb hts hws ty hty hown (hts _ hcl) (hts _ hinst) (hts _ hini) hPk.1 hP (wDA _) (vS_up hS) (fun q h => by omega) hc (fun j hj => ?_) (by omega) hslot hdg (fun q H1 hP1 hD1 hS1 => ?_) T0 hT0 XS
  · rw [hI j hj]
    unfold vp_V
    rw [List.getD_eq_getElem?_getD, List.getElem?_map, List.getElem?_range hj]
    rfl
  · intro T1 hT1 X1
    have b1 : (T1.setVm s.vm).heap.size ≤ s.heap.size + (k - k0 + 1) := X1.same.2.2.1
    have b2 : T1.heap.size ≤ s.heap.size + (k - k0 + 1) := b1
    rw [hT1, h0] at b2
    have hlt : q < H1.size := vat_lt (vP_mem hP1 (List.mem_append_right _ (List.mem_singleton.mpr rfl)))
    have hge : n ≤ q := by
      obtain ⟨j, hj⟩ := List.getElem?_of_mem (List.mem_append_right (va_pl (wL n k) (eD cy (trK K n k) G D)) (List.mem_singleton.mpr rfl : (q, (Sum.inr (ci, (List.range N).map (fun j => if fI ci j = true then Value.int 0 else .null)) : va_E)) ∈ [(q, .inr (ci, (List.range N).map (fun j => if fI ci j = true then Value.int 0 else .null)))]))
      exact hD1.2 j _ hj
    have hnm : q ∉ wL n k := va_pl_fresh2 (X := []) hD1
    have hq : q = n + k := by
      have : ¬ q < n + k := fun z => hnm (mem_wL.mpr ⟨hge, z⟩)
      omega
    subst hq
    refine W.cs (cells' := k + 1 - k0) (by omega) rfl (kk ls hl H1 locs (Rp_i.mpr fun a a1 a2 => ?_) (vS_dn h0 (by omega) hS1 hS.2.2 (by omega))) T1 hT1 X1
    rcases Nat.lt_or_ge a (n + k) with z | z
    · have := vP_mem hP1 (q := (a, eD cy (trK K n k) G D a)) (List.mem_append_left _ (List.mem_map.mpr ⟨a, mem_wL.mpr ⟨a1, z⟩, rfl⟩))
      rw [eD_tr a1 z] at this
      exact this
    · obtain rfl : a = n + k := by omega
      rw [eD_n hk hci hG hD, ← hN]
      exact vP_mem hP1 (List.mem_append_right _ (List.mem_singleton.mpr rfl))
end CTA
