/-! ### constructors by contract -/
abbrev G00 : GT := fun _ _ => none
abbrev D00 : DT := fun _ _ => 0
def PcC (dC : Nat → ClassId) (dI : Nat → Nat → Nat) (cy : Nat → ClassId) (K : KT) (sa : Nat → Nat) (n : Nat) : Array Value → State → Prop := fun v U => v = [Value.ref n].toArray ∧ U.heap.size = n + 1 ∧ PkA dC dI cy sa n U U.heap ∧ Rp dC dI cy (wL n 1) (trK K n 1) G00 D00 U.heap
def QcC (dC : Nat → ClassId) (dI : Nat → Nat → Nat) (cy : Nat → ClassId) (K : KT) (n sz : Nat) (P : GT → DT → Prop) : Array Value → State → Outcome → State → Prop := fun _ st o t => o = .returned none ∧ (∃ G' D', P G' D' ∧ Rp dC dI cy (wL n sz) (trK K n sz) G' D' t.heap) ∧ va_F (fun q => n ≤ q) st t
abbrev rmC (h sz ms : Nat) : Room := { frames := h, cells := sz - 1, slots := ms, locals := 40 * h }
/-- a constructor makes a world of sz cells out of its new cell, for which P holds -/
def SatC (l : Launch) (y : MethodName) (bytes : ByteArray) (maxL h sz ms : Nat) (kp : KT → Nat → Prop) (P : Nat → GT → DT → Prop) : Prop :=
  ∀ (dC : Nat → ClassId) (dI : Nat → Nat → Nat) (cy : Nat → ClassId) (K : KT) (sa : Nat → Nat) (n : Nat), KOK K n → kp K n → Met l y (.code y bytes maxL none :: gT) (rmC h sz ms) (PcC dC dI cy K sa n) (QcC dC dI cy K n sz (P n)) (sz - 1) ms (aL (wL n sz))
theorem PcC.blind {dC : Nat → ClassId} {dI : Nat → Nat → Nat} {cy : Nat → ClassId} {K : KT} {sa : Nat → Nat} {n : Nat} : FrameBlind (PcC dC dI cy K sa n) := by
  intro a U g mk h
  obtain ⟨ha, hz, ⟨h1, h2, h3, h4, h5, h6, h8, h9⟩, h7⟩ := h
  exact ⟨ha, hz, ⟨va_K.moved (u := U) (U := U.calling g mk a) (Vm.Alike.refl U.vm) h1, va_Nw.same (u := U) (U := U.calling g mk a) rfl rfl h2, fun i hi => va_Z.moved (u := U) (U := U.calling g mk a) (Vm.Alike.refl U.vm) (h3 i hi), va_AO.moved (u := U) (U := U.calling g mk a) (Vm.Alike.refl U.vm) h4, va_AO.moved (u := U) (U := U.calling g mk a) (Vm.Alike.refl U.vm) h5, aoI.moved (u := U) (U := U.calling g mk a) (Vm.Alike.refl U.vm) h6, va_Nw.same (u := U) (U := U.calling g mk a) rfl rfl h8, va_Nw.same (u := U) (U := U.calling g mk a) rfl rfl h9⟩, h7⟩
theorem satC_of {l : Launch} {y : MethodName} {bytes : ByteArray} {maxL h sz ms : Nat} {kp : KT → Nat → Prop} {P : Nat → GT → DT → Prop} {own : String} (hy : plainName y.cls = true) (ho : y.cls = own) (hn : y.name = "<init>") (hm : 1 ≤ maxL)
    (vc : ∀ (p : Program) (e : Env) (s : State) (m : MethodId) (args : Array Value) (below : List Frame) (meth : Method) (c : Code) (dC : Nat → ClassId) (dI : Nat → Nat → Nat) (cy : Nat → ClassId) (K : KT) (sa : Nat → Nat) (n : Nat), kp K n → CxA p s m args c dC dI cy K sa bytes own maxL n 1 → meth.name = "<init>" → meth.sig.returnType = none → meth.locks = false →
      SJ p l e (rmC h sz ms) s m args below meth c (MQ below (QcC dC dI cy K n sz (P n)) args s (sz - 1) ms (aL (wL n sz))) dC dI cy K maxL n 1 1 0 0 (L0 [.ref n] maxL) [] G00 D00) : SatC l y bytes maxL h sz ms kp P := by
  intro dC dI cy K sa n hK hkp
  refine Met.ofW (cc := bytes) (maxL := maxL) (ret := none) hy rfl ?_
  intro p e s m args below meth c s₁ B hml hv
  obtain ⟨rfl, hz, hPk, hRp⟩ := hv
  have hown : s.vm.findClass own = some m.cls := by rw [← ho]; exact findClass_of_methodNamed B.named
  have hin : meth.name = "<init>" := (name_of_methodNamed B.named B.method).1.trans hn
  have X : CxA p s m [Value.ref n].toArray c dC dI cy K sa bytes own maxL n 1 := ⟨⟨B.exec, B.bytes, hml, hown, fun w hw => atoms_spec (ws := .code y bytes maxL none :: gT) B.pre w (List.mem_cons_of_mem _ hw)⟩, hPk, hz, hK⟩
  rw [lg_entry_eq]
  have hl := lsOK.entry (As := [.ref n]) (n := maxL) hm (fun v hv => by
    rw [List.mem_singleton.mp hv]
    trivial)
  exact vc p e s m _ below meth c dC dI cy K sa n hkp X hin B.returns B.notSynchronized _ hl s.heap [] hRp va_S.rf
section CTC
variable {p : Program} {l : Launch} {e : Env} {R : Room} {s : State} {m : MethodId} {args : Array Value} {below : List Frame} {meth : Method} {c : Code} {Q0 : State → Prop}
variable {dC : Nat → ClassId} {dI : Nat → Nat → Nat} {cy : Nat → ClassId} {K : KT} {R0 : DT} {sa : Nat → Nat} {cc : ByteArray} {own : String} {nL n k0 : Nat}
theorem sj_ret (X : CxA p s m args c dC dI cy K sa cc own nL n 1) {k sl pc : Nat} {LL : LT} {G : GT} {D : DT} {P : GT → DT → Prop} (hr : meth.sig.returnType = none) (hlk : meth.locks = false) (hP : P G D) (hdg : decode cc pc = .ok (.return_, 1)) : SJ p l e R s m args below meth c (MQ below (QcC dC dI cy K n k P) args s (k - 1) sl (aL (wL n k))) dC dI cy K nL n 1 k sl pc LL [] G D := by
  intro ls hl H locs hP' hS
  obtain ⟨⟨hx, hb, hml, hown, hts⟩, -⟩ := id X
  exact W.vret hx hb hr (fun t ht hW => ⟨rfl, ⟨G, D, hP, by rw [ht]; exact hP'⟩, (vS_up hS).F ht⟩) hS.2.2 hdg hlk
def mrG (b : Nat) (G Gc : GT) : GT := fun z => if z < b then G z else Gc z
def mrD (b : Nat) (D Dc : DT) : DT := fun z => if z < b then D z else Dc z
/-- a constructor's call, however it is linked -/
theorem sj_callR (X : CxA p s m args c dC dI cy K sa cc own nL n k0) {sz ms j sl pc : Nat} {kp : KT → Nat → Prop} {P : Nat → GT → DT → Prop} {LL : LT} {st : List Value} {G : GT} {D : DT}
    (hrun0 : ∀ (H : Heap) (locs : List Loc) (ls : Array Slot), ls.size = nL → PreS s H (PcC dC dI cy K sa (n + j)) [.ref (n + j)] → va_Run p l e R s m args below meth c H locs (j + 1 - k0) sl (sz - 1) ms (F0 m pc ls (.ref (n + j) :: st)) st (QcC dC dI cy K (n + j) sz (P (n + j)) [Value.ref (n + j)].toArray) (aL (wL (n + j) sz)))
    (hG : G (n + j) = fun _ => none) (hD : D (n + j) = fun _ => 0) (hk0 : k0 ≤ j + 1) (hz : 1 ≤ sz)
    (kk : ∀ Gc Dc, P (n + j) Gc Dc → SJ p l e R s m args below meth c Q0 dC dI cy K nL n k0 (j + sz) (sl + ms) (pc + 3) LL st (mrG (n + j) G Gc) (mrD (n + j) D Dc)) : SJ p l e R s m args below meth c Q0 dC dI cy K nL n k0 (j + 1) sl pc LL (.ref (n + j) :: st) G D := by
  intro ls hl H locs hP hS T0 hT0 XS
  obtain ⟨⟨hx, hb, hml, hown, hts⟩, hPk, h0, hKK⟩ := id X
  have hsz := sz_eq h0 hk0 hP hS hT0 XS
  have hW := Rp_i.mp hP
  have hrun := hrun0 H locs ls hl.size ⟨PcC.blind, fun U hU hW' => ⟨rfl, by rw [hU, hsz]; omega, by rw [hU]; exact hPk.moved hW' (by omega) (fun a a1 a2 => (vS_up hS).2.1 a a1 a2), by
      rw [hU]
      refine Rp_i.mpr fun a a1 a2 => ?_
      obtain rfl : a = n + j := by omega
      have := hW (n + j) (by omega) (by omega)
      have ee : eD cy K G D (n + j) = eD cy K G00 D00 (n + j) := by
        unfold eD
        rw [hG, hD]
      rw [ee] at this
      exact this⟩⟩
  obtain ⟨v, st₀, t, T', L, g0, X', hL, e1, e2, ⟨hv, ⟨Gc, Dc, hp, hRp⟩, hz1, hz2⟩, hst'⟩ := hrun T0 hT0 XS
  cases hv
  rw [g0] at hz1 hz2
  have hWc := Rp_i.mp hRp
  rw [show j + 1 - k0 + (sz - 1) = j + sz - k0 by omega] at X'
  have hRp2 : Rp dC dI cy (wL n (j + sz)) (trK K n (j + sz)) (mrG (n + j) G Gc) (mrD (n + j) D Dc) T'.heap := by
    refine Rp_i.mpr fun a a1 a2 => ?_
    rw [e1]
    rcases Nat.lt_or_ge a (n + j) with z | z
    · have ee : eD cy K (mrG (n + j) G Gc) (mrD (n + j) D Dc) a = eD cy K G D a := by
        unfold eD
        rw [show mrG (n + j) G Gc a = G a from if_pos z, show mrD (n + j) D Dc a = D a from if_pos z]
      rw [ee]
      exact (hW a a1 (by omega)).kept (hz2 a (by omega) (by omega))
    · have ee : eD cy K (mrG (n + j) G Gc) (mrD (n + j) D Dc) a = eD cy K Gc Dc a := by
        unfold eD
        rw [show mrG (n + j) G Gc a = Gc a from if_neg (by omega), show mrD (n + j) D Dc a = Dc a from if_neg (by omega)]
      rw [ee]
      exact hWc a z (by omega)
  have hS2 : va_S (aL (wL n (j + sz))) s.heap T'.heap (locs ++ L) := by
    refine ⟨?_, fun q q1 q2 => ?_, fun x hx' => ?_⟩
    · rw [e1]
      exact Nat.le_trans hS.1 hz1
    · have q3 : ¬ n ≤ q := fun w => q2 (mem_wL.mpr ⟨w, by omega⟩)
      rw [e1, hz2 q (by omega) (by omega)]
      exact (vS_up hS).2.1 q q1 q3
    · rcases List.mem_append.mp hx' with w | w
      · have := mem_wL.mp (hS.2.2 x w)
        exact mem_wL.mpr ⟨by omega, by omega⟩
      · have := mem_wL.mp (hL x w)
        exact mem_wL.mpr ⟨by omega, by omega⟩
  obtain ⟨t2, a1, b1⟩ := kk Gc Dc hp ls hl T'.heap (locs ++ L) hRp2 hS2 T' rfl X'
  exact ⟨t2, hst' t2 a1, b1⟩
theorem sj_call (X : CxA p s m args c dC dI cy K sa cc own nL n k0) {y : MethodName} {bytes : ByteArray} {maxL h sz ms i j sl pc : Nat} {kp : KT → Nat → Prop} {P : Nat → GT → DT → Prop} {LL : LT} {st : List Value} {G : GT} {D : DT} (hM : SatC l y bytes maxL h sz ms kp P)
    (l1 : Cond.methodLink own i y ∈ gT) (l2 : Cond.instanceMethod y ∈ gT) (l4 : Cond.initialized y.cls ∈ gT) (l5 : Cond.code y bytes maxL none ∈ gT) (hn : y.name = "<init>") (l6 : y.cls ≠ "java/lang/invoke/MethodHandle" ∧ y.cls ≠ "java/lang/invoke/VarHandle") (l7 : (parseMethodDescriptor y.desc).map (fun d => d.parameters.length) = some 0)
    (hkp : kp K (n + j)) (hG : G (n + j) = fun _ => none) (hD : D (n + j) = fun _ => 0) (hR : h + 1 ≤ R.frames ∧ 8 + (maxL + 11) + 40 * h ≤ R.locals) (hcell : j + sz - k0 ≤ R.cells) (hslot : sl + ms ≤ R.slots) (hk0 : k0 ≤ j + 1) (hz : 1 ≤ sz) (hst : c1 8 st) (hdg : decode cc pc = .ok (.invokespecial i, 3))
    (kk : ∀ Gc Dc, P (n + j) Gc Dc → SJ p l e R s m args below meth c Q0 dC dI cy K nL n k0 (j + sz) (sl + ms) (pc + 3) LL st (mrG (n + j) G Gc) (mrD (n + j) D Dc)) : SJ p l e R s m args below meth c Q0 dC dI cy K nL n k0 (j + 1) sl pc LL (.ref (n + j) :: st) G D := by
  obtain ⟨hF, -, -, hKK⟩ := id X
  have hM' := hM dC dI cy K sa (n + j) ⟨hKK.1, fun a ha => hKK.2 a (by omega)⟩ hkp
  have hts := hF.2.2.2.2
  have cw := cwI (s := s) (args := args) (R := R) (own := own) (index := i) (y := y) (bytes := bytes) (maxL := maxL) (rm := rmC h sz ms) (mc := sz - 1) (ms := ms) (ws' := gT) 0 hts (gT_good l5) rfl rfl rfl (hts _ l4) (hts _ l1) (hts _ l2) hn ⟨l6.1, l6.2, l7⟩ hR
  exact sj_callR (kp := kp) X (fun H locs ls hls hp => va_runI (As := []) hF hM' cw hp rfl rfl hls rfl (lv_room (c1_of 8 st hst)) hdg ⟨by omega, hslot⟩) hG hD hk0 hz kk
theorem sj_callN (X : CxA p s m args c dC dI cy K sa cc own nL n k0) {y : MethodName} {host : String} {bytes : ByteArray} {maxL h sz ms i j sl pc : Nat} {kp : KT → Nat → Prop} {P : Nat → GT → DT → Prop} {LL : LT} {st : List Value} {G : GT} {D : DT} (hM : SatC l y bytes maxL h sz ms kp P)
    (l1 : va_Nw (.methodLinkNest own i y host) s) (l2 : Cond.instanceMethod y ∈ gT) (l4 : Cond.initialized y.cls ∈ gT) (l5 : Cond.code y bytes maxL none ∈ gT) (hn : y.name = "<init>") (l6 : y.cls ≠ "java/lang/invoke/MethodHandle" ∧ y.cls ≠ "java/lang/invoke/VarHandle") (l7 : (parseMethodDescriptor y.desc).map (fun d => d.parameters.length) = some 0)
    (hkp : kp K (n + j)) (hG : G (n + j) = fun _ => none) (hD : D (n + j) = fun _ => 0) (hR : h + 1 ≤ R.frames ∧ 8 + (maxL + 11) + 40 * h ≤ R.locals) (hcell : j + sz - k0 ≤ R.cells) (hslot : sl + ms ≤ R.slots) (hk0 : k0 ≤ j + 1) (hz : 1 ≤ sz) (hst : c1 8 st) (hdg : decode cc pc = .ok (.invokespecial i, 3))
    (kk : ∀ Gc Dc, P (n + j) Gc Dc → SJ p l e R s m args below meth c Q0 dC dI cy K nL n k0 (j + sz) (sl + ms) (pc + 3) LL st (mrG (n + j) G Gc) (mrD (n + j) D Dc)) : SJ p l e R s m args below meth c Q0 dC dI cy K nL n k0 (j + 1) sl pc LL (.ref (n + j) :: st) G D := by
  obtain ⟨hF, -, -, hKK⟩ := id X
  have hM' := hM dC dI cy K sa (n + j) ⟨hKK.1, fun a ha => hKK.2 a (by omega)⟩ hkp
  have hts := hF.2.2.2.2
  have cw := va_cnB (s := s) (args := args) (R := R) (own := own) (host := host) (index := i) (y := y) (bytes := bytes) (maxL := maxL) (ret := none) (rm := rmC h sz ms) (mc := sz - 1) (ms := ms) (ws' := gT) 0 hts (gT_good l5) rfl rfl rfl l1 (hts _ l4) ⟨l6.1, l6.2, l7⟩ hR
  exact sj_callR (kp := kp) X (fun H locs ls hls hp => va_runIN (As := []) hF hM' ⟨cw, hn, hts _ l2⟩ hp rfl rfl hls rfl (lv_room (c1_of 8 st hst)) hdg ⟨by omega, hslot⟩) hG hD hk0 hz kk
end CTC
