/-! ===== calls by contract; the whole engine ===== -/
/-- a method keeps its transformer: from every world with tr, it ends in one with Q' -/
def Sat (l : Launch) (y : MethodName) (bytes : ByteArray) (maxL : Nat) (ret : Option FieldType) (h : Nat) (tr : KT → DT → (Nat → Nat) → CT) : Prop :=
  ∀ (dC : Nat → ClassId) (dI : Nat → Nat → Nat) (cy : Nat → ClassId) (L : List Nat) (K : KT) (R0 : DT) (sa : Nat → Nat), Pp L K → ∀ (As : List Value) (G : GT) (D : DT) (Q' : QT), tr K R0 sa As G D Q' →
    Met l y (.code y bytes maxL ret :: gT) (rmH h) (PcU dC dI cy L K R0 sa As G D) (QcU dC dI cy L K Q') 0 0 (aL L)
section CLL
variable {p : Program} {l : Launch} {e : Env} {R : Room} {s : State} {m : MethodId} {args : Array Value} {below : List Frame} {meth : Method} {c : Code} {cells slots : Nat} {Q0 : State → Prop}
variable {dC : Nat → ClassId} {dI : Nat → Nat → Nat} {cy : Nat → ClassId} {L : List Nat} {K : KT} {R0 : DT} {sa : Nat → Nat} {cc : ByteArray} {own : String} {nL : Nat}
theorem callU {H : Heap} {locs : List Loc} {pc : Nat} {ls : Array Slot} {st0 rest : List Value} {a : Array Value} {Q' : QT} (hr : va_Run p l e R s m args below meth c H locs cells slots 0 0 (F0 m pc ls st0) rest (QcU dC dI cy L K Q' a) (aL L)) (hS : va_S (aL L) s.heap H locs)
    (kk : ∀ r G' D', Q' r G' D' → Wc p l e R s m args below meth c cells slots Q0 dC dI cy L K G' D' (F0 m (pc + 3) ls (r.toList ++ rest))) : W p l e R s m args below meth c H locs cells slots Q0 (F0 m pc ls st0) := by
  intro T hT X
  obtain ⟨v, st₀, t, T', Lc, h0, X', hL, e1, e2, ⟨⟨r, G', D', hv, hq, hp⟩, hz, hk⟩, st⟩ := hr T hT X
  cases hv
  rw [h0] at hz hk
  obtain ⟨t2, a1, b1⟩ := kk v G' D' hq t.heap (locs ++ Lc) hp
    ⟨Nat.le_trans hS.1 hz, fun q h1 h2 => (hk q (Nat.lt_of_lt_of_le h1 hS.1) h2).trans (hS.2.1 q h1 h2), fun q hq => by
      rcases List.mem_append.mp hq with h | h
      · exact hS.2.2 q h
      · exact hL q h⟩ T' e1 X'
  exact ⟨t2, st t2 a1, b1⟩
theorem gT_good {y : MethodName} {bytes : ByteArray} {maxL : Nat} {ret : Option FieldType} (hc : Cond.code y bytes maxL ret ∈ gT) : GoodIn gT (.code y bytes maxL ret :: gT) := by
  intro w hw
  rcases List.mem_cons.mp hw with rfl | h
  · exact ⟨hc, good_of_word (List.mem_filter.mp hc).2⟩
  · exact ⟨h, good_of_word (List.mem_filter.mp h).2⟩
/-- what the tables say of a call of y by its entry i in own's pool -/
def lkV (own : String) (i : Nat) (y : MethodName) (bytes : ByteArray) (maxL : Nat) (ret : Option FieldType) (n ci : Nat) : Prop :=
  Cond.methodLink own i y ∈ gT ∧ Cond.instanceMethod y ∈ gT ∧ Cond.selects y.cls y y ∈ gT ∧ Cond.initialized y.cls ∈ gT ∧ Cond.code y bytes maxL ret ∈ gT ∧ (y.cls ≠ "java/lang/invoke/MethodHandle" ∧ y.cls ≠ "java/lang/invoke/VarHandle") ∧ (parseMethodDescriptor y.desc).map (fun d => d.parameters.length + 1) = some n ∧ ci < 10 ∧ (vwCl[ci]?).map (fun r => r.1) = some y.cls
def lkS (own : String) (i : Nat) (y : MethodName) (bytes : ByteArray) (maxL : Nat) (ret : Option FieldType) (n : Nat) : Prop :=
  Cond.methodLink own i y ∈ gT ∧ Cond.static y ∈ gT ∧ Cond.initialized y.cls ∈ gT ∧ Cond.code y bytes maxL ret ∈ gT ∧ (y.cls ≠ "java/lang/invoke/MethodHandle" ∧ y.cls ≠ "java/lang/invoke/VarHandle") ∧ (parseMethodDescriptor y.desc).map (fun d => d.parameters.length) = some n
theorem okV (X : Cx p s m args c dC dI cy L K R0 sa cc own nL) {i n ci : Nat} {y : MethodName} {bytes : ByteArray} {maxL : Nat} {ret : Option FieldType} {h : Nat} {tr : KT → DT → (Nat → Nat) → CT} (hM : Sat l y bytes maxL ret h tr) (hl : lkV own i y bytes maxL ret n ci) (hR : h + 1 ≤ R.frames ∧ 8 + (maxL + 11) + 40 * h ≤ R.locals) (hc : cells ≤ R.cells) (hs : slots ≤ R.slots) :
    cOKV p l e R s m args below meth c cells slots Q0 dC dI cy L K cc nL i n ci (tr K R0 sa) := by
  intro pc ls b As rest G D Q' hdg hls hn hrest hb htr kk H locs hP hS
  obtain ⟨l1, l2, l3, l4, l5, l6, l7, l8, l9⟩ := hl
  have hts := X.1.2.2.2.2
  have hX := X
  obtain ⟨hF, ⟨hn1, hin, hlen⟩, hK⟩ := X
  obtain ⟨q, hq⟩ := va_pl_get (X := []) (f := eD cy K G D) (hin b (by omega))
  rw [eD_obj hb l8] at hq
  obtain ⟨r9, hr9, hr9'⟩ := Option.map_eq_some_iff.mp l9
  have hM' := hM dC dI cy L K R0 sa hX.2.1 (.ref b :: As) G D Q' htr
  have hcd : (parseMethodDescriptor y.desc).map (fun d => d.parameters.length) = some As.length := by
    obtain ⟨d, hd, hd2⟩ := Option.map_eq_some_iff.mp l7
    rw [hd]
    simp at hn hd2 ⊢
    omega
  have cw := callB_of (s := s) (args := args) (R := R) (own := own) (index := i) (y := y) (bytes := bytes) (maxL := maxL) (ret := ret) (rm := rmH h) (mc := 0) (ms := 0) (ws' := gT) As.length hts (gT_good l5) rfl rfl rfl (hts _ l4) (hts _ l1) ⟨l6.1, l6.2, hcd⟩ hR
  refine callU (va_runV (As := As) (C := y.cls) hF hM' ⟨cw, hts _ l2, hts _ l3⟩ ⟨PcU.blind, ?_, fun U hU hW => ⟨rfl, hK.moved hW hS hU, by rw [hU]; exact hP⟩⟩ rfl rfl hls ?_ ?_ hdg ⟨hc, hs⟩) hS kk
  · have := va_recv (q := r9) hK.1 hP hr9 hq
    rw [hr9'] at this
    exact this
  · simp
  · have := c1_of 8 rest hrest
    exact lv_room this
theorem okS (X : Cx p s m args c dC dI cy L K R0 sa cc own nL) {i n : Nat} {y : MethodName} {bytes : ByteArray} {maxL : Nat} {ret : Option FieldType} {h : Nat} {tr : KT → DT → (Nat → Nat) → CT} (hM : Sat l y bytes maxL ret h tr) (hl : lkS own i y bytes maxL ret n) (hR : h + 1 ≤ R.frames ∧ 8 + (maxL + 11) + 40 * h ≤ R.locals) (hc : cells ≤ R.cells) (hs : slots ≤ R.slots) :
    cOKS p l e R s m args below meth c cells slots Q0 dC dI cy L K cc nL i n (tr K R0 sa) := by
  intro pc ls As rest G D Q' hdg hls hn hrest htr kk H locs hP hS
  obtain ⟨l1, l2, l4, l5, l6, l7⟩ := hl
  have hts := X.1.2.2.2.2
  have hX := X
  obtain ⟨hF, ⟨hn1, hin, hlen⟩, hK⟩ := X
  have hM' := hM dC dI cy L K R0 sa hX.2.1 As G D Q' htr
  have cw := callB_of (s := s) (args := args) (R := R) (own := own) (index := i) (y := y) (bytes := bytes) (maxL := maxL) (ret := ret) (rm := rmH h) (mc := 0) (ms := 0) (ws' := gT) As.length hts (gT_good l5) rfl rfl rfl (hts _ l4) (hts _ l1) ⟨l6.1, l6.2, by rw [hn]; exact l7⟩ hR
  refine callU (va_runS (As := As) hF hM' ⟨cw, hts _ l2⟩ ⟨PcU.blind, fun U hU hW => ⟨rfl, hK.moved hW hS hU, by rw [hU]; exact hP⟩⟩ rfl rfl hls rfl ?_ hdg ⟨hc, hs⟩) hS kk
  have := c1_of 8 rest hrest
  exact lv_room this
/-- the one call of a nest mate's private method -/
theorem okN (X : Cx p s m args c dC dI cy L K R0 sa cc RX2 nL) {bytes : ByteArray} {maxL : Nat} {ret : Option FieldType} {h n : Nat} {tr : KT → DT → (Nat → Nat) → CT} (hM : Sat l yX5_fineFor bytes maxL ret h tr) (l2 : Cond.static yX5_fineFor ∈ gT) (l4 : Cond.initialized yX5_fineFor.cls ∈ gT) (l5 : Cond.code yX5_fineFor bytes maxL ret ∈ gT) (l7 : (parseMethodDescriptor yX5_fineFor.desc).map (fun d => d.parameters.length) = some n) (hR : h + 1 ≤ R.frames ∧ 8 + (maxL + 11) + 40 * h ≤ R.locals) (hc : cells ≤ R.cells) (hs : slots ≤ R.slots) :
    cOKS p l e R s m args below meth c cells slots Q0 dC dI cy L K cc nL 83 n (tr K R0 sa) := by
  intro pc ls As rest G D Q' hdg hls hn hrest htr kk H locs hP hS
  have hts := X.1.2.2.2.2
  have hX := X
  obtain ⟨hF, ⟨hn1, hin, hlen⟩, hK⟩ := X
  have hM' := hM dC dI cy L K R0 sa hX.2.1 As G D Q' htr
  have cw := va_cnB (s := s) (args := args) (R := R) (own := RX2) (host := RX5) (index := 83) (y := yX5_fineFor) (bytes := bytes) (maxL := maxL) (ret := ret) (rm := rmH h) (mc := 0) (ms := 0) (ws' := gT) As.length hts (gT_good l5) rfl rfl rfl hK.2.1 (hts _ l4) ⟨by decide, by decide, by rw [hn]; exact l7⟩ hR
  refine callU (va_runSN (As := As) hF hM' ⟨cw, hts _ l2, trivial⟩ ⟨PcU.blind, fun U hU hW => ⟨rfl, hK.moved hW hS hU, by rw [hU]; exact hP⟩⟩ rfl rfl hls rfl ?_ hdg ⟨hc, hs⟩) hS kk
  have := c1_of 8 rest hrest
  exact lv_room this
def trMax : CT := fun As G D Q' => ∃ x y, As = [.int x, .int y] ∧ Q' (some (.int (if x < y then y else x))) G D
def trMin : CT := fun As G D Q' => ∃ x y, As = [.int x, .int y] ∧ Q' (some (.int (if y < x then y else x))) G D
def trCpy (K : KT) : CT := fun As G D Q' => ∃ a0 a n, As = [.ref a0, .int 0, .ref a, .int 0, .int n] ∧ (K a0).1 = 10 ∧ (K a).1 = 10 ∧ 0 ≤ n ∧ n ≤ nI (K a0).2 ∧ n ≤ nI (K a).2 ∧ Q' none G (cpD D a0 a n)
theorem okMax (X : Cx p s m args c dC dI cy L K R0 sa cc own nL) {i : Nat} (l1 : Cond.methodLink own i Lib.Math.max.name ∈ gT) (l2 : Cond.static Lib.Math.max.name ∈ gT) (l3 : Cond.initialized "java/lang/Math" ∈ gT) (l4 : Cond.code Lib.Math.max.name Lib.Math.max.code 2 (some .int) ∈ gT) (hR : 1 ≤ R.frames ∧ 21 ≤ R.locals) (hc : cells ≤ R.cells) (hs : slots ≤ R.slots) :
    cOKS p l e R s m args below meth c cells slots Q0 dC dI cy L K cc nL i 2 trMax := by
  intro pc ls As rest G D Q' hdg hls hn hrest htr kk H locs hP hS
  obtain ⟨⟨hx, hb, hml, hown, hts⟩, -, -⟩ := X
  obtain ⟨x, y, rfl, hq⟩ := htr
  have := c1_of 8 rest hrest
  exact va_mmax (rest := rest) hx hb (by rw [hml, hls]) hown (hts _ l1) (hts _ l2) (hts _ l3) (hts _ l4) hR.1 (by omega) hc hs hdg (kk _ _ _ hq H locs hP hS)
theorem okMin (X : Cx p s m args c dC dI cy L K R0 sa cc own nL) {i : Nat} (l1 : Cond.methodLink own i Lib.Math.min.name ∈ gT) (l2 : Cond.static Lib.Math.min.name ∈ gT) (l3 : Cond.initialized "java/lang/Math" ∈ gT) (l4 : Cond.code Lib.Math.min.name Lib.Math.min.code 2 (some .int) ∈ gT) (hR : 1 ≤ R.frames ∧ 21 ≤ R.locals) (hc : cells ≤ R.cells) (hs : slots ≤ R.slots) :
    cOKS p l e R s m args below meth c cells slots Q0 dC dI cy L K cc nL i 2 trMin := by
  intro pc ls As rest G D Q' hdg hls hn hrest htr kk H locs hP hS
  obtain ⟨⟨hx, hb, hml, hown, hts⟩, -, -⟩ := X
  obtain ⟨x, y, rfl, hq⟩ := htr
  have := c1_of 8 rest hrest
  exact va_mmin (rest := rest) hx hb (by rw [hml, hls]) hown (hts _ l1) (hts _ l2) (hts _ l3) (hts _ l4) hR.1 (by omega) hc hs hdg (kk _ _ _ hq H locs hP hS)
theorem okCpy (X : Cx p s m args c dC dI cy L K R0 sa cc own nL) {i : Nat} (l1 : Cond.methodLink own i arraycopyName ∈ gT) (l2 : Cond.native arraycopyName ∈ gT) (l3 : Cond.static arraycopyName ∈ gT) (l4 : Cond.initialized "java/lang/System" ∈ gT) (hR : 1 ≤ R.frames ∧ 8 + (nativeFrameWords "java/lang/System" "arraycopy" 5 + 11) ≤ R.locals) :
    cOKS p l e R s m args below meth c cells slots Q0 dC dI cy L K cc nL i 5 (trCpy K) := by
  intro pc ls As rest G D Q' hdg hls hn hrest htr kk H locs hP hS
  obtain ⟨⟨hx, hb, hml, hown, hts⟩, ⟨hn1, hin, hlen⟩, hK, -⟩ := X
  obtain ⟨a0, a, n, rfl, k0, k1, n0, n1, n2, hq⟩ := htr
  have hsum := c1_of 8 rest hrest
  obtain ⟨j, hj, rfl⟩ := nI_of (x := n) (Int32.not_lt.mpr n0)
  have g1 : j ≤ (K a0).2 := (nI_leI hj (hlen a0)).mp n1
  have g2 : j ≤ (K a).2 := (nI_leI hj (hlen a)).mp n2
  have hL := hin a (by omega)
  obtain ⟨q0, hq0⟩ := va_pl_get (X := []) (f := eD cy K G D) (hin a0 (by omega))
  obtain ⟨q1, hq1⟩ := va_pl_get (X := []) (f := eD cy K G D) hL
  have hq1' := hq1
  rw [eD_arr k0 (by decide) (by decide)] at hq0
  rw [eD_arr k1 (by decide) (by decide)] at hq1'
  have hc : (nI j).toNatClampNeg = j := nI_clamp hj
  have z0 : (0 : Int32).toNatClampNeg = 0 := rfl
  refine va_copyi (ty := .int) (rest := rest) hx hb (by rw [hml, hls]) hown (hts _ l1) (hts _ l2) (hts _ l3) (hts _ l4) hK hP (wD hn1 _) hS q0 q1 0 0 hq0 hq1' rfl rfl rfl (by decide) (by decide) (nI_pos hj) (by rw [hc, z0]; omega) (by rw [hc, z0]; omega) (fun _ _ => rfl) hR.1 (by omega) hdg (fun H1 locs1 hP1 _ hS1 => kk _ _ _ hq H1 locs1 ?_ hS1)
  rw [hc, z0] at hP1
  have ee := va_pl_set (X := []) (e := (.inl (cy 10, (K a).2, .inl (va_cpy (fun j => if j < (K a0).2 then D a0 (nI j) else 0) (fun j => if j < (K a).2 then D a (nI j) else 0) 0 0 j)))) (wD hn1 (eD cy K G D)) hL hq1
  unfold Rp
  rw [← va_pl_congr (L := L) (eD_cp (cy := cy) (G := G) (D := D) (a0 := a0) k1 g1 g2 (hlen a0) (hlen a))]
  rw [List.nil_append, List.nil_append] at ee
  rw [← ee]
  exact hP1
end CLL
