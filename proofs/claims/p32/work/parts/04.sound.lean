/-! ===== the engine is sound: what it says of the code holds of the machine ===== -/
def lsOK (ls : Array Slot) (nL : Nat) (L : LT) : Prop := L.length = nL ∧ (∀ (i : Nat) (v : Value), L[i]? = some (some v) → v.category = 1) ∧ ∃ l, lv_has ls nL l ∧ ∀ (i : Nat) (v : Value), L[i]? = some (some v) → (i, v) ∈ l
theorem lsOK.size {ls : Array Slot} {nL : Nat} {L : LT} (h : lsOK ls nL L) : ls.size = nL := by
  obtain ⟨-, -, l, h, -⟩ := h
  exact h.1
theorem lsOK.get {ls : Array Slot} {nL : Nat} {L : LT} (h : lsOK ls nL L) {i : Nat} {v : Value} (hi : L[i]? = some (some v)) : ls[i]? = some (.val v) := by
  obtain ⟨-, -, l, h, hl⟩ := h
  exact h.2.2 _ (hl i v hi)
theorem lsOK.set {ls : Array Slot} {nL : Nat} {L : LT} {l : List (Nat × Value)} {i : Nat} {v : Value} (h1 : L.length = nL) (h2 : ∀ (i : Nat) (v : Value), L[i]? = some (some v) → v.category = 1) (hl : ∀ (i : Nat) (v : Value), L[i]? = some (some v) → (i, v) ∈ l) (hi : i < L.length) (hv : v.category = 1)
    (h : lv_has ls nL ((i, v) :: l.filter (fun q => !(q.1 == i) && !(q.1 + 1 == i && q.2.category == 2)))) : lsOK ls nL (L.set i (some v)) := by
  refine ⟨by rw [List.length_set]; exact h1, fun j w hj => ?_, _, h, fun j w hj => ?_⟩
  · rw [List.getElem?_set] at hj
    by_cases e : i = j
    · subst e
      rw [if_pos rfl, if_pos hi] at hj
      cases hj
      exact hv
    · rw [if_neg e] at hj
      exact h2 j w hj
  · rw [List.getElem?_set] at hj
    by_cases e : i = j
    · subst e
      rw [if_pos rfl, if_pos hi] at hj
      cases hj
      exact List.mem_cons_self
    · rw [if_neg e] at hj
      refine List.mem_cons_of_mem _ (List.mem_filter.mpr ⟨hl j w hj, ?_⟩)
      have hc := h2 j w hj
      simp [hc, Ne.symm e]
theorem cat1_of {v : Value} (h : cat1 v) : v.category = 1 := by
  cases v <;> first | rfl | exact h.elim
theorem c1_of : ∀ (n : Nat) (l : List Value), c1 n l → (l.map fun v => v.category).sum ≤ n
  | _, [], _ => by simp
  | n + 1, .int x :: r, h => by
    have := c1_of n r h
    have e : (Value.int x).category = 1 := rfl
    simp only [List.map_cons, List.sum_cons, e]
    omega
  | n + 1, .ref x :: r, h => by
    have := c1_of n r h
    have e : (Value.ref x).category = 1 := rfl
    simp only [List.map_cons, List.sum_cons, e]
    omega
  | 0, v :: r, h => by
    cases v <;> exact False.elim h
  | n + 1, .null :: r, h => False.elim h
  | n + 1, .long x :: r, h => False.elim h
  | n + 1, .float x :: r, h => False.elim h
  | n + 1, .double x :: r, h => False.elim h
def gT : List Cond := lw_tbl.filter goodWord
abbrev rmH (h : Nat) : Room := { frames := h, cells := 0, slots := 0, locals := 40 * h }
abbrev aL (L : List Nat) : Nat → Prop := fun q => q ∈ L
def PcU (dC : Nat → ClassId) (dI : Nat → Nat → Nat) (cy : Nat → ClassId) (L : List Nat) (K : KT) (R0 : DT) (sa : Nat → Nat) (As : List Value) (G : GT) (D : DT) : Array Value → State → Prop := fun v U => v = As.toArray ∧ Pk dC dI cy L K R0 sa U U.heap ∧ Rp dC dI cy L K G D U.heap
def QcU (dC : Nat → ClassId) (dI : Nat → Nat → Nat) (cy : Nat → ClassId) (L : List Nat) (K : KT) (Q : QT) : Array Value → State → Outcome → State → Prop := fun _ st o t => (∃ (r : Option Value) (G' : GT) (D' : DT), o = .returned r ∧ Q r G' D' ∧ Rp dC dI cy L K G' D' t.heap) ∧ va_F (aL L) st t
theorem Pk.moved {dC : Nat → ClassId} {dI : Nat → Nat → Nat} {cy : Nat → ClassId} {L : List Nat} {K : KT} {R0 : DT} {sa : Nat → Nat} {s U : State} {H : Heap} {locs : List Loc} (h : Pk dC dI cy L K R0 sa s s.heap) (hW : s.WarmedH U.vm) (hS : va_S (aL L) s.heap H locs) (hU : U.heap = H) : Pk dC dI cy L K R0 sa U U.heap := by
  obtain ⟨h1, h2, h3, h4⟩ := h
  refine ⟨va_K.moved hW.alike h1, va_Nw.warmM hW h2, fun a ha => ?_, fun i hi => ?_⟩
  · exact va_T.kept (va_T.moved hW.alike (h3 a ha)) (fun q g1 g2 => by rw [hU]; exact hS.2.1 q g1 g2)
  · exact va_Z.kept (va_Z.moved hW.alike (h4 i hi)) (fun q g1 g2 => by rw [hU]; exact hS.2.1 q g1 g2)
theorem PcU.blind {dC : Nat → ClassId} {dI : Nat → Nat → Nat} {cy : Nat → ClassId} {L : List Nat} {K : KT} {R0 : DT} {sa : Nat → Nat} {As : List Value} {G : GT} {D : DT} : FrameBlind (PcU dC dI cy L K R0 sa As G D) := by
  intro a U g mk h
  obtain ⟨ha, ⟨h1, h2, h3, h4⟩, h5⟩ := h
  refine ⟨ha, ⟨va_K.moved (u := U) (U := U.calling g mk a) (Vm.Alike.refl U.vm) h1, va_Nw.same (u := U) (U := U.calling g mk a) rfl rfl h2, fun b hb => va_T.moved (u := U) (U := U.calling g mk a) (Vm.Alike.refl U.vm) (h3 b hb), fun i hi => va_Z.moved (u := U) (U := U.calling g mk a) (Vm.Alike.refl U.vm) (h4 i hi)⟩, h5⟩
section SND
variable {p : Program} {l : Launch} {e : Env} {R : Room} {s : State} {m : MethodId} {args : Array Value} {below : List Frame} {meth : Method} {c : Code} {cells slots : Nat} {Q0 : State → Prop}
variable {dC : Nat → ClassId} {dI : Nat → Nat → Nat} {cy : Nat → ClassId} {L : List Nat} {K : KT} {R0 : DT} {sa : Nat → Nat} {cc : ByteArray} {own : String} {nL : Nat}
/-- one field of the class own's pool: which class, which place -/
def flOK (own : String) (i ci k : Nat) : Prop := ∃ (C : String) (T : u_T) (N : Nat) (ty0 : Nat → FieldType), vwCl[ci]? = some (C, T, N) ∧ (∀ w ∈ u_ws C T N, w ∈ gT) ∧ k < N ∧ N = fN ci ∧ ci < 10 ∧ Cond.fieldLink own i C (T k).2.1 (T k).2.2.1 ∈ gT ∧ (T k).1 = C ∧ (∀ k, k < N → parseFieldDescriptor (T k).2.2.1 = some (ty0 k)) ∧ (∀ a, a < N → ∀ b, b < N → a ≠ b → (T a).2.1 ≠ (T b).2.1) ∧ (fI ci k = true → parseFieldDescriptor (T k).2.2.1 = some .int ∧ (T k).2.2.2 = false)
def Wc (p : Program) (l : Launch) (e : Env) (R : Room) (s : State) (m : MethodId) (args : Array Value) (below : List Frame) (meth : Method) (c : Code) (cells slots : Nat) (Q0 : State → Prop) (dC : Nat → ClassId) (dI : Nat → Nat → Nat) (cy : Nat → ClassId) (L : List Nat) (K : KT) (G : GT) (D : DT) (g : JFrame) : Prop :=
  ∀ (H : Heap) (locs : List Loc), Rp dC dI cy L K G D H → va_S (aL L) s.heap H locs → W p l e R s m args below meth c H locs cells slots Q0 g
def cOKV (p : Program) (l : Launch) (e : Env) (R : Room) (s : State) (m : MethodId) (args : Array Value) (below : List Frame) (meth : Method) (c : Code) (cells slots : Nat) (Q0 : State → Prop) (dC : Nat → ClassId) (dI : Nat → Nat → Nat) (cy : Nat → ClassId) (L : List Nat) (K : KT) (cc : ByteArray) (nL i n q : Nat) (tr : CT) : Prop :=
  ∀ (pc : Nat) (ls : Array Slot) (b : Nat) (As rest : List Value) (G : GT) (D : DT) (Q' : QT), decode cc pc = .ok (.invokevirtual i, 3) → ls.size = nL → (Value.ref b :: As).length = n → c1 8 rest → (K b).1 = q → tr (.ref b :: As) G D Q' →
    (∀ r G' D', Q' r G' D' → Wc p l e R s m args below meth c cells slots Q0 dC dI cy L K G' D' (F0 m (pc + 3) ls (r.toList ++ rest))) → Wc p l e R s m args below meth c cells slots Q0 dC dI cy L K G D (F0 m pc ls ((.ref b :: As).reverse ++ rest))
def cOKS (p : Program) (l : Launch) (e : Env) (R : Room) (s : State) (m : MethodId) (args : Array Value) (below : List Frame) (meth : Method) (c : Code) (cells slots : Nat) (Q0 : State → Prop) (dC : Nat → ClassId) (dI : Nat → Nat → Nat) (cy : Nat → ClassId) (L : List Nat) (K : KT) (cc : ByteArray) (nL i n : Nat) (tr : CT) : Prop :=
  ∀ (pc : Nat) (ls : Array Slot) (As rest : List Value) (G : GT) (D : DT) (Q' : QT), decode cc pc = .ok (.invokestatic i, 3) → ls.size = nL → As.length = n → c1 8 rest → tr As G D Q' →
    (∀ r G' D', Q' r G' D' → Wc p l e R s m args below meth c cells slots Q0 dC dI cy L K G' D' (F0 m (pc + 3) ls (r.toList ++ rest))) → Wc p l e R s m args below meth c cells slots Q0 dC dI cy L K G D (F0 m pc ls (As.reverse ++ rest))
/-- all that a walk stands on -/
def Cx (p : Program) (s : State) (m : MethodId) (args : Array Value) (c : Code) (dC : Nat → ClassId) (dI : Nat → Nat → Nat) (cy : Nat → ClassId) (L : List Nat) (K : KT) (R0 : DT) (sa : Nat → Nat) (cc : ByteArray) (own : String) (nL : Nat) : Prop :=
  CallFix p m c cc nL s args gT own ∧ Pp L K ∧ Pk dC dI cy L K R0 sa s s.heap
theorem w_get (X : Cx p s m args c dC dI cy L K R0 sa cc own nL) {i ci k a pc : Nat} {ls : Array Slot} {rest : List Value} {G : GT} {D : DT} (hf : flOK own i ci k) (ha : (K a).1 = ci) (hdg : decode cc pc = .ok (.getfield i, 3))
    (kk : Wc p l e R s m args below meth c cells slots Q0 dC dI cy L K G D (F0 m (pc + 3) ls ((if fI ci k = true then .int (D a (nI k)) else va_rf (G a (nI k))) :: rest))) : Wc p l e R s m args below meth c cells slots Q0 dC dI cy L K G D (F0 m pc ls (.ref a :: rest)) := by
  intro H locs hP hS
  obtain ⟨⟨hx, hb, hml, hown, hts⟩, ⟨hn, hin, hlen⟩, hK, -⟩ := X
  obtain ⟨C, T, N, ty0, f1, f2, f3, f4, f5, f6, f7, f8, f9, f10⟩ := hf
  obtain ⟨q, hq⟩ := va_pl_get (X := []) (f := eD cy K G D) (hin a (by omega))
  rw [eD_obj ha f5] at hq
  refine va_get (D := (dC, dI)) (T := T) (N := N) (C := C) hx hb hts f2 hown hK hP q hq f1 k f3 (hts _ f6) (fun _ h => by rw [← f7]; exact h) ?_ hdg (kk H locs hP hS)
  rw [List.getElem?_map, List.getElem?_range (by omega)]
  rfl
theorem w_put (X : Cx p s m args c dC dI cy L K R0 sa cc own nL) {i ci k a pc : Nat} {x : Int32} {ls : Array Slot} {rest : List Value} {G : GT} {D : DT} (hf : flOK own i ci k) (ha : (K a).1 = ci) (hI : fI ci k = true) (hdg : decode cc pc = .ok (.putfield i, 3))
    (kk : Wc p l e R s m args below meth c cells slots Q0 dC dI cy L K G (uD D a (nI k) x) (F0 m (pc + 3) ls rest)) : Wc p l e R s m args below meth c cells slots Q0 dC dI cy L K G D (F0 m pc ls (.int x :: .ref a :: rest)) := by
  intro H locs hP hS
  obtain ⟨⟨hx, hb, hml, hown, hts⟩, ⟨hn, hin, hlen⟩, hK, -⟩ := X
  obtain ⟨C, T, N, ty0, f1, f2, f3, f4, f5, f6, f7, f8, f9, f10⟩ := hf
  obtain ⟨g1, g2⟩ := f10 hI
  have hL := hin a (by omega)
  obtain ⟨q, hq⟩ := va_pl_get (X := []) (f := eD cy K G D) hL
  have hq' := hq
  rw [eD_obj ha f5] at hq'
  refine va_put (D := (dC, dI)) (T := T) (N := N) (C := C) (ty := .int) (v := .int x) hx hb hts f2 ty0 f8 f9 hown hK hP (wD hn _) hS q hq' f1 k f3 (hts _ f6) (fun _ h => by rw [← f7]; exact h) g2 g1 rfl rfl (by simp; omega) hdg (fun H1 locs1 hP1 _ hS1 => kk H1 locs1 ?_ hS1)
  have e := va_pl_set (X := []) (e := (.inr (ci, ((List.range (fN ci)).map (fun i => if fI ci i = true then Value.int (D a (nI i)) else va_rf (G a (nI i)))).set k (.int x)))) (wD hn (eD cy K G D)) hL hq
  unfold Rp
  rw [← va_pl_congr (L := L) (eD_put (cy := cy) (G := G) (D := D) (x := x) ha f5 hI (by omega))]
  rw [List.nil_append, List.nil_append] at e
  rw [← e]
  exact hP1
theorem w_iald (X : Cx p s m args c dC dI cy L K R0 sa cc own nL) {i : Int32} {a pc : Nat} {ls : Array Slot} {rest : List Value} {G : GT} {D : DT} (ha : (K a).1 = 10) (hi : inr i (K a).2) (hdg : decode cc pc = .ok (.iaload, 1))
    (kk : Wc p l e R s m args below meth c cells slots Q0 dC dI cy L K G D (F0 m (pc + 1) ls (.int (D a i) :: rest))) : Wc p l e R s m args below meth c cells slots Q0 dC dI cy L K G D (F0 m pc ls (.int i :: .ref a :: rest)) := by
  intro H locs hP hS
  obtain ⟨⟨hx, hb, hml, hown, hts⟩, ⟨hn, hin, hlen⟩, hK, -⟩ := X
  obtain ⟨j, hj, rfl⟩ := inr_nat hi (hlen a)
  obtain ⟨q, hq⟩ := va_pl_get (X := []) (f := eD cy K G D) (hin a (by omega))
  rw [eD_arr ha (by decide) (by decide)] at hq
  refine va_iald hx hb hK hP q 0 hq rfl (vp_in_nI hj (hlen a)) hdg ?_
  have hc : (nI j).toNatClampNeg = j := nI_clamp (Nat.lt_trans hj (hlen a))
  rw [hc, if_pos hj]
  exact kk H locs hP hS
theorem w_bald (X : Cx p s m args c dC dI cy L K R0 sa cc own nL) {i : Int32} {a pc : Nat} {ls : Array Slot} {rest : List Value} {G : GT} {D : DT} (ha : (K a).1 = 11) (hi : inr i (K a).2) (hdg : decode cc pc = .ok (.baload, 1))
    (kk : Wc p l e R s m args below meth c cells slots Q0 dC dI cy L K G D (F0 m (pc + 1) ls (.int (D a i) :: rest))) : Wc p l e R s m args below meth c cells slots Q0 dC dI cy L K G D (F0 m pc ls (.int i :: .ref a :: rest)) := by
  intro H locs hP hS
  obtain ⟨⟨hx, hb, hml, hown, hts⟩, ⟨hn, hin, hlen⟩, hK, -⟩ := X
  obtain ⟨j, hj, rfl⟩ := inr_nat hi (hlen a)
  obtain ⟨q, hq⟩ := va_pl_get (X := []) (f := eD cy K G D) (hin a (by omega))
  rw [eD_arr ha (by decide) (by decide)] at hq
  refine va_zald hx hb hK hP q 1 hq rfl (vp_in_nI hj (hlen a)) hdg ?_
  have hc : (nI j).toNatClampNeg = j := nI_clamp (Nat.lt_trans hj (hlen a))
  rw [hc, if_pos hj]
  exact kk H locs hP hS
theorem w_ro (X : Cx p s m args c dC dI cy L K R0 sa cc own nL) {i : Int32} {a pc : Nat} {ls : Array Slot} {rest : List Value} {G : GT} {D : DT} (ha : (K a).1 = 20) (hi : inr i (K a).2) (hdg : decode cc pc = .ok (.iaload, 1))
    (kk : Wc p l e R s m args below meth c cells slots Q0 dC dI cy L K G D (F0 m (pc + 1) ls (.int (R0 a i) :: rest))) : Wc p l e R s m args below meth c cells slots Q0 dC dI cy L K G D (F0 m pc ls (.int i :: .ref a :: rest)) := by
  intro H locs hP hS
  obtain ⟨⟨hx, hb, hml, hown, hts⟩, ⟨hn, hin, hlen⟩, hK, hN, hT, -⟩ := X
  obtain ⟨j, hj, rfl⟩ := inr_nat hi (hlen a)
  have hc : (nI j).toNatClampNeg = j := nI_clamp (Nat.lt_trans hj (hlen a))
  refine va_ti hx hb (hT a ha) hS (vp_in_nI hj (hlen a)) (v := .int (R0 a (nI j))) (by rw [hc]) hdg (kk H locs hP hS)
theorem w_rolen (X : Cx p s m args c dC dI cy L K R0 sa cc own nL) {a pc : Nat} {ls : Array Slot} {rest : List Value} {G : GT} {D : DT} (ha : (K a).1 = 20) (hdg : decode cc pc = .ok (.arraylength, 1))
    (kk : Wc p l e R s m args below meth c cells slots Q0 dC dI cy L K G D (F0 m (pc + 1) ls (.int (nI (K a).2) :: rest))) : Wc p l e R s m args below meth c cells slots Q0 dC dI cy L K G D (F0 m pc ls (.ref a :: rest)) := by
  intro H locs hP hS
  obtain ⟨⟨hx, hb, hml, hown, hts⟩, ⟨hn, hin, hlen⟩, hK, hN, hT, -⟩ := X
  exact va_tlen hx hb (hT a ha) hS rfl hdg (kk H locs hP hS)
theorem w_gets (X : Cx p s m args c dC dI cy L K R0 sa cc own nL) {i j pc : Nat} {ls : Array Slot} {rest : List Value} {G : GT} {D : DT} (hj : j < 4) (hf : Cond.fieldLink own i RX5 (stn j) "[I" ∈ gT) (hdg : decode cc pc = .ok (.getstatic i, 3))
    (kk : Wc p l e R s m args below meth c cells slots Q0 dC dI cy L K G D (F0 m (pc + 3) ls (.ref (sa j) :: rest))) : Wc p l e R s m args below meth c cells slots Q0 dC dI cy L K G D (F0 m pc ls rest) := by
  intro H locs hP hS
  obtain ⟨⟨hx, hb, hml, hown, hts⟩, ⟨hn, hin, hlen⟩, hK, hN, hT, hZ⟩ := X
  exact va_gets hx hb (hZ j hj) hS hown (hts _ hf) (fun _ h => h) hdg (kk H locs hP hS)
theorem w_aald (X : Cx p s m args c dC dI cy L K R0 sa cc own nL) {i : Int32} {a pc : Nat} {ls : Array Slot} {rest : List Value} {G : GT} {D : DT} (ha : 13 ≤ (K a).1 ∧ (K a).1 ≤ 15) (hi : inr i (K a).2) (hdg : decode cc pc = .ok (.aaload, 1))
    (kk : Wc p l e R s m args below meth c cells slots Q0 dC dI cy L K G D (F0 m (pc + 1) ls (va_rf (G a i) :: rest))) : Wc p l e R s m args below meth c cells slots Q0 dC dI cy L K G D (F0 m pc ls (.int i :: .ref a :: rest)) := by
  intro H locs hP hS
  obtain ⟨⟨hx, hb, hml, hown, hts⟩, ⟨hn, hin, hlen⟩, hK, -⟩ := X
  obtain ⟨j, hj, rfl⟩ := inr_nat hi (hlen a)
  obtain ⟨q, hq⟩ := va_pl_get (X := []) (f := eD cy K G D) (hin a (by omega))
  rw [eD_ref rfl ha.1] at hq
  have hc : (nI j).toNatClampNeg = j := nI_clamp (Nat.lt_trans hj (hlen a))
  have hlt : (nI j).toNatClampNeg < (K a).2 := by rw [hc]; exact hj
  have key : ∀ (t : Nat) (ty : FieldType), (tysL cy)[t]? = some (cy (K a).1, ty) → ((∃ n, ty = .object n) ∨ ∃ t, ty = .array t) → W p l e R s m args below meth c H locs cells slots Q0 (F0 m pc ls (.int (nI j) :: .ref a :: rest)) := by
    intro t ty ht hty
    refine W.aald (v := va_rf (G a (nI j))) (ty := ty) hx hb (hP q _ hq) ((hK.2 t _ ht).1 (K a).2 (fun k => va_rf (if k < (K a).2 then G a (nI k) else none))) (by rcases hty with ⟨n, rfl⟩ | ⟨n, rfl⟩ <;> rfl) (fun q => by cases q) (by show ¬ (nI j < 0 ∨ (arrV _ _ _).slots.size ≤ _); rw [arrV_size]; exact vp_in_nI hj (hlen a)) ?_ rfl rfl hdg (kk H locs hP hS)
    show (arrV _ _ _).slots[_]? = _
    rw [arrV_read _ _ hlt, hc]
    simp only [if_pos hj]
  have h3 : (K a).1 = 13 ∨ (K a).1 = 14 ∨ (K a).1 = 15 := by omega
  rcases h3 with h | h | h
  · exact key 3 (.array .int) (by rw [h]; rfl) (Or.inr ⟨_, rfl⟩)
  · exact key 4 (.object RX1) (by rw [h]; rfl) (Or.inl ⟨_, rfl⟩)
  · exact key 5 (.object RX2) (by rw [h]; rfl) (Or.inl ⟨_, rfl⟩)
theorem w_iast (X : Cx p s m args c dC dI cy L K R0 sa cc own nL) {i x : Int32} {a pc : Nat} {ls : Array Slot} {rest : List Value} {G : GT} {D : DT} (ha : (K a).1 = 10) (hi : inr i (K a).2) (hdg : decode cc pc = .ok (.iastore, 1))
    (kk : Wc p l e R s m args below meth c cells slots Q0 dC dI cy L K G (uD D a i x) (F0 m (pc + 1) ls rest)) : Wc p l e R s m args below meth c cells slots Q0 dC dI cy L K G D (F0 m pc ls (.int x :: .int i :: .ref a :: rest)) := by
  intro H locs hP hS
  obtain ⟨⟨hx, hb, hml, hown, hts⟩, ⟨hn, hin, hlen⟩, hK, -⟩ := X
  obtain ⟨j, hj, rfl⟩ := inr_nat hi (hlen a)
  have hL := hin a (by omega)
  obtain ⟨q, hq⟩ := va_pl_get (X := []) (f := eD cy K G D) hL
  have hq' := hq
  rw [eD_arr ha (by decide) (by decide)] at hq'
  refine va_iast hx hb hK hP (wD hn _) hS q 0 hq' rfl (vp_in_nI hj (hlen a)) hdg (fun H1 locs1 hP1 _ hS1 => kk H1 locs1 ?_ hS1)
  have hc : (nI j).toNatClampNeg = j := nI_clamp (Nat.lt_trans hj (hlen a))
  rw [hc] at hP1
  have e := va_pl_set (X := []) (e := (.inl (cy 10, (K a).2, .inl (upd (fun j => if j < (K a).2 then D a (nI j) else 0) j x)))) (wD hn (eD cy K G D)) hL hq
  unfold Rp
  rw [← va_pl_congr (L := L) (eD_st (cy := cy) (G := G) (D := D) (x := x) ha (by decide) (by decide) hj (hlen a))]
  rw [List.nil_append, List.nil_append] at e
  rw [← e]
  exact hP1
theorem w_bast (X : Cx p s m args c dC dI cy L K R0 sa cc own nL) {i x : Int32} {a pc : Nat} {ls : Array Slot} {rest : List Value} {G : GT} {D : DT} (ha : (K a).1 = 11) (hi : inr i (K a).2) (h01 : x = 0 ∨ x = 1) (hdg : decode cc pc = .ok (.bastore, 1))
    (kk : Wc p l e R s m args below meth c cells slots Q0 dC dI cy L K G (uD D a i x) (F0 m (pc + 1) ls rest)) : Wc p l e R s m args below meth c cells slots Q0 dC dI cy L K G D (F0 m pc ls (.int x :: .int i :: .ref a :: rest)) := by
  intro H locs hP hS
  obtain ⟨⟨hx, hb, hml, hown, hts⟩, ⟨hn, hin, hlen⟩, hK, -⟩ := X
  obtain ⟨j, hj, rfl⟩ := inr_nat hi (hlen a)
  have hL := hin a (by omega)
  obtain ⟨q, hq⟩ := va_pl_get (X := []) (f := eD cy K G D) hL
  have hq' := hq
  rw [eD_arr ha (by decide) (by decide)] at hq'
  refine va_zast hx hb hK hP (wD hn _) hS q 1 hq' rfl (vp_in_nI hj (hlen a)) hdg (fun H1 locs1 hP1 _ hS1 => kk H1 locs1 ?_ hS1)
  have hc : (nI j).toNatClampNeg = j := nI_clamp (Nat.lt_trans hj (hlen a))
  have hv : vp_nar .boolean x = x := by rcases h01 with rfl | rfl <;> rfl
  rw [hc, hv] at hP1
  have e := va_pl_set (X := []) (e := (.inl (cy 11, (K a).2, .inl (upd (fun j => if j < (K a).2 then D a (nI j) else 0) j x)))) (wD hn (eD cy K G D)) hL hq
  unfold Rp
  rw [← va_pl_congr (L := L) (eD_st (cy := cy) (G := G) (D := D) (x := x) ha (by decide) (by decide) hj (hlen a))]
  rw [List.nil_append, List.nil_append] at e
  rw [← e]
  exact hP1
theorem char_id {x : Int32} (h0 : 0 ≤ x) (h1 : x < 65536) : (x.toUInt32 % 65536).toInt32 = x := by
  obtain ⟨j, hj, rfl⟩ := nI_of (x := x) (Int32.not_lt.mpr h0)
  have h : j < 65536 := (nI_ltI hj (by decide)).mp (show nI j < nI 65536 from h1)
  rw [pk_char, pk_tn (by omega), Nat.mod_eq_of_lt h]
theorem w_aast (X : Cx p s m args c dC dI cy L K R0 sa cc own nL) {i : Int32} {a v pc : Nat} {ls : Array Slot} {rest : List Value} {G : GT} {D : DT} (ha : (K a).1 = 14) (hv : (K v).1 = 1) (hi : inr i (K a).2) (hdg : decode cc pc = .ok (.aastore, 1))
    (kk : Wc p l e R s m args below meth c cells slots Q0 dC dI cy L K (uG G a i v) D (F0 m (pc + 1) ls rest)) : Wc p l e R s m args below meth c cells slots Q0 dC dI cy L K G D (F0 m pc ls (.ref v :: .int i :: .ref a :: rest)) := by
  intro H locs hP hS
  obtain ⟨⟨hx, hb, hml, hown, hts⟩, ⟨hn, hin, hlen⟩, hK, -⟩ := X
  obtain ⟨j, hj, rfl⟩ := inr_nat hi (hlen a)
  have hL := hin a (by omega)
  obtain ⟨q, hq⟩ := va_pl_get (X := []) (f := eD cy K G D) hL
  obtain ⟨qv, hqv⟩ := va_pl_get (X := []) (f := eD cy K G D) (hin v (by omega))
  rw [eD_obj hv (by decide)] at hqv
  have hq' := hq
  rw [eD_ref ha (by decide)] at hq'
  refine va_astq hx hb hK hP (wD hn _) hS q 4 qv 1 (r := (RX1, TX1, 3)) hq' rfl hqv rfl (vp_in_nI hj (hlen a)) hdg (fun H1 locs1 hP1 _ hS1 => kk H1 locs1 ?_ hS1)
  have hc : (nI j).toNatClampNeg = j := nI_clamp (Nat.lt_trans hj (hlen a))
  rw [hc] at hP1
  have e := va_pl_set (X := []) (e := (.inl (cy 14, (K a).2, .inr (.inr (.inr (.inr (va_up (fun j => if j < (K a).2 then G a (nI j) else none) j (some v)))))))) (wD hn (eD cy K G D)) hL hq
  unfold Rp
  rw [← va_pl_congr (L := L) (eD_str (cy := cy) (G := G) (D := D) (v := v) ha (by decide) hj (hlen a))]
  rw [List.nil_append, List.nil_append] at e
  rw [← e]
  exact hP1
end SND
