/-! ===== a method by its walk: Sat out of the engine's statement ===== -/
theorem lg_sl_cat : ∀ (vs : List Value), (∀ v ∈ vs, cat1 v) → (lg_sl vs).length = vs.length
  | [], _ => rfl
  | v :: vs, h => by
    have hv := cat1_of (h v List.mem_cons_self)
    have ih := lg_sl_cat vs (fun w hw => h w (List.mem_cons_of_mem _ hw))
    unfold lg_sl at ih ⊢
    rw [List.flatMap_cons, List.length_append, ih]
    simp [hv]
    omega
theorem lv_args_at : ∀ (vs : List Value) (i : Nat), (∀ v ∈ vs, cat1 v) → ∀ (j : Nat) (v : Value), vs[j]? = some v → (i + j, v) ∈ lv_args i vs
  | [], _, _, j, v, h => by simp at h
  | w :: vs, i, hc, 0, v, h => by
    simp at h
    subst h
    exact List.mem_cons_self
  | w :: vs, i, hc, j + 1, v, h => by
    rw [List.getElem?_cons_succ] at h
    have hw := cat1_of (hc w List.mem_cons_self)
    have ih := lv_args_at vs (i + 1) (fun u hu => hc u (List.mem_cons_of_mem _ hu)) j v h
    unfold lv_args
    rw [if_neg (by omega)]
    rw [show i + (j + 1) = i + 1 + j by omega]
    exact List.mem_cons_of_mem _ ih
def L0 (As : List Value) (n : Nat) : LT := As.map some ++ List.replicate (n - As.length) none
theorem lsOK.entry {As : List Value} {n : Nat} (hlen : As.length ≤ n) (hc : ∀ v ∈ As, cat1 v) : lsOK ((lg_sl As ++ List.replicate (n - (lg_sl As).length) Slot.unset).toArray) n (L0 As n) := by
  have h := lv_entry As (n := n) (by rw [lg_sl_cat As hc]; exact hlen)
  have key : ∀ (i : Nat) (v : Value), (L0 As n)[i]? = some (some v) → As[i]? = some v := by
    intro i v hv
    unfold L0 at hv
    by_cases hi : i < (As.map some).length
    · rw [List.getElem?_append_left hi, List.getElem?_map] at hv
      cases hA : As[i]? with
      | none => rw [hA] at hv; cases hv
      | some w => rw [hA] at hv; cases hv; rfl
    · rw [List.getElem?_append_right (by omega), List.getElem?_replicate] at hv
      split at hv
      · cases hv
      · cases hv
  refine ⟨by simp [L0]; omega, fun i v hv => cat1_of (hc v (List.mem_of_getElem? (key i v hv))), _, h, fun i v hv => ?_⟩
  have := lv_args_at As 0 hc i v (key i v hv)
  rwa [Nat.zero_add] at this
abbrev TR : Type := KT → DT → (Nat → Nat) → CT
def callsV (l : Launch) (R : Room) (own : String) (na rc : Nat → Nat) (cv : KT → DT → (Nat → Nat) → Nat → CT) : Prop :=
  ∀ (p : Program) (e : Env) (s : State) (m : MethodId) (args : Array Value) (below : List Frame) (meth : Method) (c : Code) (cells slots : Nat) (Q0 : State → Prop) (dC : Nat → ClassId) (dI : Nat → Nat → Nat) (cy : Nat → ClassId) (L : List Nat) (K : KT) (R0 : DT) (sa : Nat → Nat) (cc : ByteArray) (nL : Nat), Cx p s m args c dC dI cy L K R0 sa cc own nL → cells ≤ R.cells → slots ≤ R.slots →
    ∀ i, cOKV p l e R s m args below meth c cells slots Q0 dC dI cy L K cc nL i (na i) (rc i) (cv K R0 sa i)
def callsS (l : Launch) (R : Room) (own : String) (na : Nat → Nat) (cs : KT → DT → (Nat → Nat) → Nat → CT) : Prop :=
  ∀ (p : Program) (e : Env) (s : State) (m : MethodId) (args : Array Value) (below : List Frame) (meth : Method) (c : Code) (cells slots : Nat) (Q0 : State → Prop) (dC : Nat → ClassId) (dI : Nat → Nat → Nat) (cy : Nat → ClassId) (L : List Nat) (K : KT) (R0 : DT) (sa : Nat → Nat) (cc : ByteArray) (nL : Nat), Cx p s m args c dC dI cy L K R0 sa cc own nL → cells ≤ R.cells → slots ≤ R.slots →
    ∀ i, cOKS p l e R s m args below meth c cells slots Q0 dC dI cy L K cc nL i (na i) (cs K R0 sa i)
def cNone : KT → DT → (Nat → Nat) → Nat → CT := fun _ _ _ _ _ _ _ _ => False
def cAdd (i : Nat) (tr : TR) (tb : KT → DT → (Nat → Nat) → Nat → CT) : KT → DT → (Nat → Nat) → Nat → CT := fun K R0 sa j => if j = i then tr K R0 sa else tb K R0 sa j
theorem cvNone {l : Launch} {R : Room} {own : String} {na rc : Nat → Nat} : callsV l R own na rc cNone := by
  intro p e s m args below meth c cells slots Q0 dC dI cy L K R0 sa cc nL X hc hs i pc ls b As rest G D Q' h1 h2 h3 h4 h5 h6
  exact False.elim h6
theorem csNone {l : Launch} {R : Room} {own : String} {na : Nat → Nat} : callsS l R own na cNone := by
  intro p e s m args below meth c cells slots Q0 dC dI cy L K R0 sa cc nL X hc hs i pc ls As rest G D Q' h1 h2 h3 h4 h6
  exact False.elim h6
theorem cvAdd {l : Launch} {R : Room} {own : String} {na rc : Nat → Nat} {cv : KT → DT → (Nat → Nat) → Nat → CT} {i n ci : Nat} {y : MethodName} {bytes : ByteArray} {maxL : Nat} {ret : Option FieldType} {h : Nat} {tr : TR} (hM : Sat l y bytes maxL ret h tr) (hl : lkV own i y bytes maxL ret n ci) (hn : na i = n) (hr : rc i = ci) (hR : h + 1 ≤ R.frames ∧ 8 + (maxL + 11) + 40 * h ≤ R.locals) (hr0 : callsV l R own na rc cv) : callsV l R own na rc (cAdd i tr cv) := by
  intro p e s m args below meth c cells slots Q0 dC dI cy L K R0 sa cc nL X hc hs j
  unfold cAdd
  by_cases ej : j = i
  · subst ej
    rw [if_pos rfl, hn, hr]
    exact okV X hM hl hR hc hs
  · rw [if_neg ej]
    exact hr0 p e s m args below meth c cells slots Q0 dC dI cy L K R0 sa cc nL X hc hs j
theorem csAdd {l : Launch} {R : Room} {own : String} {na : Nat → Nat} {cs : KT → DT → (Nat → Nat) → Nat → CT} {i n : Nat} {y : MethodName} {bytes : ByteArray} {maxL : Nat} {ret : Option FieldType} {h : Nat} {tr : TR} (hM : Sat l y bytes maxL ret h tr) (hl : lkS own i y bytes maxL ret n) (hn : na i = n) (hR : h + 1 ≤ R.frames ∧ 8 + (maxL + 11) + 40 * h ≤ R.locals) (hr0 : callsS l R own na cs) : callsS l R own na (cAdd i tr cs) := by
  intro p e s m args below meth c cells slots Q0 dC dI cy L K R0 sa cc nL X hc hs j
  unfold cAdd
  by_cases ej : j = i
  · subst ej
    rw [if_pos rfl, hn]
    exact okS X hM hl hR hc hs
  · rw [if_neg ej]
    exact hr0 p e s m args below meth c cells slots Q0 dC dI cy L K R0 sa cc nL X hc hs j
theorem csAddN {l : Launch} {R : Room} {na : Nat → Nat} {cs : KT → DT → (Nat → Nat) → Nat → CT} {n : Nat} {bytes : ByteArray} {maxL : Nat} {ret : Option FieldType} {h : Nat} {tr : TR} (hM : Sat l yX5_fineFor bytes maxL ret h tr) (l2 : Cond.static yX5_fineFor ∈ gT) (l4 : Cond.initialized yX5_fineFor.cls ∈ gT) (l5 : Cond.code yX5_fineFor bytes maxL ret ∈ gT) (l7 : (parseMethodDescriptor yX5_fineFor.desc).map (fun d => d.parameters.length) = some n) (hn : na 83 = n) (hR : h + 1 ≤ R.frames ∧ 8 + (maxL + 11) + 40 * h ≤ R.locals) (hr0 : callsS l R RX2 na cs) : callsS l R RX2 na (cAdd 83 tr cs) := by
  intro p e s m args below meth c cells slots Q0 dC dI cy L K R0 sa cc nL X hc hs j
  unfold cAdd
  by_cases ej : j = 83
  · subst ej
    rw [if_pos rfl, hn]
    exact okN X hM l2 l4 l5 l7 hR hc hs
  · rw [if_neg ej]
    exact hr0 p e s m args below meth c cells slots Q0 dC dI cy L K R0 sa cc nL X hc hs j
theorem csMax {l : Launch} {R : Room} {own : String} {na : Nat → Nat} {cs : KT → DT → (Nat → Nat) → Nat → CT} {i : Nat} (l1 : Cond.methodLink own i Lib.Math.max.name ∈ gT) (l2 : Cond.static Lib.Math.max.name ∈ gT) (l3 : Cond.initialized "java/lang/Math" ∈ gT) (l4 : Cond.code Lib.Math.max.name Lib.Math.max.code 2 (some .int) ∈ gT) (hn : na i = 2) (hR : 1 ≤ R.frames ∧ 21 ≤ R.locals) (hr0 : callsS l R own na cs) : callsS l R own na (cAdd i (fun _ _ _ => trMax) cs) := by
  intro p e s m args below meth c cells slots Q0 dC dI cy L K R0 sa cc nL X hc hs j
  unfold cAdd
  by_cases ej : j = i
  · subst ej
    rw [if_pos rfl, hn]
    exact okMax X l1 l2 l3 l4 hR hc hs
  · rw [if_neg ej]
    exact hr0 p e s m args below meth c cells slots Q0 dC dI cy L K R0 sa cc nL X hc hs j
theorem csMin {l : Launch} {R : Room} {own : String} {na : Nat → Nat} {cs : KT → DT → (Nat → Nat) → Nat → CT} {i : Nat} (l1 : Cond.methodLink own i Lib.Math.min.name ∈ gT) (l2 : Cond.static Lib.Math.min.name ∈ gT) (l3 : Cond.initialized "java/lang/Math" ∈ gT) (l4 : Cond.code Lib.Math.min.name Lib.Math.min.code 2 (some .int) ∈ gT) (hn : na i = 2) (hR : 1 ≤ R.frames ∧ 21 ≤ R.locals) (hr0 : callsS l R own na cs) : callsS l R own na (cAdd i (fun _ _ _ => trMin) cs) := by
  intro p e s m args below meth c cells slots Q0 dC dI cy L K R0 sa cc nL X hc hs j
  unfold cAdd
  by_cases ej : j = i
  · subst ej
    rw [if_pos rfl, hn]
    exact okMin X l1 l2 l3 l4 hR hc hs
  · rw [if_neg ej]
    exact hr0 p e s m args below meth c cells slots Q0 dC dI cy L K R0 sa cc nL X hc hs j
theorem csCpy {l : Launch} {R : Room} {own : String} {na : Nat → Nat} {cs : KT → DT → (Nat → Nat) → Nat → CT} {i : Nat} (l1 : Cond.methodLink own i arraycopyName ∈ gT) (l2 : Cond.native arraycopyName ∈ gT) (l3 : Cond.static arraycopyName ∈ gT) (l4 : Cond.initialized "java/lang/System" ∈ gT) (hn : na i = 5) (hR : 1 ≤ R.frames ∧ 8 + (nativeFrameWords "java/lang/System" "arraycopy" 5 + 11) ≤ R.locals) (hr0 : callsS l R own na cs) : callsS l R own na (cAdd i (fun K _ _ => trCpy K) cs) := by
  intro p e s m args below meth c cells slots Q0 dC dI cy L K R0 sa cc nL X hc hs j
  unfold cAdd
  by_cases ej : j = i
  · subst ej
    rw [if_pos rfl, hn]
    exact okCpy X l1 l2 l3 l4 hR
  · rw [if_neg ej]
    exact hr0 p e s m args below meth c cells slots Q0 dC dI cy L K R0 sa cc nL X hc hs j
/-- what is to be shown of a method: its walk's statement -/
def VC (maxL : Nat) (rt : Option FieldType) (fl : Nat → Option (Nat × Nat)) (sg : Nat → Option Nat) (kc : Nat → Option Int32) (na rc : Nat → Nat) (cv cs : Nat → CT) (K : KT) (R0 : DT) (sa : Nat → Nat) (cc : ByteArray) (As : List Value) (G : GT) (D : DT) (Q : QT) : Prop :=
  As.length ≤ maxL ∧ (∀ v ∈ As, cat1 v) ∧ ∃ (hd : List Nat) (I : Nat → Nat → UT) (N M : Nat), wp rt fl sg kc na rc cv cs K R0 sa cc (cutE hd I) Q N 0 (L0 As maxL) [] G D ∧
    ∀ k pc, pc ∈ hd → ∀ LL st G D, I k pc LL st G D → stp rt fl sg kc na rc cv cs K R0 sa cc Q (wp rt fl sg kc na rc cv cs K R0 sa cc (cutB hd I k) Q M) pc LL st G D
theorem sat_of {l : Launch} {y : MethodName} {bytes : ByteArray} {maxL : Nat} {ret : Option FieldType} {h : Nat} {tr : TR} {own : String} {fl : Nat → Option (Nat × Nat)} {sg : Nat → Option Nat} {kc : Nat → Option Int32} {na rc : Nat → Nat} {cv cs : KT → DT → (Nat → Nat) → Nat → CT}
    (hy : plainName y.cls = true) (ho : y.cls = own) (hE : EnvOK own fl sg kc) (hV : callsV l (rmH h) own na rc cv) (hS : callsS l (rmH h) own na cs)
    (vc : ∀ (L : List Nat) (K : KT) (R0 : DT) (sa : Nat → Nat), Pp L K → ∀ (As : List Value) (G : GT) (D : DT) (Q : QT), tr K R0 sa As G D Q → VC maxL ret fl sg kc na rc (cv K R0 sa) (cs K R0 sa) K R0 sa bytes As G D Q) : Sat l y bytes maxL ret h tr := by
  intro dC dI cy L K R0 sa hPp As G D Q htr
  obtain ⟨hlen, hcat, hd, I, N, M, h0, hI⟩ := vc L K R0 sa hPp As G D Q htr
  refine Met.ofW (cc := bytes) (maxL := maxL) (ret := ret) hy rfl ?_
  intro p e s m args below meth c s₁ B hml hv
  obtain ⟨rfl, hPk, hRp⟩ := hv
  have hown : s.vm.findClass own = some m.cls := by rw [← ho]; exact findClass_of_methodNamed B.named
  have hlocks := B.notSynchronized
  have X : Cx p s m As.toArray c dC dI cy L K R0 sa bytes own maxL := ⟨⟨B.exec, B.bytes, hml, hown, fun w hw => atoms_spec (ws := .code y bytes maxL ret :: gT) B.pre w (List.mem_cons_of_mem _ hw)⟩, hPp, hPk⟩
  rw [lg_entry_eq]
  have hl := lsOK.entry hlen hcat
  generalize (lg_sl As ++ List.replicate (maxL - (lg_sl As).length) Slot.unset).toArray = ls at hl ⊢
  have hret : ∀ pc ls v G D, decode bytes pc = .ok (.ireturn, 1) → (∃ ty, ret = some ty ∧ narrow ty (.int v) = .int v) → Q (some (.int v)) G D → Wc p l e (rmH h) s m As.toArray below meth c 0 0 (MQ below (QcU dC dI cy L K Q) As.toArray s 0 0 (aL L)) dC dI cy L K G D (F0 m pc ls [.int v]) := by
    intro pc ls v G D hdg ⟨ty, hty, hn⟩ hq H locs hP hS
    exact W.zret B.exec B.bytes (B.returns.trans hty) hn (fun t ht hW => ⟨⟨_, G, D, rfl, hq, by rw [ht]; exact hP⟩, hS.F ht⟩) hS.2.2 hdg
  have hretv : ∀ pc ls G D, decode bytes pc = .ok (.return_, 1) → ret = none → Q none G D → Wc p l e (rmH h) s m As.toArray below meth c 0 0 (MQ below (QcU dC dI cy L K Q) As.toArray s 0 0 (aL L)) dC dI cy L K G D (F0 m pc ls []) := by
    intro pc ls G D hdg hty hq H locs hP hS
    exact W.vret B.exec B.bytes (B.returns.trans hty) (fun t ht hW => ⟨⟨_, G, D, rfl, hq, by rw [ht]; exact hP⟩, hS.F ht⟩) hS.2.2 hdg
  have hVc := hV p e s m As.toArray below meth c 0 0 (MQ below (QcU dC dI cy L K Q) As.toArray s 0 0 (aL L)) dC dI cy L K R0 sa bytes maxL X (Nat.zero_le _) (Nat.zero_le _)
  have hSc := hS p e s m As.toArray below meth c 0 0 (MQ below (QcU dC dI cy L K Q) As.toArray s 0 0 (aL L)) dC dI cy L K R0 sa bytes maxL X (Nat.zero_le _) (Nat.zero_le _)
  refine wp_sound X hE hVc hSc hret hretv (ct := cutE hd I) ?_ N 0 _ [] G D ls hl h0 s.heap [] hRp va_S.rf
  intro pc C hC LL st G D ls hl hCC
  unfold cutE at hC
  split at hC
  · rename_i hm
    cases hC
    obtain ⟨k, hk⟩ := hCC
    exact loop_sound X hE hVc hSc hret hretv hI k pc hm LL st G D ls hl hk
  · cases hC
