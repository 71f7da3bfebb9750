/-! ===== walks by blocks: the code as a table of straight stretches; every instruction is one equation ===== -/
def wpl (rt : Option FieldType) (fl : Nat → Option (Nat × Nat)) (sg : Nat → Option Nat) (kc : Nat → Option Int32) (na rc : Nat → Nat) (cv cs : Nat → CT) (K : KT) (R0 : DT) (sa : Nat → Nat) (Q : QT) (J : Nat → UT) : List (Instr × Nat) → Nat → UT
  | [], pc => J pc
  | (ins, len) :: r, pc => fun LL st G D => exI rt fl sg kc na rc cv cs K R0 sa Q (fun q => if q = pc + len then wpl rt fl sg kc na rc cv cs K R0 sa Q J r q else J q) pc LL st G D len ins
def lkb : List (Nat × List (Instr × Nat)) → Nat → List (Instr × Nat)
  | [], _ => []
  | (q, c) :: r, pc => if pc = q then c else lkb r pc
def jmp (rt : Option FieldType) (fl : Nat → Option (Nat × Nat)) (sg : Nat → Option Nat) (kc : Nat → Option Int32) (na rc : Nat → Nat) (cv cs : Nat → CT) (K : KT) (R0 : DT) (sa : Nat → Nat) (bl : List (Nat × List (Instr × Nat))) (hd : List Nat) (ct : Nat → UT) (Q : QT) : Nat → Nat → UT
  | 0, _ => fun _ _ _ _ => False
  | n + 1, pc => if pc ∈ hd then ct pc else wpl rt fl sg kc na rc cv cs K R0 sa Q (jmp rt fl sg kc na rc cv cs K R0 sa bl hd ct Q n) (lkb bl pc) pc
def okc (cc : ByteArray) : List (Instr × Nat) → Nat → Bool
  | [], _ => true
  | (ins, len) :: r, pc => decide (decode cc pc = .ok (ins, len)) && okc cc r (pc + len)
theorem lkb_ok {cc : ByteArray} : ∀ {bl : List (Nat × List (Instr × Nat))}, bl.all (fun b => okc cc b.2 b.1) = true → ∀ pc, okc cc (lkb bl pc) pc = true
  | [], _, pc => rfl
  | (q, c) :: r, h, pc => by
    rw [List.all_cons, Bool.and_eq_true] at h
    unfold lkb
    split
    · rename_i e
      subst e
      exact h.1
    · exact lkb_ok h.2 pc
section FLW
variable {p : Program} {l : Launch} {e : Env} {R : Room} {s : State} {m : MethodId} {args : Array Value} {below : List Frame} {meth : Method} {c : Code} {cells slots : Nat} {Q0 : State → Prop}
variable {dC : Nat → ClassId} {dI : Nat → Nat → Nat} {cy : Nat → ClassId} {L : List Nat} {K : KT} {R0 : DT} {sa : Nat → Nat} {cc : ByteArray} {own : String} {nL : Nat}
variable {rt : Option FieldType} {fl : Nat → Option (Nat × Nat)} {sg : Nat → Option Nat} {kc : Nat → Option Int32} {na rc : Nat → Nat} {cv cs : Nat → CT} {Q : QT}
theorem wpl_sound (X : Cx p s m args c dC dI cy L K R0 sa cc own nL) (hE : EnvOK own fl sg kc) (hV : ∀ i, cOKV p l e R s m args below meth c cells slots Q0 dC dI cy L K cc nL i (na i) (rc i) (cv i)) (hSt : ∀ i, cOKS p l e R s m args below meth c cells slots Q0 dC dI cy L K cc nL i (na i) (cs i))
    (hret : ∀ pc ls v G D, decode cc pc = .ok (.ireturn, 1) → (∃ ty, rt = some ty ∧ narrow ty (.int v) = .int v) → Q (some (.int v)) G D → Wc p l e R s m args below meth c cells slots Q0 dC dI cy L K G D (F0 m pc ls [.int v]))
    (hretv : ∀ pc ls G D, decode cc pc = .ok (.return_, 1) → rt = none → Q none G D → Wc p l e R s m args below meth c cells slots Q0 dC dI cy L K G D (F0 m pc ls []))
    {J : Nat → UT} (hJ : ∀ pc LL st G D ls, lsOK ls nL LL → J pc LL st G D → Wc p l e R s m args below meth c cells slots Q0 dC dI cy L K G D (F0 m pc ls st)) :
    ∀ (code : List (Instr × Nat)) (pc : Nat), okc cc code pc = true → ∀ LL st G D ls, lsOK ls nL LL → wpl rt fl sg kc na rc cv cs K R0 sa Q J code pc LL st G D → Wc p l e R s m args below meth c cells slots Q0 dC dI cy L K G D (F0 m pc ls st)
  | [], pc, _, LL, st, G, D, ls, hl, h => hJ pc LL st G D ls hl h
  | (ins, len) :: r, pc, hok, LL, st, G, D, ls, hl, h => by
    unfold okc at hok
    rw [Bool.and_eq_true, decide_eq_true_eq] at hok
    have h' : exI rt fl sg kc na rc cv cs K R0 sa Q (fun q => if q = pc + len then wpl rt fl sg kc na rc cv cs K R0 sa Q J r q else J q) pc LL st G D len ins := h
    refine exI_sound X hE hV hSt hret hretv (fun q LL st G D ls hl h => ?_) hok.1 hl h'
    split at h
    · rename_i e
      subst e
      exact wpl_sound X hE hV hSt hret hretv hJ r _ hok.2 LL st G D ls hl h
    · exact hJ q LL st G D ls hl h
theorem jmp_sound (X : Cx p s m args c dC dI cy L K R0 sa cc own nL) (hE : EnvOK own fl sg kc) (hV : ∀ i, cOKV p l e R s m args below meth c cells slots Q0 dC dI cy L K cc nL i (na i) (rc i) (cv i)) (hSt : ∀ i, cOKS p l e R s m args below meth c cells slots Q0 dC dI cy L K cc nL i (na i) (cs i))
    (hret : ∀ pc ls v G D, decode cc pc = .ok (.ireturn, 1) → (∃ ty, rt = some ty ∧ narrow ty (.int v) = .int v) → Q (some (.int v)) G D → Wc p l e R s m args below meth c cells slots Q0 dC dI cy L K G D (F0 m pc ls [.int v]))
    (hretv : ∀ pc ls G D, decode cc pc = .ok (.return_, 1) → rt = none → Q none G D → Wc p l e R s m args below meth c cells slots Q0 dC dI cy L K G D (F0 m pc ls []))
    {bl : List (Nat × List (Instr × Nat))} (hbl : bl.all (fun b => okc cc b.2 b.1) = true) {hd : List Nat} {ct : Nat → UT} (hct : ∀ pc, pc ∈ hd → ∀ LL st G D ls, lsOK ls nL LL → ct pc LL st G D → Wc p l e R s m args below meth c cells slots Q0 dC dI cy L K G D (F0 m pc ls st)) :
    ∀ (n pc : Nat) (LL : LT) (st : List Value) (G : GT) (D : DT) (ls : Array Slot), lsOK ls nL LL → jmp rt fl sg kc na rc cv cs K R0 sa bl hd ct Q n pc LL st G D → Wc p l e R s m args below meth c cells slots Q0 dC dI cy L K G D (F0 m pc ls st)
  | 0, _, _, _, _, _, _, _, h => False.elim h
  | n + 1, pc, LL, st, G, D, ls, hl, h => by
    unfold jmp at h
    split at h
    · rename_i hm
      exact hct pc hm LL st G D ls hl h
    · exact wpl_sound X hE hV hSt hret hretv (fun pc LL st G D ls hl h => jmp_sound X hE hV hSt hret hretv hbl hct n pc LL st G D ls hl h) _ pc (lkb_ok hbl pc) LL st G D ls hl h
end FLW
/-- what is to be shown of a method: its walk's statement -/
def VCb (maxL : Nat) (rt : Option FieldType) (fl : Nat → Option (Nat × Nat)) (sg : Nat → Option Nat) (kc : Nat → Option Int32) (na rc : Nat → Nat) (cv cs : Nat → CT) (K : KT) (R0 : DT) (sa : Nat → Nat) (bl : List (Nat × List (Instr × Nat))) (As : List Value) (G : GT) (D : DT) (Q : QT) : Prop :=
  As.length ≤ maxL ∧ (∀ v ∈ As, cat1 v) ∧ ∃ (hd : List Nat) (I : Nat → Nat → UT) (N M : Nat), jmp rt fl sg kc na rc cv cs K R0 sa bl hd (fun pc LL st G D => ∃ k, I k pc LL st G D) Q N 0 (L0 As maxL) [] G D ∧
    ∀ k pc, pc ∈ hd → ∀ LL st G D, I k pc LL st G D → wpl rt fl sg kc na rc cv cs K R0 sa Q (jmp rt fl sg kc na rc cv cs K R0 sa bl hd (fun pc LL st G D => ∃ k', k' < k ∧ I k' pc LL st G D) Q M) (lkb bl pc) pc LL st G D
theorem satb {l : Launch} {y : MethodName} {bytes : ByteArray} {maxL : Nat} {ret : Option FieldType} {h : Nat} {tr : TR} {own : String} {fl : Nat → Option (Nat × Nat)} {sg : Nat → Option Nat} {kc : Nat → Option Int32} {na rc : Nat → Nat} {cv cs : KT → DT → (Nat → Nat) → Nat → CT} {bl : List (Nat × List (Instr × Nat))}
    (hy : plainName y.cls = true) (ho : y.cls = own) (hE : EnvOK own fl sg kc) (hbl : bl.all (fun b => okc bytes b.2 b.1) = true) (hV : callsV l (rmH h) own na rc cv) (hS : callsS l (rmH h) own na cs)
    (vc : ∀ (L : List Nat) (K : KT) (R0 : DT) (sa : Nat → Nat), Pp L K → ∀ (As : List Value) (G : GT) (D : DT) (Q : QT), tr K R0 sa As G D Q → VCb maxL ret fl sg kc na rc (cv K R0 sa) (cs K R0 sa) K R0 sa bl As G D Q) : Sat l y bytes maxL ret h tr := by
  intro dC dI cy L K R0 sa hPp As G D Q htr
  obtain ⟨hlen, hcat, hd, I, N, M, h0, hI⟩ := vc L K R0 sa hPp As G D Q htr
  refine Met.ofW (cc := bytes) (maxL := maxL) (ret := ret) hy rfl ?_
  intro p e s m args below meth c s₁ B hml hv
  obtain ⟨rfl, hPk, hRp⟩ := hv
  have hown : s.vm.findClass own = some m.cls := by rw [← ho]; exact findClass_of_methodNamed B.named
  have hlocks := B.notSynchronized
  have X : Cx p s m As.toArray c dC dI cy L K R0 sa bytes own maxL := ⟨⟨B.exec, B.bytes, hml, hown, fun w hw => atoms_spec (ws := .code y bytes maxL ret :: gT) B.pre w (List.mem_cons_of_mem _ hw)⟩, hPp, hPk⟩
  rw [lg_entry_eq]
  have hl := lsOK.entry hlen hcat
  generalize (lg_sl As ++ List.replicate (maxL - (lg_sl As).length) Slot.unset).toArray = ls at hl ⊢
  have hret : ∀ pc ls v G D, decode bytes pc = .ok (.ireturn, 1) → (∃ ty, ret = some ty ∧ narrow ty (.int v) = .int v) → Q (some (.int v)) G D → Wc p l e (rmH h) s m As.toArray below meth c 0 0 (MQ below (QcU dC dI cy L K Q) As.toArray s 0 0 (aL L)) dC dI cy L K G D (F0 m pc ls [.int v]) := by
    intro pc ls v G D hdg ⟨ty, hty, hn⟩ hq H locs hP hS
    exact W.zret B.exec B.bytes (B.returns.trans hty) hn (fun t ht hW => ⟨⟨_, G, D, rfl, hq, by rw [ht]; exact hP⟩, hS.F ht⟩) hS.2.2 hdg
  have hretv : ∀ pc ls G D, decode bytes pc = .ok (.return_, 1) → ret = none → Q none G D → Wc p l e (rmH h) s m As.toArray below meth c 0 0 (MQ below (QcU dC dI cy L K Q) As.toArray s 0 0 (aL L)) dC dI cy L K G D (F0 m pc ls []) := by
    intro pc ls G D hdg hty hq H locs hP hS
    exact W.vret B.exec B.bytes (B.returns.trans hty) (fun t ht hW => ⟨⟨_, G, D, rfl, hq, by rw [ht]; exact hP⟩, hS.F ht⟩) hS.2.2 hdg
  have hVc := hV p e s m As.toArray below meth c 0 0 (MQ below (QcU dC dI cy L K Q) As.toArray s 0 0 (aL L)) dC dI cy L K R0 sa bytes maxL X (Nat.zero_le _) (Nat.zero_le _)
  have hSc := hS p e s m As.toArray below meth c 0 0 (MQ below (QcU dC dI cy L K Q) As.toArray s 0 0 (aL L)) dC dI cy L K R0 sa bytes maxL X (Nat.zero_le _) (Nat.zero_le _)
  have key : ∀ (k pc : Nat), pc ∈ hd → ∀ (LL : LT) (st : List Value) (G : GT) (D : DT) (ls : Array Slot), lsOK ls maxL LL → I k pc LL st G D → Wc p l e (rmH h) s m As.toArray below meth c 0 0 (MQ below (QcU dC dI cy L K Q) As.toArray s 0 0 (aL L)) dC dI cy L K G D (F0 m pc ls st) := by
    intro k
    induction k using Nat.strongRecOn with
    | _ k ih =>
      intro pc hpc LL st G D ls hl h
      refine wpl_sound X hE hVc hSc hret hretv (fun pc LL st G D ls hl h => jmp_sound X hE hVc hSc hret hretv hbl ?_ M pc LL st G D ls hl h) _ pc (lkb_ok hbl pc) LL st G D ls hl (hI k pc hpc LL st G D h)
      intro pc' hm LL st G D ls hl hCC
      obtain ⟨k', hk', hI'⟩ := hCC
      exact ih k' hk' pc' hm _ _ _ _ _ hl hI'
  refine jmp_sound X hE hVc hSc hret hretv hbl ?_ N 0 _ [] G D ls hl h0 s.heap [] hRp va_S.rf
  intro pc hm LL st G D ls hl hCC
  obtain ⟨k, hk⟩ := hCC
  exact key k pc hm LL st G D ls hl hk
def fC (fl : Nat → Option (Nat × Nat)) (i : Nat) : Nat := ((fl i).getD (99, 99)).1
def fK (fl : Nat → Option (Nat × Nat)) (i : Nat) : Nat := ((fl i).getD (99, 99)).2
/-! ### the equations -/
section EQS
variable {rt : Option FieldType} {fl : Nat → Option (Nat × Nat)} {sg : Nat → Option Nat} {kc : Nat → Option Int32} {na rc : Nat → Nat} {cv cs : Nat → CT} {K : KT} {R0 : DT} {sa : Nat → Nat} {Q : QT} {J : Nat → UT} {r : List (Instr × Nat)} {pc : Nat} {LL : LT} {st : List Value} {G : GT} {D : DT}
theorem x_nil : wpl rt fl sg kc na rc cv cs K R0 sa Q J [] pc LL st G D = J pc LL st G D := rfl
theorem x_iconst {n : Int} : wpl rt fl sg kc na rc cv cs K R0 sa Q J ((.iconst n, 1) :: r) pc LL st G D = wpl rt fl sg kc na rc cv cs K R0 sa Q J r (pc + 1) LL (.int (Int32.ofInt n) :: st) G D := by simp [wpl, exI]
theorem x_bipush {n : Int} : wpl rt fl sg kc na rc cv cs K R0 sa Q J ((.bipush n, 2) :: r) pc LL st G D = wpl rt fl sg kc na rc cv cs K R0 sa Q J r (pc + 2) LL (.int (Int8.ofInt n).toInt32 :: st) G D := by simp [wpl, exI]
theorem x_sipush {n : Int} : wpl rt fl sg kc na rc cv cs K R0 sa Q J ((.sipush n, 3) :: r) pc LL st G D = wpl rt fl sg kc na rc cv cs K R0 sa Q J r (pc + 3) LL (.int (Int16.ofInt n).toInt32 :: st) G D := by simp [wpl, exI]
theorem x_ldc {i : Nat} : wpl rt fl sg kc na rc cv cs K R0 sa Q J ((.ldc i, 2) :: r) pc LL st G D = ((kc i).isSome = true ∧ wpl rt fl sg kc na rc cv cs K R0 sa Q J r (pc + 2) LL (.int ((kc i).getD 0) :: st) G D) := by
  simp only [wpl, exI, if_true, true_and]
  cases h : kc i <;> simp [h]
theorem x_iload_n {k : Fin 4} : wpl rt fl sg kc na rc cv cs K R0 sa Q J ((.iload_n k, 1) :: r) pc LL st G D = ldI LL k fun x => wpl rt fl sg kc na rc cv cs K R0 sa Q J r (pc + 1) LL (.int x :: st) G D := by simp [wpl, exI]
theorem x_iload {k : Nat} : wpl rt fl sg kc na rc cv cs K R0 sa Q J ((.iload k, 2) :: r) pc LL st G D = ldI LL k fun x => wpl rt fl sg kc na rc cv cs K R0 sa Q J r (pc + 2) LL (.int x :: st) G D := by simp [wpl, exI]
theorem x_aload_n {k : Fin 4} : wpl rt fl sg kc na rc cv cs K R0 sa Q J ((.aload_n k, 1) :: r) pc LL st G D = ldA LL k fun x => wpl rt fl sg kc na rc cv cs K R0 sa Q J r (pc + 1) LL (.ref x :: st) G D := by simp [wpl, exI]
theorem x_aload {k : Nat} : wpl rt fl sg kc na rc cv cs K R0 sa Q J ((.aload k, 2) :: r) pc LL st G D = ldA LL k fun x => wpl rt fl sg kc na rc cv cs K R0 sa Q J r (pc + 2) LL (.ref x :: st) G D := by simp [wpl, exI]
theorem x_istore_n {k : Fin 4} {x : Int32} : wpl rt fl sg kc na rc cv cs K R0 sa Q J ((.istore_n k, 1) :: r) pc LL (.int x :: st) G D = ((k : Nat) < LL.length ∧ wpl rt fl sg kc na rc cv cs K R0 sa Q J r (pc + 1) (LL.set k (some (.int x))) st G D) := by simp [wpl, exI]
theorem x_istore {k : Nat} {x : Int32} : wpl rt fl sg kc na rc cv cs K R0 sa Q J ((.istore k, 2) :: r) pc LL (.int x :: st) G D = (k < LL.length ∧ wpl rt fl sg kc na rc cv cs K R0 sa Q J r (pc + 2) (LL.set k (some (.int x))) st G D) := by simp [wpl, exI]
theorem x_astore_n {k : Fin 4} {x : Nat} : wpl rt fl sg kc na rc cv cs K R0 sa Q J ((.astore_n k, 1) :: r) pc LL (.ref x :: st) G D = ((k : Nat) < LL.length ∧ wpl rt fl sg kc na rc cv cs K R0 sa Q J r (pc + 1) (LL.set k (some (.ref x))) st G D) := by simp [wpl, exI]
theorem x_astore {k : Nat} {x : Nat} : wpl rt fl sg kc na rc cv cs K R0 sa Q J ((.astore k, 2) :: r) pc LL (.ref x :: st) G D = (k < LL.length ∧ wpl rt fl sg kc na rc cv cs K R0 sa Q J r (pc + 2) (LL.set k (some (.ref x))) st G D) := by simp [wpl, exI]
theorem x_iinc {k : Nat} {n : Int} : wpl rt fl sg kc na rc cv cs K R0 sa Q J ((.iinc k n, 3) :: r) pc LL st G D = ldI LL k fun x => wpl rt fl sg kc na rc cv cs K R0 sa Q J r (pc + 3) (LL.set k (some (.int (x + Int32.ofInt n)))) st G D := by simp [wpl, exI]
theorem x_iadd {x y : Int32} : wpl rt fl sg kc na rc cv cs K R0 sa Q J ((.iadd, 1) :: r) pc LL (.int y :: .int x :: st) G D = wpl rt fl sg kc na rc cv cs K R0 sa Q J r (pc + 1) LL (.int (x + y) :: st) G D := by simp [wpl, exI]
theorem x_isub {x y : Int32} : wpl rt fl sg kc na rc cv cs K R0 sa Q J ((.isub, 1) :: r) pc LL (.int y :: .int x :: st) G D = wpl rt fl sg kc na rc cv cs K R0 sa Q J r (pc + 1) LL (.int (x - y) :: st) G D := by simp [wpl, exI]
theorem x_imul {x y : Int32} : wpl rt fl sg kc na rc cv cs K R0 sa Q J ((.imul, 1) :: r) pc LL (.int y :: .int x :: st) G D = wpl rt fl sg kc na rc cv cs K R0 sa Q J r (pc + 1) LL (.int (x * y) :: st) G D := by simp [wpl, exI]
theorem x_iand {x y : Int32} : wpl rt fl sg kc na rc cv cs K R0 sa Q J ((.iand, 1) :: r) pc LL (.int y :: .int x :: st) G D = wpl rt fl sg kc na rc cv cs K R0 sa Q J r (pc + 1) LL (.int (x &&& y) :: st) G D := by simp [wpl, exI]
theorem x_idiv {x y : Int32} : wpl rt fl sg kc na rc cv cs K R0 sa Q J ((.idiv, 1) :: r) pc LL (.int y :: .int x :: st) G D = (¬ y = 0 ∧ wpl rt fl sg kc na rc cv cs K R0 sa Q J r (pc + 1) LL (.int (x / y) :: st) G D) := by simp [wpl, exI]
theorem x_irem {x y : Int32} : wpl rt fl sg kc na rc cv cs K R0 sa Q J ((.irem, 1) :: r) pc LL (.int y :: .int x :: st) G D = (¬ y = 0 ∧ wpl rt fl sg kc na rc cv cs K R0 sa Q J r (pc + 1) LL (.int (rmI x y) :: st) G D) := by simp [wpl, exI]
theorem x_ineg {x : Int32} : wpl rt fl sg kc na rc cv cs K R0 sa Q J ((.ineg, 1) :: r) pc LL (.int x :: st) G D = wpl rt fl sg kc na rc cv cs K R0 sa Q J r (pc + 1) LL (.int (-x) :: st) G D := by simp [wpl, exI]
theorem x_i2c {x : Int32} : wpl rt fl sg kc na rc cv cs K R0 sa Q J ((.i2c, 1) :: r) pc LL (.int x :: st) G D = (0 ≤ x ∧ x < 65536 ∧ wpl rt fl sg kc na rc cv cs K R0 sa Q J r (pc + 1) LL (.int x :: st) G D) := by simp [wpl, exI]
theorem x_dupI {x : Int32} : wpl rt fl sg kc na rc cv cs K R0 sa Q J ((.dup, 1) :: r) pc LL (.int x :: st) G D = wpl rt fl sg kc na rc cv cs K R0 sa Q J r (pc + 1) LL (.int x :: .int x :: st) G D := by simp [wpl, exI, cat1]
theorem x_dupA {x : Nat} : wpl rt fl sg kc na rc cv cs K R0 sa Q J ((.dup, 1) :: r) pc LL (.ref x :: st) G D = wpl rt fl sg kc na rc cv cs K R0 sa Q J r (pc + 1) LL (.ref x :: .ref x :: st) G D := by simp [wpl, exI, cat1]
theorem x_dup2 {x : Int32} {a : Nat} : wpl rt fl sg kc na rc cv cs K R0 sa Q J ((.dup2, 1) :: r) pc LL (.int x :: .ref a :: st) G D = wpl rt fl sg kc na rc cv cs K R0 sa Q J r (pc + 1) LL (.int x :: .ref a :: .int x :: .ref a :: st) G D := by simp [wpl, exI, cat1]
/-- a jump is a jump: not to the next instruction -/
theorem x_goto {off : Int} (h : 0 ≤ (pc : Int) + off ∧ ((pc : Int) + off).toNat ≠ pc + 3) : wpl rt fl sg kc na rc cv cs K R0 sa Q J ((.goto off, 3) :: r) pc LL st G D = J ((pc : Int) + off).toNat LL st G D := by simp [wpl, exI, h.1, h.2]
theorem x_if {cd : Jvm.ClassFile.Cond} {off : Int} {x : Int32} (h : 0 ≤ (pc : Int) + off ∧ ((pc : Int) + off).toNat ≠ pc + 3) : wpl rt fl sg kc na rc cv cs K R0 sa Q J ((.ifCond cd off, 3) :: r) pc LL (.int x :: st) G D = ((cnd cd x 0 → J ((pc : Int) + off).toNat LL st G D) ∧ (¬ cnd cd x 0 → wpl rt fl sg kc na rc cv cs K R0 sa Q J r (pc + 3) LL st G D)) := by simp [wpl, exI, h.1, h.2]
theorem x_icmp {cd : Jvm.ClassFile.Cond} {off : Int} {x y : Int32} (h : 0 ≤ (pc : Int) + off ∧ ((pc : Int) + off).toNat ≠ pc + 3) : wpl rt fl sg kc na rc cv cs K R0 sa Q J ((.if_icmp cd off, 3) :: r) pc LL (.int y :: .int x :: st) G D = ((cnd cd x y → J ((pc : Int) + off).toNat LL st G D) ∧ (¬ cnd cd x y → wpl rt fl sg kc na rc cv cs K R0 sa Q J r (pc + 3) LL st G D)) := by simp [wpl, exI, h.1, h.2]
theorem x_get {i a : Nat} : wpl rt fl sg kc na rc cv cs K R0 sa Q J ((.getfield i, 3) :: r) pc LL (.ref a :: st) G D = ((fl i).isSome = true ∧ (K a).1 = fC fl i ∧ if fI (fC fl i) (fK fl i) = true then wpl rt fl sg kc na rc cv cs K R0 sa Q J r (pc + 3) LL (.int (D a (nI (fK fl i))) :: st) G D else ∃ b, G a (nI (fK fl i)) = some b ∧ wpl rt fl sg kc na rc cv cs K R0 sa Q J r (pc + 3) LL (.ref b :: st) G D) := by
  simp only [wpl, exI, if_true, true_and]
  cases h : fl i <;> simp [h, fC, fK]
theorem x_put {i a : Nat} {x : Int32} : wpl rt fl sg kc na rc cv cs K R0 sa Q J ((.putfield i, 3) :: r) pc LL (.int x :: .ref a :: st) G D = ((fl i).isSome = true ∧ (K a).1 = fC fl i ∧ fI (fC fl i) (fK fl i) = true ∧ wpl rt fl sg kc na rc cv cs K R0 sa Q J r (pc + 3) LL st G (uD D a (nI (fK fl i)) x)) := by
  simp only [wpl, exI, if_true, true_and]
  cases h : fl i <;> simp [h, fC, fK]
theorem x_gets {i : Nat} : wpl rt fl sg kc na rc cv cs K R0 sa Q J ((.getstatic i, 3) :: r) pc LL st G D = ((sg i).isSome = true ∧ (sg i).getD 9 < 4 ∧ wpl rt fl sg kc na rc cv cs K R0 sa Q J r (pc + 3) LL (.ref (sa ((sg i).getD 9)) :: st) G D) := by
  simp only [wpl, exI, if_true, true_and]
  cases h : sg i <;> simp [h]
theorem x_iald {i : Int32} {a : Nat} : wpl rt fl sg kc na rc cv cs K R0 sa Q J ((.iaload, 1) :: r) pc LL (.int i :: .ref a :: st) G D = (if (K a).1 = 20 then inr i (K a).2 ∧ wpl rt fl sg kc na rc cv cs K R0 sa Q J r (pc + 1) LL (.int (R0 a i) :: st) G D else (K a).1 = 10 ∧ inr i (K a).2 ∧ wpl rt fl sg kc na rc cv cs K R0 sa Q J r (pc + 1) LL (.int (D a i) :: st) G D) := by simp [wpl, exI]
theorem x_bald {i : Int32} {a : Nat} : wpl rt fl sg kc na rc cv cs K R0 sa Q J ((.baload, 1) :: r) pc LL (.int i :: .ref a :: st) G D = ((K a).1 = 11 ∧ inr i (K a).2 ∧ wpl rt fl sg kc na rc cv cs K R0 sa Q J r (pc + 1) LL (.int (D a i) :: st) G D) := by simp [wpl, exI]
theorem x_aald {i : Int32} {a : Nat} : wpl rt fl sg kc na rc cv cs K R0 sa Q J ((.aaload, 1) :: r) pc LL (.int i :: .ref a :: st) G D = (13 ≤ (K a).1 ∧ (K a).1 ≤ 15 ∧ inr i (K a).2 ∧ ∃ b, G a i = some b ∧ wpl rt fl sg kc na rc cv cs K R0 sa Q J r (pc + 1) LL (.ref b :: st) G D) := by simp [wpl, exI]
theorem x_iast {i x : Int32} {a : Nat} : wpl rt fl sg kc na rc cv cs K R0 sa Q J ((.iastore, 1) :: r) pc LL (.int x :: .int i :: .ref a :: st) G D = ((K a).1 = 10 ∧ inr i (K a).2 ∧ wpl rt fl sg kc na rc cv cs K R0 sa Q J r (pc + 1) LL st G (uD D a i x)) := by simp [wpl, exI]
theorem x_bast {i x : Int32} {a : Nat} : wpl rt fl sg kc na rc cv cs K R0 sa Q J ((.bastore, 1) :: r) pc LL (.int x :: .int i :: .ref a :: st) G D = ((K a).1 = 11 ∧ inr i (K a).2 ∧ (x = 0 ∨ x = 1) ∧ wpl rt fl sg kc na rc cv cs K R0 sa Q J r (pc + 1) LL st G (uD D a i x)) := by simp [wpl, exI]
theorem x_aast {i : Int32} {a v : Nat} : wpl rt fl sg kc na rc cv cs K R0 sa Q J ((.aastore, 1) :: r) pc LL (.ref v :: .int i :: .ref a :: st) G D = ((K a).1 = 14 ∧ (K v).1 = 1 ∧ inr i (K a).2 ∧ wpl rt fl sg kc na rc cv cs K R0 sa Q J r (pc + 1) LL st (uG G a i v) D) := by simp [wpl, exI]
theorem x_alen {a : Nat} : wpl rt fl sg kc na rc cv cs K R0 sa Q J ((.arraylength, 1) :: r) pc LL (.ref a :: st) G D = ((K a).1 = 20 ∧ wpl rt fl sg kc na rc cv cs K R0 sa Q J r (pc + 1) LL (.int (nI (K a).2) :: st) G D) := by simp [wpl, exI]
theorem x_iret {v : Int32} {ty : FieldType} : wpl (some ty) fl sg kc na rc cv cs K R0 sa Q J ((.ireturn, 1) :: r) pc LL [.int v] G D = (narrow ty (.int v) = .int v ∧ Q (some (.int v)) G D) := by simp [wpl, exI]
theorem x_vret : wpl none fl sg kc na rc cv cs K R0 sa Q J ((.return_, 1) :: r) pc LL [] G D = Q none G D := by simp [wpl, exI]
theorem x_inv1 {i a : Nat} (h : na i = 1) : wpl rt fl sg kc na rc cv cs K R0 sa Q J ((.invokevirtual i, 3) :: r) pc LL (.ref a :: st) G D = (c1 8 st ∧ (K a).1 = rc i ∧ cv i [.ref a] G D fun z G' D' => wpl rt fl sg kc na rc cv cs K R0 sa Q J r (pc + 3) LL (z.toList ++ st) G' D') := by simp [wpl, exI, h]
theorem x_inv2 {i a : Nat} {v1 : Value} (h : na i = 2) : wpl rt fl sg kc na rc cv cs K R0 sa Q J ((.invokevirtual i, 3) :: r) pc LL (v1 :: .ref a :: st) G D = (c1 8 st ∧ (K a).1 = rc i ∧ cv i [.ref a, v1] G D fun z G' D' => wpl rt fl sg kc na rc cv cs K R0 sa Q J r (pc + 3) LL (z.toList ++ st) G' D') := by simp [wpl, exI, h]
theorem x_inv3 {i a : Nat} {v1 v2 : Value} (h : na i = 3) : wpl rt fl sg kc na rc cv cs K R0 sa Q J ((.invokevirtual i, 3) :: r) pc LL (v2 :: v1 :: .ref a :: st) G D = (c1 8 st ∧ (K a).1 = rc i ∧ cv i [.ref a, v1, v2] G D fun z G' D' => wpl rt fl sg kc na rc cv cs K R0 sa Q J r (pc + 3) LL (z.toList ++ st) G' D') := by simp [wpl, exI, h]
theorem x_inv4 {i a : Nat} {v1 v2 v3 : Value} (h : na i = 4) : wpl rt fl sg kc na rc cv cs K R0 sa Q J ((.invokevirtual i, 3) :: r) pc LL (v3 :: v2 :: v1 :: .ref a :: st) G D = (c1 8 st ∧ (K a).1 = rc i ∧ cv i [.ref a, v1, v2, v3] G D fun z G' D' => wpl rt fl sg kc na rc cv cs K R0 sa Q J r (pc + 3) LL (z.toList ++ st) G' D') := by simp [wpl, exI, h]
theorem x_inv5 {i a : Nat} {v1 v2 v3 v4 : Value} (h : na i = 5) : wpl rt fl sg kc na rc cv cs K R0 sa Q J ((.invokevirtual i, 3) :: r) pc LL (v4 :: v3 :: v2 :: v1 :: .ref a :: st) G D = (c1 8 st ∧ (K a).1 = rc i ∧ cv i [.ref a, v1, v2, v3, v4] G D fun z G' D' => wpl rt fl sg kc na rc cv cs K R0 sa Q J r (pc + 3) LL (z.toList ++ st) G' D') := by simp [wpl, exI, h]
theorem x_inv6 {i a : Nat} {v1 v2 v3 v4 v5 : Value} (h : na i = 6) : wpl rt fl sg kc na rc cv cs K R0 sa Q J ((.invokevirtual i, 3) :: r) pc LL (v5 :: v4 :: v3 :: v2 :: v1 :: .ref a :: st) G D = (c1 8 st ∧ (K a).1 = rc i ∧ cv i [.ref a, v1, v2, v3, v4, v5] G D fun z G' D' => wpl rt fl sg kc na rc cv cs K R0 sa Q J r (pc + 3) LL (z.toList ++ st) G' D') := by simp [wpl, exI, h]
theorem x_ins1 {i : Nat} {v1 : Value} (h : na i = 1) : wpl rt fl sg kc na rc cv cs K R0 sa Q J ((.invokestatic i, 3) :: r) pc LL (v1 :: st) G D = (c1 8 st ∧ cs i [v1] G D fun z G' D' => wpl rt fl sg kc na rc cv cs K R0 sa Q J r (pc + 3) LL (z.toList ++ st) G' D') := by simp [wpl, exI, h]
theorem x_ins2 {i : Nat} {v1 v2 : Value} (h : na i = 2) : wpl rt fl sg kc na rc cv cs K R0 sa Q J ((.invokestatic i, 3) :: r) pc LL (v2 :: v1 :: st) G D = (c1 8 st ∧ cs i [v1, v2] G D fun z G' D' => wpl rt fl sg kc na rc cv cs K R0 sa Q J r (pc + 3) LL (z.toList ++ st) G' D') := by simp [wpl, exI, h]
theorem x_ins3 {i : Nat} {v1 v2 v3 : Value} (h : na i = 3) : wpl rt fl sg kc na rc cv cs K R0 sa Q J ((.invokestatic i, 3) :: r) pc LL (v3 :: v2 :: v1 :: st) G D = (c1 8 st ∧ cs i [v1, v2, v3] G D fun z G' D' => wpl rt fl sg kc na rc cv cs K R0 sa Q J r (pc + 3) LL (z.toList ++ st) G' D') := by simp [wpl, exI, h]
theorem x_ins4 {i : Nat} {v1 v2 v3 v4 : Value} (h : na i = 4) : wpl rt fl sg kc na rc cv cs K R0 sa Q J ((.invokestatic i, 3) :: r) pc LL (v4 :: v3 :: v2 :: v1 :: st) G D = (c1 8 st ∧ cs i [v1, v2, v3, v4] G D fun z G' D' => wpl rt fl sg kc na rc cv cs K R0 sa Q J r (pc + 3) LL (z.toList ++ st) G' D') := by simp [wpl, exI, h]
theorem x_ins5 {i : Nat} {v1 v2 v3 v4 v5 : Value} (h : na i = 5) : wpl rt fl sg kc na rc cv cs K R0 sa Q J ((.invokestatic i, 3) :: r) pc LL (v5 :: v4 :: v3 :: v2 :: v1 :: st) G D = (c1 8 st ∧ cs i [v1, v2, v3, v4, v5] G D fun z G' D' => wpl rt fl sg kc na rc cv cs K R0 sa Q J r (pc + 3) LL (z.toList ++ st) G' D') := by simp [wpl, exI, h]
theorem x_jmp {bl : List (Nat × List (Instr × Nat))} {hd : List Nat} {ct : Nat → UT} {n : Nat} : jmp rt fl sg kc na rc cv cs K R0 sa bl hd ct Q (n + 1) pc LL st G D = (if pc ∈ hd then ct pc LL st G D else wpl rt fl sg kc na rc cv cs K R0 sa Q (jmp rt fl sg kc na rc cv cs K R0 sa bl hd ct Q n) (lkb bl pc) pc LL st G D) := by
  unfold jmp
  split <;> rfl
theorem x_ldI0 {x : Int32} {t : LT} {k : Int32 → Prop} : ldI (some (.int x) :: t) 0 k = k x := rfl
theorem x_ldIs {v : Option Value} {t : LT} {i : Nat} {k : Int32 → Prop} : ldI (v :: t) (i + 1) k = ldI t i k := rfl
theorem x_ldA0 {x : Nat} {t : LT} {k : Nat → Prop} : ldA (some (.ref x) :: t) 0 k = k x := rfl
theorem x_ldAs {v : Option Value} {t : LT} {i : Nat} {k : Nat → Prop} : ldA (v :: t) (i + 1) k = ldA t i k := rfl
theorem x_cad {i : Nat} {tr : TR} {tb : KT → DT → (Nat → Nat) → Nat → CT} : cAdd i tr tb K R0 sa i = tr K R0 sa := if_pos rfl
theorem x_cad2 {i j : Nat} {tr : TR} {tb : KT → DT → (Nat → Nat) → Nat → CT} (h : j ≠ i) : cAdd i tr tb K R0 sa j = tb K R0 sa j := if_neg h
theorem x_fv0 : ((0 : Fin 4) : Nat) = 0 := rfl
theorem x_fv1 : ((1 : Fin 4) : Nat) = 1 := rfl
theorem x_fv2 : ((2 : Fin 4) : Nat) = 2 := rfl
theorem x_fv3 : ((3 : Fin 4) : Nat) = 3 := rfl
theorem x_swT0 {x : Int32} {lo : Int} {k : Int → Prop} : swT x lo [] k = True := rfl
theorem x_swTs {x : Int32} {lo o : Int} {t : List Int} {k : Int → Prop} : swT x lo (o :: t) k = ((x.toInt = lo → k o) ∧ swT x (lo + 1) t k) := rfl
theorem x_swL0 {x : Int32} {d : Int} {k : Int → Prop} : swL x d [] k = k d := rfl
theorem x_swLs {x : Int32} {d a o : Int} {t : List (Int × Int)} {k : Int → Prop} : swL x d ((a, o) :: t) k = ((a = x.toInt → k o) ∧ (¬ a = x.toInt → swL x d t k)) := rfl
end EQS
