/-! ===== the engine: one predicate over the code, the locals, the stack and two memories (references G, numbers D), by which a method's walk is a plain statement ===== -/
abbrev KT : Type := Nat → Nat × Nat
abbrev GT : Type := Nat → Int32 → Option Nat
abbrev DT : Type := Nat → Int32 → Int32
abbrev LT : Type := List (Option Value)
abbrev QT : Type := Option Value → GT → DT → Prop
abbrev CT : Type := List Value → GT → DT → QT → Prop
abbrev UT : Type := LT → List Value → GT → DT → Prop
def rmI (x y : Int32) : Int32 := x - x / y * y
def uD (D : DT) (a : Nat) (i x : Int32) : DT := fun b j => if b = a ∧ j = i then x else D b j
def uG (G : GT) (a : Nat) (i : Int32) (x : Nat) : GT := fun b j => if b = a ∧ j = i then some x else G b j
def cpD (D : DT) (a0 a : Nat) (n : Int32) : DT := fun b j => if b = a ∧ 0 ≤ j ∧ j < n then D a0 j else D b j
/-- an index within -/
def inr (i : Int32) (n : Nat) : Prop := 0 ≤ i ∧ i < nI n
/-- how many fields a class of code c has, and which of them are whole numbers -/
def fN : Nat → Nat
  | 0 => 2
  | 1 => 3
  | 2 => 3
  | 3 => 6
  | 4 => 5
  | 5 => 4
  | _ => 13
def fI : Nat → Nat → Bool
  | 0, 1 => true
  | 3, 4 => true
  | 3, 5 => true
  | 4, 2 => true
  | 4, 3 => true
  | 4, 4 => true
  | 6, 3 => true
  | 6, 5 => true
  | 6, 6 => true
  | 6, 7 => true
  | _, _ => false
def cat1 : Value → Prop
  | .int _ => True
  | .ref _ => True
  | _ => False
def c1 : Nat → List Value → Prop
  | _, [] => True
  | n + 1, .int _ :: r => c1 n r
  | n + 1, .ref _ :: r => c1 n r
  | _, _ => False
def cnd : Jvm.ClassFile.Cond → Int32 → Int32 → Prop
  | .eq, x, y => x = y
  | .ne, x, y => ¬ x = y
  | .lt, x, y => x < y
  | .ge, x, y => y ≤ x
  | .gt, x, y => y < x
  | .le, x, y => x ≤ y
def swT (x : Int32) : Int → List Int → (Int → Prop) → Prop
  | _, [], _ => True
  | lo, o :: r, k => (x.toInt = lo → k o) ∧ swT x (lo + 1) r k
def swL (x : Int32) (d : Int) : List (Int × Int) → (Int → Prop) → Prop
  | [], k => k d
  | (a, o) :: r, k => (a = x.toInt → k o) ∧ (¬ a = x.toInt → swL x d r k)
def ldI (L : LT) (i : Nat) (k : Int32 → Prop) : Prop := match L[i]? with
  | some (some (.int x)) => k x
  | _ => False
def ldA (L : LT) (i : Nat) (k : Nat → Prop) : Prop := match L[i]? with
  | some (some (.ref x)) => k x
  | _ => False
/-- what one instruction asks, and what it goes on with -/
def exI (rt : Option FieldType) (fl : Nat → Option (Nat × Nat)) (sg : Nat → Option Nat) (kc : Nat → Option Int32) (na rc : Nat → Nat) (cv cs : Nat → CT) (K : KT) (R0 : DT) (sa : Nat → Nat) (Q : QT) (go : Nat → UT) (pc : Nat) (L : LT) (st : List Value) (G : GT) (D : DT) (len : Nat) : Instr → Prop
  | .iconst n => len = 1 ∧ go (pc + 1) L (.int (Int32.ofInt n) :: st) G D
  | .bipush n => len = 2 ∧ go (pc + 2) L (.int (Int8.ofInt n).toInt32 :: st) G D
  | .sipush n => len = 3 ∧ go (pc + 3) L (.int (Int16.ofInt n).toInt32 :: st) G D
  | .ldc i => len = 2 ∧ match kc i with
    | some v => go (pc + 2) L (.int v :: st) G D
    | none => False
  | .iload_n k => len = 1 ∧ ldI L k fun x => go (pc + 1) L (.int x :: st) G D
  | .iload k => len = 2 ∧ ldI L k fun x => go (pc + 2) L (.int x :: st) G D
  | .aload_n k => len = 1 ∧ ldA L k fun x => go (pc + 1) L (.ref x :: st) G D
  | .aload k => len = 2 ∧ ldA L k fun x => go (pc + 2) L (.ref x :: st) G D
  | .istore_n k => len = 1 ∧ (k : Nat) < L.length ∧ match st with
    | .int x :: r => go (pc + 1) (L.set k (some (.int x))) r G D
    | _ => False
  | .istore k => len = 2 ∧ k < L.length ∧ match st with
    | .int x :: r => go (pc + 2) (L.set k (some (.int x))) r G D
    | _ => False
  | .astore_n k => len = 1 ∧ (k : Nat) < L.length ∧ match st with
    | .ref x :: r => go (pc + 1) (L.set k (some (.ref x))) r G D
    | _ => False
  | .astore k => len = 2 ∧ k < L.length ∧ match st with
    | .ref x :: r => go (pc + 2) (L.set k (some (.ref x))) r G D
    | _ => False
  | .iinc k n => len = 3 ∧ ldI L k fun x => go (pc + 3) (L.set k (some (.int (x + Int32.ofInt n)))) st G D
  | .iadd => len = 1 ∧ match st with
    | .int y :: .int x :: r => go (pc + 1) L (.int (x + y) :: r) G D
    | _ => False
  | .isub => len = 1 ∧ match st with
    | .int y :: .int x :: r => go (pc + 1) L (.int (x - y) :: r) G D
    | _ => False
  | .imul => len = 1 ∧ match st with
    | .int y :: .int x :: r => go (pc + 1) L (.int (x * y) :: r) G D
    | _ => False
  | .iand => len = 1 ∧ match st with
    | .int y :: .int x :: r => go (pc + 1) L (.int (x &&& y) :: r) G D
    | _ => False
  | .idiv => len = 1 ∧ match st with
    | .int y :: .int x :: r => ¬ y = 0 ∧ go (pc + 1) L (.int (x / y) :: r) G D
    | _ => False
  | .irem => len = 1 ∧ match st with
    | .int y :: .int x :: r => ¬ y = 0 ∧ go (pc + 1) L (.int (rmI x y) :: r) G D
    | _ => False
  | .ineg => len = 1 ∧ match st with
    | .int x :: r => go (pc + 1) L (.int (-x) :: r) G D
    | _ => False
  | .i2c => len = 1 ∧ match st with
    | .int x :: r => 0 ≤ x ∧ x < 65536 ∧ go (pc + 1) L (.int x :: r) G D
    | _ => False
  | .dup => len = 1 ∧ match st with
    | v :: r => cat1 v ∧ go (pc + 1) L (v :: v :: r) G D
    | _ => False
  | .dup2 => len = 1 ∧ match st with
    | v :: w :: r => cat1 v ∧ cat1 w ∧ go (pc + 1) L (v :: w :: v :: w :: r) G D
    | _ => False
  | .goto off => len = 3 ∧ 0 ≤ (pc : Int) + off ∧ go ((pc : Int) + off).toNat L st G D
  | .ifCond cd off => len = 3 ∧ 0 ≤ (pc : Int) + off ∧ match st with
    | .int x :: r => (cnd cd x 0 → go ((pc : Int) + off).toNat L r G D) ∧ (¬ cnd cd x 0 → go (pc + 3) L r G D)
    | _ => False
  | .if_icmp cd off => len = 3 ∧ 0 ≤ (pc : Int) + off ∧ match st with
    | .int y :: .int x :: r => (cnd cd x y → go ((pc : Int) + off).toNat L r G D) ∧ (¬ cnd cd x y → go (pc + 3) L r G D)
    | _ => False
  | .tableswitch d lo hi offs => hi = lo + offs.toList.length - 1 ∧ 0 ≤ (pc : Int) + d ∧ (∀ o ∈ offs.toList, 0 ≤ (pc : Int) + o) ∧ match st with
    | .int x :: r => swT x lo offs.toList (fun o => go ((pc : Int) + o).toNat L r G D) ∧ (x.toInt < lo ∨ hi < x.toInt → go ((pc : Int) + d).toNat L r G D)
    | _ => False
  | .lookupswitch d ps => (ps.toList.zip (ps.toList.drop 1)).all (fun (a, next) => a.1 < next.1) = true ∧ 0 ≤ (pc : Int) + d ∧ (∀ o ∈ ps.toList, 0 ≤ (pc : Int) + o.2) ∧ match st with
    | .int x :: r => swL x d ps.toList (fun o => go ((pc : Int) + o).toNat L r G D)
    | _ => False
  | .getfield i => len = 3 ∧ match st with
    | .ref a :: r => (match fl i with
      | some (c, k) => (K a).1 = c ∧ (if fI c k = true then go (pc + 3) L (.int (D a (nI k)) :: r) G D else ∃ b, G a (nI k) = some b ∧ go (pc + 3) L (.ref b :: r) G D)
      | none => False)
    | _ => False
  | .putfield i => len = 3 ∧ match st with
    | .int x :: .ref a :: r => (match fl i with
      | some (c, k) => (K a).1 = c ∧ fI c k = true ∧ go (pc + 3) L r G (uD D a (nI k) x)
      | none => False)
    | _ => False
  | .getstatic i => len = 3 ∧ match sg i with
    | some j => j < 4 ∧ go (pc + 3) L (.ref (sa j) :: st) G D
    | none => False
  | .iaload => len = 1 ∧ match st with
    | .int i :: .ref a :: r => if (K a).1 = 20 then inr i (K a).2 ∧ go (pc + 1) L (.int (R0 a i) :: r) G D else (K a).1 = 10 ∧ inr i (K a).2 ∧ go (pc + 1) L (.int (D a i) :: r) G D
    | _ => False
  | .baload => len = 1 ∧ match st with
    | .int i :: .ref a :: r => (K a).1 = 11 ∧ inr i (K a).2 ∧ go (pc + 1) L (.int (D a i) :: r) G D
    | _ => False
  | .aaload => len = 1 ∧ match st with
    | .int i :: .ref a :: r => 13 ≤ (K a).1 ∧ (K a).1 ≤ 15 ∧ inr i (K a).2 ∧ ∃ b, G a i = some b ∧ go (pc + 1) L (.ref b :: r) G D
    | _ => False
  | .iastore => len = 1 ∧ match st with
    | .int x :: .int i :: .ref a :: r => (K a).1 = 10 ∧ inr i (K a).2 ∧ go (pc + 1) L r G (uD D a i x)
    | _ => False
  | .bastore => len = 1 ∧ match st with
    | .int x :: .int i :: .ref a :: r => (K a).1 = 11 ∧ inr i (K a).2 ∧ (x = 0 ∨ x = 1) ∧ go (pc + 1) L r G (uD D a i x)
    | _ => False
  | .aastore => len = 1 ∧ match st with
    | .ref v :: .int i :: .ref a :: r => (K a).1 = 14 ∧ (K v).1 = 1 ∧ inr i (K a).2 ∧ go (pc + 1) L r (uG G a i v) D
    | _ => False
  | .arraylength => len = 1 ∧ match st with
    | .ref a :: r => (K a).1 = 20 ∧ go (pc + 1) L (.int (nI (K a).2) :: r) G D
    | _ => False
  | .invokevirtual i => len = 3 ∧ na i ≤ st.length ∧ c1 8 (st.drop (na i)) ∧ match (st.take (na i)).reverse with
    | .ref b :: As => (K b).1 = rc i ∧ cv i (.ref b :: As) G D fun r G' D' => go (pc + 3) L (r.toList ++ st.drop (na i)) G' D'
    | _ => False
  | .invokestatic i => len = 3 ∧ na i ≤ st.length ∧ c1 8 (st.drop (na i)) ∧ cs i (st.take (na i)).reverse G D fun r G' D' => go (pc + 3) L (r.toList ++ st.drop (na i)) G' D'
  | .ireturn => len = 1 ∧ match rt, st with
    | some ty, [.int v] => narrow ty (.int v) = .int v ∧ Q (some (.int v)) G D
    | _, _ => False
  | .return_ => len = 1 ∧ match rt, st with
    | none, [] => Q none G D
    | _, _ => False
  | _ => False
def stp (rt : Option FieldType) (fl : Nat → Option (Nat × Nat)) (sg : Nat → Option Nat) (kc : Nat → Option Int32) (na rc : Nat → Nat) (cv cs : Nat → CT) (K : KT) (R0 : DT) (sa : Nat → Nat) (cc : ByteArray) (Q : QT) (go : Nat → UT) (pc : Nat) : UT := fun L st G D =>
  match decode cc pc with
  | .ok (ins, len) => exI rt fl sg kc na rc cv cs K R0 sa Q go pc L st G D len ins
  | _ => False
/-- n steps, or until a cut -/
def wp (rt : Option FieldType) (fl : Nat → Option (Nat × Nat)) (sg : Nat → Option Nat) (kc : Nat → Option Int32) (na rc : Nat → Nat) (cv cs : Nat → CT) (K : KT) (R0 : DT) (sa : Nat → Nat) (cc : ByteArray) (ct : Nat → Option UT) (Q : QT) : Nat → Nat → UT
  | 0, _ => fun _ _ _ _ => False
  | n + 1, pc => fun L st G D => match ct pc with
    | some C => C L st G D
    | none => stp rt fl sg kc na rc cv cs K R0 sa cc Q (wp rt fl sg kc na rc cv cs K R0 sa cc ct Q n) pc L st G D
/-! ### what the heap holds by the memories -/
def eD (cy : Nat → ClassId) (K : KT) (G : GT) (D : DT) (a : Nat) : va_E :=
  if (K a).1 < 10 then .inr ((K a).1, (List.range (fN (K a).1)).map (fun i => if fI (K a).1 i = true then .int (D a (nI i)) else va_rf (G a (nI i))))
  else if (K a).1 < 13 then .inl (cy (K a).1, (K a).2, .inl (fun j => if j < (K a).2 then D a (nI j) else 0))
  else .inl (cy (K a).1, (K a).2, .inr (.inr (.inr (.inr (fun j => if j < (K a).2 then G a (nI j) else none)))))
def tysL (cy : Nat → ClassId) : List (ClassId × FieldType) := [(cy 10, .int), (cy 11, .boolean), (cy 12, .boolean), (cy 13, .array .int), (cy 14, .object RX1), (cy 15, .object RX2)]
def stn : Nat → String
  | 0 => "LOWEST_OF_SCENE"
  | 1 => "HIGHEST_OF_SCENE"
  | 2 => "LOWEST_OF_NUMBER"
  | _ => "HIGHEST_OF_NUMBER"
def Rp (dC : Nat → ClassId) (dI : Nat → Nat → Nat) (cy : Nat → ClassId) (L : List Nat) (K : KT) (G : GT) (D : DT) (H : Heap) : Prop := va_P (dC, dI) vwCl (va_pl L (eD cy K G D)) H
def Pk (dC : Nat → ClassId) (dI : Nat → Nat → Nat) (cy : Nat → ClassId) (L : List Nat) (K : KT) (R0 : DT) (sa : Nat → Nat) (U : State) (H : Heap) : Prop :=
  va_K (dC, dI) vwCl (tysL cy) U ∧ va_Nw (.methodLinkNest RX2 83 yX5_fineFor RX5) U ∧ (∀ a, (K a).1 = 20 → va_T .int a (K a).2 (fun j => .int (R0 a (nI j))) (fun q => q ∈ L) U H) ∧ ∀ i, i < 4 → va_Z RX5 (stn i) "[I" (.ref (sa i)) (fun q => q ∈ L) U H
def Pp (L : List Nat) (K : KT) : Prop := L.Nodup ∧ (∀ a, (K a).1 ≤ 15 → a ∈ L) ∧ ∀ a, (K a).2 < 2 ^ 31
theorem wD {L : List Nat} (hn : L.Nodup) (f : Nat → va_E) : va_D (fun q => q ∈ L) (va_pl L f) := by
  refine ⟨fun i j p q hi hj hpq => ?_, fun k q hk => ?_⟩
  · unfold va_pl at hi hj
    rw [List.getElem?_map] at hi hj
    obtain ⟨a, ha, rfl⟩ := Option.map_eq_some_iff.mp hi
    obtain ⟨b, hb, rfl⟩ := Option.map_eq_some_iff.mp hj
    have e : a = b := hpq
    subst e
    exact (List.getElem?_inj (List.getElem?_eq_some_iff.mp ha).1 hn).mp (ha.trans hb.symm)
  · unfold va_pl at hk
    rw [List.getElem?_map] at hk
    obtain ⟨a, ha, rfl⟩ := Option.map_eq_some_iff.mp hk
    exact List.mem_of_getElem? ha
theorem eD_obj {cy : Nat → ClassId} {K : KT} {G : GT} {D : DT} {a c : Nat} (h : (K a).1 = c) (hc : c < 10) : eD cy K G D a = .inr (c, (List.range (fN c)).map (fun i => if fI c i = true then .int (D a (nI i)) else va_rf (G a (nI i)))) := by
  subst h
  simp [eD, hc]
theorem eD_arr {cy : Nat → ClassId} {K : KT} {G : GT} {D : DT} {a c : Nat} (h : (K a).1 = c) (h1 : 10 ≤ c) (h2 : c < 13) : eD cy K G D a = .inl (cy c, (K a).2, .inl (fun j => if j < (K a).2 then D a (nI j) else 0)) := by
  subst h
  simp [eD, Nat.not_lt.mpr h1, h2]
theorem eD_ref {cy : Nat → ClassId} {K : KT} {G : GT} {D : DT} {a c : Nat} (h : (K a).1 = c) (h1 : 13 ≤ c) : eD cy K G D a = .inl (cy c, (K a).2, .inr (.inr (.inr (.inr (fun j => if j < (K a).2 then G a (nI j) else none))))) := by
  subst h
  simp [eD, Nat.not_lt.mpr h1, show ¬ (K a).1 < 10 by omega]
theorem inr_nat {i : Int32} {n : Nat} (h : inr i n) (hn : n < 2 ^ 31) : ∃ j : Nat, j < n ∧ i = nI j := by
  obtain ⟨h0, h1⟩ := h
  obtain ⟨j, hj, rfl⟩ := nI_of (x := i) (Int32.not_lt.mpr h0)
  exact ⟨j, (nI_ltI hj hn).mp h1, rfl⟩
theorem nI_inj {i j : Nat} (hi : i < 2 ^ 31) (hj : j < 2 ^ 31) (h : nI i = nI j) : i = j := by
  have := congrArg Int32.toNatClampNeg h
  rwa [nI_clamp hi, nI_clamp hj] at this
theorem eD_put {cy : Nat → ClassId} {K : KT} {G : GT} {D : DT} {a c k : Nat} {x : Int32} (h : (K a).1 = c) (hc : c < 10) (hI : fI c k = true) (hk : k < fN c) (b : Nat) :
    va_up (eD cy K G D) a (.inr (c, ((List.range (fN c)).map (fun i => if fI c i = true then Value.int (D a (nI i)) else va_rf (G a (nI i)))).set k (.int x))) b = eD cy K G (uD D a (nI k) x) b := by
  have hF : ∀ c, fN c < 2 ^ 31 := by
    intro c
    unfold fN
    split <;> decide
  by_cases hb : b = a
  · subst hb
    rw [va_up_self, eD_obj h hc]
    congr 2
    apply List.ext_getElem?
    intro i
    rw [List.getElem?_set, List.getElem?_map, List.getElem?_map]
    by_cases hi : i < fN c
    · rw [List.getElem?_range hi]
      by_cases e : k = i
      · subst e
        simp [hi, hI, uD]
      · have hne : ¬ nI i = nI k := fun q => e (nI_inj (Nat.lt_trans hi (hF c)) (Nat.lt_trans hk (hF c)) q).symm
        simp [e, uD, hne]
    · have hn : (List.range (fN c))[i]? = none := List.getElem?_eq_none (by rw [List.length_range]; omega)
      rw [hn]
      by_cases e : k = i
      · omega
      · simp [e]
  · rw [va_up_ne _ _ hb]
    unfold eD
    simp [uD, hb]
theorem eD_st {cy : Nat → ClassId} {K : KT} {G : GT} {D : DT} {a c j0 : Nat} {x : Int32} (h : (K a).1 = c) (h1 : 10 ≤ c) (h2 : c < 13) (hj : j0 < (K a).2) (hn : (K a).2 < 2 ^ 31) (b : Nat) :
    va_up (eD cy K G D) a (.inl (cy c, (K a).2, .inl (upd (fun j => if j < (K a).2 then D a (nI j) else 0) j0 x))) b = eD cy K G (uD D a (nI j0) x) b := by
  by_cases hb : b = a
  · subst hb
    rw [va_up_self, eD_arr h h1 h2]
    congr 4
    funext j
    by_cases e : j = j0
    · subst e
      simp [upd, hj, uD]
    · by_cases hl : j < (K b).2
      · have hne : ¬ nI j = nI j0 := fun q => e (nI_inj (Nat.lt_trans hl hn) (Nat.lt_trans hj hn) q)
        simp [upd, e, hl, uD, hne]
      · simp [upd, e, hl]
  · rw [va_up_ne _ _ hb]
    unfold eD
    simp [uD, hb]
theorem eD_str {cy : Nat → ClassId} {K : KT} {G : GT} {D : DT} {a c j0 v : Nat} (h : (K a).1 = c) (h1 : 13 ≤ c) (hj : j0 < (K a).2) (hn : (K a).2 < 2 ^ 31) (b : Nat) :
    va_up (eD cy K G D) a (.inl (cy c, (K a).2, .inr (.inr (.inr (.inr (va_up (fun j => if j < (K a).2 then G a (nI j) else none) j0 (some v))))))) b = eD cy K (uG G a (nI j0) v) D b := by
  by_cases hb : b = a
  · subst hb
    rw [va_up_self, eD_ref h h1]
    congr 7
    funext j
    by_cases e : j = j0
    · subst e
      simp [va_up, hj, uG]
    · by_cases hl : j < (K b).2
      · have hne : ¬ nI j = nI j0 := fun q => e (nI_inj (Nat.lt_trans hl hn) (Nat.lt_trans hj hn) q)
        simp [va_up, e, hl, uG, hne]
      · simp [va_up, e, hl]
  · rw [va_up_ne _ _ hb]
    unfold eD
    simp [uG, hb]
theorem eD_cp {cy : Nat → ClassId} {K : KT} {G : GT} {D : DT} {a0 a n : Nat} (h : (K a).1 = 10) (h0 : n ≤ (K a0).2) (h1 : n ≤ (K a).2) (hn0 : (K a0).2 < 2 ^ 31) (hn : (K a).2 < 2 ^ 31) (b : Nat) :
    va_up (eD cy K G D) a (.inl (cy 10, (K a).2, .inl (va_cpy (fun j => if j < (K a0).2 then D a0 (nI j) else 0) (fun j => if j < (K a).2 then D a (nI j) else 0) 0 0 n))) b = eD cy K G (cpD D a0 a (nI n)) b := by
  by_cases hb : b = a
  · subst hb
    rw [va_up_self, eD_arr h (by decide) (by decide)]
    congr 4
    funext j
    have hn' : n < 2 ^ 31 := by omega
    by_cases e : j < n
    · have g1 : 0 ≤ nI j := nI_pos' (by omega)
      have g2 : nI j < nI n := (nI_ltI (by omega) hn').mpr e
      simp [va_cpy, e, cpD, g1, g2, show j < (K a0).2 by omega, show j < (K b).2 by omega]
    · by_cases hl : j < (K b).2
      · have g2 : ¬ nI j < nI n := fun q => e ((nI_ltI (by omega) hn').mp q)
        simp [va_cpy, e, cpD, g2, hl]
      · simp [va_cpy, e, hl]
  · rw [va_up_ne _ _ hb]
    unfold eD
    simp [cpD, hb]
