theorem nL0 : nI 0 = 0 := rfl
theorem nL1 : nI 1 = 1 := rfl
theorem nL2 : nI 2 = 2 := rfl
theorem nL3 : nI 3 = 3 := rfl
theorem nL4 : nI 4 = 4 := rfl
theorem nL5 : nI 5 = 5 := rfl
theorem nL6 : nI 6 = 6 := rfl
theorem nL7 : nI 7 = 7 := rfl
theorem nL8 : nI 8 = 8 := rfl
theorem nL9 : nI 9 = 9 := rfl
theorem nL10 : nI 10 = 10 := rfl
theorem nL11 : nI 11 = 11 := rfl
theorem nL12 : nI 12 = 12 := rfl
theorem bp6 : (Int8.ofInt (6)).toInt32 = (6) := by decide
theorem bp7 : (Int8.ofInt (7)).toInt32 = (7) := by decide
theorem bp8 : (Int8.ofInt (8)).toInt32 = (8) := by decide
theorem bp9 : (Int8.ofInt (9)).toInt32 = (9) := by decide
theorem bp10 : (Int8.ofInt (10)).toInt32 = (10) := by decide
theorem bp11 : (Int8.ofInt (11)).toInt32 = (11) := by decide
theorem bp12 : (Int8.ofInt (12)).toInt32 = (12) := by decide
theorem bp13 : (Int8.ofInt (13)).toInt32 = (13) := by decide
theorem bp14 : (Int8.ofInt (14)).toInt32 = (14) := by decide
theorem bp15 : (Int8.ofInt (15)).toInt32 = (15) := by decide
theorem bp16 : (Int8.ofInt (16)).toInt32 = (16) := by decide
theorem bp17 : (Int8.ofInt (17)).toInt32 = (17) := by decide
theorem bp20 : (Int8.ofInt (20)).toInt32 = (20) := by decide
theorem bp21 : (Int8.ofInt (21)).toInt32 = (21) := by decide
theorem bp26 : (Int8.ofInt (26)).toInt32 = (26) := by decide
theorem bp30 : (Int8.ofInt (30)).toInt32 = (30) := by decide
theorem bp40 : (Int8.ofInt (40)).toInt32 = (40) := by decide
theorem bp60 : (Int8.ofInt (60)).toInt32 = (60) := by decide
theorem bp80 : (Int8.ofInt (80)).toInt32 = (80) := by decide
theorem bp90 : (Int8.ofInt (90)).toInt32 = (90) := by decide
theorem bp100 : (Int8.ofInt (100)).toInt32 = (100) := by decide
theorem spm1000 : (Int16.ofInt (-1000)).toInt32 = (-1000) := by decide
theorem spm999 : (Int16.ofInt (-999)).toInt32 = (-999) := by decide
theorem sp128 : (Int16.ofInt (128)).toInt32 = (128) := by decide
theorem sp150 : (Int16.ofInt (150)).toInt32 = (150) := by decide
theorem sp200 : (Int16.ofInt (200)).toInt32 = (200) := by decide
theorem sp256 : (Int16.ofInt (256)).toInt32 = (256) := by decide
theorem sp300 : (Int16.ofInt (300)).toInt32 = (300) := by decide
theorem sp400 : (Int16.ofInt (400)).toInt32 = (400) := by decide
theorem sp999 : (Int16.ofInt (999)).toInt32 = (999) := by decide
theorem sp1024 : (Int16.ofInt (1024)).toInt32 = (1024) := by decide
theorem sp4096 : (Int16.ofInt (4096)).toInt32 = (4096) := by decide
theorem sp8192 : (Int16.ofInt (8192)).toInt32 = (8192) := by decide
theorem pbi (x : Int32) : narrow .int (.int x) = .int x := rfl
theorem nL17 : nI 17 = 17 := rfl
theorem nL20 : nI 20 = 20 := rfl
theorem nL21 : nI 21 = 21 := rfl
theorem nL30 : nI 30 = 30 := rfl
theorem nL100 : nI 100 = 100 := rfl
theorem nL462 : nI 462 = 462 := rfl
theorem nL773 : nI 773 = 773 := rfl
theorem nL4638 : nI 4638 = 4638 := rfl
/-! ### a novel's cells, by their addresses -/
def nu (n : Nat) : Nat := n + 1
def sO (n : Nat) : Nat := n + 2
def sc (n : Nat) (r : Int32) : Nat := n + 3 + r.toNatClampNeg
def wO (n : Nat) : Nat := n + 9
def wk (n : Nat) (r : Int32) : Nat := n + 10 + r.toNatClampNeg
abbrev SS (D : DT) (n : Nat) : Int32 → Int32 → Int32 := fun r i => D (sc n r) i
abbrev WW (D : DT) (n : Nat) : Int32 → Int32 → Int32 := fun r i => D (wk n r) i
def Nov (K : KT) (G : GT) (n : Nat) : Prop := (K n = (2, 0) ∧ G n 0 = some (nu n) ∧ G n 1 = some (sO n) ∧ G n 2 = some (wO n)) ∧ (K (nu n) = (10, 17) ∧ K (sO n) = (13, 6) ∧ K (wO n) = (13, 4)) ∧ (∀ r : Int32, 0 ≤ r ∧ r < 6 → G (sO n) r = some (sc n r)) ∧ (∀ r : Int32, 0 ≤ r ∧ r < 6 → K (sc n r) = (10, 20)) ∧ (∀ r : Int32, 0 ≤ r ∧ r < 4 → G (wO n) r = some (wk n r)) ∧ ∀ r : Int32, 0 ≤ r ∧ r < 4 → K (wk n r) = (10, 30)
theorem q_int {Q : QT} {G : GT} {D : DT} {a b : Int32} (h : Q (some (.int a)) G D) (e : b = a) : Q (some (.int b)) G D := e ▸ h
theorem i_add (x y : Int32) : (x + y).toInt = (x.toInt + y.toInt).bmod 4294967296 := Int32.toInt_add x y
theorem i_sub (x y : Int32) : (x - y).toInt = (x.toInt - y.toInt).bmod 4294967296 := Int32.toInt_sub x y
theorem i_mul (x y : Int32) : (x * y).toInt = (x.toInt * y.toInt).bmod 4294967296 := Int32.toInt_mul x y
theorem i_neg (x : Int32) : (-x).toInt = (-x.toInt).bmod 4294967296 := Int32.toInt_neg x
theorem i_lt (x y : Int32) : x < y ↔ x.toInt < y.toInt := Int32.lt_iff_toInt_lt
theorem i_le (x y : Int32) : x ≤ y ↔ x.toInt ≤ y.toInt := Int32.le_iff_toInt_le
theorem i_eq (x y : Int32) : x = y ↔ x.toInt = y.toInt := Int32.toInt_inj.symm
theorem i_cl (x : Int32) : x.toNatClampNeg = x.toInt.toNat := rfl
theorem i_bm (x : Int) : x.bmod 4294967296 = x - 4294967296 * ((x + 2147483648) / 4294967296) := by
  have h : x.bmod 4294967296 = if x % 4294967296 < 2147483648 then x % 4294967296 else x % 4294967296 - 4294967296 := by simp [Int.bmod]
  rw [h]
  split <;> omega
theorem a_add {x y : Int32} (h : -2147483648 ≤ x.toInt + y.toInt ∧ x.toInt + y.toInt < 2147483648) : (x + y).toInt = x.toInt + y.toInt := by
  rw [i_add, i_bm]
  omega
theorem a_sub {x y : Int32} (h : -2147483648 ≤ x.toInt - y.toInt ∧ x.toInt - y.toInt < 2147483648) : (x - y).toInt = x.toInt - y.toInt := by
  rw [i_sub, i_bm]
  omega
theorem a_mul {x y : Int32} (h : -2147483648 ≤ x.toInt * y.toInt ∧ x.toInt * y.toInt < 2147483648) : (x * y).toInt = x.toInt * y.toInt := by
  rw [i_mul, i_bm]
  omega
theorem a_neg {x : Int32} (h : -2147483648 < x.toInt) : (-x).toInt = -x.toInt := by
  have := Int32.toInt_lt x
  rw [i_neg, i_bm]
  omega
theorem ti_1 {i e : Int32} (h0 : 0 ≤ i) (h1 : i < e) (h2 : e ≤ 20) : (e - i).toNatClampNeg = (e - (i+1)).toNatClampNeg + 1 := by
  (simp only [i_lt, i_le, i_eq, i_cl, Int32.reduceToInt, ne_eq] at * <;> (first | omega | (simp (disch := (first | omega | (simp (disch := (first | omega | (simp (disch := (first | omega | (simp only [Int32.reduceToInt]; omega))) only [a_add, a_sub, a_mul, a_neg, i_lt, i_le, i_eq, i_cl, Int32.reduceToInt, Int32.reduceToNatClampNeg]; omega))) only [a_add, a_sub, a_mul, a_neg, i_lt, i_le, i_eq, i_cl, Int32.reduceToInt, Int32.reduceToNatClampNeg]; omega))) only [a_add, a_sub, a_mul, a_neg, i_lt, i_le, i_eq, i_cl, Int32.reduceToInt, Int32.reduceToNatClampNeg] at * <;> (first | omega | (simp (disch := (first | omega | (simp (disch := (first | omega | (simp (disch := (first | omega | (simp only [Int32.reduceToInt]; omega))) only [a_add, a_sub, a_mul, a_neg, i_lt, i_le, i_eq, i_cl, Int32.reduceToInt, Int32.reduceToNatClampNeg]; omega))) only [a_add, a_sub, a_mul, a_neg, i_lt, i_le, i_eq, i_cl, Int32.reduceToInt, Int32.reduceToNatClampNeg]; omega))) only [a_add, a_sub, a_mul, a_neg, i_lt, i_le, i_eq, i_cl, Int32.reduceToInt, Int32.reduceToNatClampNeg] at * <;> omega)))))
theorem ti_2 {from' count n0 : Int32} (h0 : 0 ≤ from') (h1 : from' ≤ n0) (h2 : n0 ≤ 20) (h3 : ¬ count < 1) (h4 : ¬ n0 - from' < count) : from' + count ≤ 20 ∧ from' ≤ from' + count := by
  (simp only [i_lt, i_le, i_eq, i_cl, Int32.reduceToInt, ne_eq] at * <;> (first | omega | (simp (disch := (first | omega | (simp (disch := (first | omega | (simp (disch := (first | omega | (simp only [Int32.reduceToInt]; omega))) only [a_add, a_sub, a_mul, a_neg, i_lt, i_le, i_eq, i_cl, Int32.reduceToInt, Int32.reduceToNatClampNeg]; omega))) only [a_add, a_sub, a_mul, a_neg, i_lt, i_le, i_eq, i_cl, Int32.reduceToInt, Int32.reduceToNatClampNeg]; omega))) only [a_add, a_sub, a_mul, a_neg, i_lt, i_le, i_eq, i_cl, Int32.reduceToInt, Int32.reduceToNatClampNeg] at * <;> (first | omega | (simp (disch := (first | omega | (simp (disch := (first | omega | (simp (disch := (first | omega | (simp only [Int32.reduceToInt]; omega))) only [a_add, a_sub, a_mul, a_neg, i_lt, i_le, i_eq, i_cl, Int32.reduceToInt, Int32.reduceToNatClampNeg]; omega))) only [a_add, a_sub, a_mul, a_neg, i_lt, i_le, i_eq, i_cl, Int32.reduceToInt, Int32.reduceToNatClampNeg]; omega))) only [a_add, a_sub, a_mul, a_neg, i_lt, i_le, i_eq, i_cl, Int32.reduceToInt, Int32.reduceToNatClampNeg] at * <;> omega)))))
/-! ### sums -/
def sumR (g : Int32 → Int32) : Nat → Int32 → Int32
  | 0, _ => 0
  | k + 1, i => g i + sumR g k (i + 1)
/-- g i + .. + g (e - 1) -/
def sumI (g : Int32 → Int32) (i e : Int32) : Int32 := sumR g (e - i).toNatClampNeg i
theorem sumI_s {g : Int32 → Int32} {i e : Int32} (h0 : 0 ≤ i) (h1 : i < e) (h2 : e ≤ 20) : sumI g i e = g i + sumI g (i + 1) e := by
  unfold sumI
  rw [ti_1 h0 h1 h2]
  rfl
theorem sumI_e {g : Int32 → Int32} {i e : Int32} (h : ¬ i < e) (h0 : 0 ≤ i) (h2 : 0 ≤ e) : sumI g i e = 0 := by
  have : (e - i).toNatClampNeg = 0 := by
    have hi := Int32.toInt_lt i
    have he := Int32.toInt_lt e
    (simp only [i_lt, i_le, i_eq, i_cl, Int32.reduceToInt, ne_eq] at * <;> (first | omega | (simp (disch := (first | omega | (simp (disch := (first | omega | (simp (disch := (first | omega | (simp only [Int32.reduceToInt]; omega))) only [a_add, a_sub, a_mul, a_neg, i_lt, i_le, i_eq, i_cl, Int32.reduceToInt, Int32.reduceToNatClampNeg]; omega))) only [a_add, a_sub, a_mul, a_neg, i_lt, i_le, i_eq, i_cl, Int32.reduceToInt, Int32.reduceToNatClampNeg]; omega))) only [a_add, a_sub, a_mul, a_neg, i_lt, i_le, i_eq, i_cl, Int32.reduceToInt, Int32.reduceToNatClampNeg] at * <;> (first | omega | (simp (disch := (first | omega | (simp (disch := (first | omega | (simp (disch := (first | omega | (simp only [Int32.reduceToInt]; omega))) only [a_add, a_sub, a_mul, a_neg, i_lt, i_le, i_eq, i_cl, Int32.reduceToInt, Int32.reduceToNatClampNeg]; omega))) only [a_add, a_sub, a_mul, a_neg, i_lt, i_le, i_eq, i_cl, Int32.reduceToInt, Int32.reduceToNatClampNeg]; omega))) only [a_add, a_sub, a_mul, a_neg, i_lt, i_le, i_eq, i_cl, Int32.reduceToInt, Int32.reduceToNatClampNeg] at * <;> omega)))))
  unfold sumI
  rw [this]
  rfl
theorem len_lt {i e : Int32} (h0 : 0 ≤ i) (h1 : i < e) (h2 : e ≤ 20) : (e - (i + 1)).toNatClampNeg < (e - i).toNatClampNeg := by
  rw [ti_1 h0 h1 h2]
  omega
theorem nohd {I : Nat → Nat → UT} {P : Nat → Nat → LT → List Value → GT → DT → Prop} : ∀ k pc, pc ∈ ([] : List Nat) → ∀ LL st G D, I k pc LL st G D → P k pc LL st G D := fun _ _ h => absurd h List.not_mem_nil
abbrev noI : Nat → Nat → UT := fun _ _ _ _ _ _ => False
def mxI (x y : Int32) : Int32 := if x < y then y else x
def mnI (x y : Int32) : Int32 := if y < x then y else x
theorem e_max {G : GT} {D : DT} {Q : QT} {x y : Int32} : trMax [.int x, .int y] G D Q = Q (some (.int (mxI x y))) G D := by
  simp [trMax, mxI]
theorem e_min {G : GT} {D : DT} {Q : QT} {x y : Int32} : trMin [.int x, .int y] G D Q = Q (some (.int (mnI x y))) G D := by
  simp [trMin, mnI]
theorem e_cpy {K : KT} {G : GT} {D : DT} {Q : QT} {a0 a : Nat} {n : Int32} : trCpy K [.ref a0, .int 0, .ref a, .int 0, .int n] G D Q = ((K a0).1 = 10 ∧ (K a).1 = 10 ∧ 0 ≤ n ∧ n ≤ nI (K a0).2 ∧ n ≤ nI (K a).2 ∧ Q none G (cpD D a0 a n)) := by
  simp [trCpy]
/-- a truth as a number -/
def bI (p : Prop) [Decidable p] : Int32 := if p then 1 else 0
theorem bI_t {p : Prop} [Decidable p] (h : p) : (1 : Int32) = bI p := (if_pos h).symm
theorem bI_f {p : Prop} [Decidable p] (h : ¬ p) : (0 : Int32) = bI p := (if_neg h).symm
theorem nz1 : narrow .boolean (.int 1) = .int 1 := rfl
theorem nz0 : narrow .boolean (.int 0) = .int 0 := rfl
theorem d2n : ((2 : Int32) = 0) = False := eq_false (by decide)
theorem d10n : ((10 : Int32) = 0) = False := eq_false (by decide)
theorem uD_s {D : DT} {a : Nat} {i x j : Int32} : uD D a i x a j = if i.toInt = j.toInt then x else D a j := by
  unfold uD
  by_cases h : j = i
  · simp [h]
  · have : ¬ i.toInt = j.toInt := fun q => h (Int32.toInt_inj.mp q).symm
    simp [h, this]
theorem uD_o {D : DT} {a b : Nat} {i x : Int32} (h : b ≠ a) : uD D a i x b = D b := by
  funext j
  simp [uD, h]
theorem ad_nw {n : Nat} {r : Int32} : (nu n = wk n r) = False := eq_false (by unfold nu wk; omega)
theorem ad_wn {n : Nat} {r : Int32} : (wk n r = nu n) = False := eq_false (by unfold nu wk; omega)
theorem ad_ns {n : Nat} {r : Int32} : (nu n = sc n r) = False := eq_false (by unfold nu sc; omega)
theorem ad_sn {n : Nat} {r : Int32} : (sc n r = nu n) = False := eq_false (by unfold nu sc; omega)
theorem ad_ss {n : Nat} {r q : Int32} : (sc n r = sc n q) = (r.toNatClampNeg = q.toNatClampNeg) := propext (by unfold sc; omega)
theorem ad_ww {n : Nat} {r q : Int32} : (wk n r = wk n q) = (r.toNatClampNeg = q.toNatClampNeg) := propext (by unfold wk; omega)
theorem ad_sw {n : Nat} {r q : Int32} (h : r.toNatClampNeg < 7) : (sc n r = wk n q) = False := eq_false (by unfold sc wk; omega)
theorem ad_ws {n : Nat} {r q : Int32} (h : r.toNatClampNeg < 7) : (wk n q = sc n r) = False := eq_false (by unfold sc wk; omega)
theorem x_icmpT {rt : Option FieldType} {fl : Nat → Option (Nat × Nat)} {sg : Nat → Option Nat} {kc : Nat → Option Int32} {na rc : Nat → Nat} {cv cs : Nat → CT} {K : KT} {R0 : DT} {sa : Nat → Nat} {Q : QT} {J : Nat → UT} {r : List (Instr × Nat)} {pc : Nat} {LL : LT} {st : List Value} {G : GT} {D : DT} {cd : Jvm.ClassFile.Cond} {off : Int} {x y : Int32} (hc : cnd cd x y) (h : 0 ≤ (pc : Int) + off ∧ ((pc : Int) + off).toNat ≠ pc + 3) : wpl rt fl sg kc na rc cv cs K R0 sa Q J ((.if_icmp cd off, 3) :: r) pc LL (.int y :: .int x :: st) G D = J ((pc : Int) + off).toNat LL st G D := by
  rw [x_icmp h]
  simp [hc]
theorem x_icmpF {rt : Option FieldType} {fl : Nat → Option (Nat × Nat)} {sg : Nat → Option Nat} {kc : Nat → Option Int32} {na rc : Nat → Nat} {cv cs : Nat → CT} {K : KT} {R0 : DT} {sa : Nat → Nat} {Q : QT} {J : Nat → UT} {r : List (Instr × Nat)} {pc : Nat} {LL : LT} {st : List Value} {G : GT} {D : DT} {cd : Jvm.ClassFile.Cond} {off : Int} {x y : Int32} (hc : ¬ cnd cd x y) (h : 0 ≤ (pc : Int) + off ∧ ((pc : Int) + off).toNat ≠ pc + 3) : wpl rt fl sg kc na rc cv cs K R0 sa Q J ((.if_icmp cd off, 3) :: r) pc LL (.int y :: .int x :: st) G D = wpl rt fl sg kc na rc cv cs K R0 sa Q J r (pc + 3) LL st G D := by
  rw [x_icmp h]
  simp [hc]
theorem x_ifT {rt : Option FieldType} {fl : Nat → Option (Nat × Nat)} {sg : Nat → Option Nat} {kc : Nat → Option Int32} {na rc : Nat → Nat} {cv cs : Nat → CT} {K : KT} {R0 : DT} {sa : Nat → Nat} {Q : QT} {J : Nat → UT} {r : List (Instr × Nat)} {pc : Nat} {LL : LT} {st : List Value} {G : GT} {D : DT} {cd : Jvm.ClassFile.Cond} {off : Int} {x : Int32} (hc : cnd cd x 0) (h : 0 ≤ (pc : Int) + off ∧ ((pc : Int) + off).toNat ≠ pc + 3) : wpl rt fl sg kc na rc cv cs K R0 sa Q J ((.ifCond cd off, 3) :: r) pc LL (.int x :: st) G D = J ((pc : Int) + off).toNat LL st G D := by
  rw [x_if h]
  simp [hc]
theorem x_ifF {rt : Option FieldType} {fl : Nat → Option (Nat × Nat)} {sg : Nat → Option Nat} {kc : Nat → Option Int32} {na rc : Nat → Nat} {cv cs : Nat → CT} {K : KT} {R0 : DT} {sa : Nat → Nat} {Q : QT} {J : Nat → UT} {r : List (Instr × Nat)} {pc : Nat} {LL : LT} {st : List Value} {G : GT} {D : DT} {cd : Jvm.ClassFile.Cond} {off : Int} {x : Int32} (hc : ¬ cnd cd x 0) (h : 0 ≤ (pc : Int) + off ∧ ((pc : Int) + off).toNat ≠ pc + 3) : wpl rt fl sg kc na rc cv cs K R0 sa Q J ((.ifCond cd off, 3) :: r) pc LL (.int x :: st) G D = wpl rt fl sg kc na rc cv cs K R0 sa Q J r (pc + 3) LL st G D := by
  rw [x_if h]
  simp [hc]
theorem uG_s {G : GT} {a v : Nat} {i j : Int32} : uG G a i v a j = if i.toInt = j.toInt then some v else G a j := by
  unfold uG
  by_cases h : j = i
  · simp [h]
  · have : ¬ i.toInt = j.toInt := fun q => h (Int32.toInt_inj.mp q).symm
    simp [h, this]
theorem d1n : ((1 : Int32) = 0) = False := eq_false (by decide)
theorem d3n : ((3 : Int32) = 0) = False := eq_false (by decide)
theorem d4n : ((4 : Int32) = 0) = False := eq_false (by decide)
theorem d5n : ((5 : Int32) = 0) = False := eq_false (by decide)
theorem d6n : ((6 : Int32) = 0) = False := eq_false (by decide)
