/-! ### the text's cells -/
def tc (t : Nat) : Nat := t + 1
def tO (t : Nat) : Nat := t + 2
def tr (t : Nat) (r : Int32) : Nat := t + 3 + r.toNatClampNeg
def Txt (K : KT) (G : GT) (t : Nat) : Prop := (K t = (4, 0) ∧ G t 0 = some (tc t) ∧ G t 1 = some (tO t)) ∧ (K (tc t) = (10, 100) ∧ K (tO t) = (13, 4)) ∧ (∀ r : Int32, 0 ≤ r ∧ r < 4 → G (tO t) r = some (tr t r)) ∧ ∀ r : Int32, 0 ≤ r ∧ r < 4 → K (tr t r) = (10, 20)
