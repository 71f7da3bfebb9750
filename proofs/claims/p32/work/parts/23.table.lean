/-! ### the table's cells -/
def oP (p : Nat) : Nat := p + 1
def oF (p : Nat) : Nat := p + 23
def oG (p : Nat) : Nat := p + 45
def oC (p : Nat) : Nat := p + 67
def tP (p : Nat) (r : Int32) : Nat := p + 2 + r.toNatClampNeg
def tF (p : Nat) (r : Int32) : Nat := p + 24 + r.toNatClampNeg
def tG (p : Nat) (r : Int32) : Nat := p + 46 + r.toNatClampNeg
def tC (p : Nat) (r : Int32) : Nat := p + 68 + r.toNatClampNeg
def Tab (K : KT) (G : GT) (p : Nat) : Prop := (K p = (3, 0) ∧ G p 0 = some (oP p) ∧ G p 1 = some (oF p) ∧ G p 2 = some (oG p) ∧ G p 3 = some (oC p)) ∧ (K (oP p) = (13, 21) ∧ K (oF p) = (13, 21) ∧ K (oG p) = (13, 21) ∧ K (oC p) = (13, 21)) ∧ ((∀ r : Int32, 0 ≤ r ∧ r < 21 → G (oP p) r = some (tP p r)) ∧ (∀ r : Int32, 0 ≤ r ∧ r < 21 → G (oF p) r = some (tF p r)) ∧ (∀ r : Int32, 0 ≤ r ∧ r < 21 → G (oG p) r = some (tG p r)) ∧ ∀ r : Int32, 0 ≤ r ∧ r < 21 → G (oC p) r = some (tC p r)) ∧ (∀ r : Int32, 0 ≤ r ∧ r < 21 → K (tP p r) = (10, 21)) ∧ (∀ r : Int32, 0 ≤ r ∧ r < 21 → K (tF p r) = (10, 21)) ∧ (∀ r : Int32, 0 ≤ r ∧ r < 21 → K (tG p r) = (10, 21)) ∧ ∀ r : Int32, 0 ≤ r ∧ r < 21 → K (tC p r) = (10, 21)
