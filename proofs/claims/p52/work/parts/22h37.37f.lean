/-! ===== by remainders: meets, never, joins, quiet, busy ===== -/
theorem stp9 {x : Int32} (h : -9 ≤ x ∧ x ≤ 9) : -9 ≤ x.toInt ∧ x.toInt ≤ 9 := by
  have a := Int32.le_iff_toInt_le.mp h.1
  have b := Int32.le_iff_toInt_le.mp h.2
  have e1 : (-9 : Int32).toInt = -9 := by decide
  have e2 : (9 : Int32).toInt = 9 := by decide
  omega
theorem nI30 {n : Int32} (hn : 10 ≤ n ∧ n ≤ 30) : 10 ≤ n.toInt ∧ n.toInt ≤ 30 := by
  have a := Int32.le_iff_toInt_le.mp hn.1
  have b := Int32.le_iff_toInt_le.mp hn.2
  have e1 : (10 : Int32).toInt = 10 := by decide
  have e2 : (30 : Int32).toInt = 30 := by decide
  omega
def gapV (dr : Nat → Int32) (x1 x2 : Int32) : Int32 := dr x2.toNatClampNeg - dr x1.toNatClampNeg
def gnV (sh : Nat → Sh5) (x1 x2 : Int32) : Int32 := (sh x2.toNatClampNeg).2.2.1 - (sh x1.toNatClampNeg).2.2.1
section ANF
variable {G : pG} {u v : pM} {Q : Option Value → pM → Prop}
/-! meets -/
/-! never -/
/-! joins -/
/-! quiet, busy: door and step by one number -/
end ANF
