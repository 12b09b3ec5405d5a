/-- the door that shop s comes to -/
def doP (n w : Int32) (sh : Nat → Sh5) (t : Int32 × (Nat → Int32)) (s : Nat) : Int32 := seekP n t.1 (dirP (goP (sh s) w)) n.toNatClampNeg (dAt n (t.2 s + goP (sh s) w).toInt64)
