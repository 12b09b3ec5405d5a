/-! ===== answers that need no state ===== -/
def textV (t n : Int32) : Int32 := if 0 ≤ t ∧ t < 4 then (if n ≤ 100 then (if 0 ≤ n then n else -3) else -1) else -1
