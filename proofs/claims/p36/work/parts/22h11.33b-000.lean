def seekP (n tk dir : Int32) : Nat → Int32 → Int32
  | 0, d => d
  | f + 1, d => if tb tk d.toNatClampNeg = true then seekP n tk dir f (dAt n (d + dir).toInt64) else d
