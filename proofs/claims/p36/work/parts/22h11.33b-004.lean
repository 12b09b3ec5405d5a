def dirP (g : Int32) : Int32 := if 0 ≤ g then 1 else -1
