def farP (n : Int32) (dr : Nat → Int32) (d : Int32) : Nat → Int32 := fun s => dAt n ((dr s).toInt64 - d.toInt64)
