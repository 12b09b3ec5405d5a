def weP (n w shut : Int32) (sh : Nat → Sh5) (ord : Nat → Nat) (dr : Nat → Int32) : Nat → Int32 × (Nat → Int32)
  | 0 => (shut, dr)
  | i + 1 => ((weP n w shut sh ord dr i).1 ||| (1 <<< (doP n w sh (weP n w shut sh ord dr i) (ord i) &&& 31)), fun q => if q = ord i then doP n w sh (weP n w shut sh ord dr i) (ord i) else (weP n w shut sh ord dr i).2 q)
