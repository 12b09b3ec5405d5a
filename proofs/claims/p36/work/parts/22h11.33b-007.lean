/-- the doors a week on -/
def pwk (n w shut : Int32) (sh : Nat → Sh5) (ord : Nat → Nat) (m : Nat) (dr : Nat → Int32) : Nat → Int32 := (weP n w shut sh ord dr m).2
