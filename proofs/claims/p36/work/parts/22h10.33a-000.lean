def keyP (s : Sh5) : Int32 := (if s.1 = 2 then 0 else 1000) + s.2.2.2.1
