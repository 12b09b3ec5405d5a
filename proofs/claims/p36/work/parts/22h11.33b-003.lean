def goP (s : Sh5) (w : Int32) : Int32 := goV s.1 s.2.2.1 s.2.2.2.2 w
