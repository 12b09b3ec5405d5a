theorem go_P {s : Sh5} {w : Int32} (h : shV s) : goC s.1 s.2.2.2.2 s.2.2.1 w = goP s w := go_eq h.1 h.2.1 h.2.2.1
