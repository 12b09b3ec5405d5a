theorem UCv.dn {n : Int32} {far : Nat → Int32} {set up : Int32} {k : Nat} {h l : Int32} (q : UCv n far set up (k + 1) h l) : UCv n far set up k h l := ⟨q.1, q.2.1, fun s hs => q.2.2 s (by omega)⟩
