section STR
variable {G : pG} {M : pY} {pc : Nat} {l : pLo} {st : List Value} {u : pM} {Q : Option Value → pM → Prop}
theorem ws_l2i {x : Int64} (hd : decode M.2.1 pc = .ok (.l2i, 1)) (h : Ws G M (pc + 1) l (.int x.toInt32 :: st) u Q) : Ws G M pc l (.long x :: st) u Q := fun hs => wp_l2i hd (h hs)
theorem ws_i2b {x : Int32} (hd : decode M.2.1 pc = .ok (.i2b, 1)) (h : Ws G M (pc + 1) l (.int x.toInt8.toInt32 :: st) u Q) : Ws G M pc l (.int x :: st) u Q := fun hs => wp_i2b hd (h hs)
theorem ws_dup {v : Value} (hd : decode M.2.1 pc = .ok (.dup, 1)) (hv : v.category = 1) (h : Ws G M (pc + 1) l (v :: v :: st) u Q) : Ws G M pc l (v :: st) u Q := fun hs => wp_dup hd hv (h hs)
theorem ws_pop {v : Value} (hd : decode M.2.1 pc = .ok (.pop, 1)) (hv : v.category = 1) (h : Ws G M (pc + 1) l st u Q) : Ws G M pc l (v :: st) u Q := fun hs => wp_pop hd hv (h hs)
theorem ws_dup2 {v w : Value} (hd : decode M.2.1 pc = .ok (.dup2, 1)) (hv : v.category = 1) (hw : w.category = 1) (h : Ws G M (pc + 1) l (v :: w :: v :: w :: st) u Q) : Ws G M pc l (v :: w :: st) u Q := fun hs => wp_dup2 hd hv hw (h hs)
theorem ws_pop2 {v : Value} (hd : decode M.2.1 pc = .ok (.pop2, 1)) (hv : v.category = 2) (h : Ws G M (pc + 1) l st u Q) : Ws G M pc l (v :: st) u Q := fun hs => wp_pop2 hd hv (h hs)
theorem ws_goto {off : Int} {tgt : Nat} (hd : decode M.2.1 pc = .ok (.goto off, 3)) (ht : (pc : Int) + off = (tgt : Int)) (h : Ws G M tgt l st u Q) : Ws G M pc l st u Q := fun hs => wp_goto hd ht (h hs)
theorem ws_ifnull {x : Nat} {off : Int} (hd : decode M.2.1 pc = .ok (.ifnull off, 3)) (h : Ws G M (pc + 3) l st u Q) : Ws G M pc l (.ref x :: st) u Q := fun hs => wp_ifnull hd (h hs)
end STR
