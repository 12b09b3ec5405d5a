section STR
variable {G : pG} {M : pY} {pc : Nat} {l : pLo} {st : List Value} {u : pM} {Q : Option Value → pM → Prop}
theorem ws_ladd {x y : Int64} (hd : decode M.2.1 pc = .ok (.ladd, 1)) (h : Ws G M (pc + 1) l (.long (x + y) :: st) u Q) : Ws G M pc l (.long y :: .long x :: st) u Q := fun hs => wp_ladd hd (h hs)
theorem ws_lsub {x y : Int64} (hd : decode M.2.1 pc = .ok (.lsub, 1)) (h : Ws G M (pc + 1) l (.long (x - y) :: st) u Q) : Ws G M pc l (.long y :: .long x :: st) u Q := fun hs => wp_lsub hd (h hs)
theorem ws_lmul {x y : Int64} (hd : decode M.2.1 pc = .ok (.lmul, 1)) (h : Ws G M (pc + 1) l (.long (x * y) :: st) u Q) : Ws G M pc l (.long y :: .long x :: st) u Q := fun hs => wp_lmul hd (h hs)
theorem ws_ldiv {x y : Int64} (hd : decode M.2.1 pc = .ok (.ldiv, 1)) (hne : ¬ y = 0) (h : Ws G M (pc + 1) l (.long (x / y) :: st) u Q) : Ws G M pc l (.long y :: .long x :: st) u Q := fun hs => wp_ldiv hd hne (h hs)
theorem ws_lrem {x y : Int64} (hd : decode M.2.1 pc = .ok (.lrem, 1)) (hne : ¬ y = 0) (h : Ws G M (pc + 1) l (.long (x - x / y * y) :: st) u Q) : Ws G M pc l (.long y :: .long x :: st) u Q := fun hs => wp_lrem hd hne (h hs)
theorem ws_lshl {x : Int64} {y : Int32} (hd : decode M.2.1 pc = .ok (.lshl, 1)) (h : Ws G M (pc + 1) l (.long (x <<< (y.toInt64 &&& 63)) :: st) u Q) : Ws G M pc l (.int y :: .long x :: st) u Q := fun hs => wp_lshl hd (h hs)
theorem ws_lshr {x : Int64} {y : Int32} (hd : decode M.2.1 pc = .ok (.lshr, 1)) (h : Ws G M (pc + 1) l (.long (x >>> (y.toInt64 &&& 63)) :: st) u Q) : Ws G M pc l (.int y :: .long x :: st) u Q := fun hs => wp_lshr hd (h hs)
theorem ws_i2l {x : Int32} (hd : decode M.2.1 pc = .ok (.i2l, 1)) (h : Ws G M (pc + 1) l (.long x.toInt64 :: st) u Q) : Ws G M pc l (.int x :: st) u Q := fun hs => wp_i2l hd (h hs)
end STR
