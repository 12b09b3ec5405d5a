section STR
variable {G : pG} {M : pY} {pc : Nat} {l : pLo} {st : List Value} {u : pM} {Q : Option Value → pM → Prop}
theorem ws_ior {x y : Int32} (hd : decode M.2.1 pc = .ok (.ior, 1)) (h : Ws G M (pc + 1) l (.int (x ||| y) :: st) u Q) : Ws G M pc l (.int y :: .int x :: st) u Q := fun hs => wp_ior hd (h hs)
theorem ws_ixor {x y : Int32} (hd : decode M.2.1 pc = .ok (.ixor, 1)) (h : Ws G M (pc + 1) l (.int (x ^^^ y) :: st) u Q) : Ws G M pc l (.int y :: .int x :: st) u Q := fun hs => wp_ixor hd (h hs)
theorem ws_idiv {x y : Int32} (hd : decode M.2.1 pc = .ok (.idiv, 1)) (hne : ¬ y = 0) (h : Ws G M (pc + 1) l (.int (x / y) :: st) u Q) : Ws G M pc l (.int y :: .int x :: st) u Q := fun hs => wp_idiv hd hne (h hs)
theorem ws_irem {x y : Int32} (hd : decode M.2.1 pc = .ok (.irem, 1)) (hne : ¬ y = 0) (h : Ws G M (pc + 1) l (.int (x - x / y * y) :: st) u Q) : Ws G M pc l (.int y :: .int x :: st) u Q := fun hs => wp_irem hd hne (h hs)
theorem ws_ineg {x : Int32} (hd : decode M.2.1 pc = .ok (.ineg, 1)) (h : Ws G M (pc + 1) l (.int (-x) :: st) u Q) : Ws G M pc l (.int x :: st) u Q := fun hs => wp_ineg hd (h hs)
theorem ws_ishl {x y : Int32} (hd : decode M.2.1 pc = .ok (.ishl, 1)) (h : Ws G M (pc + 1) l (.int (x <<< (y &&& 31)) :: st) u Q) : Ws G M pc l (.int y :: .int x :: st) u Q := fun hs => wp_ishl hd (h hs)
theorem ws_ishr {x y : Int32} (hd : decode M.2.1 pc = .ok (.ishr, 1)) (h : Ws G M (pc + 1) l (.int (x >>> (y &&& 31)) :: st) u Q) : Ws G M pc l (.int y :: .int x :: st) u Q := fun hs => wp_ishr hd (h hs)
theorem ws_iushr {x y : Int32} (hd : decode M.2.1 pc = .ok (.iushr, 1)) (h : Ws G M (pc + 1) l (.int (x.toUInt32 >>> (y.toUInt32 &&& Int32.toUInt32 31)).toInt32 :: st) u Q) : Ws G M pc l (.int y :: .int x :: st) u Q := fun hs => wp_iushr hd (h hs)
end STR
