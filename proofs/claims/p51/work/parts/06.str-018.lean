section STR
variable {G : pG} {M : pY} {pc : Nat} {l : pLo} {st : List Value} {u : pM} {Q : Option Value → pM → Prop}
theorem ws_lstore {i : Nat} {x : Int64} {l' : pLo} (hd : decode M.2.1 pc = .ok (.lstore i, 2)) (hn : i + 1 < M.2.2.1) (hl : ls2 l i (.long x) = l') (h : Ws G M (pc + 2) l' st u Q) : Ws G M pc l (.long x :: st) u Q := fun hs => wp_lstore hd hn hl (h hs)
theorem ws_astore_n {k0 : Fin 4} {x : Nat} {l' : pLo} (hd : decode M.2.1 pc = .ok (.astore_n k0, 1)) (hn : (k0 : Nat) < M.2.2.1) (hl : ls1 l k0 (.ref x) = l') (h : Ws G M (pc + 1) l' st u Q) : Ws G M pc l (.ref x :: st) u Q := fun hs => wp_astore_n hd hn hl (h hs)
theorem ws_astore {i x : Nat} {l' : pLo} (hd : decode M.2.1 pc = .ok (.astore i, 2)) (hn : i < M.2.2.1) (hl : ls1 l i (.ref x) = l') (h : Ws G M (pc + 2) l' st u Q) : Ws G M pc l (.ref x :: st) u Q := fun hs => wp_astore hd hn hl (h hs)
theorem ws_iinc {i : Nat} {n : Int} {x v : Int32} {l' : pLo} (j : Nat) (hd : decode M.2.1 pc = .ok (.iinc i n, 3)) (hj : l[j]? = some (i, .int x)) (hv : Int32.ofInt n = v) (hn : i < M.2.2.1) (hl : ls1 l i (.int (x + v)) = l') (h : Ws G M (pc + 3) l' st u Q) : Ws G M pc l st u Q := fun hs => wp_iinc j hd hj hv hn hl (h hs)
theorem ws_iadd {x y : Int32} (hd : decode M.2.1 pc = .ok (.iadd, 1)) (h : Ws G M (pc + 1) l (.int (x + y) :: st) u Q) : Ws G M pc l (.int y :: .int x :: st) u Q := fun hs => wp_iadd hd (h hs)
theorem ws_isub {x y : Int32} (hd : decode M.2.1 pc = .ok (.isub, 1)) (h : Ws G M (pc + 1) l (.int (x - y) :: st) u Q) : Ws G M pc l (.int y :: .int x :: st) u Q := fun hs => wp_isub hd (h hs)
theorem ws_imul {x y : Int32} (hd : decode M.2.1 pc = .ok (.imul, 1)) (h : Ws G M (pc + 1) l (.int (x * y) :: st) u Q) : Ws G M pc l (.int y :: .int x :: st) u Q := fun hs => wp_imul hd (h hs)
theorem ws_iand {x y : Int32} (hd : decode M.2.1 pc = .ok (.iand, 1)) (h : Ws G M (pc + 1) l (.int (x &&& y) :: st) u Q) : Ws G M pc l (.int y :: .int x :: st) u Q := fun hs => wp_iand hd (h hs)
end STR
