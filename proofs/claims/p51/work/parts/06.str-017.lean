section STR
variable {G : pG} {M : pY} {pc : Nat} {l : pLo} {st : List Value} {u : pM} {Q : Option Value → pM → Prop}
theorem ws_iload {i : Nat} {x : Int32} (j : Nat) (hd : decode M.2.1 pc = .ok (.iload i, 2)) (hl : l[j]? = some (i, .int x)) (h : Ws G M (pc + 2) l (.int x :: st) u Q) : Ws G M pc l st u Q := fun hs => wp_iload j hd hl (h hs)
theorem ws_lload_n {k0 : Fin 4} {x : Int64} (j : Nat) (hd : decode M.2.1 pc = .ok (.lload_n k0, 1)) (hl : l[j]? = some ((k0 : Nat), .long x)) (h : Ws G M (pc + 1) l (.long x :: st) u Q) : Ws G M pc l st u Q := fun hs => wp_lload_n j hd hl (h hs)
theorem ws_lload {i : Nat} {x : Int64} (j : Nat) (hd : decode M.2.1 pc = .ok (.lload i, 2)) (hl : l[j]? = some (i, .long x)) (h : Ws G M (pc + 2) l (.long x :: st) u Q) : Ws G M pc l st u Q := fun hs => wp_lload j hd hl (h hs)
theorem ws_aload_n {k0 : Fin 4} {x : Nat} (j : Nat) (hd : decode M.2.1 pc = .ok (.aload_n k0, 1)) (hl : l[j]? = some ((k0 : Nat), .ref x)) (h : Ws G M (pc + 1) l (.ref x :: st) u Q) : Ws G M pc l st u Q := fun hs => wp_aload_n j hd hl (h hs)
theorem ws_aload {i x : Nat} (j : Nat) (hd : decode M.2.1 pc = .ok (.aload i, 2)) (hl : l[j]? = some (i, .ref x)) (h : Ws G M (pc + 2) l (.ref x :: st) u Q) : Ws G M pc l st u Q := fun hs => wp_aload j hd hl (h hs)
theorem ws_istore_n {k0 : Fin 4} {x : Int32} {l' : pLo} (hd : decode M.2.1 pc = .ok (.istore_n k0, 1)) (hn : (k0 : Nat) < M.2.2.1) (hl : ls1 l k0 (.int x) = l') (h : Ws G M (pc + 1) l' st u Q) : Ws G M pc l (.int x :: st) u Q := fun hs => wp_istore_n hd hn hl (h hs)
theorem ws_istore {i : Nat} {x : Int32} {l' : pLo} (hd : decode M.2.1 pc = .ok (.istore i, 2)) (hn : i < M.2.2.1) (hl : ls1 l i (.int x) = l') (h : Ws G M (pc + 2) l' st u Q) : Ws G M pc l (.int x :: st) u Q := fun hs => wp_istore hd hn hl (h hs)
theorem ws_lstore_n {k0 : Fin 4} {x : Int64} {l' : pLo} (hd : decode M.2.1 pc = .ok (.lstore_n k0, 1)) (hn : (k0 : Nat) + 1 < M.2.2.1) (hl : ls2 l k0 (.long x) = l') (h : Ws G M (pc + 1) l' st u Q) : Ws G M pc l (.long x :: st) u Q := fun hs => wp_lstore_n hd hn hl (h hs)
end STR
