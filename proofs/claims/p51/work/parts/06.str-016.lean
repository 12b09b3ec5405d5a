section STR
variable {G : pG} {M : pY} {pc : Nat} {l : pLo} {st : List Value} {u : pM} {Q : Option Value → pM → Prop}
theorem ws_iconst {n : Int} {v : Int32} (hd : decode M.2.1 pc = .ok (.iconst n, 1)) (hv : Int32.ofInt n = v) (h : Ws G M (pc + 1) l (.int v :: st) u Q) : Ws G M pc l st u Q := fun hs => wp_iconst hd hv (h hs)
theorem ws_bipush {n : Int} {v : Int32} (hd : decode M.2.1 pc = .ok (.bipush n, 2)) (hv : (Int8.ofInt n).toInt32 = v) (h : Ws G M (pc + 2) l (.int v :: st) u Q) : Ws G M pc l st u Q := fun hs => wp_bipush hd hv (h hs)
theorem ws_sipush {n : Int} {v : Int32} (hd : decode M.2.1 pc = .ok (.sipush n, 3)) (hv : (Int16.ofInt n).toInt32 = v) (h : Ws G M (pc + 3) l (.int v :: st) u Q) : Ws G M pc l st u Q := fun hs => wp_sipush hd hv (h hs)
theorem ws_lconst {n : Fin 2} {v : Int64} (hd : decode M.2.1 pc = .ok (.lconst n, 1)) (hv : Int64.ofNat (n : Nat) = v) (h : Ws G M (pc + 1) l (.long v :: st) u Q) : Ws G M pc l st u Q := fun hs => wp_lconst hd hv (h hs)
theorem ws_ldc {i : Nat} {v : Int32} (hd : decode M.2.1 pc = .ok (.ldc i, 2)) (hw : Cond.constant M.1.cls i v ∈ lw_g) (h : Ws G M (pc + 2) l (.int v :: st) u Q) : Ws G M pc l st u Q := fun hs => wp_ldc hd hw (h hs)
theorem ws_ldcw {i : Nat} {v : Int32} (hd : decode M.2.1 pc = .ok (.ldc_w i, 3)) (hw : Cond.constant M.1.cls i v ∈ lw_g) (h : Ws G M (pc + 3) l (.int v :: st) u Q) : Ws G M pc l st u Q := fun hs => wp_ldcw hd hw (h hs)
theorem ws_ldc2 {i : Nat} {v : Int64} (hd : decode M.2.1 pc = .ok (.ldc2_w i, 3)) (hw : Cond.constantLong M.1.cls i v ∈ lw_g) (h : Ws G M (pc + 3) l (.long v :: st) u Q) : Ws G M pc l st u Q := fun hs => wp_ldc2 hd hw (h hs)
theorem ws_iload_n {k0 : Fin 4} {x : Int32} (j : Nat) (hd : decode M.2.1 pc = .ok (.iload_n k0, 1)) (hl : l[j]? = some ((k0 : Nat), .int x)) (h : Ws G M (pc + 1) l (.int x :: st) u Q) : Ws G M pc l st u Q := fun hs => wp_iload_n j hd hl (h hs)
end STR
