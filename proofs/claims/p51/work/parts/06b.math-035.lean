section FMW
variable {G : pG} {M : pY} {kc ks pc : Nat} {l : pLo} {st : List Value} {u : pM} {Q : Option Value → pM → Prop}
theorem ws_fm {idx : Nat} {x y : Int64} (hd : decode M.2.1 pc = .ok (.invokestatic idx, 3)) (hL : Cond.methodLink M.1.cls idx fm_x ∈ lw_g) (hS : Cond.static fm_x ∈ lw_g) (hI : Cond.initialized "java/lang/Math" ∈ lw_g) (hC : Cond.code fm_x fm_c 6 (some .long) ∈ lw_g) (hrm : MR M (((st.map (tv G)).map fun v => v.category).sum + 17)) (hy : ¬ y = 0) (h : Ws G M (pc + 3) l (.long (fm x y) :: st) u Q) : Ws G M pc l (.long y :: .long x :: st) u Q := fun hs => wp_fm hd hL hS hI hC hrm hy (h hs)
end FMW
