section FMW
variable {G : pG} {M : pY} {kc ks pc : Nat} {l : pLo} {st : List Value} {u : pM} {Q : Option Value → pM → Prop}
theorem ws_minJ {idx : Nat} {x y : Int64} (hd : decode M.2.1 pc = .ok (.invokestatic idx, 3)) (hL : Cond.methodLink M.1.cls idx Lib.MathLoose.min_long.x ∈ lw_g) (hS : Cond.static Lib.MathLoose.min_long.x ∈ lw_g) (hI : Cond.initialized "java/lang/Math" ∈ lw_g) (hC : Cond.code Lib.MathLoose.min_long.x Lib.MathLoose.min_long.code 4 (some .long) ∈ lw_g) (hrm : MR M (((st.map (tv G)).map fun v => v.category).sum + 15)) (h : Ws G M (pc + 3) l (.long (if y < x then y else x) :: st) u Q) : Ws G M pc l (.long y :: .long x :: st) u Q := fun hs => wp_minJ hd hL hS hI hC hrm (h hs)
end FMW
