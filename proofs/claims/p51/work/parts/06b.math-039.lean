section FMW
variable {G : pG} {M : pY} {kc ks pc : Nat} {l : pLo} {st : List Value} {u : pM} {Q : Option Value → pM → Prop}
theorem ws_absJ {idx : Nat} {x : Int64} (hd : decode M.2.1 pc = .ok (.invokestatic idx, 3)) (hL : Cond.methodLink M.1.cls idx Lib.MathLoose.abs_long.x ∈ lw_g) (hS : Cond.static Lib.MathLoose.abs_long.x ∈ lw_g) (hI : Cond.initialized "java/lang/Math" ∈ lw_g) (hC : Cond.code Lib.MathLoose.abs_long.x Lib.MathLoose.abs_long.code 2 (some .long) ∈ lw_g) (hrm : MR M (((st.map (tv G)).map fun v => v.category).sum + 13)) (h : Ws G M (pc + 3) l (.long (if 0 < x then x else -x) :: st) u Q) : Ws G M pc l (.long x :: st) u Q := fun hs => wp_absJ hd hL hS hI hC hrm (h hs)
end FMW
