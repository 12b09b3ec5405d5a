section FMW
variable {G : pG} {M : pY} {kc ks pc : Nat} {l : pLo} {st : List Value} {u : pM} {Q : Option Value → pM → Prop}
theorem ws_minI {idx : Nat} {x y : Int32} (hd : decode M.2.1 pc = .ok (.invokestatic idx, 3)) (hL : Cond.methodLink M.1.cls idx Lib.Math.min.name ∈ lw_g) (hS : Cond.static Lib.Math.min.name ∈ lw_g) (hI : Cond.initialized "java/lang/Math" ∈ lw_g) (hC : Cond.code Lib.Math.min.name Lib.Math.min.code 2 (some .int) ∈ lw_g) (hrm : MR M (((st.map (tv G)).map fun v => v.category).sum + 13)) (h : Ws G M (pc + 3) l (.int (if y < x then y else x) :: st) u Q) : Ws G M pc l (.int y :: .int x :: st) u Q := fun hs => wp_minI hd hL hS hI hC hrm (h hs)
end FMW
