section FMW
variable {G : pG} {M : pY} {kc ks pc : Nat} {l : pLo} {st : List Value} {u : pM} {Q : Option Value → pM → Prop}
theorem wp_minJ {idx : Nat} {x y : Int64} (hd : decode M.2.1 pc = .ok (.invokestatic idx, 3)) (hL : Cond.methodLink M.1.cls idx Lib.MathLoose.min_long.x ∈ lw_g) (hS : Cond.static Lib.MathLoose.min_long.x ∈ lw_g) (hI : Cond.initialized "java/lang/Math" ∈ lw_g) (hC : Cond.code Lib.MathLoose.min_long.x Lib.MathLoose.min_long.code 4 (some .long) ∈ lw_g) (hrm : MR M (((st.map (tv G)).map fun v => v.category).sum + 15)) (h : Wp G M kc ks (pc + 3) l (.long (if y < x then y else x) :: st) u Q) : Wp G M kc ks pc l (.long y :: .long x :: st) u Q := by
  intro p e R s m args below meth c C H ls locs cells slots Qf mc ms a1 a2 a3 a4 a5 a6 a7 a8 k'
  have hts := C.2.2.2.2.2.1
  exact va_mmin_long (rest := st.map (tv G)) C.1 C.2.1 (C.2.2.2.1.trans a3.1.symm) C.2.2.2.2.1 (hts _ hL) (hts _ hS) (hts _ hI) (hts _ hC) (Nat.le_trans hrm.1 C.2.2.2.2.2.2.2.2.1) (Nat.le_trans hrm.2 C.2.2.2.2.2.2.2.2.2.1) (by omega) (by omega) hd (h p e R s m args below meth c C H ls locs cells slots Qf mc ms a1 a2 a3 a4 a5 a6 a7 a8 k')
end FMW
