section CALL
variable {G : pG} {M M' : pY} {kc ks kc' ks' pc : Nat} {l : pLo} {st : List Value} {u : pM} {Q Q' : Option Value → pM → Prop}
theorem wp_oinit {idx o : Nat} (hd : decode M.2.1 pc = .ok (.invokespecial idx, 3)) (hL : Cond.methodLink M.1.cls idx Lib.objectInit ∈ lw_g) (hI : Cond.instanceMethod Lib.objectInit ∈ lw_g) (hC : Cond.code Lib.objectInit ⟨#[0xb1]⟩ 1 none ∈ lw_g) (hf : 1 ≤ M.2.2.2.2.1) (hlo : ((st.map (tv G)).map fun v => v.category).sum + 12 ≤ M.2.2.2.2.2) (h : Wp G M kc ks (pc + 3) l st u Q) : Wp G M kc ks pc l (.ref o :: st) u Q := by
  refine wp_go (fun p e R s m args below meth c H locs cells slots Qf ls C hl k => ?_) h
  have hts := C.2.2.2.2.2.1
  refine W.objInit (rest := st.map (tv G)) (a := ad G o) C.1 C.2.1 C.2.2.2.2.1 (hts _ hL) (hts _ hI) (hts _ hC) rfl (by rw [C.2.2.2.1]; exact hl.1) rfl hd (Nat.le_trans hf C.2.2.2.2.2.2.2.2.1) ?_ (k ls hl)
  exact Nat.le_trans (by show 2 * 0 + _ + 12 ≤ _; omega) C.2.2.2.2.2.2.2.2.2.1
end CALL
