section CALL
variable {G : pG} {M M' : pY} {kc ks kc' ks' pc : Nat} {l : pLo} {st : List Value} {u : pM} {Q Q' : Option Value → pM → Prop}
theorem wp_copy {idx a b : Nat} {sp dp n : Int32} (hd : decode M.2.1 pc = .ok (.invokestatic idx, 3)) (hL : Cond.methodLink M.1.cls idx arraycopyName ∈ lw_g) (hN : Cond.native arraycopyName ∈ lw_g) (hS0 : Cond.static arraycopyName ∈ lw_g) (hI : Cond.initialized "java/lang/System" ∈ lw_g) (hf : 1 ≤ M.2.2.2.2.1) (hlo : ((st.map (tv G)).map fun v => v.category).sum + 18 ≤ M.2.2.2.2.2) (ha : ok u a 100) (hb : ok u b 100) (h1 : ¬ sp < 0) (h2 : ¬ dp < 0) (h3 : ¬ n < 0) (h4 : sp.toNatClampNeg + n.toNatClampNeg ≤ (mS u a).2) (h5 : dp.toNatClampNeg + n.toNatClampNeg ≤ (mS u b).2) (h : Wp G M kc ks (pc + 3) l st (cpI u a b sp.toNatClampNeg dp.toNatClampNeg n.toNatClampNeg) Q) : Wp G M kc ks pc l (.int n :: .int dp :: .ref b :: .int sp :: .ref a :: st) u Q := by
  intro p e R s m args below meth c C H ls locs cells slots Qf mc ms a1 a2 a3 a4 a5 a6 a7 a8 k'
  obtain ⟨o1, o2, o3⟩ := ha
  obtain ⟨p1, p2, p3⟩ := hb
  have hw := wl_get (G := G) o1 o2
  rw [ce_int o3] at hw
  have hw2 := wl_get (G := G) p1 p2
  rw [ce_int p3] at hw2
  have hts := C.2.2.2.2.2.1
  refine va_copyi (rest := st.map (tv G)) C.1 C.2.1 (C.2.2.2.1.trans a3.1.symm) C.2.2.2.2.1 (hts _ hL) (hts _ hN) (hts _ hS0) (hts _ hI) a1.2.2.1 a1.1 a1.2.1 (va_S_sub a2) (a - 2) (b - 2) 0 0 hw hw2 rfl rfl rfl h1 h2 h3 h4 h5 (fun _ _ => rfl) (Nat.le_trans hf C.2.2.2.2.2.2.2.2.1) (Nat.le_trans hlo C.2.2.2.2.2.2.2.2.2.1) hd (fun H1 locs1 hP1 hD1 hS1 => W_sz fun hz1 => ?_)
  have he : (Sum.inl (gA G 0, (mS u b).2, .inl (va_cpy (mI u a) (mI u b) sp.toNatClampNeg dp.toNatClampNeg n.toNatClampNeg)) : va_E) = ce G (cpI u a b sp.toNatClampNeg dp.toNatClampNeg n.toNatClampNeg) b := by
    rw [ce_int (u := cpI u a b sp.toNatClampNeg dp.toNatClampNeg n.toNatClampNeg) p3]
    have e : va_cpy (mI u a) (mI u b) sp.toNatClampNeg dp.toNatClampNeg n.toNatClampNeg = mI (cpI u a b sp.toNatClampNeg dp.toNatClampNeg n.toNatClampNeg) b := funext fun j => by simp [cpI, mI]
    rw [e]; rfl
  obtain ⟨r1, r2⟩ := rl_st (u' := cpI u a b sp.toNatClampNeg dp.toNatClampNeg n.toNatClampNeg) a1 p1 p2 rfl (fun x hx => ce_congr rfl (fun j => by simp [cpI, mI, hx]) (fun _ => rfl) (fun _ => rfl)) he hP1 hD1 hS1 a4 hz1
  exact h p e R s m args below meth c C H1 ls locs1 cells slots Qf mc ms r1 (va_S_tr a2 hS1) a3 r2 a5 a6 a7 a8 k'
end CALL
