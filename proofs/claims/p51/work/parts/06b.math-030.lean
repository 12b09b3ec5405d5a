section FMW
variable {G : pG} {M : pY} {kc ks pc : Nat} {l : pLo} {st : List Value} {u : pM} {Q : Option Value → pM → Prop}
theorem wp_fm {idx : Nat} {x y : Int64} (hd : decode M.2.1 pc = .ok (.invokestatic idx, 3)) (hL : Cond.methodLink M.1.cls idx fm_x ∈ lw_g) (hS : Cond.static fm_x ∈ lw_g) (hI : Cond.initialized "java/lang/Math" ∈ lw_g) (hC : Cond.code fm_x fm_c 6 (some .long) ∈ lw_g) (hrm : MR M (((st.map (tv G)).map fun v => v.category).sum + 17)) (hy : ¬ y = 0) (h : Wp G M kc ks (pc + 3) l (.long (fm x y) :: st) u Q) : Wp G M kc ks pc l (.long y :: .long x :: st) u Q := by
  intro p e R s m args below meth c C H ls locs cells slots Qf mc ms a1 a2 a3 a4 a5 a6 a7 a8 k' T hT X
  have hts := C.2.2.2.2.2.1
  obtain ⟨vm', X', stp⟩ := fm_call X C.1 C.2.2.2.2.1 (hts _ hL) (hts _ hS) (hts _ hI) (hts _ hC) (g := F0 m pc ls (.long y :: .long x :: st.map (tv G))) rfl (by show ls.size = _; rw [a3.1, C.2.2.2.1]) (a := x) (b := y) hy (rest := st.map (tv G)) rfl (by rw [C.2.1]; exact hd) (Nat.le_trans hrm.1 C.2.2.2.2.2.2.2.2.1) (Nat.le_trans (by show 2 * 0 + _ + 17 ≤ _; have := hrm.2; omega) C.2.2.2.2.2.2.2.2.2.1) (by omega) (by omega)
  obtain ⟨t, b1, b2⟩ := h p e R s m args below meth c C H ls locs cells slots Qf mc ms a1 a2 a3 a4 a5 a6 a7 a8 k' (T.setVm vm') hT X'
  exact ⟨t, stp t b1, b2⟩
end FMW
