section CALL
variable {G : pG} {M M' : pY} {kc ks kc' ks' pc : Nat} {l : pLo} {st : List Value} {u : pM} {Q Q' : Option Value → pM → Prop}
theorem Stt.to {s U : State} {H : Heap} {locs : List Loc} (h : Stt G s) (hS : va_S (Ag G) s.heap H locs) (hU : U.heap = H) (hW : s.WarmedH U.vm) : Stt G U := by
  obtain ⟨s1, s2, s3, s4, s5, s6, s7, s8, s9, s10, s11⟩ := h
  have ha := hW.alike
  have kb : ∀ a : Nat, a < s.heap.size → ¬ Ag G a → U.heap[a]? = s.heap[a]? := fun a h1 h2 => by rw [hU]; exact hS.2.1 a h1 h2
  refine ⟨(s1.kept (kb _ (Nat.lt_of_lt_of_le s2 s6) (Nat.not_le.mpr s2))).moved ha, s2, (s3.kept kb).moved ha, s4, (s5.kept kb).moved ha, by rw [hU]; exact Nat.le_trans s6 hS.1, fun q hq => (s7 q hq).warmM hW, s8.warmF hW, s9.moved ha, s10.moved ha, s11.moved ha⟩
end CALL
