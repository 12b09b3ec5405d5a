section CALL
variable {G : pG} {M M' : pY} {kc ks kc' ks' pc : Nat} {l : pLo} {st : List Value} {u : pM} {Q Q' : Option Value → pM → Prop}
theorem Stt.same {s U : State} (h : Stt G s) (hU : U.heap = s.heap) (hv : s.vm = U.vm) : Stt G U := by
  refine h.to (H := s.heap) (locs := []) va_S.rf hU ?_
  rw [← hv]; exact State.WarmedH.refl s
end CALL
