section CALL
variable {G : pG} {M M' : pY} {kc ks kc' ks' pc : Nat} {l : pLo} {st : List Value} {u : pM} {Q Q' : Option Value → pM → Prop}
theorem pre_of {p : Program} {R : Room} {s : State} {m : MethodId} {args : Array Value} {meth : Method} {c : Code} {H : Heap} {locs : List Loc} (vs : List Value) (C : Cx G M p R s m args meth c) (a1 : Rl G s H u) (a2 : va_S (Ag G) s.heap H locs) : ∀ U : State, U.heap = H → s.WarmedH U.vm → pPc G vs u (vs.map (tv G)).toArray U := fun U hU hW => ⟨rfl, by rw [hU]; exact a1.moved hW.alike, Stt.to C.2.2.2.2.2.2.2.2.2.2 a2 hU hW⟩
end CALL
