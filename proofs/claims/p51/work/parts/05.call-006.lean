section CALL
variable {G : pG} {M M' : pY} {kc ks kc' ks' pc : Nat} {l : pLo} {st : List Value} {u : pM} {Q Q' : Option Value → pM → Prop}
def pPc (G : pG) (vs : List Value) (u : pM) : Array Value → State → Prop := fun a s => a = (vs.map (tv G)).toArray ∧ Rl G s s.heap u ∧ Stt G s
end CALL
