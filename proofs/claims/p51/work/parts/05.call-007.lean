section CALL
variable {G : pG} {M M' : pY} {kc ks kc' ks' pc : Nat} {l : pLo} {st : List Value} {u : pM} {Q Q' : Option Value → pM → Prop}
def pQc (G : pG) (kc : Nat) (Q : Option Value → pM → Prop) : Array Value → State → Outcome → State → Prop := fun _ s o t => ∃ (r : Option Value) (u' : pM), o = .returned (r.map (tv G)) ∧ Q r u' ∧ Rl G t t.heap u' ∧ va_F (Ag G) s t ∧ t.heap.size = s.heap.size + kc
end CALL
