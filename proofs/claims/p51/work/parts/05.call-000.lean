section CALL
variable {G : pG} {M M' : pY} {kc ks kc' ks' pc : Nat} {l : pLo} {st : List Value} {u : pM} {Q Q' : Option Value → pM → Prop}
theorem Rl.moved {s U : State} {H : Heap} (h : Rl G s H u) (ha : s.vm.Alike U.vm) : Rl G U H u := ⟨h.1, h.2.1, h.2.2.1.moved ha, h.2.2.2⟩
end CALL
