section CALL
variable {G : pG} {M M' : pY} {kc ks kc' ks' pc : Nat} {l : pLo} {st : List Value} {u : pM} {Q Q' : Option Value → pM → Prop}
theorem pPc_blind {vs : List Value} : FrameBlind (pPc G vs u) := fun a U g mk q => ⟨q.1, Rl.moved (s := U) q.2.1 (Vm.Alike.refl U.vm), q.2.2.same rfl rfl⟩
end CALL
