section CALL
variable {G : pG} {M M' : pY} {kc ks kc' ks' pc : Nat} {l : pLo} {st : List Value} {u : pM} {Q Q' : Option Value → pM → Prop}
theorem goodC (hc : cwd M ∈ lw_g) : GoodIn lw_g (cwd M :: lw_g) := fun w h => by
  rcases List.mem_cons.mp h with rfl | h
  · exact goodG _ hc
  · exact goodG w h
end CALL
