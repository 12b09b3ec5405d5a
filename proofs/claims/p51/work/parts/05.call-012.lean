section CALL
variable {G : pG} {M M' : pY} {kc ks kc' ks' pc : Nat} {l : pLo} {st : List Value} {u : pM} {Q Q' : Option Value → pM → Prop}
theorem run_back {p : Program} {e : Env} {R : Room} {s : State} {m : MethodId} {args : Array Value} {below : List Frame} {meth : Method} {c : Code} {H : Heap} {locs : List Loc} {cells slots : Nat} {Qf : State → Prop} {ls : Array Slot} {st0 rest : List Value} {a : Array Value} (hr : va_Run p (gl G) e R s m args below meth c H locs cells slots kc' ks' (F0 m pc ls st0) rest (pQc G kc' Q' a) (Ag G)) (hS : va_S (Ag G) s.heap H locs)
    (kk : ∀ (r : Option Value) (u' : pM) (H1 : Heap) (locs1 : List Loc), Q' r u' → Rl G s H1 u' → va_S (Ag G) s.heap H1 locs1 → H1.size = H.size + kc' → W p (gl G) e R s m args below meth c H1 locs1 (cells + kc') (slots + ks') Qf (F0 m (pc + 3) ls ((r.map (tv G)).toList ++ rest))) : W p (gl G) e R s m args below meth c H locs cells slots Qf (F0 m pc ls st0) := by
  intro T hT X
  obtain ⟨v, st₀, t, T', L, h0, X', hL, e1, e2, ⟨r, u', hv, hq, hR, hF, hz⟩, go⟩ := hr T hT X
  cases hv
  have hR1 : Rl G s T'.heap u' := by
    rw [e1]
    exact hR.moved (by rw [← e2]; exact X'.warmed.alike.symm)
  obtain ⟨f1, f2⟩ := hF
  rw [h0] at f1 f2 hz
  have hS1 : va_S (Ag G) s.heap T'.heap (locs ++ L) := ⟨by rw [e1]; exact Nat.le_trans hS.1 f1, fun q h1 h2 => by rw [e1, f2 q (Nat.lt_of_lt_of_le h1 hS.1) h2]; exact hS.2.1 q h1 h2, fun q hq => by
    rcases List.mem_append.mp hq with h | h
    · exact hS.2.2 q h
    · exact hL q h⟩
  obtain ⟨t2, b1, b2⟩ := kk r u' T'.heap (locs ++ L) hq hR1 hS1 (by rw [e1]; exact hz) T' rfl X'
  exact ⟨t2, go t2 b1, b2⟩
end CALL
