section CALL
variable {G : pG} {M M' : pY} {kc ks kc' ks' pc : Nat} {l : pLo} {st : List Value} {u : pM} {Q Q' : Option Value → pM → Prop}
theorem wp_met {vs : List Value} (hpl : plainName M.1.cls = true) (hlen : (lg_sl (vs.map (tv G))).length ≤ M.2.2.1) (h : Wp G M kc ks 0 (lv_args 0 vs) [] u Q) : Met (gl G) M.1 (cwd M :: lw_g) (crm M kc ks) (pPc G vs u) (pQc G kc Q) kc ks (Ag G) := by
  refine Met.ofW (cc := M.2.1) (maxL := M.2.2.1) (ret := M.2.2.2.1) hpl rfl ?_
  intro p e s m args below meth c s₁ B hml hv
  obtain ⟨rfl, hR, hSt⟩ := hv
  have hts0 := atoms_spec (ws := cwd M :: lw_g) B.pre
  have hts : ∀ w ∈ lw_g, w.before (vs.map (tv G)).toArray s = true := fun w hw => hts0 w (List.mem_cons_of_mem _ hw)
  have hl := lv_entry (vs.map (tv G)) (n := M.2.2.1) hlen
  rw [← lm_args vs 0] at hl
  rw [lg_entry_eq]
  have C : Cx G M p (headSpec (cwd M :: lw_g) (crm M kc ks)).room s m (vs.map (tv G)).toArray meth c := ⟨B.exec, B.bytes, B.returns, hml, findClass_of_methodNamed B.named, hts, B.notSynchronized, fun _ => (name_of_methodNamed B.named B.method).1, Nat.le_refl _, Nat.le_refl _, hSt⟩
  refine h p e _ s m _ below meth c C s.heap _ [] 0 0 _ kc ks hR va_S.rf hl rfl (by omega) (by omega) (Nat.le_refl _) (Nat.le_refl _) ?_
  intro r u' H' ls' locs' pc' hQ hR' hS' hz' hret
  have hq : ∀ t : State, t.heap = H' → s.WarmedH t.vm → pQc G kc Q (vs.map (tv G)).toArray s (.returned (r.map (tv G))) t := fun t ht hW => ⟨r, u', rfl, hQ, by rw [ht]; exact hR'.moved hW.alike, hS'.F ht, by rw [ht]; exact hz'⟩
  have hlocks := B.notSynchronized
  cases r with
  | none => exact W.vret C.1 C.2.1 (C.2.2.1.trans hret.2) hq hS'.2.2 hret.1 hlocks
  | some v =>
    cases v with
    | int x =>
      obtain ⟨hd, ty, e1, e2⟩ := hret
      exact W.zret C.1 C.2.1 (C.2.2.1.trans e1) e2 hq hS'.2.2 hd hlocks
    | long x => exact W.lret C.1 C.2.1 (C.2.2.1.trans hret.2) hq hS'.2.2 hret.1 hlocks
    | ref x =>
      obtain ⟨hd, rt, e1, e2⟩ := hret
      exact W.aret C.1 C.2.1 (C.2.2.1.trans e1) e2 (Or.inr ⟨_, rfl⟩) hq hS'.2.2 hd hlocks
    | _ => exact hret.elim
end CALL
