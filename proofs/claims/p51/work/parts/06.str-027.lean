section STR
variable {G : pG} {M : pY} {pc : Nat} {l : pLo} {st : List Value} {u : pM} {Q : Option Value → pM → Prop}
theorem ws_lret {v : Int64} (hd : decode M.2.1 pc = .ok (.lreturn, 1)) (ht : M.2.2.2.1 = some .long) (hQ : Q (some (.long v)) u) : Ws G M pc l [.long v] u Q := fun hs => wp_lret hd ht ⟨hs, hQ⟩
theorem ws_aret {v : Nat} (hd : decode M.2.1 pc = .ok (.areturn, 1)) (ht : ∃ n, M.2.2.2.1 = some (.object n)) (hQ : Q (some (.ref v)) u) : Ws G M pc l [.ref v] u Q := fun hs => wp_aret hd ht ⟨hs, hQ⟩
theorem ws_vret (hd : decode M.2.1 pc = .ok (.return_, 1)) (ht : M.2.2.2.1 = none) (hQ : Q none u) : Ws G M pc l [] u Q := fun hs => wp_vret hd ht ⟨hs, hQ⟩
theorem ws_copy {idx a b : Nat} {sp dp n : Int32} (hd : decode M.2.1 pc = .ok (.invokestatic idx, 3)) (hL : Cond.methodLink M.1.cls idx arraycopyName ∈ lw_g) (hN : Cond.native arraycopyName ∈ lw_g) (hS0 : Cond.static arraycopyName ∈ lw_g) (hI : Cond.initialized "java/lang/System" ∈ lw_g) (hf : 1 ≤ M.2.2.2.2.1) (hlo : ((st.map (tv G)).map fun v => v.category).sum + 18 ≤ M.2.2.2.2.2) (ha : okS a 100) (hb : okS b 100) (h1 : ¬ sp < 0) (h2 : ¬ dp < 0) (h3 : ¬ n < 0) (h4 : sp.toNatClampNeg + n.toNatClampNeg ≤ (S0 a).2) (h5 : dp.toNatClampNeg + n.toNatClampNeg ≤ (S0 b).2) (h : Ws G M (pc + 3) l st (cpI u a b sp.toNatClampNeg dp.toNatClampNeg n.toNatClampNeg) Q) : Ws G M pc l (.int n :: .int dp :: .ref b :: .int sp :: .ref a :: st) u Q := fun hs => wp_copy hd hL hN hS0 hI hf hlo (ok_of hs ha) (ok_of hs hb) h1 h2 h3 (by rw [len_of hs ha]; exact h4) (by rw [len_of hs hb]; exact h5) (h hs)
/-- calls, by the callee's answer -/
def CV (M : pY) (n ci : Nat) : Prop := CM M n ∧ Cond.instanceMethod M.1 ∈ lw_g ∧ Cond.selects M.1.cls M.1 M.1 ∈ lw_g ∧ (∃ r : vw_C, cls9[ci]? = some r ∧ r.1 = M.1.cls) ∧ ci < 9
def CS (M : pY) (n : Nat) : Prop := CM M n ∧ Cond.static M.1 ∈ lw_g
theorem ws_callV {M' : pY} {idx n o ci : Nat} {As : List Value} {la : pLo} {sk : List Value} {Q' : Option Value → pM → Prop} (hd : decode M.2.1 pc = .ok (.invokevirtual idx, 3)) (hM : CV M' n ci) (hL : LK M.1.cls idx M') (hrm : RoomOK M M') (ho : okS o ci) (hn : As.length = n) (hlen : (lg_sl ((.ref o :: As).map (tv G))).length ≤ M'.2.2.1) (hst : ((st.map (tv G)).map fun v => v.category).sum ≤ 8) (hla : lv_args 0 (.ref o :: As) = la) (hsk : As.reverse ++ .ref o :: st = sk) (h : Ws G M' 0 la [] u Q') (k : ∀ r u', Q' r u' → Ws G M (pc + 3) l (r.toList ++ st) u' Q) : Ws G M pc l sk u Q := fun hs => by
  subst hla; subst hsk
  obtain ⟨h1, h2, h3, ⟨r, h4, h5⟩, h6⟩ := hM
  exact wp_callV (kc' := 0) (ks' := 0) (kc := 0) (ks := 0) hd h1 hL h2 h3 hrm (ok_of hs ho) h4 h5 h6 hn hlen hst (h hs) (fun r u' q => k r u' q.2 q.1)
theorem ws_callS {M' : pY} {idx n : Nat} {As : List Value} {la : pLo} {sk : List Value} {Q' : Option Value → pM → Prop} (hd : decode M.2.1 pc = .ok (.invokestatic idx, 3)) (hM : CS M' n) (hL : LK M.1.cls idx M') (hrm : RoomOK M M') (hn : As.length = n) (hlen : (lg_sl (As.map (tv G))).length ≤ M'.2.2.1) (hst : ((st.map (tv G)).map fun v => v.category).sum ≤ 8) (hla : lv_args 0 As = la) (hsk : As.reverse ++ st = sk) (h : Ws G M' 0 la [] u Q') (k : ∀ r u', Q' r u' → Ws G M (pc + 3) l (r.toList ++ st) u' Q) : Ws G M pc l sk u Q := fun hs => by
  subst hla; subst hsk
  exact wp_callS (kc' := 0) (ks' := 0) (kc := 0) (ks := 0) hd hM.1 hL hM.2 hrm hn hlen hst (h hs) (fun r u' q => k r u' q.2 q.1)
end STR
