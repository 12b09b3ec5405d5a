section CALL
variable {G : pG} {M M' : pY} {kc ks kc' ks' pc : Nat} {l : pLo} {st : List Value} {u : pM} {Q Q' : Option Value → pM → Prop}
theorem Rl.moved {s U : State} {H : Heap} (h : Rl G s H u) (ha : s.vm.Alike U.vm) : Rl G U H u := ⟨h.1, h.2.1, h.2.2.1.moved ha, h.2.2.2⟩
theorem Stt.to {s U : State} {H : Heap} {locs : List Loc} (h : Stt G s) (hS : va_S (Ag G) s.heap H locs) (hU : U.heap = H) (hW : s.WarmedH U.vm) : Stt G U := by
  obtain ⟨s1, s2, s3, s4, s5, s6, s7, s8, s9, s10, s11⟩ := h
  have ha := hW.alike
  have kb : ∀ a : Nat, a < s.heap.size → ¬ Ag G a → U.heap[a]? = s.heap[a]? := fun a h1 h2 => by rw [hU]; exact hS.2.1 a h1 h2
  refine ⟨(s1.kept (kb _ (Nat.lt_of_lt_of_le s2 s6) (Nat.not_le.mpr s2))).moved ha, s2, (s3.kept kb).moved ha, s4, (s5.kept kb).moved ha, by rw [hU]; exact Nat.le_trans s6 hS.1, fun q hq => (s7 q hq).warmM hW, s8.warmF hW, s9.moved ha, s10.moved ha, s11.moved ha⟩
theorem Stt.same {s U : State} (h : Stt G s) (hU : U.heap = s.heap) (hv : s.vm = U.vm) : Stt G U := by
  refine h.to (H := s.heap) (locs := []) va_S.rf hU ?_
  rw [← hv]; exact State.WarmedH.refl s
theorem lm_args (vs : List Value) : ∀ i, lm G (lv_args i vs) = lv_args i (vs.map (tv G)) := by
  induction vs with
  | nil => intro i; rfl
  | cons v t ih =>
    intro i
    show (i, tv G v) :: lm G (lv_args _ t) = (i, tv G v) :: lv_args _ (t.map (tv G))
    rw [ih, tv_cat]
abbrev cwd (M : pY) : Cond := .code M.1 M.2.1 M.2.2.1 M.2.2.2.1
abbrev crm (M : pY) (kc ks : Nat) : Room := { frames := M.2.2.2.2.1, cells := kc, slots := ks, locals := M.2.2.2.2.2 }
def pPc (G : pG) (vs : List Value) (u : pM) : Array Value → State → Prop := fun a s => a = (vs.map (tv G)).toArray ∧ Rl G s s.heap u ∧ Stt G s
def pQc (G : pG) (kc : Nat) (Q : Option Value → pM → Prop) : Array Value → State → Outcome → State → Prop := fun _ s o t => ∃ (r : Option Value) (u' : pM), o = .returned (r.map (tv G)) ∧ Q r u' ∧ Rl G t t.heap u' ∧ va_F (Ag G) s t ∧ t.heap.size = s.heap.size + kc
theorem pPc_blind {vs : List Value} : FrameBlind (pPc G vs u) := fun a U g mk q => ⟨q.1, Rl.moved (s := U) q.2.1 (Vm.Alike.refl U.vm), q.2.2.same rfl rfl⟩
theorem goodG : ∀ w ∈ lw_g, w ∈ lw_g ∧ ((w.onTables && w.keeps) = true ∨ ∃ ty, w = .arrayClass ty) := fun w h => ⟨h, good_of_word (lw_mem.mp h).2⟩
theorem goodC (hc : cwd M ∈ lw_g) : GoodIn lw_g (cwd M :: lw_g) := fun w h => by
  rcases List.mem_cons.mp h with rfl | h
  · exact goodG _ hc
  · exact goodG w h
theorem wp_met {vs : List Value} (hpl : plainName M.1.cls = true) (hlen : (lg_sl (vs.map (tv G))).length ≤ M.2.2.1) (h : Wp G M kc ks 0 (lv_args 0 vs) [] u Q) : Met (gl G) M.1 (cwd M :: lw_g) (crm M kc ks) (pPc G vs u) (pQc G kc Q) kc ks (Ag G) := by
  refine Met.ofW (cc := M.2.1) (maxL := M.2.2.1) (ret := M.2.2.2.1) hpl rfl ?_
  intro p e s m args below meth c s₁ B hml hv
  obtain ⟨rfl, hR, hSt⟩ := hv
  have hts0 := atoms_spec (ws := cwd M :: lw_g) B.pre
  have hts : ∀ w ∈ lw_g, w.before (vs.map (tv G)).toArray s = true := fun w hw => hts0 w (List.mem_cons_of_mem _ hw)
  have hl := lv_entry (vs.map (tv G)) (n := M.2.2.1) hlen
  rw [← lm_args vs 0] at hl
  rw [lg_entry_eq]
  have C : Cx G M p (headSpec (cwd M :: lw_g) (crm M kc ks)).room s m (vs.map (tv G)).toArray meth c := ⟨B.exec, B.bytes, B.returns, hml, findClass_of_methodNamed B.named, hts, B.notSynchronized, fun _ => (name_of_methodNamed B.named B.method).1, Nat.le_refl _, Nat.le_refl _, hSt⟩
  refine h p e _ s m _ below meth c C s.heap _ [] 0 0 _ kc ks hR va_S.rf hl rfl (by omega) (by omega) (Nat.le_refl _) (Nat.le_refl _) ?_
  intro r u' H' ls' locs' pc' hQ hR' hS' hz' hret
  have hq : ∀ t : State, t.heap = H' → s.WarmedH t.vm → pQc G kc Q (vs.map (tv G)).toArray s (.returned (r.map (tv G))) t := fun t ht hW => ⟨r, u', rfl, hQ, by rw [ht]; exact hR'.moved hW.alike, hS'.F ht, by rw [ht]; exact hz'⟩
  have hlocks := B.notSynchronized
  cases r with
  | none => exact W.vret C.1 C.2.1 (C.2.2.1.trans hret.2) hq hS'.2.2 hret.1 hlocks
  | some v =>
    cases v with
    | int x =>
      obtain ⟨hd, ty, e1, e2⟩ := hret
      exact W.zret C.1 C.2.1 (C.2.2.1.trans e1) e2 hq hS'.2.2 hd hlocks
    | long x => exact W.lret C.1 C.2.1 (C.2.2.1.trans hret.2) hq hS'.2.2 hret.1 hlocks
    | ref x =>
      obtain ⟨hd, rt, e1, e2⟩ := hret
      exact W.aret C.1 C.2.1 (C.2.2.1.trans e1) e2 (Or.inr ⟨_, rfl⟩) hq hS'.2.2 hd hlocks
    | _ => exact hret.elim
theorem run_back {p : Program} {e : Env} {R : Room} {s : State} {m : MethodId} {args : Array Value} {below : List Frame} {meth : Method} {c : Code} {H : Heap} {locs : List Loc} {cells slots : Nat} {Qf : State → Prop} {ls : Array Slot} {st0 rest : List Value} {a : Array Value} (hr : va_Run p (gl G) e R s m args below meth c H locs cells slots kc' ks' (F0 m pc ls st0) rest (pQc G kc' Q' a) (Ag G)) (hS : va_S (Ag G) s.heap H locs)
    (kk : ∀ (r : Option Value) (u' : pM) (H1 : Heap) (locs1 : List Loc), Q' r u' → Rl G s H1 u' → va_S (Ag G) s.heap H1 locs1 → H1.size = H.size + kc' → W p (gl G) e R s m args below meth c H1 locs1 (cells + kc') (slots + ks') Qf (F0 m (pc + 3) ls ((r.map (tv G)).toList ++ rest))) : W p (gl G) e R s m args below meth c H locs cells slots Qf (F0 m pc ls st0) := by
  intro T hT X
  obtain ⟨v, st₀, t, T', L, h0, X', hL, e1, e2, ⟨r, u', hv, hq, hR, hF, hz⟩, go⟩ := hr T hT X
  cases hv
  have hR1 : Rl G s T'.heap u' := by
    rw [e1]
    exact hR.moved (by rw [← e2]; exact X'.warmed.alike.symm)
  obtain ⟨f1, f2⟩ := hF
  rw [h0] at f1 f2 hz
  have hS1 : va_S (Ag G) s.heap T'.heap (locs ++ L) := ⟨by rw [e1]; exact Nat.le_trans hS.1 f1, fun q h1 h2 => by rw [e1, f2 q (Nat.lt_of_lt_of_le h1 hS.1) h2]; exact hS.2.1 q h1 h2, fun q hq => by
    rcases List.mem_append.mp hq with h | h
    · exact hS.2.2 q h
    · exact hL q h⟩
  obtain ⟨t2, b1, b2⟩ := kk r u' T'.heap (locs ++ L) hq hR1 hS1 (by rw [e1]; exact hz) T' rfl X'
  exact ⟨t2, go t2 b1, b2⟩
theorem stt_nb {s : State} (h : Stt G s) (q : String × Nat × MethodName × String) (hq : q ∈ nbM) : va_Nw (.methodLinkNest q.1 q.2.1 q.2.2.1 q.2.2.2) s := by
  obtain ⟨_, _, _, _, _, _, s7, _⟩ := h
  exact s7 q hq
/-- what a callee is, whoever calls -/
def CM (M : pY) (n : Nat) : Prop := plainName M.1.cls = true ∧ cwd M ∈ lw_g ∧ Cond.initialized M.1.cls ∈ lw_g ∧ (M.1.cls ≠ "java/lang/invoke/MethodHandle" ∧ M.1.cls ≠ "java/lang/invoke/VarHandle" ∧ (parseMethodDescriptor M.1.desc).map (fun d => d.parameters.length) = some n)
/-- by which link: 0 a plain one, 1 a nest mate's -/
def LK (own : String) (idx : Nat) (M : pY) : Prop := Cond.methodLink own idx M.1 ∈ lw_g ∨ ∃ host, (own, idx, M.1, host) ∈ nbM
abbrev RoomOK (M M' : pY) : Prop := M'.2.2.2.2.1 + 1 ≤ M.2.2.2.2.1 ∧ 8 + (M'.2.2.1 + 11) + M'.2.2.2.2.2 ≤ M.2.2.2.2.2
theorem pre_of {p : Program} {R : Room} {s : State} {m : MethodId} {args : Array Value} {meth : Method} {c : Code} {H : Heap} {locs : List Loc} (vs : List Value) (C : Cx G M p R s m args meth c) (a1 : Rl G s H u) (a2 : va_S (Ag G) s.heap H locs) : ∀ U : State, U.heap = H → s.WarmedH U.vm → pPc G vs u (vs.map (tv G)).toArray U := fun U hU hW => ⟨rfl, by rw [hU]; exact a1.moved hW.alike, Stt.to C.2.2.2.2.2.2.2.2.2.2 a2 hU hW⟩
theorem wp_callV {idx n o ci : Nat} {r : vw_C} {As : List Value} (hd : decode M.2.1 pc = .ok (.invokevirtual idx, 3)) (hM : CM M' n) (hL : LK M.1.cls idx M') (hI : Cond.instanceMethod M'.1 ∈ lw_g) (hSe : Cond.selects M'.1.cls M'.1 M'.1 ∈ lw_g) (hrm : RoomOK M M') (ho : ok u o ci) (hc : cls9[ci]? = some r) (hr : r.1 = M'.1.cls) (hci : ci < 9) (hn : As.length = n) (hlen : (lg_sl ((.ref o :: As).map (tv G))).length ≤ M'.2.2.1) (hst : ((st.map (tv G)).map fun v => v.category).sum ≤ 8) (h : Wp G M' kc' ks' 0 (lv_args 0 (.ref o :: As)) [] u Q') (k : ∀ r u', Q' r u' → Wp G M kc ks (pc + 3) l (r.toList ++ st) u' Q) : Wp G M (kc' + kc) (ks' + ks) pc l (As.reverse ++ .ref o :: st) u Q := by
  intro p e R s m args below meth c C H ls locs cells slots Qf mc ms a1 a2 a3 a4 a5 a6 a7 a8 k'
  obtain ⟨hpl, hcd, hin, hdd⟩ := hM
  obtain ⟨o1, o2, o3⟩ := id ho
  have hw := wl_get (G := G) o1 o2
  rw [ce_obj o3 hci] at hw
  have hts := C.2.2.2.2.2.1
  have hMet := wp_met hpl hlen h
  have hrecv := va_recv (q0 := o - 2) a1.2.2.1 a1.1 hc hw
  rw [hr] at hrecv
  have hR1 : (crm M' kc' ks').frames + 1 ≤ R.frames := Nat.le_trans hrm.1 C.2.2.2.2.2.2.2.2.1
  have hR2 : 8 + (M'.2.2.1 + 11) + (crm M' kc' ks').locals ≤ R.locals := Nat.le_trans hrm.2 C.2.2.2.2.2.2.2.2.2.1
  have hp : PreV s H M'.1.cls (ad G o) (pPc G (.ref o :: As) u) (As.map (tv G)) := ⟨pPc_blind, hrecv, pre_of (.ref o :: As) C a1 a2⟩
  have hstk : (As.reverse ++ Value.ref o :: st).map (tv G) = (As.map (tv G)).reverse ++ .ref (ad G o) :: st.map (tv G) := by simp [tv]
  rw [hstk]
  have hf : cells + kc' ≤ R.cells ∧ slots + ks' ≤ R.slots := ⟨by omega, by omega⟩
  have run : va_Run p (gl G) e R s m args below meth c H locs cells slots kc' ks' (F0 m pc ls ((As.map (tv G)).reverse ++ .ref (ad G o) :: st.map (tv G))) (st.map (tv G)) (pQc G kc' Q' (Value.ref (ad G o) :: As.map (tv G)).toArray) (Ag G) := by
    rcases hL with hL | ⟨host, hL⟩
    · exact va_runV (Ts := lw_g) ⟨C.1, C.2.1, C.2.2.2.1, C.2.2.2.2.1, hts⟩ hMet (C := M'.1.cls) (n := n) (cwV n hts (fun w hw => by
        rcases List.mem_append.mp hw with hw | hw
        · rcases List.mem_cons.mp hw with rfl | hw
          · exact goodG _ hL
          · rcases List.mem_cons.mp hw with rfl | hw
            · exact goodG _ hI
            · rcases List.mem_cons.mp hw with rfl | hw
              · exact goodG _ hSe
              · rcases List.mem_cons.mp hw with rfl | hw
                · exact goodG _ hin
                · cases hw
        · exact goodC hcd w hw) rfl rfl rfl ⟨rfl, hdd⟩ ⟨hR1, hR2⟩) hp rfl (by rw [List.length_map]; exact hn) a3.1 rfl (lv_room hst) hd hf
    · have hnb := stt_nb C.2.2.2.2.2.2.2.2.2.2 _ hL
      exact va_runVN (Ts := lw_g) ⟨C.1, C.2.1, C.2.2.2.1, C.2.2.2.2.1, hts⟩ hMet (C := M'.1.cls) (n := n) ⟨va_cnB n hts (goodC hcd) rfl rfl rfl hnb (hts _ hin) hdd ⟨hR1, hR2⟩, hts _ hI, hts _ hSe⟩ hp rfl (by rw [List.length_map]; exact hn) a3.1 rfl (lv_room hst) hd hf
  refine run_back run a2 (fun r u' H1 locs1 hq hR' hS' hz' => ?_)
  have e9 : (r.map (tv G)).toList ++ st.map (tv G) = (r.toList ++ st).map (tv G) := by cases r <;> simp
  rw [e9]
  exact k r u' hq p e R s m args below meth c C H1 ls locs1 (cells + kc') (slots + ks') Qf mc ms hR' hS' a3 (by omega) (by omega) (by omega) a7 a8 k'
theorem wp_callS {idx n : Nat} {As : List Value} (hd : decode M.2.1 pc = .ok (.invokestatic idx, 3)) (hM : CM M' n) (hL : LK M.1.cls idx M') (hI : Cond.static M'.1 ∈ lw_g) (hrm : RoomOK M M') (hn : As.length = n) (hlen : (lg_sl (As.map (tv G))).length ≤ M'.2.2.1) (hst : ((st.map (tv G)).map fun v => v.category).sum ≤ 8) (h : Wp G M' kc' ks' 0 (lv_args 0 As) [] u Q') (k : ∀ r u', Q' r u' → Wp G M kc ks (pc + 3) l (r.toList ++ st) u' Q) : Wp G M (kc' + kc) (ks' + ks) pc l (As.reverse ++ st) u Q := by
  intro p e R s m args below meth c C H ls locs cells slots Qf mc ms a1 a2 a3 a4 a5 a6 a7 a8 k'
  obtain ⟨hpl, hcd, hin, hdd⟩ := hM
  have hts := C.2.2.2.2.2.1
  have hMet := wp_met hpl hlen h
  have hR1 : (crm M' kc' ks').frames + 1 ≤ R.frames := Nat.le_trans hrm.1 C.2.2.2.2.2.2.2.2.1
  have hR2 : 8 + (M'.2.2.1 + 11) + (crm M' kc' ks').locals ≤ R.locals := Nat.le_trans hrm.2 C.2.2.2.2.2.2.2.2.2.1
  have hp : PreS s H (pPc G As u) (As.map (tv G)) := ⟨pPc_blind, pre_of As C a1 a2⟩
  have hstk : (As.reverse ++ st).map (tv G) = (As.map (tv G)).reverse ++ st.map (tv G) := by simp
  rw [hstk]
  have hf : cells + kc' ≤ R.cells ∧ slots + ks' ≤ R.slots := ⟨by omega, by omega⟩
  have run : va_Run p (gl G) e R s m args below meth c H locs cells slots kc' ks' (F0 m pc ls ((As.map (tv G)).reverse ++ st.map (tv G))) (st.map (tv G)) (pQc G kc' Q' (As.map (tv G)).toArray) (Ag G) := by
    rcases hL with hL | ⟨host, hL⟩
    · exact va_runS (Ts := lw_g) ⟨C.1, C.2.1, C.2.2.2.1, C.2.2.2.2.1, hts⟩ hMet (n := n) (va_cwS n hts (fun w hw => by
        rcases List.mem_append.mp hw with hw | hw
        · rcases List.mem_cons.mp hw with rfl | hw
          · exact goodG _ hL
          · rcases List.mem_cons.mp hw with rfl | hw
            · exact goodG _ hI
            · rcases List.mem_cons.mp hw with rfl | hw
              · exact goodG _ hin
              · cases hw
        · exact goodC hcd w hw) rfl rfl rfl hdd ⟨hR1, hR2⟩) hp rfl (by rw [List.length_map]; exact hn) a3.1 rfl (lv_room hst) hd hf
    · have hnb := stt_nb C.2.2.2.2.2.2.2.2.2.2 _ hL
      exact va_runSN (Ts := lw_g) ⟨C.1, C.2.1, C.2.2.2.1, C.2.2.2.2.1, hts⟩ hMet (n := n) ⟨va_cnB n hts (goodC hcd) rfl rfl rfl hnb (hts _ hin) hdd ⟨hR1, hR2⟩, hts _ hI, trivial⟩ hp rfl (by rw [List.length_map]; exact hn) a3.1 rfl (lv_room hst) hd hf
  refine run_back run a2 (fun r u' H1 locs1 hq hR' hS' hz' => ?_)
  have e9 : (r.map (tv G)).toList ++ st.map (tv G) = (r.toList ++ st).map (tv G) := by cases r <;> simp
  rw [e9]
  exact k r u' hq p e R s m args below meth c C H1 ls locs1 (cells + kc') (slots + ks') Qf mc ms hR' hS' a3 (by omega) (by omega) (by omega) a7 a8 k'
theorem wp_callI {idx n o : Nat} {As : List Value} (hd : decode M.2.1 pc = .ok (.invokespecial idx, 3)) (hM : CM M' n) (hL : LK M.1.cls idx M') (hI : Cond.instanceMethod M'.1 ∈ lw_g) (hi1 : M'.1.name = "<init>") (hi2 : M'.2.2.2.1 = none) (hrm : RoomOK M M') (hn : As.length = n) (hlen : (lg_sl ((.ref o :: As).map (tv G))).length ≤ M'.2.2.1) (hst : ((st.map (tv G)).map fun v => v.category).sum ≤ 8) (h : Wp G M' kc' ks' 0 (lv_args 0 (.ref o :: As)) [] u Q') (k : ∀ r u', Q' r u' → Wp G M kc ks (pc + 3) l (r.toList ++ st) u' Q) : Wp G M (kc' + kc) (ks' + ks) pc l (As.reverse ++ .ref o :: st) u Q := by
  intro p e R s m args below meth c C H ls locs cells slots Qf mc ms a1 a2 a3 a4 a5 a6 a7 a8 k'
  obtain ⟨hpl, hcd, hin, hdd⟩ := hM
  have hts := C.2.2.2.2.2.1
  have hMet := wp_met hpl hlen h
  have hR1 : (crm M' kc' ks').frames + 1 ≤ R.frames := Nat.le_trans hrm.1 C.2.2.2.2.2.2.2.2.1
  have hR2 : 8 + (M'.2.2.1 + 11) + (crm M' kc' ks').locals ≤ R.locals := Nat.le_trans hrm.2 C.2.2.2.2.2.2.2.2.2.1
  have hp : PreS s H (pPc G (.ref o :: As) u) (.ref (ad G o) :: As.map (tv G)) := ⟨pPc_blind, pre_of (.ref o :: As) C a1 a2⟩
  have hstk : (As.reverse ++ Value.ref o :: st).map (tv G) = (As.map (tv G)).reverse ++ .ref (ad G o) :: st.map (tv G) := by simp [tv]
  rw [hstk]
  have hf : cells + kc' ≤ R.cells ∧ slots + ks' ≤ R.slots := ⟨by omega, by omega⟩
  have hw0 : cwd M' = Cond.code M'.1 M'.2.1 M'.2.2.1 none := by rw [cwd, hi2]
  have run : va_Run p (gl G) e R s m args below meth c H locs cells slots kc' ks' (F0 m pc ls ((As.map (tv G)).reverse ++ .ref (ad G o) :: st.map (tv G))) (st.map (tv G)) (pQc G kc' Q' (Value.ref (ad G o) :: As.map (tv G)).toArray) (Ag G) := by
    rcases hL with hL | ⟨host, hL⟩
    · exact va_runI (Ts := lw_g) ⟨C.1, C.2.1, C.2.2.2.1, C.2.2.2.2.1, hts⟩ hMet (n := n) (cwI n hts (goodC hcd) (by rw [hw0]) rfl rfl (hts _ hin) (hts _ hL) (hts _ hI) hi1 hdd ⟨hR1, hR2⟩) hp rfl (by rw [List.length_map]; exact hn) a3.1 rfl (lv_room hst) hd hf
    · have hnb := stt_nb C.2.2.2.2.2.2.2.2.2.2 _ hL
      exact va_runIN (Ts := lw_g) ⟨C.1, C.2.1, C.2.2.2.1, C.2.2.2.2.1, hts⟩ hMet (n := n) ⟨va_cnB n hts (goodC hcd) (by rw [hw0]) rfl rfl hnb (hts _ hin) hdd ⟨hR1, hR2⟩, hi1, hts _ hI⟩ hp rfl (by rw [List.length_map]; exact hn) a3.1 rfl (lv_room hst) hd hf
  refine run_back run a2 (fun r u' H1 locs1 hq hR' hS' hz' => ?_)
  have e9 : (r.map (tv G)).toList ++ st.map (tv G) = (r.toList ++ st).map (tv G) := by cases r <;> simp
  rw [e9]
  exact k r u' hq p e R s m args below meth c C H1 ls locs1 (cells + kc') (slots + ks') Qf mc ms hR' hS' a3 (by omega) (by omega) (by omega) a7 a8 k'
theorem wp_oinit {idx o : Nat} (hd : decode M.2.1 pc = .ok (.invokespecial idx, 3)) (hL : Cond.methodLink M.1.cls idx Lib.objectInit ∈ lw_g) (hI : Cond.instanceMethod Lib.objectInit ∈ lw_g) (hC : Cond.code Lib.objectInit ⟨#[0xb1]⟩ 1 none ∈ lw_g) (hf : 1 ≤ M.2.2.2.2.1) (hlo : ((st.map (tv G)).map fun v => v.category).sum + 12 ≤ M.2.2.2.2.2) (h : Wp G M kc ks (pc + 3) l st u Q) : Wp G M kc ks pc l (.ref o :: st) u Q := by
  refine wp_go (fun p e R s m args below meth c H locs cells slots Qf ls C hl k => ?_) h
  have hts := C.2.2.2.2.2.1
  refine W.objInit (rest := st.map (tv G)) (a := ad G o) C.1 C.2.1 C.2.2.2.2.1 (hts _ hL) (hts _ hI) (hts _ hC) rfl (by rw [C.2.2.2.1]; exact hl.1) rfl hd (Nat.le_trans hf C.2.2.2.2.2.2.2.2.1) ?_ (k ls hl)
  exact Nat.le_trans (by show 2 * 0 + _ + 12 ≤ _; omega) C.2.2.2.2.2.2.2.2.2.1
/-- System.arraycopy of ints -/
def cpI (u : pM) (a b : Nat) (sp dp n : Nat) : pM := (fun x y => if x = b then va_cpy (mI u a) (mI u b) sp dp n y else mI u x y, mL u, mR u, mS u, mX u)
theorem wp_copy {idx a b : Nat} {sp dp n : Int32} (hd : decode M.2.1 pc = .ok (.invokestatic idx, 3)) (hL : Cond.methodLink M.1.cls idx arraycopyName ∈ lw_g) (hN : Cond.native arraycopyName ∈ lw_g) (hS0 : Cond.static arraycopyName ∈ lw_g) (hI : Cond.initialized "java/lang/System" ∈ lw_g) (hf : 1 ≤ M.2.2.2.2.1) (hlo : ((st.map (tv G)).map fun v => v.category).sum + 18 ≤ M.2.2.2.2.2) (ha : ok u a 100) (hb : ok u b 100) (h1 : ¬ sp < 0) (h2 : ¬ dp < 0) (h3 : ¬ n < 0) (h4 : sp.toNatClampNeg + n.toNatClampNeg ≤ (mS u a).2) (h5 : dp.toNatClampNeg + n.toNatClampNeg ≤ (mS u b).2) (h : Wp G M kc ks (pc + 3) l st (cpI u a b sp.toNatClampNeg dp.toNatClampNeg n.toNatClampNeg) Q) : Wp G M kc ks pc l (.int n :: .int dp :: .ref b :: .int sp :: .ref a :: st) u Q := by
  intro p e R s m args below meth c C H ls locs cells slots Qf mc ms a1 a2 a3 a4 a5 a6 a7 a8 k'
  obtain ⟨o1, o2, o3⟩ := ha
  obtain ⟨p1, p2, p3⟩ := hb
  have hw := wl_get (G := G) o1 o2
  rw [ce_int o3] at hw
  have hw2 := wl_get (G := G) p1 p2
  rw [ce_int p3] at hw2
  have hts := C.2.2.2.2.2.1
  refine va_copyi (rest := st.map (tv G)) C.1 C.2.1 (C.2.2.2.1.trans a3.1.symm) C.2.2.2.2.1 (hts _ hL) (hts _ hN) (hts _ hS0) (hts _ hI) a1.2.2.1 a1.1 a1.2.1 (va_S_sub a2) (a - 2) (b - 2) 0 0 hw hw2 rfl rfl rfl h1 h2 h3 h4 h5 (fun _ _ => rfl) (Nat.le_trans hf C.2.2.2.2.2.2.2.2.1) (Nat.le_trans hlo C.2.2.2.2.2.2.2.2.2.1) hd (fun H1 locs1 hP1 hD1 hS1 => W_sz fun hz1 => ?_)
  have he : (Sum.inl (gA G 0, (mS u b).2, .inl (va_cpy (mI u a) (mI u b) sp.toNatClampNeg dp.toNatClampNeg n.toNatClampNeg)) : va_E) = ce G (cpI u a b sp.toNatClampNeg dp.toNatClampNeg n.toNatClampNeg) b := by
    rw [ce_int (u := cpI u a b sp.toNatClampNeg dp.toNatClampNeg n.toNatClampNeg) p3]
    have e : va_cpy (mI u a) (mI u b) sp.toNatClampNeg dp.toNatClampNeg n.toNatClampNeg = mI (cpI u a b sp.toNatClampNeg dp.toNatClampNeg n.toNatClampNeg) b := funext fun j => by simp [cpI, mI]
    rw [e]; rfl
  obtain ⟨r1, r2⟩ := rl_st (u' := cpI u a b sp.toNatClampNeg dp.toNatClampNeg n.toNatClampNeg) a1 p1 p2 rfl (fun x hx => ce_congr rfl (fun j => by simp [cpI, mI, hx]) (fun _ => rfl) (fun _ => rfl)) he hP1 hD1 hS1 a4 hz1
  exact h p e R s m args below meth c C H1 ls locs1 cells slots Qf mc ms r1 (va_S_tr a2 hS1) a3 r2 a5 a6 a7 a8 k'
end CALL
