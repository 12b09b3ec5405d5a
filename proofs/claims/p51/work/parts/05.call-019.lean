section CALL
variable {G : pG} {M M' : pY} {kc ks kc' ks' pc : Nat} {l : pLo} {st : List Value} {u : pM} {Q Q' : Option Value → pM → Prop}
theorem wp_callI {idx n o : Nat} {As : List Value} (hd : decode M.2.1 pc = .ok (.invokespecial idx, 3)) (hM : CM M' n) (hL : LK M.1.cls idx M') (hI : Cond.instanceMethod M'.1 ∈ lw_g) (hi1 : M'.1.name = "<init>") (hi2 : M'.2.2.2.1 = none) (hrm : RoomOK M M') (hn : As.length = n) (hlen : (lg_sl ((.ref o :: As).map (tv G))).length ≤ M'.2.2.1) (hst : ((st.map (tv G)).map fun v => v.category).sum ≤ 8) (h : Wp G M' kc' ks' 0 (lv_args 0 (.ref o :: As)) [] u Q') (k : ∀ r u', Q' r u' → Wp G M kc ks (pc + 3) l (r.toList ++ st) u' Q) : Wp G M (kc' + kc) (ks' + ks) pc l (As.reverse ++ .ref o :: st) u Q := by
  intro p e R s m args below meth c C H ls locs cells slots Qf mc ms a1 a2 a3 a4 a5 a6 a7 a8 k'
  obtain ⟨hpl, hcd, hin, hdd⟩ := hM
  have hts := C.2.2.2.2.2.1
  have hMet := wp_met hpl hlen h
  have hR1 : (crm M' kc' ks').frames + 1 ≤ R.frames := Nat.le_trans hrm.1 C.2.2.2.2.2.2.2.2.1
  have hR2 : 8 + (M'.2.2.1 + 11) + (crm M' kc' ks').locals ≤ R.locals := Nat.le_trans hrm.2 C.2.2.2.2.2.2.2.2.2.1
  have hp : PreS s H (pPc G (.ref o :: As) u) (.ref (ad G o) :: As.map (tv G)) := ⟨pPc_blind, pre_of (.ref o :: As) C a1 a2⟩
  have hstk : (As.reverse ++ Value.ref o :: st).map (tv G) = (As.map (tv G)).reverse ++ .ref (ad G o) :: st.map (tv G) := by simp [tv]
  rw [hstk]
  have hf : cells + kc' ≤ R.cells ∧ slots + ks' ≤ R.slots := ⟨by omega, by omega⟩
  have hw0 : cwd M' = Cond.code M'.1 M'.2.1 M'.2.2.1 none := by rw [cwd, hi2]
  have run : va_Run p (gl G) e R s m args below meth c H locs cells slots kc' ks' (F0 m pc ls ((As.map (tv G)).reverse ++ .ref (ad G o) :: st.map (tv G))) (st.map (tv G)) (pQc G kc' Q' (Value.ref (ad G o) :: As.map (tv G)).toArray) (Ag G) := by
    rcases hL with hL | ⟨host, hL⟩
    · exact va_runI (Ts := lw_g) ⟨C.1, C.2.1, C.2.2.2.1, C.2.2.2.2.1, hts⟩ hMet (n := n) (cwI n hts (goodC hcd) (by rw [hw0]) rfl rfl (hts _ hin) (hts _ hL) (hts _ hI) hi1 hdd ⟨hR1, hR2⟩) hp rfl (by rw [List.length_map]; exact hn) a3.1 rfl (lv_room hst) hd hf
    · exact va_runIN (Ts := lw_g) ⟨C.1, C.2.1, C.2.2.2.1, C.2.2.2.2.1, hts⟩ hMet (n := n) ⟨va_cnB n hts (goodC hcd) (by rw [hw0]) rfl rfl (C.2.2.2.2.2.2.2.2.2.2.2.2.2.2.2.2.1 _ hL) (hts _ hin) hdd ⟨hR1, hR2⟩, hi1, hts _ hI⟩ hp rfl (by rw [List.length_map]; exact hn) a3.1 rfl (lv_room hst) hd hf
  refine run_back run a2 (fun r u' H1 locs1 hq hR' hS' hz' => ?_)
  have e9 : (r.map (tv G)).toList ++ st.map (tv G) = (r.toList ++ st).map (tv G) := by cases r <;> simp
  rw [e9]
  exact k r u' hq p e R s m args below meth c C H1 ls locs1 (cells + kc') (slots + ks') Qf mc ms hR' hS' a3 (by omega) (by omega) (by omega) a7 a8 k'
end CALL
