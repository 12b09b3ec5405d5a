section ARR
variable {G : pG} {M : pY} {kc ks pc : Nat} {l : pLo} {st : List Value} {u : pM} {Q : Option Value → pM → Prop}
theorem wp_iald {n : Nat} {i : Int32} (hd : decode M.2.1 pc = .ok (.iaload, 1)) (ha : oka u n 100 i) (h : Wp G M kc ks (pc + 1) l (.int (mI u n i.toNatClampNeg) :: st) u Q) : Wp G M kc ks pc l (.int i :: .ref n :: st) u Q := by
  intro p e R s m args below meth c C H ls locs cells slots Qf mc ms a1 a2 a3 a4 a5 a6 a7 a8 k'
  obtain ⟨⟨o1, o2, o3⟩, hi⟩ := ha
  have hw := wl_get (G := G) o1 o2
  rw [ce_int o3] at hw
  exact va_iald C.1 C.2.1 a1.2.2.1 a1.1 (n - 2) 0 hw rfl hi hd (h p e R s m args below meth c C H ls locs cells slots Qf mc ms a1 a2 a3 a4 a5 a6 a7 a8 k')
theorem wp_lald {n : Nat} {i : Int32} (hd : decode M.2.1 pc = .ok (.laload, 1)) (ha : oka u n 101 i) (h : Wp G M kc ks (pc + 1) l (.long (mL u n i.toNatClampNeg) :: st) u Q) : Wp G M kc ks pc l (.int i :: .ref n :: st) u Q := by
  intro p e R s m args below meth c C H ls locs cells slots Qf mc ms a1 a2 a3 a4 a5 a6 a7 a8 k'
  obtain ⟨⟨o1, o2, o3⟩, hi⟩ := ha
  have hw := wl_get (G := G) o1 o2
  rw [ce_long o3] at hw
  exact va_lald C.1 C.2.1 a1.2.2.1 a1.1 (n - 2) 1 hw rfl hi hd (h p e R s m args below meth c C H ls locs cells slots Qf mc ms a1 a2 a3 a4 a5 a6 a7 a8 k')
def rk (kd : Nat) : String := if kd = 102 then "DoorRounds$Strip" else if kd = 103 then "DoorRounds$Standing" else "DoorRounds$Shop"
theorem gty_ref {kd : Nat} (h1 : 102 ≤ kd) (h2 : kd ≤ 104) : (gty G)[kd - 100]? = some (gA G (kd - 100), .object (rk kd)) := by
  rcases (show kd = 102 ∨ kd = 103 ∨ kd = 104 by omega) with rfl | rfl | rfl <;> rfl
theorem wp_aald {n kd : Nat} {i : Int32} (hd : decode M.2.1 pc = .ok (.aaload, 1)) (ha : oka u n kd i) (hk : 102 ≤ kd ∧ kd ≤ 104) (hn : mR u n i.toNatClampNeg ≠ 0) (h : Wp G M kc ks (pc + 1) l (.ref (mR u n i.toNatClampNeg) :: st) u Q) : Wp G M kc ks pc l (.int i :: .ref n :: st) u Q := by
  intro p e R s m args below meth c C H ls locs cells slots Qf mc ms a1 a2 a3 a4 a5 a6 a7 a8 k'
  obtain ⟨⟨o1, o2, o3⟩, hi⟩ := ha
  have hw := wl_get (G := G) o1 o2
  rw [ce_ref o3 hk.1] at hw
  refine va_aldq C.1 C.2.1 a1.2.2.1 a1.1 (n - 2) (kd - 100) hw (gty_ref hk.1 hk.2) hi hd ?_
  have e1 : va_rf (rf G (mR u n i.toNatClampNeg)) = .ref (ad G (mR u n i.toNatClampNeg)) := by simp [rf, hn, va_rf]
  rw [e1]
  exact h p e R s m args below meth c C H ls locs cells slots Qf mc ms a1 a2 a3 a4 a5 a6 a7 a8 k'
theorem wp_iast {n : Nat} {i x : Int32} (hd : decode M.2.1 pc = .ok (.iastore, 1)) (ha : oka u n 100 i) (h : Wp G M kc ks (pc + 1) l st (pI u n i.toNatClampNeg x) Q) : Wp G M kc ks pc l (.int x :: .int i :: .ref n :: st) u Q := by
  intro p e R s m args below meth c C H ls locs cells slots Qf mc ms a1 a2 a3 a4 a5 a6 a7 a8 k'
  obtain ⟨⟨o1, o2, o3⟩, hi⟩ := ha
  have hw := wl_get (G := G) o1 o2
  rw [ce_int o3] at hw
  refine va_iast C.1 C.2.1 a1.2.2.1 a1.1 a1.2.1 (va_S_sub a2) (n - 2) 0 hw rfl hi hd (fun H1 locs1 hP1 hD1 hS1 => W_sz fun hz1 => ?_)
  have he : (Sum.inl (gA G 0, (mS u n).2, .inl (upd (mI u n) i.toNatClampNeg x)) : va_E) = ce G (pI u n i.toNatClampNeg x) n := by
    rw [ce_int (u := pI u n i.toNatClampNeg x) o3]
    have e : upd (mI u n) i.toNatClampNeg x = mI (pI u n i.toNatClampNeg x) n := funext fun j => by show _ = up2 (mI u) n i.toNatClampNeg x n j; simp [upd, up2]
    rw [e]; rfl
  obtain ⟨r1, r2⟩ := rl_st (u' := pI u n i.toNatClampNeg x) a1 o1 o2 rfl (fun a ha => ce_pI ha) he hP1 hD1 hS1 a4 hz1
  exact h p e R s m args below meth c C H1 ls locs1 cells slots Qf mc ms r1 (va_S_tr a2 hS1) a3 r2 a5 a6 a7 a8 k'
theorem wp_last {n : Nat} {i : Int32} {x : Int64} (hd : decode M.2.1 pc = .ok (.lastore, 1)) (ha : oka u n 101 i) (h : Wp G M kc ks (pc + 1) l st (pL u n i.toNatClampNeg x) Q) : Wp G M kc ks pc l (.long x :: .int i :: .ref n :: st) u Q := by
  intro p e R s m args below meth c C H ls locs cells slots Qf mc ms a1 a2 a3 a4 a5 a6 a7 a8 k'
  obtain ⟨⟨o1, o2, o3⟩, hi⟩ := ha
  have hw := wl_get (G := G) o1 o2
  rw [ce_long o3] at hw
  refine va_last C.1 C.2.1 a1.2.2.1 a1.1 a1.2.1 (va_S_sub a2) (n - 2) 1 hw rfl hi hd (fun H1 locs1 hP1 hD1 hS1 => W_sz fun hz1 => ?_)
  have he : (Sum.inl (gA G 1, (mS u n).2, .inr (.inl (vp_updL (mL u n) i.toNatClampNeg x))) : va_E) = ce G (pL u n i.toNatClampNeg x) n := by
    rw [ce_long (u := pL u n i.toNatClampNeg x) o3]
    have e : vp_updL (mL u n) i.toNatClampNeg x = mL (pL u n i.toNatClampNeg x) n := funext fun j => by show _ = up2 (mL u) n i.toNatClampNeg x n j; simp [vp_updL, up2]
    rw [e]; rfl
  obtain ⟨r1, r2⟩ := rl_st (u' := pL u n i.toNatClampNeg x) a1 o1 o2 rfl (fun a ha => ce_pL ha) he hP1 hD1 hS1 a4 hz1
  exact h p e R s m args below meth c C H1 ls locs1 cells slots Qf mc ms r1 (va_S_tr a2 hS1) a3 r2 a5 a6 a7 a8 k'
theorem wp_aast {n kd v ci : Nat} {i : Int32} {r : vw_C} (hd : decode M.2.1 pc = .ok (.aastore, 1)) (ha : oka u n kd i) (hk : 102 ≤ kd ∧ kd ≤ 104) (hv : ok u v ci) (hc : cls9[ci]? = some r) (hr : rk kd = r.1) (hci : ci < 9) (h : Wp G M kc ks (pc + 1) l st (pR u n i.toNatClampNeg v) Q) : Wp G M kc ks pc l (.ref v :: .int i :: .ref n :: st) u Q := by
  intro p e R s m args below meth c C H ls locs cells slots Qf mc ms a1 a2 a3 a4 a5 a6 a7 a8 k'
  obtain ⟨⟨o1, o2, o3⟩, hi⟩ := ha
  obtain ⟨v1, v2, v3⟩ := hv
  have hw := wl_get (G := G) o1 o2
  rw [ce_ref o3 hk.1] at hw
  have hw2 := wl_get (G := G) v1 v2
  rw [ce_obj v3 hci] at hw2
  have hg := gty_ref (G := G) hk.1 hk.2
  rw [hr] at hg
  refine va_astq C.1 C.2.1 a1.2.2.1 a1.1 a1.2.1 (va_S_sub a2) (n - 2) (kd - 100) (v - 2) ci hw hg hw2 hc hi hd (fun H1 locs1 hP1 hD1 hS1 => W_sz fun hz1 => ?_)
  have hv0 : v ≠ 0 := by omega
  have he : (Sum.inl (gA G (kd - 100), (mS u n).2, .inr (.inr (.inr (.inr (va_up (fun j => rf G (mR u n j)) i.toNatClampNeg (some (ad G v))))))) : va_E) = ce G (pR u n i.toNatClampNeg v) n := by
    rw [ce_ref (u := pR u n i.toNatClampNeg v) o3 hk.1]
    have e : va_up (fun j => rf G (mR u n j)) i.toNatClampNeg (some (ad G v)) = fun j => rf G (mR (pR u n i.toNatClampNeg v) n j) := funext fun j => by
      show _ = rf G (up2 (mR u) n i.toNatClampNeg v n j)
      by_cases hj : j = i.toNatClampNeg
      · subst hj; simp [va_up, up2, rf, hv0]
      · simp [va_up, up2, hj]
    rw [e]; rfl
  obtain ⟨r1, r2⟩ := rl_st (u' := pR u n i.toNatClampNeg v) a1 o1 o2 rfl (fun a ha => ce_pR ha) he hP1 hD1 hS1 a4 hz1
  exact h p e R s m args below meth c C H1 ls locs1 cells slots Qf mc ms r1 (va_S_tr a2 hS1) a3 r2 a5 a6 a7 a8 k'
theorem wp_alen {n kd : Nat} (hd : decode M.2.1 pc = .ok (.arraylength, 1)) (ha : ok u n kd) (hk : 100 ≤ kd ∧ kd ≤ 104) (h : Wp G M kc ks (pc + 1) l (.int (Int32.ofNat (mS u n).2) :: st) u Q) : Wp G M kc ks pc l (.ref n :: st) u Q := by
  intro p e R s m args below meth c C H ls locs cells slots Qf mc ms a1 a2 a3 a4 a5 a6 a7 a8 k'
  obtain ⟨o1, o2, o3⟩ := ha
  have hw := wl_get (G := G) o1 o2
  have hh := h p e R s m args below meth c C H ls locs cells slots Qf mc ms a1 a2 a3 a4 a5 a6 a7 a8 k'
  rcases (show kd = 100 ∨ kd = 101 ∨ 102 ≤ kd by omega) with h0 | h0 | h0
  · subst h0
    rw [ce_int o3] at hw
    exact va_alen C.1 C.2.1 a1.2.2.1 a1.1 (n - 2) 0 hw rfl rfl hd hh
  · subst h0
    rw [ce_long o3] at hw
    exact va_alen C.1 C.2.1 a1.2.2.1 a1.1 (n - 2) 1 hw rfl rfl hd hh
  · rw [ce_ref o3 h0] at hw
    exact va_alen C.1 C.2.1 a1.2.2.1 a1.1 (n - 2) (kd - 100) hw (gty_ref h0 hk.2) rfl hd hh
/-! the script and LETTERS -/
theorem wp_sld {i : Int32} (hd : decode M.2.1 pc = .ok (.iaload, 1)) (hi : vp_in i (gn G)) (h : Wp G M kc ks (pc + 1) l (.int (gx G i.toNatClampNeg) :: st) u Q) : Wp G M kc ks pc l (.int i :: .ref 0 :: st) u Q := by
  intro p e R s m args below meth c C H ls locs cells slots Qf mc ms a1 a2 a3 a4 a5 a6 a7 a8 k'
  obtain ⟨s1, s2, s3, s4, s5, s6, -⟩ := C.2.2.2.2.2.2.2.2.2.2
  exact va_sld C.1 C.2.1 s1 (Nat.lt_of_lt_of_le s2 s6) (Nat.not_le.mpr s2) a2 hi hd (h p e R s m args below meth c C H ls locs cells slots Qf mc ms a1 a2 a3 a4 a5 a6 a7 a8 k')
theorem wp_slen (hd : decode M.2.1 pc = .ok (.arraylength, 1)) (h : Wp G M kc ks (pc + 1) l (.int (Int32.ofNat (gn G)) :: st) u Q) : Wp G M kc ks pc l (.ref 0 :: st) u Q := by
  intro p e R s m args below meth c C H ls locs cells slots Qf mc ms a1 a2 a3 a4 a5 a6 a7 a8 k'
  obtain ⟨s1, s2, s3, s4, s5, s6, -⟩ := C.2.2.2.2.2.2.2.2.2.2
  exact va_slen C.1 C.2.1 s1 (Nat.lt_of_lt_of_le s2 s6) (Nat.not_le.mpr s2) a2 hd (h p e R s m args below meth c C H ls locs cells slots Qf mc ms a1 a2 a3 a4 a5 a6 a7 a8 k')
theorem wp_tld {i : Int32} (hd : decode M.2.1 pc = .ok (.iaload, 1)) (hi : vp_in i 6) (h : Wp G M kc ks (pc + 1) l (.int (lets i.toNatClampNeg) :: st) u Q) : Wp G M kc ks pc l (.int i :: .ref 1 :: st) u Q := by
  intro p e R s m args below meth c C H ls locs cells slots Qf mc ms a1 a2 a3 a4 a5 a6 a7 a8 k'
  obtain ⟨s1, s2, s3, s4, s5, s6, -⟩ := C.2.2.2.2.2.2.2.2.2.2
  exact va_ti C.1 C.2.1 s3 a2 hi rfl hd (h p e R s m args below meth c C H ls locs cells slots Qf mc ms a1 a2 a3 a4 a5 a6 a7 a8 k')
theorem wp_tlen (hd : decode M.2.1 pc = .ok (.arraylength, 1)) (h : Wp G M kc ks (pc + 1) l (.int 6 :: st) u Q) : Wp G M kc ks pc l (.ref 1 :: st) u Q := by
  intro p e R s m args below meth c C H ls locs cells slots Qf mc ms a1 a2 a3 a4 a5 a6 a7 a8 k'
  obtain ⟨s1, s2, s3, s4, s5, s6, -⟩ := C.2.2.2.2.2.2.2.2.2.2
  exact va_tlen C.1 C.2.1 s3 a2 (by decide) hd (h p e R s m args below meth c C H ls locs cells slots Qf mc ms a1 a2 a3 a4 a5 a6 a7 a8 k')
theorem wp_gets (hcls : M.1.cls = "DoorRounds$Reader") (hd : decode M.2.1 pc = .ok (.getstatic 42, 3)) (h : Wp G M kc ks (pc + 3) l (.ref 1 :: st) u Q) : Wp G M kc ks pc l st u Q := by
  intro p e R s m args below meth c C H ls locs cells slots Qf mc ms a1 a2 a3 a4 a5 a6 a7 a8 k'
  obtain ⟨s1, s2, s3, s4, s5, s6, s7, s8, -⟩ := C.2.2.2.2.2.2.2.2.2.2
  have ho := C.2.2.2.2.1
  rw [hcls] at ho
  exact va_getsN C.1 C.2.1 s5 a2 ho (va_Nw.use rfl s8) (fun _ z => z) hd (h p e R s m args below meth c C H ls locs cells slots Qf mc ms a1 a2 a3 a4 a5 a6 a7 a8 k')
/-! new cells -/
theorem ce_pN {sh : Nat × Nat} {a : Nat} (h : a ≠ mX u + 2) : ce G (pN u sh) a = ce G u a := ce_congr (by simp [pN, mS, h]) (fun j => by simp [pN, mI, h]) (fun j => by simp [pN, mL, h]) (fun j => by simp [pN, mR, h])
theorem wl_pN {sh : Nat × Nat} {e : va_E} (he : e = ce G (pN u sh) (mX u + 2)) : wl G u ++ [(gB G + mX u, e)] = wl G (pN u sh) := by
  subst he
  show _ = (List.range (mX u + 1)).map _
  rw [List.range_succ, List.map_append]
  congr 1
  apply List.map_congr_left
  intro i hi
  rw [ce_pN (by have := List.mem_range.mp hi; omega)]
theorem new_ad {s : State} {H H1 : Heap} {q : Nat} {e : va_E} (a1 : Rl G s H u) (hP : va_P (gC G, gI G) cls9 (wl G u ++ [(q, e)]) H1) (hD : va_D (Ag G) (wl G u ++ [(q, e)])) (hz : H1.size ≤ H.size + 1) : q = gB G + mX u ∧ H1.size = H.size + 1 := by
  have hlen : (wl G u).length = mX u := by simp [wl]
  have hlast : (wl G u ++ [(q, e)])[mX u]? = some (q, e) := by rw [List.getElem?_append_right (by omega), hlen, Nat.sub_self]; rfl
  have h1 : q < H1.size := (hP _ _ hlast).lt
  have h2 : gB G ≤ q := hD.2 _ _ hlast
  have h3 := a1.2.2.2
  have h4 : ¬ q < gB G + mX u := fun hq => by
    have hi : q - gB G < mX u := by omega
    have hg : (wl G u ++ [(q, e)])[q - gB G]? = some (gB G + (q - gB G), ce G u (q - gB G + 2)) := by
      rw [List.getElem?_append_left (by omega)]
      simp [wl, List.getElem?_map, List.getElem?_range hi]
    have := hD.1 _ _ _ _ hg hlast (by show gB G + (q - gB G) = q; omega)
    omega
  omega
theorem rl_new {s : State} {H H1 : Heap} {q cells : Nat} {e : va_E} {sh : Nat × Nat} (a1 : Rl G s H u) (he : e = ce G (pN u sh) (mX u + 2)) (hP : va_P (gC G, gI G) cls9 (wl G u ++ [(q, e)]) H1) (hD : va_D (Ag G) (wl G u ++ [(q, e)])) (hz0 : H.size = s.heap.size + cells) (hz : H1.size ≤ s.heap.size + (cells + 1)) : q = ad G (mX u + 2) ∧ Rl G s H1 (pN u sh) ∧ H1.size = s.heap.size + (cells + 1) := by
  obtain ⟨rfl, e2⟩ := new_ad a1 hP hD (by omega)
  rw [wl_pN he] at hP hD
  have h3 := a1.2.2.2
  exact ⟨rfl, ⟨hP, hD, a1.2.2.1, by rw [e2, h3]; show gB G + mX u + 1 = gB G + (mX u + 1); omega⟩, by omega⟩
def NW (own : String) (idx ci N : Nat) : Prop := ∃ (r : vw_C) (ty : Nat → FieldType), clOK ci r ty ∧ r.2.2 = N ∧ ci < 9 ∧ Cond.classLink own idx r.1 ∈ lw_g ∧ Cond.instantiable r.1 r.2.2 ∈ lw_g ∧ Cond.initialized r.1 ∈ lw_g
theorem fty_lt : ∀ ci, ci < 9 → ∀ j, j < (ftys.getD ci []).length → fty ci j < 3 := by decide
theorem wp_new {idx ci N : Nat} (hw : NW M.1.cls idx ci N) (hd : decode M.2.1 pc = .ok (.new idx, 3)) (h : Wp G M kc ks (pc + 3) l (.ref (mX u + 2) :: st) (pN u (ci, 0)) Q) : Wp G M (kc + 1) (ks + N) pc l st u Q := by
  intro p e R s m args below meth c C H ls locs cells slots Qf mc ms a1 a2 a3 a4 a5 a6 a7 a8 k'
  obtain ⟨⟨C0, T0, N0⟩, ty, ⟨hc, hin, hty0, hnm, hN, htc, hdecl⟩, hNe, hci, w1, w2, w3⟩ := hw
  dsimp only at hNe
  subst hNe
  have hts := C.2.2.2.2.2.1
  have hS9 : (mS (pN u (ci, 0)) (mX u + 2)).1 = ci := by simp [pN, mS]
  have hA : ∀ q : Nat, H.size ≤ q → Ag G q := fun q hq => by show gB G ≤ q; have := a1.2.2.2; omega
  have hc1 : cells + 1 ≤ R.cells := by omega
  have hc2 : slots + N0 ≤ R.slots := by omega
  have hdef : ∀ j, j < N0 → defaultValue (ty j) = vp_V (fvs G (pN u (ci, 0)) (mX u + 2) ci) j := fun j hj => by
    have ht := htc j hj
    have h3 := fty_lt ci hci j (by rw [← hN]; exact hj)
    rw [vp_V, List.getD_eq_getElem?_getD, fvs_get (by rw [← hN]; exact hj), ← ht]
    rw [← ht] at h3
    have e1 : mI (pN u (ci, 0)) (mX u + 2) j = 0 := by simp [pN, mI]
    have e2 : mL (pN u (ci, 0)) (mX u + 2) j = 0 := by simp [pN, mL]
    have e3 : mR (pN u (ci, 0)) (mX u + 2) j = 0 := by simp [pN, mR]
    cases hq : ty j <;> rw [hq] at h3 <;> first | (simp [tyc] at h3; done) | simp [fv, tyc, defaultValue, e1, e2, e3, rf, va_rf]
  refine va_new (c0 := c) (ci := ci) (fs := fvs G (pN u (ci, 0)) (mX u + 2) ci) C.1 C.2.1 hts hin ty hty0 C.2.2.2.2.1 (hts _ w1) (hts _ w2) (hts _ w3) a1.2.2.1 a1.1 a1.2.1 (va_S_sub a2) hA hc hdef hc1 hc2 hd (fun q H1 hP1 hD1 hS1 => W_sz fun hz1 => ?_)
  obtain ⟨q1, r1, r2⟩ := rl_new (sh := (ci, 0)) a1 (ce_obj hS9 hci).symm hP1 hD1 a4 hz1
  rw [q1]
  exact h p e R s m args below meth c C H1 ls locs (cells + 1) (slots + N0) Qf mc ms r1 (va_S_tr a2 hS1) a3 r2 (by omega) (by omega) a7 a8 k'
/-- the array classes -/
theorem K_arr {s : State} {cA : ClassId} {t0 : Nat} {ty : FieldType} (hK : va_K (gC G, gI G) cls9 (gty G ++ [(cA, ty)]) s) (h0 : (gty G)[t0]? = some (gA G t0, ty)) : cA = gA G t0 := by
  have h1 := (hK.2 5 (cA, ty) rfl).2
  have h2 := (hK.2 t0 (gA G t0, ty) (by rw [List.getElem?_append_left (List.getElem?_eq_some_iff.mp h0).1]; exact h0)).2
  have key : ∀ t : FieldType, va_RA s cA t → va_RA s (gA G t0) t → cA = gA G t0 := by
    intro t q1 q2
    cases t with
    | object C =>
      obtain ⟨_, _, _, _, _, x1⟩ := q1
      obtain ⟨_, _, _, _, _, x2⟩ := q2
      exact Option.some.inj (x1.symm.trans x2)
    | _ => exact Option.some.inj (q1.symm.trans q2)
  exact key ty h1 h2
theorem wp_newI {n : Int32} {N : Nat} (hw : Cond.arrayClass .int ∈ lw_g) (hd : decode M.2.1 pc = .ok (.newarray .int, 2)) (hn : ¬ n < 0) (hN : n.toNatClampNeg = N) (hb : N * 4 ≤ 536870912) (h : Wp G M kc ks (pc + 2) l (.ref (mX u + 2) :: st) (pN u (100, N)) Q) : Wp G M (kc + 1) (ks + N) pc l (.int n :: st) u Q := by
  intro p e R s m args below meth c C H ls locs cells slots Qf mc ms a1 a2 a3 a4 a5 a6 a7 a8 k'
  have hA : ∀ q : Nat, H.size ≤ q → Ag G q := fun q hq => by show gB G ≤ q; have := a1.2.2.2; omega
  have hc1 : cells + 1 ≤ R.cells := by omega
  have hc2 : slots + N ≤ R.slots := by omega
  have hS9 : (mS (pN u (100, N)) (mX u + 2)) = (100, N) := by simp [pN, mS]
  refine va_newa (atype := .int) (a0 := (N, .inl (mI (pN u (100, N)) (mX u + 2)))) C.1 C.2.1 (C.2.2.2.2.2.1 _ hw) rfl a1.2.2.1 a1.1 a1.2.1 (va_S_sub a2) hA (fun cA => ?_) hn hN hb hc1 hc2 hd (fun q cA H1 hK1 hP1 hD1 hS1 => W_sz fun hz1 => ?_)
  · rw [vp_cell_i]
    congr 1
    funext j
    simp [pN, mI, newarray.typeOf, defaultValue]
  · have hcA : cA = gA G 0 := K_arr (t0 := 0) hK1 rfl
    subst hcA
    have he : (Sum.inl (gA G 0, N, .inl (mI (pN u (100, N)) (mX u + 2))) : va_E) = ce G (pN u (100, N)) (mX u + 2) := by rw [ce_int (by rw [hS9]), hS9]
    obtain ⟨q1, r1, r2⟩ := rl_new (sh := (100, N)) a1 he hP1 hD1 a4 hz1
    rw [q1]
    exact h p e R s m args below meth c C H1 ls locs (cells + 1) (slots + N) Qf mc ms r1 (va_S_tr a2 hS1) a3 r2 (by omega) (by omega) a7 a8 k'
theorem wp_newJ {n : Int32} {N : Nat} (hw : Cond.arrayClass .long ∈ lw_g) (hd : decode M.2.1 pc = .ok (.newarray .long, 2)) (hn : ¬ n < 0) (hN : n.toNatClampNeg = N) (hb : N * 8 ≤ 536870912) (h : Wp G M kc ks (pc + 2) l (.ref (mX u + 2) :: st) (pN u (101, N)) Q) : Wp G M (kc + 1) (ks + N) pc l (.int n :: st) u Q := by
  intro p e R s m args below meth c C H ls locs cells slots Qf mc ms a1 a2 a3 a4 a5 a6 a7 a8 k'
  have hA : ∀ q : Nat, H.size ≤ q → Ag G q := fun q hq => by show gB G ≤ q; have := a1.2.2.2; omega
  have hc1 : cells + 1 ≤ R.cells := by omega
  have hc2 : slots + N ≤ R.slots := by omega
  have hS9 : (mS (pN u (101, N)) (mX u + 2)) = (101, N) := by simp [pN, mS]
  refine va_newa (atype := .long) (a0 := (N, .inr (.inl (mL (pN u (101, N)) (mX u + 2))))) C.1 C.2.1 (C.2.2.2.2.2.1 _ hw) rfl a1.2.2.1 a1.1 a1.2.1 (va_S_sub a2) hA (fun cA => ?_) hn hN hb hc1 hc2 hd (fun q cA H1 hK1 hP1 hD1 hS1 => W_sz fun hz1 => ?_)
  · rw [vp_cell_l]
    congr 1
    funext j
    simp [pN, mL, newarray.typeOf, defaultValue]
  · have hcA : cA = gA G 1 := K_arr (t0 := 1) hK1 rfl
    subst hcA
    have he : (Sum.inl (gA G 1, N, .inr (.inl (mL (pN u (101, N)) (mX u + 2)))) : va_E) = ce G (pN u (101, N)) (mX u + 2) := by rw [ce_long (by rw [hS9]), hS9]
    obtain ⟨q1, r1, r2⟩ := rl_new (sh := (101, N)) a1 he hP1 hD1 a4 hz1
    rw [q1]
    exact h p e R s m args below meth c C H1 ls locs (cells + 1) (slots + N) Qf mc ms r1 (va_S_tr a2 hS1) a3 r2 (by omega) (by omega) a7 a8 k'
theorem wp_newA {n : Int32} {N idx kd : Nat} (hk : 102 ≤ kd ∧ kd ≤ 104) (hw : Cond.classLink M.1.cls idx (rk kd) ∈ lw_g) (hd : decode M.2.1 pc = .ok (.anewarray idx, 3)) (hn : ¬ n < 0) (hN : n.toNatClampNeg = N) (hb : N * 4 ≤ 536870912) (h : Wp G M kc ks (pc + 3) l (.ref (mX u + 2) :: st) (pN u (kd, N)) Q) : Wp G M (kc + 1) (ks + N) pc l (.int n :: st) u Q := by
  intro p e R s m args below meth c C H ls locs cells slots Qf mc ms a1 a2 a3 a4 a5 a6 a7 a8 k'
  have hA : ∀ q : Nat, H.size ≤ q → Ag G q := fun q hq => by show gB G ≤ q; have := a1.2.2.2; omega
  have hc1 : cells + 1 ≤ R.cells := by omega
  have hc2 : slots + N ≤ R.slots := by omega
  have hS9 : (mS (pN u (kd, N)) (mX u + 2)) = (kd, N) := by simp [pN, mS]
  obtain ⟨s1, s2, s3, s4, s5, s6, s7, s8, s9, s10, s11⟩ := C.2.2.2.2.2.2.2.2.2.2
  have hAO : va_AO (rk kd) s := by rcases (show kd = 102 ∨ kd = 103 ∨ kd = 104 by omega) with rfl | rfl | rfl <;> assumption
  refine va_newq C.1 C.2.1 C.2.2.2.2.1 (C.2.2.2.2.2.1 _ hw) hAO a1.2.2.1 a1.1 a1.2.1 (va_S_sub a2) hA hn hN hb hc1 hc2 hd (fun q cA H1 hK1 hP1 hD1 hS1 => W_sz fun hz1 => ?_)
  have hcA : cA = gA G (kd - 100) := K_arr (t0 := kd - 100) hK1 (gty_ref hk.1 hk.2)
  subst hcA
  have he : (Sum.inl (gA G (kd - 100), N, .inr (.inr (.inr (.inr (fun _ => none))))) : va_E) = ce G (pN u (kd, N)) (mX u + 2) := by
    rw [ce_ref (kd := kd) (by rw [hS9]) hk.1, hS9]
    congr 7
    funext j
    simp [pN, mR, rf]
  obtain ⟨q1, r1, r2⟩ := rl_new (sh := (kd, N)) a1 he hP1 hD1 a4 hz1
  rw [q1]
  exact h p e R s m args below meth c C H1 ls locs (cells + 1) (slots + N) Qf mc ms r1 (va_S_tr a2 hS1) a3 r2 (by omega) (by omega) a7 a8 k'
/-! the end -/
theorem wp_iret {v : Int32} (hd : decode M.2.1 pc = .ok (.ireturn, 1)) (ht : ∃ ty, M.2.2.2.1 = some ty ∧ narrow ty (.int v) = .int v) (hQ : Q (some (.int v)) u) : Wp G M 0 ks pc l [.int v] u Q := by
  intro p e R s m args below meth c C H ls locs cells slots Qf mc ms a1 a2 a3 a4 a5 a6 a7 a8 k'
  exact W.widen (by omega) (by omega) (k' (some (.int v)) u H ls locs pc hQ a1 a2 (by omega) ⟨hd, ht⟩)
theorem wp_lret {v : Int64} (hd : decode M.2.1 pc = .ok (.lreturn, 1)) (ht : M.2.2.2.1 = some .long) (hQ : Q (some (.long v)) u) : Wp G M 0 ks pc l [.long v] u Q := by
  intro p e R s m args below meth c C H ls locs cells slots Qf mc ms a1 a2 a3 a4 a5 a6 a7 a8 k'
  exact W.widen (by omega) (by omega) (k' (some (.long v)) u H ls locs pc hQ a1 a2 (by omega) ⟨hd, ht⟩)
theorem wp_aret {v : Nat} (hd : decode M.2.1 pc = .ok (.areturn, 1)) (ht : ∃ n, M.2.2.2.1 = some (.object n)) (hQ : Q (some (.ref v)) u) : Wp G M 0 ks pc l [.ref v] u Q := by
  intro p e R s m args below meth c C H ls locs cells slots Qf mc ms a1 a2 a3 a4 a5 a6 a7 a8 k'
  obtain ⟨n, ht⟩ := ht
  exact W.widen (by omega) (by omega) (k' (some (.ref v)) u H ls locs pc hQ a1 a2 (by omega) ⟨hd, _, ht, Or.inl ⟨n, rfl⟩⟩)
theorem wp_vret (hd : decode M.2.1 pc = .ok (.return_, 1)) (ht : M.2.2.2.1 = none) (hQ : Q none u) : Wp G M 0 ks pc l [] u Q := by
  intro p e R s m args below meth c C H ls locs cells slots Qf mc ms a1 a2 a3 a4 a5 a6 a7 a8 k'
  exact W.widen (by omega) (by omega) (k' none u H ls locs pc hQ a1 a2 (by omega) ⟨hd, ht⟩)
end ARR
