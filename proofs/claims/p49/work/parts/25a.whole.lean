/-! THE CLAIM OUT OF ONE WALK OF THE LAW'S BODY. Your part is whole_start (and what it stands on); all else here is the same for every law, but numbers. -/
def R_law : String := "DoorRoundsLaw"
def lw_P (b : Addr) (xs : List Int32) (args : Array Value) (s : State) : Prop := args = #[.ref b] ∧ s.IntsAt b xs ∧ xs.length ≤ 3072 ∧ (Jvm.Cond.and given_1 narrow_1).before args s = true
def lw_Q (_ : Array Value) (s : State) (o : Outcome) (t : State) : Prop := o = .returned (some (.int 1)) ∧ Framed s o t [] 600000 7302250
def lw_Z (below : List Frame) (a : Array Value) (s : State) : State → Prop := fun t => ∃ o, t.status = .running ∧ Ended t below o ∧ lw_Q a s o t
/-- the law's own end, with 1 on the stack, nothing written that was there before, its room as the claim has it -/
theorem lw_ret {p : Program} {l : Launch} {e : Env} {s : State} {m : MethodId} {below : List Frame} {meth : Method} {c : Code} {b : Nat} (hx : p.tables.exec = Jvm.exec) (hb : c.code = code) (hr : meth.sig.returnType = ret) (hlocks : meth.locks = false) {pc : Nat} {H : Heap} {ls : Array Slot} (hdg : decode code pc = .ok (.ireturn, 1)) : W p l e room_1 s m #[Value.ref b] below meth c H [] 600000 7302250 (lw_Z below #[Value.ref b] s) (F0 m pc ls [.int 1]) := by
  intro T hT X
  obtain ⟨fs, hret, hrun, hended, hW, hframe⟩ := X.leave (v := some (.int 1)) (hlocks := hlocks) (fun h => by rw [hr] at h; cases h)
  have hmeth' : T.vm.method? m = some meth := X.method'
  refine ⟨T.setFrames fs, ?_, .returned (some (.int 1)), hrun, hended, rfl, ⟨_, rfl⟩, hW, hframe⟩
  jvm_step X.here [X.here.top, hx, hb, hdg, hmeth', hr, ret, narrow_b1]
  (try refine ⟨rfl, ?_⟩); (try refine ⟨rfl, ?_⟩)
  first | (intro acts; rw [hret _ acts rfl rfl rfl]) | rw [hret _ _ rfl rfl rfl]
  exact Steps.refl _
/-- what holds at the law's entry: the machine, the code, the tables' words (any of lw_tbl by 'hts w (by decide +kernel)'), the script of L ints xs at the cell b, what the Statement gives of the start (any of its parts by flat_of_before) -/
def lw_At (p : Program) (s : State) (m : MethodId) (meth : Method) (c : Code) (b L : Nat) (xs : Nat → Int32) : Prop :=
  p.tables.exec = Jvm.exec ∧ c.code = code ∧ meth.sig.returnType = ret ∧ c.maxLocals = 4 ∧ s.vm.findClass R_law = some m.cls ∧ (∀ w ∈ lw_tbl, w.before #[Value.ref b] s = true) ∧ va_X b L xs s s.heap ∧ b < s.heap.size ∧ meth.locks = false ∧ (Jvm.Cond.and given_1 narrow_1).before #[Value.ref b] s = true
theorem arr_known {s : State} {args : Array Value} {ty : FieldType} (h : (Cond.arrayClass ty).before args s = true) (hty : ∀ C, ty ≠ .object C) : ∃ cA, ArrOfT s cA ty ∧ va_RA s cA ty := by
  obtain ⟨c, k, comp, h1, h2, h3⟩ := Cond.arrayClass_spec h
  refine ⟨c, fun n z => ⟨fun k h => (by cases h), k, h2, comp, h3⟩, ?_⟩
  cases ty with
  | object C => exact absurd rfl (hty C)
  | _ => exact h1
theorem obj_known {s : State} {args : Array Value} {C : String} (h : (Cond.arrayOver (.object C)).before args s = true) : ∃ cA, ArrOfT s cA (.object C) ∧ va_RA s cA (.object C) := by
  obtain ⟨comp, c, k, h1, h2, h3, h4, h5⟩ := Cond.arrayOver_spec h
  exact ⟨c, fun n z => ⟨fun k h => (by cases h), k, h3, comp, h4⟩, k, comp, h3, h4, h1, h5⟩
theorem nb_in : ∀ q ∈ nbM0, Cond.methodLinkNest q.1 q.2.1 q.2.2.1 q.2.2.2 ∈ tables_1 := by
  intro q hq
  have e : nbM0.map (fun q => Cond.methodLinkNest q.1 q.2.1 q.2.2.1 q.2.2.2) = [45, 64, 84, 105, 139, 497, 594, 651].filterMap (fun i => tables_1[i]?) := by decide +kernel
  have h : Cond.methodLinkNest q.1 q.2.1 q.2.2.1 q.2.2.2 ∈ nbM0.map (fun q => Cond.methodLinkNest q.1 q.2.1 q.2.2.1 q.2.2.2) := List.mem_map.mpr ⟨q, hq, rfl⟩
  rw [e] at h
  obtain ⟨i, -, hi⟩ := List.mem_filterMap.mp h
  exact List.mem_of_getElem? hi
theorem whole_start {p : Program} {e : Env} {s : State} {m : MethodId} {below : List Frame} {meth : Method} {c : Code} (l : Launch) {b L : Nat} {xs : Nat → Int32} (hL : L ≤ 3072) (C0 : lw_At p s m meth c b L xs) : W p l e room_1 s m #[Value.ref b] below meth c s.heap [] 0 0 (lw_Z below #[Value.ref b] s) (entryFrame m ([Value.ref b] : List Value).toArray 4) := by
  obtain ⟨hx, hb, hr, hml, hown, hts, hX, hbl, hlocks, hgv⟩ := id C0
  have hg : ∀ w ∈ lw_g, w.before #[Value.ref b] s = true := fun w h => hts w (lw_mem.mp h).1
  have tin : ∀ {i : Nat} {w : Cond}, tables_1[i]? = some w → w.before #[Value.ref b] s = true := fun h => hts _ (List.mem_append_right _ (List.mem_of_getElem? h))
  obtain ⟨c0, i0, k0⟩ := u_known (C := "DoorRounds$Diary") (T := TX0) (N := 4) (n := 4) hg cl_0.2.1 (hg _ n_0)
  obtain ⟨c1, i1, k1⟩ := u_known (C := "DoorRounds$Errands") (T := TX1) (N := 2) (n := 2) hg cl_1.2.1 (hg _ n_1)
  obtain ⟨c2, i2, k2⟩ := u_known (C := "DoorRounds$Plan") (T := TX2) (N := 6) (n := 6) hg cl_2.2.1 (hg _ n_2)
  obtain ⟨c3, i3, k3⟩ := u_known (C := "DoorRounds$Reader") (T := TX3) (N := 3) (n := 3) hg cl_3.2.1 (hg _ n_3)
  obtain ⟨c4, i4, k4⟩ := u_known (C := "DoorRounds$Shop") (T := TX4) (N := 5) (n := 5) hg cl_4.2.1 (hg _ n_4)
  obtain ⟨c5, i5, k5⟩ := u_known (C := "DoorRounds$Standing") (T := TX5) (N := 3) (n := 3) hg cl_5.2.1 (hg _ n_5)
  obtain ⟨c6, i6, k6⟩ := u_known (C := "DoorRounds$Strip") (T := TX6) (N := 2) (n := 2) hg cl_6.2.1 (hg _ n_6)
  obtain ⟨c7, i7, k7⟩ := u_known (C := "DoorRounds") (T := TX7) (N := 16) (n := 16) hg cl_7.2.1 (hg _ n_7)
  obtain ⟨c8, i8, k8⟩ := u_known (C := "DoorRoundsModel") (T := TX8) (N := 33) (n := 33) hg cl_8.2.1 (hg _ n_8)
  obtain ⟨a0, A0⟩ := arr_known (hg _ ar_I) (fun C h => by cases h)
  obtain ⟨a1, A1⟩ := arr_known (hg _ ar_J) (fun C h => by cases h)
  obtain ⟨a2, A2⟩ := obj_known (C := "DoorRounds$Strip") (tin (i := 23) (by decide +kernel))
  obtain ⟨a3, A3⟩ := obj_known (C := "DoorRounds$Standing") (tin (i := 61) (by decide +kernel))
  obtain ⟨a4, A4⟩ := obj_known (C := "DoorRounds$Shop") (tin (i := 103) (by decide +kernel))
  have hf := flat_of_before _ hgv
  have harr : (Cond.arrayOf (.static "DoorRounds" "LETTERS" "[I") .int).before #[Value.ref b] s = true := hf _ (by decide +kernel)
  have hlen := va_eqt (hf (Cond.eq (.length (.static "DoorRounds" "LETTERS" "[I")) (.int 6)) (by decide +kernel))
  have e0 := va_eqt (hf (Cond.eq (.elem (.static "DoorRounds" "LETTERS" "[I") (.int 0)) (.int 115)) (by decide +kernel))
  have e1 := va_eqt (hf (Cond.eq (.elem (.static "DoorRounds" "LETTERS" "[I") (.int 1)) (.int 102)) (by decide +kernel))
  have e2 := va_eqt (hf (Cond.eq (.elem (.static "DoorRounds" "LETTERS" "[I") (.int 2)) (.int 121)) (by decide +kernel))
  have e3 := va_eqt (hf (Cond.eq (.elem (.static "DoorRounds" "LETTERS" "[I") (.int 3)) (.int 110)) (by decide +kernel))
  have e4 := va_eqt (hf (Cond.eq (.elem (.static "DoorRounds" "LETTERS" "[I") (.int 4)) (.int 111)) (by decide +kernel))
  have e5 := va_eqt (hf (Cond.eq (.elem (.static "DoorRounds" "LETTERS" "[I") (.int 5)) (.int 112)) (by decide +kernel))
  obtain ⟨t, ht, hT⟩ := va_Tof (tm := (.static "DoorRounds" "LETTERS" "[I")) (ty := .int) (N := 6) (f := fun j => .int (lets j)) (A := fun q : Nat => s.heap.size ≤ q) (by decide) harr hlen (fun j hj => by
    rcases (show j = 0 ∨ j = 1 ∨ j = 2 ∨ j = 3 ∨ j = 4 ∨ j = 5 by omega) with rfl | rfl | rfl | rfl | rfl | rfl
    · exact e0
    · exact e1
    · exact e2
    · exact e3
    · exact e4
    · exact e5) (fun a h => Nat.not_le.mpr h)
  have hZ := va_Zref (A := fun q : Nat => s.heap.size ≤ q) (tin (i := 368) (by decide +kernel)) (hg _ in_D) ht (fun a h => Nat.not_le.mpr h)
  have htl : t < s.heap.size := by obtain ⟨cell, h1, -⟩ := id hT; exact (Array.getElem?_eq_some_iff.mp h1).1
  obtain ⟨G, hG⟩ : ∃ G : pG, G = (l, (fun k => [c0, c1, c2, c3, c4, c5, c6, c7, c8].getD k c0), (fun k => [i0, i1, i2, i3, i4, i5, i6, i7, i8].getD k i0), s.heap.size, b, t, L, xs, fun k => [a0, a1, a2, a3, a4].getD k a0) := ⟨_, rfl⟩
  have hK : va_K (gC G, gI G) cls9 (gty G) s := by
    rw [hG]
    refine ⟨fun k q hq => ?_, fun k q hq => ?_⟩
    · match k, hq with
      | 0, hq => cases hq; exact k0
      | 1, hq => cases hq; exact k1
      | 2, hq => cases hq; exact k2
      | 3, hq => cases hq; exact k3
      | 4, hq => cases hq; exact k4
      | 5, hq => cases hq; exact k5
      | 6, hq => cases hq; exact k6
      | 7, hq => cases hq; exact k7
      | 8, hq => cases hq; exact k8
      | k + 9, hq => simp [cls9] at hq
    · match k, hq with
      | 0, hq => cases hq; exact A0
      | 1, hq => cases hq; exact A1
      | 2, hq => cases hq; exact A2
      | 3, hq => cases hq; exact A3
      | 4, hq => cases hq; exact A4
      | k + 5, hq => simp [gty] at hq
  have hRl : Rl G s s.heap Z0 := ⟨fun k q h => absurd h (by simp [show wl G Z0 = [] from rfl]), ⟨fun i j p q h => absurd h (by simp [show wl G Z0 = [] from rfl]), fun k q h => absurd h (by simp [show wl G Z0 = [] from rfl])⟩, hK, by rw [hG]; rfl⟩
  have hSt : Stt G s := by
    rw [hG]
    exact ⟨hX, hbl, hT, htl, hZ, Nat.le_refl _, fun q hq => va_Nw.of rfl (hts _ (List.mem_append_right _ (nb_in q hq))), va_Nw.of rfl (tin (i := 367) (by decide +kernel)), va_AO.of (tin (i := 23) (by decide +kernel)), va_AO.of (tin (i := 61) (by decide +kernel)), va_AO.of (tin (i := 103) (by decide +kernel))⟩
  have hC : Cx G L_law p room_1 s m #[Value.ref b] meth c := ⟨hx, hb, hr, hml, hown, hg, hlocks, fun q => absurd q (by decide), Nat.le_of_ble_eq_true rfl, Nat.le_of_ble_eq_true rfl, hSt⟩
  have hn : gn G ≤ 3072 := by rw [hG]; exact hL
  have hW : Wp G L_law 93 6736 0 [(0, .ref 0)] [] Z0 (fun r u => Str u ∧ LQ r u) := law_pre (wp_loc [3, 2, 1, 0] rfl (law_loop hn 3072 0 Z194 (by decide) (by decide) st_C st_M st_X st_Str))
  have hl := lv_entry ([.ref b]) (n := 4) (Nat.le_of_ble_eq_true rfl)
  rw [lg_entry_eq]
  generalize (lg_sl ([.ref b]) ++ List.replicate (4 - (lg_sl ([.ref b])).length) Slot.unset).toArray = ls at hl ⊢
  have hl : lv_has ls 4 (lm G [(0, .ref 0)]) := by rw [hG]; exact hl
  have hgl : gl G = l := by rw [hG]
  rw [← hgl]
  refine hW p e room_1 s m #[Value.ref b] below meth c hC s.heap ls [] 0 0 (lw_Z below #[Value.ref b] s) 93 6736 hRl va_S.rf hl rfl rfl (by decide) (Nat.le_of_ble_eq_true rfl) (Nat.le_of_ble_eq_true rfl) ?_
  rintro r u' H' ls' locs' pc' ⟨-, y, rfl, rfl⟩ - hS' - hret
  refine va_forget (fun q hq => by have z := hS'.2.2 q hq; rw [hG] at z; exact z) ?_
  refine W.widen (k := 600000) (n := 7302250) (by omega) (by omega) ?_
  exact lw_ret hx hb hr hlocks hret.1
set_option maxHeartbeats 4000000 in
theorem lw_walk (l : Launch) (b : Addr) (xs : List Int32) : MetFree l x (headSpec (Jvm.Cond.code x code maxLocals ret :: tables_1) room_1) (lw_P b xs) (fun _ _ _ _ _ => True) lw_Q := by
  refine MetFree.of_bodyS (code := code) (maxLocals := maxLocals) (ret := ret) (by decide) ?_ ?_
  · intro args s m h hn
    obtain ⟨meth, c, h1, h2, h3, h4, h5, h6, -, -⟩ := Cond.code_spec hn (atoms_spec (ws := Jvm.Cond.code x code maxLocals ret :: tables_1) h _ List.mem_cons_self)
    exact ⟨meth, c, h1, h2, h3, h4, h5, h6⟩
  · intro p e s m args below meth c s₁ B hml0 hP _
    obtain ⟨rfl, hx, hbd, hgv⟩ := hP
    obtain ⟨scr, harrAt, hlist, hof, hsmall⟩ := hx
    obtain ⟨hcb, hkn, -, -⟩ := State.arrayAt?_spec harrAt
    have hown : s.vm.findClass R_law = some m.cls := findClass_of_methodNamed B.named
    have hts0 : ∀ c ∈ (Jvm.Cond.code x code maxLocals ret :: tables_1), c.before #[Value.ref b] s = true := atoms_spec (ws := Jvm.Cond.code x code maxLocals ret :: tables_1) B.pre
    have hts : ∀ w ∈ lw_tbl, w.before #[Value.ref b] s = true := k2_hts_sels lw_privs (fun w hw => hts0 w (List.mem_cons_of_mem _ hw)) lw_privs_ok
    have hml : c.maxLocals = 4 := B.maxLocals_eq (hts0 _ List.mem_cons_self)
    have X₀ : Stand p l e room_1 s m #[Value.ref b] below meth c s₁ [] 0 0 := Stand.of_body B
    have hh0 : s₁.heap = s.heap := by rw [B.state]; rfl
    have hsz : scr.slots.size = xs.length := by rw [← Array.length_toList, hlist, List.length_map]
    have hval : ∀ j : Nat, j < xs.length → scr.slots[j]? = some (.int (xs.getD j 0)) := fun j hj => by
      rw [← Array.getElem?_toList, hlist]
      simp [hj]
    have hbl : b < s.heap.size := (Array.getElem?_eq_some_iff.mp hcb).1
    have hX : va_X b xs.length (fun j => xs.getD j 0) s s.heap := ⟨scr, hcb, hof, hkn, hsz, hval⟩
    have K : W p l e room_1 s m #[Value.ref b] below meth c s₁.heap [] 0 0 (lw_Z below #[Value.ref b] s) (entryFrame m ([Value.ref b] : List Value).toArray 4) := by
      rw [hh0]
      exact whole_start l hbd ⟨B.exec, B.bytes, B.returns, hml, hown, hts, hX, hbl, B.notSynchronized, hgv⟩
    obtain ⟨t, a1, o, b1, b2, b3⟩ := K s₁ rfl X₀
    exact ⟨t, o, a1, b1, b2, b3⟩
theorem lw_pre_spec {args : Array Value} {s : State} (h : (Jvm.Cond.and given_1 narrow_1).before args s = true) (hr : rest_1_c.before args s = true) : ∃ (b : Addr) (xs : List Int32), lw_P b xs args s := by
  have hs := flat_of_before _ h
  have hq := flat_of_before _ hr
  have hc : (Cond.count 1).before args s = true := hs _ (by decide +kernel)
  have harr : (Cond.arrayOf (.arg 0) .int).before args s = true := hs _ (by decide +kernel)
  have hle : (Cond.le (.length (.arg 0)) (.int 3072)).before args s = true := hs _ (by decide +kernel)
  have hlen : (Cond.isInt (.length (.arg 0))).before args s = true := hq _ (by decide +kernel)
  have hall : (Cond.all (.arg 0) (.isInt (.elem (.arg 0) (.index 0)))).before args s = true := hq _ (by decide +kernel)
  obtain ⟨b, xs, hb, hx⟩ := State.ints_of_pre rfl harr hlen hall
  have hsm : xs.length < 2 ^ 31 := hx.choose_spec.2.2.2
  have hev : (Term.length (.arg 0)).eval args s none [] s = some (.int xs.length.toInt32) := hx.length_eval hb
  have hv := Cond.le_ints hev (show (Term.int 3072).eval args s none [] s = some (.int 3072) from rfl)
  have hd : xs.length.toInt32 ≤ 3072 := by
    simpa [Cond.before, Cond.holds, hv] using hle
  have hN : xs.length ≤ 3072 := (Int32.ofNat_le_ofNat hsm (by decide)).mp (show Int32.ofNat xs.length ≤ Int32.ofNat 3072 from hd)
  exact ⟨b, xs, Cond.one_arg hc (show args[0]? = some (.ref b) from hb), hx, hN, h⟩
theorem lw_comes (l : Launch) : Comes l x (Jvm.Cond.code x code maxLocals ret :: tables_1) room_1 (fun tb e args s => Calls_1 tb e args s ∧ rest_1 tb e args s ∧ Pre_1 tb e args s)
    (fun _ _ args s o t => lw_Q args s o t) := by
  intro p e ha hc hk s m args below hf hfit hheap happ hpre
  obtain ⟨b, xs, hP⟩ := lw_pre_spec hpre.2.2 hpre.2.1
  obtain ⟨k, o, h1, h2, h3, hQ⟩ := lw_walk l b xs p e ha hc hk s m args below hf ((Spec.applies_iff_loose hf).mp happ).1 hP trivial
  exact ⟨k, o, h1, h2, h3, hQ⟩
theorem lw_frame {s t : State} {o : Outcome} {args : Array Value} (h : Framed s o t [] 600000 7302250) :
    Framed s o t (fieldLocs frame_1_writes args s ++ arrayLocs frame_1_arrays args s ++ staticLocs frame_1_statics s) 600000 7302250 := h
theorem lw_limb (L : Cond) (hL : ∀ (args : Array Value) (s t : State), L.after args s (.returned (some (.int 1))) t = true) :
    ArmFor flags0 classFile x code maxLocals ret World_1 tables_1 room_1 Calls_1 rest_1 Pre_1
      (fun tb e a s o t => postC L tb e a s o t ∧ Framed s o t (fieldLocs frame_1_writes a s ++ arrayLocs frame_1_arrays a s ++ staticLocs frame_1_statics s) 600000 7302250) := by
  intro l _ _ _ p e ha hc hk s m args below hf hfit hheap happ hpre
  obtain ⟨k, o, h1, h2, h3, rfl, hF⟩ := lw_comes l p e ha hc hk s m args below hf hfit hheap happ hpre
  exact ⟨k, _, h1, h2, h3, hL args s _, lw_frame hF⟩
theorem i_vc : Claimed_1_1 ∧ Claimed_1_2 := ⟨lw_limb limb_1_1 (fun args s t => by simp [limb_1_1, Cond.after, Cond.holds, Cond.value]), lw_limb limb_1_2 (fun args s t => Cond.after_iff.mpr (by
  first | (rw [show limb_1_2 = Cond.eq .result (.int 1) from rfl, Cond.eq_ints (x := 1) (y := 1) rfl rfl]; simp; done) | (simp [limb_1_2, Cond.value, Term.eval]; done)))⟩
