/-! Math.floorMod(JJ)J: a method of a class that has entries of its own, walked as the library walks Math.min -/
def fm_x : MethodName := ⟨"java/lang/Math", "floorMod", "(JJ)J"⟩
abbrev fm_c : ByteArray := prog_12_method_52_code
def fm (a b : Int64) : Int64 := if (a ^^^ b) < 0 ∧ ¬ (a - a / b * b) = 0 then (a - a / b * b) + b else a - a / b * b
theorem fm_0 : decode fm_c 0 = .ok (.lload_n 0, 1) := by decide +kernel
theorem fm_1 : decode fm_c 1 = .ok (.lload_n 2, 1) := by decide +kernel
theorem fm_2 : decode fm_c 2 = .ok (.lrem, 1) := by decide +kernel
theorem fm_3 : decode fm_c 3 = .ok (.lstore 4, 2) := by decide +kernel
theorem fm_5 : decode fm_c 5 = .ok (.lload_n 0, 1) := by decide +kernel
theorem fm_6 : decode fm_c 6 = .ok (.lload_n 2, 1) := by decide +kernel
theorem fm_7 : decode fm_c 7 = .ok (.lxor, 1) := by decide +kernel
theorem fm_8 : decode fm_c 8 = .ok (.lconst 0, 1) := by decide +kernel
theorem fm_9 : decode fm_c 9 = .ok (.lcmp, 1) := by decide +kernel
theorem fm_10 : decode fm_c 10 = .ok (.ifCond .ge 15, 3) := by decide +kernel
theorem fm_13 : decode fm_c 13 = .ok (.lload 4, 2) := by decide +kernel
theorem fm_15 : decode fm_c 15 = .ok (.lconst 0, 1) := by decide +kernel
theorem fm_16 : decode fm_c 16 = .ok (.lcmp, 1) := by decide +kernel
theorem fm_17 : decode fm_c 17 = .ok (.ifCond .eq 8, 3) := by decide +kernel
theorem fm_20 : decode fm_c 20 = .ok (.lload 4, 2) := by decide +kernel
theorem fm_22 : decode fm_c 22 = .ok (.lload_n 2, 1) := by decide +kernel
theorem fm_23 : decode fm_c 23 = .ok (.ladd, 1) := by decide +kernel
theorem fm_24 : decode fm_c 24 = .ok (.lreturn, 1) := by decide +kernel
theorem fm_25 : decode fm_c 25 = .ok (.lload 4, 2) := by decide +kernel
theorem fm_27 : decode fm_c 27 = .ok (.lreturn, 1) := by decide +kernel
theorem fm_row0 : (NativeRow.find? natives fm_x.cls fm_x.name fm_x.desc).isNone = true := by decide +kernel
theorem fm_row (p : Program) : NativeRow.find? p.tables.natives fm_x.cls fm_x.name fm_x.desc = none := by
  cases p <;> exact Option.isNone_iff_eq_none.mp fm_row0
def fm_spec (a b : Int64) : Spec where
  pre := .and (.code fm_x fm_c 6 (some .long)) (.and (.count 2) (.and (.eq (.arg 0) (.long a)) (.eq (.arg 1) (.long b))))
  post := .and .returned (.eq .result (.long (fm a b)))
  changes := some []
theorem fm_args {args : Array Value} {s : State} {a b : Int64} (h0 : (Cond.count 2).before args s = true) (h1 : (Cond.eq (.arg 0) (.long a)).before args s = true) (h2 : (Cond.eq (.arg 1) (.long b)).before args s = true) : args = #[.long a, .long b] := by
  obtain ⟨l⟩ := args
  simp only [Cond.before, Cond.holds, Cond.value, Term.eval, List.size_toArray, beq_iff_eq, Option.some.injEq] at h0 h1 h2
  match l, h0 with
  | [x, y], _ =>
    cases x <;> simp at h1
    cases y <;> simp at h2
    subst h1; subst h2
    rfl
theorem fm_meets (l : Launch) (a b : Int64) (hb0 : ¬ b = 0) : MeetsLoose l fm_x (fm_spec a b) := by
  refine MeetsLoose.of_body_ov (code := fm_c) (maxLocals := 6) (ret := some .long) fm_row ?_ ?_
  · intro args s h
    simp only [fm_spec, Cond.before_and, Bool.and_eq_true] at h
    exact h.1
  · intro p e s m args below meth c s₁ B
    have hpre := B.pre
    simp only [fm_spec, Cond.before_and, Bool.and_eq_true] at hpre
    obtain rfl := fm_args hpre.2.1 hpre.2.2.1 hpre.2.2.2
    have hloc : argsToLocals #[.long a, .long b] 6 = #[.val (.long a), .second, .val (.long b), .second, .unset, .unset] := rfl
    obtain ⟨fs, hfs⟩ := handOver_isSome (s := s₁) (some (.long (fm a b))) B.hears₁
    refine ⟨s₁.setFrames fs, .returned (some (.long (fm a b))), ?_, B.here.running, B.ended hfs (by intro h; cases h), ?_, State.sameBut_nil.mpr ?_⟩
    rotate_left
    · simp [fm_spec, Cond.after, Cond.holds, Cond.value, Term.eval]
    · rw [State.frames_setFrames _ B.cur₁, B.back]
    have e0 : fm a b = if (a ^^^ b) < 0 ∧ ¬ (a - a / b * b) = 0 then (a - a / b * b) + b else a - a / b * b := rfl
    rw [e0] at hfs
    unfold entryFrame; rw [hloc]
    refine Steps.instrAtOv (c := _) (by simpa using B.here) ?_
    simp [jvm, wpRun, exec, B.here.top, B.exec, B.bytes, fm_0]
    refine Steps.instrAtOv (c := _) (by simpa using B.here) ?_
    simp [jvm, wpRun, exec, B.here.top, B.exec, B.bytes, fm_1]
    refine Steps.instrAtOv (c := _) (by simpa using B.here) ?_
    simp [jvm, wpRun, exec, B.here.top, B.exec, B.bytes, fm_2, hb0]
    generalize a - a / b * b = r at hfs ⊢
    refine Steps.instrAtOv (c := _) (by simpa using B.here) ?_
    simp [jvm, wpRun, exec, B.here.top, B.exec, B.bytes, fm_3, storeLocals, storeSelf, setAt, Value.category]
    refine Steps.instrAtOv (c := _) (by simpa using B.here) ?_
    simp [jvm, wpRun, exec, B.here.top, B.exec, B.bytes, fm_5]
    refine Steps.instrAtOv (c := _) (by simpa using B.here) ?_
    simp [jvm, wpRun, exec, B.here.top, B.exec, B.bytes, fm_6]
    refine Steps.instrAtOv (c := _) (by simpa using B.here) ?_
    simp [jvm, wpRun, exec, B.here.top, B.exec, B.bytes, fm_7]
    generalize a ^^^ b = q at hfs ⊢
    refine Steps.instrAtOv (c := _) (by simpa using B.here) ?_
    simp [jvm, wpRun, exec, B.here.top, B.exec, B.bytes, fm_8]
    by_cases h1 : q < 0
    · have n1 : ¬ 0 < q := fun h => Int64.lt_irrefl (Int64.lt_trans h h1)
      have n2 : ¬ q = 0 := by intro h; rw [h] at h1; exact Int64.lt_irrefl h1
      refine Steps.instrAtOv (c := _) (by simpa using B.here) ?_
      simp [jvm, wpRun, exec, B.here.top, B.exec, B.bytes, fm_9, n1, n2]
      refine Steps.instrAtOv (c := _) (by simpa using B.here) ?_
      simp [jvm, wpRun, exec, B.here.top, B.exec, B.bytes, fm_10, ifCond.holds]
      refine Steps.instrAtOv (c := _) (by simpa using B.here) ?_
      simp [jvm, wpRun, exec, B.here.top, B.exec, B.bytes, fm_13]
      refine Steps.instrAtOv (c := _) (by simpa using B.here) ?_
      simp [jvm, wpRun, exec, B.here.top, B.exec, B.bytes, fm_15]
      by_cases h2 : r = 0
      · subst h2
        have e : (if q < 0 ∧ ¬ (0 : Int64) = 0 then 0 + b else 0) = 0 := by simp
        rw [e] at hfs
        refine Steps.instrAtOv (c := _) (by simpa using B.here) ?_
        simp [jvm, wpRun, exec, B.here.top, B.exec, B.bytes, fm_16]
        refine Steps.instrAtOv (c := _) (by simpa using B.here) ?_
        simp [jvm, wpRun, exec, B.here.top, B.exec, B.bytes, fm_17, ifCond.holds]
        refine Steps.instrAtOv (c := _) (by simpa using B.here) ?_
        simp [jvm, wpRun, exec, B.here.top, B.exec, B.bytes, fm_25]
        refine Steps.instrAtOv (c := _) (by simpa using B.here) ?_
        simp [jvm, wpRun, exec, B.here.top, B.exec, B.bytes, fm_27, B.method₁, B.returns]
        intro acts
        rw [ret_to B.frames₁ B.method₁ B.notSynchronized rfl rfl hfs]
        exact Steps.refl _
      · have e : (if q < 0 ∧ ¬ r = 0 then r + b else r) = r + b := by simp [h1, h2]
        rw [e] at hfs
        by_cases h3 : 0 < r
        · refine Steps.instrAtOv (c := _) (by simpa using B.here) ?_
          simp [jvm, wpRun, exec, B.here.top, B.exec, B.bytes, fm_16, h2, h3]
          refine Steps.instrAtOv (c := _) (by simpa using B.here) ?_
          simp [jvm, wpRun, exec, B.here.top, B.exec, B.bytes, fm_17, ifCond.holds]
          refine Steps.instrAtOv (c := _) (by simpa using B.here) ?_
          simp [jvm, wpRun, exec, B.here.top, B.exec, B.bytes, fm_20]
          refine Steps.instrAtOv (c := _) (by simpa using B.here) ?_
          simp [jvm, wpRun, exec, B.here.top, B.exec, B.bytes, fm_22]
          refine Steps.instrAtOv (c := _) (by simpa using B.here) ?_
          simp [jvm, wpRun, exec, B.here.top, B.exec, B.bytes, fm_23]
          refine Steps.instrAtOv (c := _) (by simpa using B.here) ?_
          simp [jvm, wpRun, exec, B.here.top, B.exec, B.bytes, fm_24, B.method₁, B.returns]
          intro acts
          rw [ret_to B.frames₁ B.method₁ B.notSynchronized rfl rfl hfs]
          exact Steps.refl _
        · refine Steps.instrAtOv (c := _) (by simpa using B.here) ?_
          simp [jvm, wpRun, exec, B.here.top, B.exec, B.bytes, fm_16, h2, h3]
          refine Steps.instrAtOv (c := _) (by simpa using B.here) ?_
          simp [jvm, wpRun, exec, B.here.top, B.exec, B.bytes, fm_17, ifCond.holds]
          refine Steps.instrAtOv (c := _) (by simpa using B.here) ?_
          simp [jvm, wpRun, exec, B.here.top, B.exec, B.bytes, fm_20]
          refine Steps.instrAtOv (c := _) (by simpa using B.here) ?_
          simp [jvm, wpRun, exec, B.here.top, B.exec, B.bytes, fm_22]
          refine Steps.instrAtOv (c := _) (by simpa using B.here) ?_
          simp [jvm, wpRun, exec, B.here.top, B.exec, B.bytes, fm_23]
          refine Steps.instrAtOv (c := _) (by simpa using B.here) ?_
          simp [jvm, wpRun, exec, B.here.top, B.exec, B.bytes, fm_24, B.method₁, B.returns]
          intro acts
          rw [ret_to B.frames₁ B.method₁ B.notSynchronized rfl rfl hfs]
          exact Steps.refl _
    · have e : (if q < 0 ∧ ¬ r = 0 then r + b else r) = r := by simp [h1]
      rw [e] at hfs
      by_cases h2 : q = 0
      · subst h2
        refine Steps.instrAtOv (c := _) (by simpa using B.here) ?_
        simp [jvm, wpRun, exec, B.here.top, B.exec, B.bytes, fm_9]
        refine Steps.instrAtOv (c := _) (by simpa using B.here) ?_
        simp [jvm, wpRun, exec, B.here.top, B.exec, B.bytes, fm_10, ifCond.holds]
        refine Steps.instrAtOv (c := _) (by simpa using B.here) ?_
        simp [jvm, wpRun, exec, B.here.top, B.exec, B.bytes, fm_25]
        refine Steps.instrAtOv (c := _) (by simpa using B.here) ?_
        simp [jvm, wpRun, exec, B.here.top, B.exec, B.bytes, fm_27, B.method₁, B.returns]
        intro acts
        rw [ret_to B.frames₁ B.method₁ B.notSynchronized rfl rfl hfs]
        exact Steps.refl _
      · have h3 : 0 < q := Int64.lt_of_le_of_ne (Int64.not_lt.mp h1) (Ne.symm h2)
        refine Steps.instrAtOv (c := _) (by simpa using B.here) ?_
        simp [jvm, wpRun, exec, B.here.top, B.exec, B.bytes, fm_9, h3]
        refine Steps.instrAtOv (c := _) (by simpa using B.here) ?_
        simp [jvm, wpRun, exec, B.here.top, B.exec, B.bytes, fm_10, ifCond.holds]
        refine Steps.instrAtOv (c := _) (by simpa using B.here) ?_
        simp [jvm, wpRun, exec, B.here.top, B.exec, B.bytes, fm_25]
        refine Steps.instrAtOv (c := _) (by simpa using B.here) ?_
        simp [jvm, wpRun, exec, B.here.top, B.exec, B.bytes, fm_27, B.method₁, B.returns]
        intro acts
        rw [ret_to B.frames₁ B.method₁ B.notSynchronized rfl rfl hfs]
        exact Steps.refl _
section FMW
variable {G : pG} {M : pY} {kc ks pc : Nat} {l : pLo} {st : List Value} {u : pM} {Q : Option Value → pM → Prop}
theorem fm_call {p : Program} {l : Launch} {e : Env} {R : Room} {s : State} {m : MethodId} {args : Array Value} {below : List Frame} {meth : Method} {c : Code} {T : State} {locs : List Loc} {cells slots : Nat} (X : Stand p l e R s m args below meth c T locs cells slots) (hexec : p.tables.exec = Jvm.exec) {own : String} {index : Nat} (hown : s.vm.findClass own = some m.cls)
    (hlink : (Cond.methodLink own index fm_x).before args s = true) (hstat : (Cond.static fm_x).before args s = true) (hinit : (Cond.initialized "java/lang/Math").before args s = true) (hcode : (Cond.code fm_x fm_c 6 (some .long)).before args s = true)
    {g : JFrame} (hg : g.method = m) (hsize : g.locals.size = c.maxLocals) {a b : Int64} (hb0 : ¬ b = 0) {rest : List Value} (hstack : g.stack = .long b :: .long a :: rest) (hdg : decode c.code g.pc = .ok (.invokestatic index, 3))
    (hframes : 1 ≤ R.frames) (hlocals : 2 * g.monitorRoom + (rest.map fun v => v.category).sum + 17 ≤ R.locals) (hcells : cells ≤ R.cells) (hslots : slots ≤ R.slots) :
    ∃ vm', Stand p l e R s m args below meth c (T.setVm vm') locs cells slots ∧ ∀ target, Steps p.tables e below ((T.setVm vm').setTop { g with pc := g.pc + 3, stack := .long (fm a b) :: rest }) target → Steps p.tables e below (T.setTop g) target := by
  obtain ⟨v, T', X', ⟨first, t, hpost⟩, hstep⟩ := X.staticByContractV hexec hown hlink hstat hinit hcode (by decide) (fm_meets l a b hb0) rfl rfl rfl rfl
    (fun args' first o s₂ h => by
      cases o with
      | returned r => exact ⟨r, rfl⟩
      | threw y =>
        have hz : (fm_spec a b).post.value args' first (some (.threw y)) s₂ [] = some true := by simpa [Cond.after, Cond.holds] using h
        exact absurd hz va_nvRet)
    hg hsize (argsL := [.long a, .long b]) (rest := rest)
    (fun sig hs => by
      have h : parseMethodDescriptor "(JJ)J" = some { parameters := [.long, .long], returnType := some .long } := by decide +kernel
      rw [show fm_x.desc = "(JJ)J" from rfl, h] at hs
      rw [← Option.some.inj hs]; rfl)
    hstack hdg
    (fun vm' hW => by
      simp only [fm_spec, Cond.before_and, Bool.and_eq_true]
      refine ⟨?_, rfl, by simp [Cond.before, Cond.holds, Cond.value, Term.eval], by simp [Cond.before, Cond.holds, Cond.value, Term.eval]⟩
      have q := hcode
      rw [← Cond.code_setVm hW.alike] at q
      simp only [Cond.before, Cond.holds, Cond.value, State.methodNamed?, State.vm_setVm] at q ⊢
      exact q)
    (by show 0 + 1 ≤ R.frames; omega) (by show 2 * g.monitorRoom + (rest.map fun v => v.category).sum + (6 + 11) + 0 ≤ R.locals; omega) (by show cells + 0 ≤ R.cells; omega) (by show slots + 0 ≤ R.slots; omega)
  refine ⟨T', X', fun target h => hstep target ?_⟩
  obtain rfl : v = some (.long (fm a b)) := by
    rcases v with _ | w
    · simp [fm_spec, Cond.after, Cond.holds, Cond.value, Term.eval] at hpost
    · cases w <;> simp [fm_spec, Cond.after, Cond.holds, Cond.value, Term.eval] at hpost
      simp [hpost]
  exact h
/-- what a call of Math needs of its caller -/
abbrev MR (M : pY) (n : Nat) : Prop := 1 ≤ M.2.2.2.2.1 ∧ n ≤ M.2.2.2.2.2
theorem wp_fm {idx : Nat} {x y : Int64} (hd : decode M.2.1 pc = .ok (.invokestatic idx, 3)) (hL : Cond.methodLink M.1.cls idx fm_x ∈ lw_g) (hS : Cond.static fm_x ∈ lw_g) (hI : Cond.initialized "java/lang/Math" ∈ lw_g) (hC : Cond.code fm_x fm_c 6 (some .long) ∈ lw_g) (hrm : MR M (((st.map (tv G)).map fun v => v.category).sum + 17)) (hy : ¬ y = 0) (h : Wp G M kc ks (pc + 3) l (.long (fm x y) :: st) u Q) : Wp G M kc ks pc l (.long y :: .long x :: st) u Q := by
  intro p e R s m args below meth c C H ls locs cells slots Qf mc ms a1 a2 a3 a4 a5 a6 a7 a8 k' T hT X
  have hts := C.2.2.2.2.2.1
  obtain ⟨vm', X', stp⟩ := fm_call X C.1 C.2.2.2.2.1 (hts _ hL) (hts _ hS) (hts _ hI) (hts _ hC) (g := F0 m pc ls (.long y :: .long x :: st.map (tv G))) rfl (by show ls.size = _; rw [a3.1, C.2.2.2.1]) (a := x) (b := y) hy (rest := st.map (tv G)) rfl (by rw [C.2.1]; exact hd) (Nat.le_trans hrm.1 C.2.2.2.2.2.2.2.2.1) (Nat.le_trans (by show 2 * 0 + _ + 17 ≤ _; have := hrm.2; omega) C.2.2.2.2.2.2.2.2.2.1) (by omega) (by omega)
  obtain ⟨t, b1, b2⟩ := h p e R s m args below meth c C H ls locs cells slots Qf mc ms a1 a2 a3 a4 a5 a6 a7 a8 k' (T.setVm vm') hT X'
  exact ⟨t, stp t b1, b2⟩
theorem wp_maxI {idx : Nat} {x y : Int32} (hd : decode M.2.1 pc = .ok (.invokestatic idx, 3)) (hL : Cond.methodLink M.1.cls idx Lib.Math.max.name ∈ lw_g) (hS : Cond.static Lib.Math.max.name ∈ lw_g) (hI : Cond.initialized "java/lang/Math" ∈ lw_g) (hC : Cond.code Lib.Math.max.name Lib.Math.max.code 2 (some .int) ∈ lw_g) (hrm : MR M (((st.map (tv G)).map fun v => v.category).sum + 13)) (h : Wp G M kc ks (pc + 3) l (.int (if x < y then y else x) :: st) u Q) : Wp G M kc ks pc l (.int y :: .int x :: st) u Q := by
  intro p e R s m args below meth c C H ls locs cells slots Qf mc ms a1 a2 a3 a4 a5 a6 a7 a8 k'
  have hts := C.2.2.2.2.2.1
  exact va_mmax (rest := st.map (tv G)) C.1 C.2.1 (C.2.2.2.1.trans a3.1.symm) C.2.2.2.2.1 (hts _ hL) (hts _ hS) (hts _ hI) (hts _ hC) (Nat.le_trans hrm.1 C.2.2.2.2.2.2.2.2.1) (Nat.le_trans hrm.2 C.2.2.2.2.2.2.2.2.2.1) (by omega) (by omega) hd (h p e R s m args below meth c C H ls locs cells slots Qf mc ms a1 a2 a3 a4 a5 a6 a7 a8 k')
theorem wp_minI {idx : Nat} {x y : Int32} (hd : decode M.2.1 pc = .ok (.invokestatic idx, 3)) (hL : Cond.methodLink M.1.cls idx Lib.Math.min.name ∈ lw_g) (hS : Cond.static Lib.Math.min.name ∈ lw_g) (hI : Cond.initialized "java/lang/Math" ∈ lw_g) (hC : Cond.code Lib.Math.min.name Lib.Math.min.code 2 (some .int) ∈ lw_g) (hrm : MR M (((st.map (tv G)).map fun v => v.category).sum + 13)) (h : Wp G M kc ks (pc + 3) l (.int (if y < x then y else x) :: st) u Q) : Wp G M kc ks pc l (.int y :: .int x :: st) u Q := by
  intro p e R s m args below meth c C H ls locs cells slots Qf mc ms a1 a2 a3 a4 a5 a6 a7 a8 k'
  have hts := C.2.2.2.2.2.1
  exact va_mmin (rest := st.map (tv G)) C.1 C.2.1 (C.2.2.2.1.trans a3.1.symm) C.2.2.2.2.1 (hts _ hL) (hts _ hS) (hts _ hI) (hts _ hC) (Nat.le_trans hrm.1 C.2.2.2.2.2.2.2.2.1) (Nat.le_trans hrm.2 C.2.2.2.2.2.2.2.2.2.1) (by omega) (by omega) hd (h p e R s m args below meth c C H ls locs cells slots Qf mc ms a1 a2 a3 a4 a5 a6 a7 a8 k')
theorem wp_minJ {idx : Nat} {x y : Int64} (hd : decode M.2.1 pc = .ok (.invokestatic idx, 3)) (hL : Cond.methodLink M.1.cls idx Lib.MathLoose.min_long.x ∈ lw_g) (hS : Cond.static Lib.MathLoose.min_long.x ∈ lw_g) (hI : Cond.initialized "java/lang/Math" ∈ lw_g) (hC : Cond.code Lib.MathLoose.min_long.x Lib.MathLoose.min_long.code 4 (some .long) ∈ lw_g) (hrm : MR M (((st.map (tv G)).map fun v => v.category).sum + 15)) (h : Wp G M kc ks (pc + 3) l (.long (if y < x then y else x) :: st) u Q) : Wp G M kc ks pc l (.long y :: .long x :: st) u Q := by
  intro p e R s m args below meth c C H ls locs cells slots Qf mc ms a1 a2 a3 a4 a5 a6 a7 a8 k'
  have hts := C.2.2.2.2.2.1
  exact va_mmin_long (rest := st.map (tv G)) C.1 C.2.1 (C.2.2.2.1.trans a3.1.symm) C.2.2.2.2.1 (hts _ hL) (hts _ hS) (hts _ hI) (hts _ hC) (Nat.le_trans hrm.1 C.2.2.2.2.2.2.2.2.1) (Nat.le_trans hrm.2 C.2.2.2.2.2.2.2.2.2.1) (by omega) (by omega) hd (h p e R s m args below meth c C H ls locs cells slots Qf mc ms a1 a2 a3 a4 a5 a6 a7 a8 k')
theorem wp_absJ {idx : Nat} {x : Int64} (hd : decode M.2.1 pc = .ok (.invokestatic idx, 3)) (hL : Cond.methodLink M.1.cls idx Lib.MathLoose.abs_long.x ∈ lw_g) (hS : Cond.static Lib.MathLoose.abs_long.x ∈ lw_g) (hI : Cond.initialized "java/lang/Math" ∈ lw_g) (hC : Cond.code Lib.MathLoose.abs_long.x Lib.MathLoose.abs_long.code 2 (some .long) ∈ lw_g) (hrm : MR M (((st.map (tv G)).map fun v => v.category).sum + 13)) (h : Wp G M kc ks (pc + 3) l (.long (if 0 < x then x else -x) :: st) u Q) : Wp G M kc ks pc l (.long x :: st) u Q := by
  intro p e R s m args below meth c C H ls locs cells slots Qf mc ms a1 a2 a3 a4 a5 a6 a7 a8 k'
  have hts := C.2.2.2.2.2.1
  exact va_mabs_long (rest := st.map (tv G)) C.1 C.2.1 (C.2.2.2.1.trans a3.1.symm) C.2.2.2.2.1 (hts _ hL) (hts _ hS) (hts _ hI) (hts _ hC) (Nat.le_trans hrm.1 C.2.2.2.2.2.2.2.2.1) (Nat.le_trans hrm.2 C.2.2.2.2.2.2.2.2.2.1) (by omega) (by omega) hd (h p e R s m args below meth c C H ls locs cells slots Qf mc ms a1 a2 a3 a4 a5 a6 a7 a8 k')
theorem ws_fm {idx : Nat} {x y : Int64} (hd : decode M.2.1 pc = .ok (.invokestatic idx, 3)) (hL : Cond.methodLink M.1.cls idx fm_x ∈ lw_g) (hS : Cond.static fm_x ∈ lw_g) (hI : Cond.initialized "java/lang/Math" ∈ lw_g) (hC : Cond.code fm_x fm_c 6 (some .long) ∈ lw_g) (hrm : MR M (((st.map (tv G)).map fun v => v.category).sum + 17)) (hy : ¬ y = 0) (h : Ws G M (pc + 3) l (.long (fm x y) :: st) u Q) : Ws G M pc l (.long y :: .long x :: st) u Q := fun hs => wp_fm hd hL hS hI hC hrm hy (h hs)
theorem ws_maxI {idx : Nat} {x y : Int32} (hd : decode M.2.1 pc = .ok (.invokestatic idx, 3)) (hL : Cond.methodLink M.1.cls idx Lib.Math.max.name ∈ lw_g) (hS : Cond.static Lib.Math.max.name ∈ lw_g) (hI : Cond.initialized "java/lang/Math" ∈ lw_g) (hC : Cond.code Lib.Math.max.name Lib.Math.max.code 2 (some .int) ∈ lw_g) (hrm : MR M (((st.map (tv G)).map fun v => v.category).sum + 13)) (h : Ws G M (pc + 3) l (.int (if x < y then y else x) :: st) u Q) : Ws G M pc l (.int y :: .int x :: st) u Q := fun hs => wp_maxI hd hL hS hI hC hrm (h hs)
theorem ws_minI {idx : Nat} {x y : Int32} (hd : decode M.2.1 pc = .ok (.invokestatic idx, 3)) (hL : Cond.methodLink M.1.cls idx Lib.Math.min.name ∈ lw_g) (hS : Cond.static Lib.Math.min.name ∈ lw_g) (hI : Cond.initialized "java/lang/Math" ∈ lw_g) (hC : Cond.code Lib.Math.min.name Lib.Math.min.code 2 (some .int) ∈ lw_g) (hrm : MR M (((st.map (tv G)).map fun v => v.category).sum + 13)) (h : Ws G M (pc + 3) l (.int (if y < x then y else x) :: st) u Q) : Ws G M pc l (.int y :: .int x :: st) u Q := fun hs => wp_minI hd hL hS hI hC hrm (h hs)
theorem ws_minJ {idx : Nat} {x y : Int64} (hd : decode M.2.1 pc = .ok (.invokestatic idx, 3)) (hL : Cond.methodLink M.1.cls idx Lib.MathLoose.min_long.x ∈ lw_g) (hS : Cond.static Lib.MathLoose.min_long.x ∈ lw_g) (hI : Cond.initialized "java/lang/Math" ∈ lw_g) (hC : Cond.code Lib.MathLoose.min_long.x Lib.MathLoose.min_long.code 4 (some .long) ∈ lw_g) (hrm : MR M (((st.map (tv G)).map fun v => v.category).sum + 15)) (h : Ws G M (pc + 3) l (.long (if y < x then y else x) :: st) u Q) : Ws G M pc l (.long y :: .long x :: st) u Q := fun hs => wp_minJ hd hL hS hI hC hrm (h hs)
theorem ws_absJ {idx : Nat} {x : Int64} (hd : decode M.2.1 pc = .ok (.invokestatic idx, 3)) (hL : Cond.methodLink M.1.cls idx Lib.MathLoose.abs_long.x ∈ lw_g) (hS : Cond.static Lib.MathLoose.abs_long.x ∈ lw_g) (hI : Cond.initialized "java/lang/Math" ∈ lw_g) (hC : Cond.code Lib.MathLoose.abs_long.x Lib.MathLoose.abs_long.code 2 (some .long) ∈ lw_g) (hrm : MR M (((st.map (tv G)).map fun v => v.category).sum + 13)) (h : Ws G M (pc + 3) l (.long (if 0 < x then x else -x) :: st) u Q) : Ws G M pc l (.long x :: st) u Q := fun hs => wp_absJ hd hL hS hI hC hrm (h hs)
end FMW
