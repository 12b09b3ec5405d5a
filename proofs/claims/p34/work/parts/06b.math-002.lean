theorem fm_24 : decode fm_c 24 = .ok (.lreturn, 1) := by decide +kernel
theorem fm_25 : decode fm_c 25 = .ok (.lload 4, 2) := by decide +kernel
theorem fm_27 : decode fm_c 27 = .ok (.lreturn, 1) := by decide +kernel
theorem fm_row0 : (NativeRow.find? natives fm_x.cls fm_x.name fm_x.desc).isNone = true := by decide +kernel
theorem fm_row (p : Program) : NativeRow.find? p.tables.natives fm_x.cls fm_x.name fm_x.desc = none := by
  cases p <;> exact Option.isNone_iff_eq_none.mp fm_row0
def fm_spec (a b : Int64) : Spec where
  pre := .and (.code fm_x fm_c 6 (some .long)) (.and (.count 2) (.and (.eq (.arg 0) (.long a)) (.eq (.arg 1) (.long b))))
  post := .and .returned (.eq .result (.long (fm a b)))
  changes := some []
theorem fm_args {args : Array Value} {s : State} {a b : Int64} (h0 : (Cond.count 2).before args s = true) (h1 : (Cond.eq (.arg 0) (.long a)).before args s = true) (h2 : (Cond.eq (.arg 1) (.long b)).before args s = true) : args = #[.long a, .long b] := by
  obtain ⟨l⟩ := args
  simp only [Cond.before, Cond.holds, Cond.value, Term.eval, List.size_toArray, beq_iff_eq, Option.some.injEq] at h0 h1 h2
  match l, h0 with
  | [x, y], _ =>
    cases x <;> simp at h1
    cases y <;> simp at h2
    subst h1; subst h2
    rfl
theorem fm_meets (l : Launch) (a b : Int64) (hb0 : ¬ b = 0) : MeetsLoose l fm_x (fm_spec a b) := by
  refine MeetsLoose.of_body_ov (code := fm_c) (maxLocals := 6) (ret := some .long) fm_row ?_ ?_
  · intro args s h
    simp only [fm_spec, Cond.before_and, Bool.and_eq_true] at h
    exact h.1
  · intro p e s m args below meth c s₁ B
    have hpre := B.pre
    simp only [fm_spec, Cond.before_and, Bool.and_eq_true] at hpre
    obtain rfl := fm_args hpre.2.1 hpre.2.2.1 hpre.2.2.2
    have hloc : argsToLocals #[.long a, .long b] 6 = #[.val (.long a), .second, .val (.long b), .second, .unset, .unset] := rfl
    obtain ⟨fs, hfs⟩ := handOver_isSome (s := s₁) (some (.long (fm a b))) B.hears₁
    refine ⟨s₁.setFrames fs, .returned (some (.long (fm a b))), ?_, B.here.running, B.ended hfs (by intro h; cases h), ?_, State.sameBut_nil.mpr ?_⟩
    rotate_left
    · simp [fm_spec, Cond.after, Cond.holds, Cond.value, Term.eval]
    · rw [State.frames_setFrames _ B.cur₁, B.back]
    have e0 : fm a b = if (a ^^^ b) < 0 ∧ ¬ (a - a / b * b) = 0 then (a - a / b * b) + b else a - a / b * b := rfl
    rw [e0] at hfs
    unfold entryFrame; rw [hloc]
    refine Steps.instrAtOv (c := _) (by simpa using B.here) ?_
    simp [jvm, wpRun, exec, B.here.top, B.exec, B.bytes, fm_0]
    refine Steps.instrAtOv (c := _) (by simpa using B.here) ?_
    simp [jvm, wpRun, exec, B.here.top, B.exec, B.bytes, fm_1]
    refine Steps.instrAtOv (c := _) (by simpa using B.here) ?_
    simp [jvm, wpRun, exec, B.here.top, B.exec, B.bytes, fm_2, hb0]
    generalize a - a / b * b = r at hfs ⊢
    refine Steps.instrAtOv (c := _) (by simpa using B.here) ?_
    simp [jvm, wpRun, exec, B.here.top, B.exec, B.bytes, fm_3, storeLocals, storeSelf, setAt, Value.category]
    refine Steps.instrAtOv (c := _) (by simpa using B.here) ?_
    simp [jvm, wpRun, exec, B.here.top, B.exec, B.bytes, fm_5]
    refine Steps.instrAtOv (c := _) (by simpa using B.here) ?_
    simp [jvm, wpRun, exec, B.here.top, B.exec, B.bytes, fm_6]
    refine Steps.instrAtOv (c := _) (by simpa using B.here) ?_
    simp [jvm, wpRun, exec, B.here.top, B.exec, B.bytes, fm_7]
    generalize a ^^^ b = q at hfs ⊢
    refine Steps.instrAtOv (c := _) (by simpa using B.here) ?_
    simp [jvm, wpRun, exec, B.here.top, B.exec, B.bytes, fm_8]
    by_cases h1 : q < 0
    · have n1 : ¬ 0 < q := fun h => Int64.lt_irrefl (Int64.lt_trans h h1)
      have n2 : ¬ q = 0 := by intro h; rw [h] at h1; exact Int64.lt_irrefl h1
      refine Steps.instrAtOv (c := _) (by simpa using B.here) ?_
      simp [jvm, wpRun, exec, B.here.top, B.exec, B.bytes, fm_9, n1, n2]
      refine Steps.instrAtOv (c := _) (by simpa using B.here) ?_
      simp [jvm, wpRun, exec, B.here.top, B.exec, B.bytes, fm_10, ifCond.holds]
      refine Steps.instrAtOv (c := _) (by simpa using B.here) ?_
      simp [jvm, wpRun, exec, B.here.top, B.exec, B.bytes, fm_13]
      refine Steps.instrAtOv (c := _) (by simpa using B.here) ?_
      simp [jvm, wpRun, exec, B.here.top, B.exec, B.bytes, fm_15]
      by_cases h2 : r = 0
      · subst h2
        have e : (if q < 0 ∧ ¬ (0 : Int64) = 0 then 0 + b else 0) = 0 := by simp
        rw [e] at hfs
        refine Steps.instrAtOv (c := _) (by simpa using B.here) ?_
        simp [jvm, wpRun, exec, B.here.top, B.exec, B.bytes, fm_16]
        refine Steps.instrAtOv (c := _) (by simpa using B.here) ?_
        simp [jvm, wpRun, exec, B.here.top, B.exec, B.bytes, fm_17, ifCond.holds]
        refine Steps.instrAtOv (c := _) (by simpa using B.here) ?_
        simp [jvm, wpRun, exec, B.here.top, B.exec, B.bytes, fm_25]
        refine Steps.instrAtOv (c := _) (by simpa using B.here) ?_
        simp [jvm, wpRun, exec, B.here.top, B.exec, B.bytes, fm_27, B.method₁, B.returns]
        intro acts
        rw [ret_to B.frames₁ B.method₁ B.notSynchronized rfl rfl hfs]
        exact Steps.refl _
      · have e : (if q < 0 ∧ ¬ r = 0 then r + b else r) = r + b := by simp [h1, h2]
        rw [e] at hfs
        by_cases h3 : 0 < r
        · refine Steps.instrAtOv (c := _) (by simpa using B.here) ?_
          simp [jvm, wpRun, exec, B.here.top, B.exec, B.bytes, fm_16, h2, h3]
          refine Steps.instrAtOv (c := _) (by simpa using B.here) ?_
          simp [jvm, wpRun, exec, B.here.top, B.exec, B.bytes, fm_17, ifCond.holds]
          refine Steps.instrAtOv (c := _) (by simpa using B.here) ?_
          simp [jvm, wpRun, exec, B.here.top, B.exec, B.bytes, fm_20]
          refine Steps.instrAtOv (c := _) (by simpa using B.here) ?_
          simp [jvm, wpRun, exec, B.here.top, B.exec, B.bytes, fm_22]
          refine Steps.instrAtOv (c := _) (by simpa using B.here) ?_
          simp [jvm, wpRun, exec, B.here.top, B.exec, B.bytes, fm_23]
          refine Steps.instrAtOv (c := _) (by simpa using B.here) ?_
          simp [jvm, wpRun, exec, B.here.top, B.exec, B.bytes, fm_24, B.method₁, B.returns]
          intro acts
          rw [ret_to B.frames₁ B.method₁ B.notSynchronized rfl rfl hfs]
          exact Steps.refl _
        · refine Steps.instrAtOv (c := _) (by simpa using B.here) ?_
          simp [jvm, wpRun, exec, B.here.top, B.exec, B.bytes, fm_16, h2, h3]
          refine Steps.instrAtOv (c := _) (by simpa using B.here) ?_
          simp [jvm, wpRun, exec, B.here.top, B.exec, B.bytes, fm_17, ifCond.holds]
          refine Steps.instrAtOv (c := _) (by simpa using B.here) ?_
          simp [jvm, wpRun, exec, B.here.top, B.exec, B.bytes, fm_20]
          refine Steps.instrAtOv (c := _) (by simpa using B.here) ?_
          simp [jvm, wpRun, exec, B.here.top, B.exec, B.bytes, fm_22]
          refine Steps.instrAtOv (c := _) (by simpa using B.here) ?_
          simp [jvm, wpRun, exec, B.here.top, B.exec, B.bytes, fm_23]
          refine Steps.instrAtOv (c := _) (by simpa using B.here) ?_
          simp [jvm, wpRun, exec, B.here.top, B.exec, B.bytes, fm_24, B.method₁, B.returns]
          intro acts
          rw [ret_to B.frames₁ B.method₁ B.notSynchronized rfl rfl hfs]
          exact Steps.refl _
    · have e : (if q < 0 ∧ ¬ r = 0 then r + b else r) = r := by simp [h1]
      rw [e] at hfs
      by_cases h2 : q = 0
      · subst h2
        refine Steps.instrAtOv (c := _) (by simpa using B.here) ?_
        simp [jvm, wpRun, exec, B.here.top, B.exec, B.bytes, fm_9]
        refine Steps.instrAtOv (c := _) (by simpa using B.here) ?_
        simp [jvm, wpRun, exec, B.here.top, B.exec, B.bytes, fm_10, ifCond.holds]
        refine Steps.instrAtOv (c := _) (by simpa using B.here) ?_
        simp [jvm, wpRun, exec, B.here.top, B.exec, B.bytes, fm_25]
        refine Steps.instrAtOv (c := _) (by simpa using B.here) ?_
        simp [jvm, wpRun, exec, B.here.top, B.exec, B.bytes, fm_27, B.method₁, B.returns]
        intro acts
        rw [ret_to B.frames₁ B.method₁ B.notSynchronized rfl rfl hfs]
        exact Steps.refl _
      · have h3 : 0 < q := Int64.lt_of_le_of_ne (Int64.not_lt.mp h1) (Ne.symm h2)
        refine Steps.instrAtOv (c := _) (by simpa using B.here) ?_
        simp [jvm, wpRun, exec, B.here.top, B.exec, B.bytes, fm_9, h3]
        refine Steps.instrAtOv (c := _) (by simpa using B.here) ?_
        simp [jvm, wpRun, exec, B.here.top, B.exec, B.bytes, fm_10, ifCond.holds]
        refine Steps.instrAtOv (c := _) (by simpa using B.here) ?_
        simp [jvm, wpRun, exec, B.here.top, B.exec, B.bytes, fm_25]
        refine Steps.instrAtOv (c := _) (by simpa using B.here) ?_
        simp [jvm, wpRun, exec, B.here.top, B.exec, B.bytes, fm_27, B.method₁, B.returns]
        intro acts
        rw [ret_to B.frames₁ B.method₁ B.notSynchronized rfl rfl hfs]
        exact Steps.refl _
