theorem fm_meets (l : Launch) (a b : Int64) (hb0 : ¬ b = 0) : MeetsLoose l fm_x (fm_spec a b) := by
  refine MeetsLoose.of_body_ov (code := fm_c) (maxLocals := 6) (ret := some .long) fm_row ?_ ?_
  · intro args s h
    simp only [fm_spec, Cond.before_and, Bool.and_eq_true] at h
    exact h.1
  · intro p e s m args below meth c s₁ B
    have hpre := B.pre
    simp only [fm_spec, Cond.before_and, Bool.and_eq_true] at hpre
    obtain rfl := fm_args hpre.2.1 hpre.2.2.1 hpre.2.2.2
    have hloc : argsToLocals #[.long a, .long b] 6 = #[.val (.long a), .second, .val (.long b), .second, .unset, .unset] := rfl
    obtain ⟨fs, hfs⟩ := handOver_isSome (s := s₁) (some (.long (fm a b))) B.hears₁
    refine ⟨s₁.setFrames fs, .returned (some (.long (fm a b))), ?_, B.here.running, B.ended hfs (by intro h; cases h), ?_, State.sameBut_nil.mpr ?_⟩
    rotate_left
    · simp [fm_spec, Cond.after, Cond.holds, Cond.value, Term.eval]
    · rw [State.frames_setFrames _ B.cur₁, B.back]
    have e0 : fm a b = if (a ^^^ b) < 0 ∧ ¬ (a - a / b * b) = 0 then (a - a / b * b) + b else a - a / b * b := rfl
    rw [e0] at hfs
    unfold entryFrame; rw [hloc]
    refine Steps.instrAtOv (c := _) (by simpa using B.here) ?_
    simp [jvm, wpRun, exec, B.here.top, B.exec, B.bytes, fm_0]
    refine Steps.instrAtOv (c := _) (by simpa using B.here) ?_
    simp [jvm, wpRun, exec, B.here.top, B.exec, B.bytes, fm_1]
    refine Steps.instrAtOv (c := _) (by simpa using B.here) ?_
    simp [jvm, wpRun, exec, B.here.top, B.exec, B.bytes, fm_2, hb0]
    generalize a - a / b * b = r at hfs ⊢
    refine Steps.instrAtOv (c := _) (by simpa using B.here) ?_
    simp [jvm, wpRun, exec, B.here.top, B.exec, B.bytes, fm_3, storeLocals, storeSelf, setAt, Value.category]
    refine Steps.instrAtOv (c := _) (by simpa using B.here) ?_
    simp [jvm, wpRun, exec, B.here.top, B.exec, B.bytes, fm_5]
    refine Steps.instrAtOv (c := _) (by simpa using B.here) ?_
    simp [jvm, wpRun, exec, B.here.top, B.exec, B.bytes, fm_6]
    refine Steps.instrAtOv (c := _) (by simpa using B.here) ?_
    simp [jvm, wpRun, exec, B.here.top, B.exec, B.bytes, fm_7]
    generalize a ^^^ b = q at hfs ⊢
    refine Steps.instrAtOv (c := _) (by simpa using B.here) ?_
    simp [jvm, wpRun, exec, B.here.top, B.exec, B.bytes, fm_8]
    by_cases h1 : q < 0
    · have n1 : ¬ 0 < q := fun h => Int64.lt_irrefl (Int64.lt_trans h h1)
      have n2 : ¬ q = 0 := by intro h; rw [h] at h1; exact Int64.lt_irrefl h1
      refine Steps.instrAtOv (c := _) (by simpa using B.here) ?_
      simp [jvm, wpRun, exec, B.here.top, B.exec, B.bytes, fm_9, n1, n2]
      refine Steps.instrAtOv (c := _) (by simpa using B.here) ?_
      simp [jvm, wpRun, exec, B.here.top, B.exec, B.bytes, fm_10, ifCond.holds]
      refine Steps.instrAtOv (c := _) (by simpa using B.here) ?_
      simp [jvm, wpRun, exec, B.here.top, B.exec, B.bytes, fm_13]
      refine Steps.instrAtOv (c := _) (by simpa using B.here) ?_
      simp [jvm, wpRun, exec, B.here.top, B.exec, B.bytes, fm_15]
      by_cases h2 : r = 0
      · subst h2
        have e : (if q < 0 ∧ ¬ (0 : Int64) = 0 then 0 + b else 0) = 0 := by simp
        rw [e] at hfs
        refine Steps.instrAtOv (c := _) (by simpa using B.here) ?_
        simp [jvm, wpRun, exec, B.here.top, B.exec, B.bytes, fm_16]
        refine Steps.instrAtOv (c := _) (by simpa using B.here) ?_
        simp [jvm, wpRun, exec, B.here.top, B.exec, B.bytes, fm_17, ifCond.holds]
        refine Steps.instrAtOv (c := _) (by simpa using B.here) ?_
        simp [jvm, wpRun, exec, B.here.top, B.exec, B.bytes, fm_25]
        refine Steps.instrAtOv (c := _) (by simpa using B.here) ?_
        simp [jvm, wpRun, exec, B.here.top, B.exec, B.bytes, fm_27, B.method₁, B.returns]
        intro acts
        rw [ret_to B.frames₁ B.method₁ B.notSynchronized rfl rfl hfs]
        exact Steps.refl _
      · have e : (if q < 0 ∧ ¬ r = 0 then r + b else r) = r + b := by simp [h1, h2]
        rw [e] at hfs
        by_cases h3 : 0 < r
        · refine Steps.instrAtOv (c := _) (by simpa using B.here) ?_
          simp [jvm, wpRun, exec, B.here.top, B.exec, B.bytes, fm_16, h2, h3]
          refine Steps.instrAtOv (c := _) (by simpa using B.here) ?_
          simp [jvm, wpRun, exec, B.here.top, B.exec, B.bytes, fm_17, ifCond.holds]
          refine Steps.instrAtOv (c := _) (by simpa using B.here) ?_
          simp [jvm, wpRun, exec, B.here.top, B.exec, B.bytes, fm_20]
          refine Steps.instrAtOv (c := _) (by simpa using B.here) ?_
          simp [jvm, wpRun, exec, B.here.top, B.exec, B.bytes, fm_22]
          refine Steps.instrAtOv (c := _) (by simpa using B.here) ?_
          simp [jvm, wpRun, exec, B.here.top, B.exec, B.bytes, fm_23]
          refine Steps.instrAtOv (c := _) (by simpa using B.here) ?_
          simp [jvm, wpRun, exec, B.here.top, B.exec, B.bytes, fm_24, B.method₁, B.returns]
          intro acts
          rw [ret_to B.frames₁ B.method₁ B.notSynchronized rfl rfl hfs]
          exact Steps.refl _
        · refine Steps.instrAtOv (c := _) (by simpa using B.here) ?_
          simp [jvm, wpRun, exec, B.here.top, B.exec, B.bytes, fm_16, h2, h3]
          refine Steps.instrAtOv (c := _) (by simpa using B.here) ?_
          simp [jvm, wpRun, exec, B.here.top, B.exec, B.bytes, fm_17, ifCond.holds]
          refine Steps.instrAtOv (c := _) (by simpa using B.here) ?_
          simp [jvm, wpRun, exec, B.here.top, B.exec, B.bytes, fm_20]
          refine Steps.instrAtOv (c := _) (by simpa using B.here) ?_
          simp [jvm, wpRun, exec, B.here.top, B.exec, B.bytes, fm_22]
          refine Steps.instrAtOv (c := _) (by simpa using B.here) ?_
          simp [jvm, wpRun, exec, B.here.top, B.exec, B.bytes, fm_23]
          refine Steps.instrAtOv (c := _) (by simpa using B.here) ?_
          simp [jvm, wpRun, exec, B.here.top, B.exec, B.bytes, fm_24, B.method₁, B.returns]
          intro acts
          rw [ret_to B.frames₁ B.method₁ B.notSynchronized rfl rfl hfs]
          exact Steps.refl _
    · have e : (if q < 0 ∧ ¬ r = 0 then r + b else r) = r := by simp [h1]
      rw [e] at hfs
      by_cases h2 : q = 0
      · subst h2
        refine Steps.instrAtOv (c := _) (by simpa using B.here) ?_
        simp [jvm, wpRun, exec, B.here.top, B.exec, B.bytes, fm_9]
        refine Steps.instrAtOv (c := _) (by simpa using B.here) ?_
        simp [jvm, wpRun, exec, B.here.top, B.exec, B.bytes, fm_10, ifCond.holds]
        refine Steps.instrAtOv (c := _) (by simpa using B.here) ?_
        simp [jvm, wpRun, exec, B.here.top, B.exec, B.bytes, fm_25]
        refine Steps.instrAtOv (c := _) (by simpa using B.here) ?_
        simp [jvm, wpRun, exec, B.here.top, B.exec, B.bytes, fm_27, B.method₁, B.returns]
        intro acts
        rw [ret_to B.frames₁ B.method₁ B.notSynchronized rfl rfl hfs]
        exact Steps.refl _
      · have h3 : 0 < q := Int64.lt_of_le_of_ne (Int64.not_lt.mp h1) (Ne.symm h2)
        refine Steps.instrAtOv (c := _) (by simpa using B.here) ?_
        simp [jvm, wpRun, exec, B.here.top, B.exec, B.bytes, fm_9, h3]
        refine Steps.instrAtOv (c := _) (by simpa using B.here) ?_
        simp [jvm, wpRun, exec, B.here.top, B.exec, B.bytes, fm_10, ifCond.holds]
        refine Steps.instrAtOv (c := _) (by simpa using B.here) ?_
        simp [jvm, wpRun, exec, B.here.top, B.exec, B.bytes, fm_25]
        refine Steps.instrAtOv (c := _) (by simpa using B.here) ?_
        simp [jvm, wpRun, exec, B.here.top, B.exec, B.bytes, fm_27, B.method₁, B.returns]
        intro acts
        rw [ret_to B.frames₁ B.method₁ B.notSynchronized rfl rfl hfs]
        exact Steps.refl _
