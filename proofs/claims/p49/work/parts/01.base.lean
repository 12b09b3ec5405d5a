-- ===== PART A: goes FIRST, ahead of the names: the tables' words, and 'selects' of the private methods out of them =====
/-- a private method of a class that the tables say can be made, by its rows of tables_1 -/
def lw_okq (q : MethodName × Nat) : Prop := (q.1.cls ≠ "java/lang/invoke/MethodHandle" ∧ q.1.cls ≠ "java/lang/invoke/VarHandle") ∧ Cond.instantiable q.1.cls q.2 ∈ tables_1 ∧ Cond.privateMethod q.1 ∈ tables_1 ∧ Cond.instanceMethod q.1 ∈ tables_1
def tb_wk : List (Nat × Cond) → List Cond → Bool
  | [], _ => true
  | (g, c) :: r, l => match l.drop g with
    | [] => false
    | x :: t => decide (x = c) && tb_wk r t
theorem tb_wk_ok : ∀ (rs : List (Nat × Cond)) (l : List Cond), tb_wk rs l = true → (∀ x ∈ l, x ∈ tables_1) → ∀ q ∈ rs, q.2 ∈ tables_1
  | [], _, _, _, q, hq => absurd hq (by simp)
  | (g, c) :: r, l, h, hl, q, hq => by
    unfold tb_wk at h
    cases e : l.drop g with
    | nil => rw [e] at h; exact absurd (show false = true from h) (by decide)
    | cons x t =>
      rw [e] at h
      have h' : (decide (x = c) && tb_wk r t) = true := h
      rw [Bool.and_eq_true] at h'
      have hs : ∀ y ∈ x :: t, y ∈ tables_1 := fun y hy => hl y (List.mem_of_mem_drop (by rw [e]; exact hy))
      rcases List.mem_cons.mp hq with e2 | hq
      · rw [e2]
        show c ∈ tables_1
        rw [← of_decide_eq_true h'.1]
        exact hs x List.mem_cons_self
      · exact tb_wk_ok r t h'.2 (fun y hy => hs y (List.mem_cons_of_mem _ hy)) q hq
theorem tb_bt {l : List (Nat × Cond)} (h : tb_wk l tables_1 = true) {j i : Nat} {w : Cond} (e : l[j]? = some (i, w)) : w ∈ tables_1 := tb_wk_ok l tables_1 h (fun _ q => q) _ (List.mem_of_getElem? e)
theorem lw_ne0 : "DoorRounds" ≠ "java/lang/invoke/MethodHandle" ∧ "DoorRounds" ≠ "java/lang/invoke/VarHandle" := ⟨by decide +kernel, by decide +kernel⟩
theorem lw_ne1 : "DoorRounds$Plan" ≠ "java/lang/invoke/MethodHandle" ∧ "DoorRounds$Plan" ≠ "java/lang/invoke/VarHandle" := ⟨by decide +kernel, by decide +kernel⟩
theorem lw_ne2 : "DoorRounds$Standing" ≠ "java/lang/invoke/MethodHandle" ∧ "DoorRounds$Standing" ≠ "java/lang/invoke/VarHandle" := ⟨by decide +kernel, by decide +kernel⟩
theorem lw_ne3 : "DoorRounds$Errands" ≠ "java/lang/invoke/MethodHandle" ∧ "DoorRounds$Errands" ≠ "java/lang/invoke/VarHandle" := ⟨by decide +kernel, by decide +kernel⟩
theorem lw_ne4 : "DoorRoundsModel" ≠ "java/lang/invoke/MethodHandle" ∧ "DoorRoundsModel" ≠ "java/lang/invoke/VarHandle" := ⟨by decide +kernel, by decide +kernel⟩
noncomputable def lw_BL0 : List (Nat × Cond) := [(15, Cond.instantiable "DoorRounds" 16), (28, Cond.instantiable "DoorRounds$Standing" 3), (38, Cond.instantiable "DoorRounds$Errands" 2), (13, Cond.instantiable "DoorRounds$Plan" 6), (140, Cond.privateMethod ⟨"DoorRounds", "found", "(I)I"⟩), (0, Cond.instanceMethod ⟨"DoorRounds", "found", "(I)I"⟩), (2, Cond.privateMethod ⟨"DoorRounds", "rowOf", "(I)LDoorRounds$Strip;"⟩), (0, Cond.instanceMethod ⟨"DoorRounds", "rowOf", "(I)LDoorRounds$Strip;"⟩), (36, Cond.privateMethod ⟨"DoorRounds", "tell", "(II)I"⟩), (0, Cond.instanceMethod ⟨"DoorRounds", "tell", "(II)I"⟩), (37, Cond.privateMethod ⟨"DoorRounds", "textOf", "(I)LDoorRounds$Strip;"⟩), (0, Cond.instanceMethod ⟨"DoorRounds", "textOf", "(I)LDoorRounds$Strip;"⟩), (39, Cond.privateMethod ⟨"DoorRounds$Plan", "readShop", "(LDoorRounds$Shop;)Z"⟩), (0, Cond.instanceMethod ⟨"DoorRounds$Plan", "readShop", "(LDoorRounds$Shop;)Z"⟩), (34, Cond.privateMethod ⟨"DoorRounds$Plan", "isAhead", "(II)Z"⟩), (0, Cond.instanceMethod ⟨"DoorRounds$Plan", "isAhead", "(II)Z"⟩), (11, Cond.privateMethod ⟨"DoorRounds", "keptOf", "(I)LDoorRounds$Standing;"⟩), (0, Cond.instanceMethod ⟨"DoorRounds", "keptOf", "(I)LDoorRounds$Standing;"⟩), (10, Cond.privateMethod ⟨"DoorRounds", "trait", "(II)I"⟩), (0, Cond.instanceMethod ⟨"DoorRounds", "trait", "(II)I"⟩), (15, Cond.privateMethod ⟨"DoorRounds", "neighbours", "(I)I"⟩), (0, Cond.instanceMethod ⟨"DoorRounds", "neighbours", "(I)I"⟩), (14, Cond.privateMethod ⟨"DoorRounds", "rivals", "(I)I"⟩), (0, Cond.instanceMethod ⟨"DoorRounds", "rivals", "(I)I"⟩)]
theorem lw_B0 : tb_wk lw_BL0 tables_1 = true := by decide +kernel
noncomputable def lw_BL1 : List (Nat × Cond) := [(528, Cond.privateMethod ⟨"DoorRounds$Standing", "passOne", "(LDoorRounds$Plan;)V"⟩), (0, Cond.instanceMethod ⟨"DoorRounds$Standing", "passOne", "(LDoorRounds$Plan;)V"⟩), (49, Cond.privateMethod ⟨"DoorRounds", "areTwo", "(II)Z"⟩), (0, Cond.instanceMethod ⟨"DoorRounds", "areTwo", "(II)Z"⟩), (82, Cond.privateMethod ⟨"DoorRounds$Errands", "leastOf", "(I)J"⟩), (0, Cond.instanceMethod ⟨"DoorRounds$Errands", "leastOf", "(I)J"⟩), (20, Cond.privateMethod ⟨"DoorRounds", "metBy", "(II)I"⟩), (0, Cond.instanceMethod ⟨"DoorRounds", "metBy", "(II)I"⟩), (47, Cond.privateMethod ⟨"DoorRounds", "passersFinding", "(LDoorRounds$Strip;)I"⟩), (0, Cond.instanceMethod ⟨"DoorRounds", "passersFinding", "(LDoorRounds$Strip;)I"⟩), (2, Cond.privateMethod ⟨"DoorRounds", "rentOf", "(LDoorRounds$Strip;II)I"⟩), (0, Cond.instanceMethod ⟨"DoorRounds", "rentOf", "(LDoorRounds$Strip;II)I"⟩), (6, Cond.privateMethod ⟨"DoorRounds", "tellFraction", "(JJ)V"⟩), (0, Cond.instanceMethod ⟨"DoorRounds", "tellFraction", "(JJ)V"⟩), (19, Cond.privateMethod ⟨"DoorRounds", "imageFinding", "(LDoorRounds$Strip;)I"⟩), (0, Cond.instanceMethod ⟨"DoorRounds", "imageFinding", "(LDoorRounds$Strip;)I"⟩), (23, Cond.privateMethod ⟨"DoorRounds", "countOf", "(I)I"⟩), (0, Cond.instanceMethod ⟨"DoorRounds", "countOf", "(I)I"⟩), (34, Cond.instantiable "DoorRoundsModel" 33), (115, Cond.privateMethod ⟨"DoorRoundsModel", "meet", "(I)I"⟩), (0, Cond.instanceMethod ⟨"DoorRoundsModel", "meet", "(I)I"⟩), (2, Cond.privateMethod ⟨"DoorRoundsModel", "setRow", "(III)V"⟩), (0, Cond.instanceMethod ⟨"DoorRoundsModel", "setRow", "(III)V"⟩), (6, Cond.privateMethod ⟨"DoorRoundsModel", "askedRow", "(I)I"⟩)]
theorem lw_B1 : tb_wk lw_BL1 tables_1 = true := by decide +kernel
noncomputable def lw_BL2 : List (Nat × Cond) := [(957, Cond.instanceMethod ⟨"DoorRoundsModel", "askedRow", "(I)I"⟩), (2, Cond.privateMethod ⟨"DoorRoundsModel", "rowAt", "(II)I"⟩), (0, Cond.instanceMethod ⟨"DoorRoundsModel", "rowAt", "(II)I"⟩), (2, Cond.privateMethod ⟨"DoorRoundsModel", "ask", "(II)I"⟩), (0, Cond.instanceMethod ⟨"DoorRoundsModel", "ask", "(II)I"⟩), (30, Cond.privateMethod ⟨"DoorRoundsModel", "askedText", "(I)I"⟩), (0, Cond.instanceMethod ⟨"DoorRoundsModel", "askedText", "(I)I"⟩), (6, Cond.privateMethod ⟨"DoorRoundsModel", "goesOn", "(I)I"⟩), (0, Cond.instanceMethod ⟨"DoorRoundsModel", "goesOn", "(I)I"⟩), (2, Cond.privateMethod ⟨"DoorRoundsModel", "here", "(I)I"⟩), (0, Cond.instanceMethod ⟨"DoorRoundsModel", "here", "(I)I"⟩), (2, Cond.privateMethod ⟨"DoorRoundsModel", "readsDoors", "(I)Z"⟩), (0, Cond.instanceMethod ⟨"DoorRoundsModel", "readsDoors", "(I)Z"⟩), (2, Cond.privateMethod ⟨"DoorRoundsModel", "sees", "(II)Z"⟩), (0, Cond.instanceMethod ⟨"DoorRoundsModel", "sees", "(II)Z"⟩), (2, Cond.privateMethod ⟨"DoorRoundsModel", "readsNumber", "(III)Z"⟩), (0, Cond.instanceMethod ⟨"DoorRoundsModel", "readsNumber", "(III)Z"⟩), (2, Cond.privateMethod ⟨"DoorRoundsModel", "readsShop", "(I)Z"⟩), (0, Cond.instanceMethod ⟨"DoorRoundsModel", "readsShop", "(I)Z"⟩), (5, Cond.privateMethod ⟨"DoorRoundsModel", "isTold", "(I)Z"⟩), (0, Cond.instanceMethod ⟨"DoorRoundsModel", "isTold", "(I)Z"⟩), (2, Cond.privateMethod ⟨"DoorRoundsModel", "readsFigure", "(II)Z"⟩), (0, Cond.instanceMethod ⟨"DoorRoundsModel", "readsFigure", "(II)Z"⟩), (6, Cond.privateMethod ⟨"DoorRoundsModel", "tell", "(II)I"⟩)]
theorem lw_B2 : tb_wk lw_BL2 tables_1 = true := by decide +kernel
noncomputable def lw_BL3 : List (Nat × Cond) := [(1044, Cond.instanceMethod ⟨"DoorRoundsModel", "tell", "(II)I"⟩), (6, Cond.privateMethod ⟨"DoorRoundsModel", "isShop", "(I)Z"⟩), (0, Cond.instanceMethod ⟨"DoorRoundsModel", "isShop", "(I)Z"⟩), (2, Cond.privateMethod ⟨"DoorRoundsModel", "aboutOf", "(II)I"⟩), (0, Cond.instanceMethod ⟨"DoorRoundsModel", "aboutOf", "(II)I"⟩), (6, Cond.privateMethod ⟨"DoorRoundsModel", "isSleeper", "(I)Z"⟩), (0, Cond.instanceMethod ⟨"DoorRoundsModel", "isSleeper", "(I)Z"⟩), (2, Cond.privateMethod ⟨"DoorRoundsModel", "areBeside", "(II)Z"⟩), (0, Cond.instanceMethod ⟨"DoorRoundsModel", "areBeside", "(II)Z"⟩), (2, Cond.privateMethod ⟨"DoorRoundsModel", "doorAt", "(J)I"⟩), (0, Cond.instanceMethod ⟨"DoorRoundsModel", "doorAt", "(J)I"⟩), (2, Cond.privateMethod ⟨"DoorRoundsModel", "going", "(II)I"⟩), (0, Cond.instanceMethod ⟨"DoorRoundsModel", "going", "(II)I"⟩), (9, Cond.privateMethod ⟨"DoorRoundsModel", "isDoor", "(I)Z"⟩), (0, Cond.instanceMethod ⟨"DoorRoundsModel", "isDoor", "(I)Z"⟩), (2, Cond.privateMethod ⟨"DoorRoundsModel", "shutMany", "()I"⟩), (0, Cond.instanceMethod ⟨"DoorRoundsModel", "shutMany", "()I"⟩), (11, Cond.privateMethod ⟨"DoorRoundsModel", "fromNow", "()V"⟩), (0, Cond.instanceMethod ⟨"DoorRoundsModel", "fromNow", "()V"⟩), (2, Cond.privateMethod ⟨"DoorRoundsModel", "passOne", "(II)V"⟩), (0, Cond.instanceMethod ⟨"DoorRoundsModel", "passOne", "(II)V"⟩), (2, Cond.privateMethod ⟨"DoorRoundsModel", "taker", "(I)I"⟩), (0, Cond.instanceMethod ⟨"DoorRoundsModel", "taker", "(I)I"⟩), (24, Cond.privateMethod ⟨"DoorRoundsModel", "plainBy", "(IIIIJJ)I"⟩)]
theorem lw_B3 : tb_wk lw_BL3 tables_1 = true := by decide +kernel
noncomputable def lw_BL4 : List (Nat × Cond) := [(1138, Cond.instanceMethod ⟨"DoorRoundsModel", "plainBy", "(IIIIJJ)I"⟩), (30, Cond.privateMethod ⟨"DoorRoundsModel", "isPair", "(III)Z"⟩), (0, Cond.instanceMethod ⟨"DoorRoundsModel", "isPair", "(III)Z"⟩), (2, Cond.privateMethod ⟨"DoorRoundsModel", "divisor", "(I)I"⟩), (0, Cond.instanceMethod ⟨"DoorRoundsModel", "divisor", "(I)I"⟩), (10, Cond.privateMethod ⟨"DoorRoundsModel", "walkOf", "(II)I"⟩), (0, Cond.instanceMethod ⟨"DoorRoundsModel", "walkOf", "(II)I"⟩), (6, Cond.privateMethod ⟨"DoorRoundsModel", "isSet", "(I)Z"⟩), (0, Cond.instanceMethod ⟨"DoorRoundsModel", "isSet", "(I)Z"⟩), (2, Cond.privateMethod ⟨"DoorRoundsModel", "roundOf", "(II)I"⟩), (0, Cond.instanceMethod ⟨"DoorRoundsModel", "roundOf", "(II)I"⟩), (11, Cond.privateMethod ⟨"DoorRoundsModel", "leastFor", "(II)I"⟩), (0, Cond.instanceMethod ⟨"DoorRoundsModel", "leastFor", "(II)I"⟩), (2, Cond.privateMethod ⟨"DoorRoundsModel", "mayIn", "(II)Z"⟩), (0, Cond.instanceMethod ⟨"DoorRoundsModel", "mayIn", "(II)Z"⟩), (10, Cond.privateMethod ⟨"DoorRoundsModel", "joinsOf", "(II)I"⟩), (0, Cond.instanceMethod ⟨"DoorRoundsModel", "joinsOf", "(II)I"⟩), (25, Cond.privateMethod ⟨"DoorRoundsModel", "fits", "(IIII)Z"⟩), (0, Cond.instanceMethod ⟨"DoorRoundsModel", "fits", "(IIII)Z"⟩), (10, Cond.privateMethod ⟨"DoorRoundsModel", "askedRents", "(I)I"⟩), (0, Cond.instanceMethod ⟨"DoorRoundsModel", "askedRents", "(I)I"⟩), (2, Cond.privateMethod ⟨"DoorRoundsModel", "setRents", "(II)V"⟩), (0, Cond.instanceMethod ⟨"DoorRoundsModel", "setRents", "(II)V"⟩), (6, Cond.privateMethod ⟨"DoorRoundsModel", "part", "(JJI)I"⟩)]
theorem lw_B4 : tb_wk lw_BL4 tables_1 = true := by decide +kernel
noncomputable def lw_BL5 : List (Nat × Cond) := [(1278, Cond.instanceMethod ⟨"DoorRoundsModel", "part", "(JJI)I"⟩), (6, Cond.privateMethod ⟨"DoorRoundsModel", "setPlans", "(I)V"⟩), (0, Cond.instanceMethod ⟨"DoorRoundsModel", "setPlans", "(I)V"⟩), (2, Cond.privateMethod ⟨"DoorRoundsModel", "othersBy", "(II)I"⟩), (0, Cond.instanceMethod ⟨"DoorRoundsModel", "othersBy", "(II)I"⟩), (14, Cond.privateMethod ⟨"DoorRoundsModel", "isImage", "(I)Z"⟩), (0, Cond.instanceMethod ⟨"DoorRoundsModel", "isImage", "(I)Z"⟩), (18, Cond.privateMethod ⟨"DoorRoundsModel", "counts", "(I)I"⟩), (0, Cond.instanceMethod ⟨"DoorRoundsModel", "counts", "(I)I"⟩), (15, Cond.privateMethod ⟨"DoorRoundsModel", "mix", "(I)V"⟩), (0, Cond.instanceMethod ⟨"DoorRoundsModel", "mix", "(I)V"⟩), (3, Cond.privateMethod ⟨"DoorRoundsModel", "mixSquare", "()V"⟩), (0, Cond.instanceMethod ⟨"DoorRoundsModel", "mixSquare", "()V"⟩)]
theorem lw_B5 : tb_wk lw_BL5 tables_1 = true := by decide +kernel
theorem lw_p0 : lw_okq (⟨"DoorRounds", "found", "(I)I"⟩, 16) := ⟨lw_ne0, tb_bt lw_B0 (j := 0) rfl, tb_bt lw_B0 (j := 4) rfl, tb_bt lw_B0 (j := 5) rfl⟩
theorem lw_p1 : lw_okq (⟨"DoorRounds", "rowOf", "(I)LDoorRounds$Strip;"⟩, 16) := ⟨lw_ne0, tb_bt lw_B0 (j := 0) rfl, tb_bt lw_B0 (j := 6) rfl, tb_bt lw_B0 (j := 7) rfl⟩
theorem lw_p2 : lw_okq (⟨"DoorRounds", "tell", "(II)I"⟩, 16) := ⟨lw_ne0, tb_bt lw_B0 (j := 0) rfl, tb_bt lw_B0 (j := 8) rfl, tb_bt lw_B0 (j := 9) rfl⟩
theorem lw_p3 : lw_okq (⟨"DoorRounds", "textOf", "(I)LDoorRounds$Strip;"⟩, 16) := ⟨lw_ne0, tb_bt lw_B0 (j := 0) rfl, tb_bt lw_B0 (j := 10) rfl, tb_bt lw_B0 (j := 11) rfl⟩
theorem lw_p4 : lw_okq (⟨"DoorRounds$Plan", "readShop", "(LDoorRounds$Shop;)Z"⟩, 6) := ⟨lw_ne1, tb_bt lw_B0 (j := 3) rfl, tb_bt lw_B0 (j := 12) rfl, tb_bt lw_B0 (j := 13) rfl⟩
theorem lw_p5 : lw_okq (⟨"DoorRounds$Plan", "isAhead", "(II)Z"⟩, 6) := ⟨lw_ne1, tb_bt lw_B0 (j := 3) rfl, tb_bt lw_B0 (j := 14) rfl, tb_bt lw_B0 (j := 15) rfl⟩
theorem lw_p6 : lw_okq (⟨"DoorRounds", "keptOf", "(I)LDoorRounds$Standing;"⟩, 16) := ⟨lw_ne0, tb_bt lw_B0 (j := 0) rfl, tb_bt lw_B0 (j := 16) rfl, tb_bt lw_B0 (j := 17) rfl⟩
theorem lw_p7 : lw_okq (⟨"DoorRounds", "trait", "(II)I"⟩, 16) := ⟨lw_ne0, tb_bt lw_B0 (j := 0) rfl, tb_bt lw_B0 (j := 18) rfl, tb_bt lw_B0 (j := 19) rfl⟩
theorem lw_p8 : lw_okq (⟨"DoorRounds", "neighbours", "(I)I"⟩, 16) := ⟨lw_ne0, tb_bt lw_B0 (j := 0) rfl, tb_bt lw_B0 (j := 20) rfl, tb_bt lw_B0 (j := 21) rfl⟩
theorem lw_p9 : lw_okq (⟨"DoorRounds", "rivals", "(I)I"⟩, 16) := ⟨lw_ne0, tb_bt lw_B0 (j := 0) rfl, tb_bt lw_B0 (j := 22) rfl, tb_bt lw_B0 (j := 23) rfl⟩
theorem lw_p10 : lw_okq (⟨"DoorRounds$Standing", "passOne", "(LDoorRounds$Plan;)V"⟩, 3) := ⟨lw_ne2, tb_bt lw_B0 (j := 1) rfl, tb_bt lw_B1 (j := 0) rfl, tb_bt lw_B1 (j := 1) rfl⟩
theorem lw_p11 : lw_okq (⟨"DoorRounds", "areTwo", "(II)Z"⟩, 16) := ⟨lw_ne0, tb_bt lw_B0 (j := 0) rfl, tb_bt lw_B1 (j := 2) rfl, tb_bt lw_B1 (j := 3) rfl⟩
theorem lw_p12 : lw_okq (⟨"DoorRounds$Errands", "leastOf", "(I)J"⟩, 2) := ⟨lw_ne3, tb_bt lw_B0 (j := 2) rfl, tb_bt lw_B1 (j := 4) rfl, tb_bt lw_B1 (j := 5) rfl⟩
theorem lw_p13 : lw_okq (⟨"DoorRounds", "metBy", "(II)I"⟩, 16) := ⟨lw_ne0, tb_bt lw_B0 (j := 0) rfl, tb_bt lw_B1 (j := 6) rfl, tb_bt lw_B1 (j := 7) rfl⟩
theorem lw_p14 : lw_okq (⟨"DoorRounds", "passersFinding", "(LDoorRounds$Strip;)I"⟩, 16) := ⟨lw_ne0, tb_bt lw_B0 (j := 0) rfl, tb_bt lw_B1 (j := 8) rfl, tb_bt lw_B1 (j := 9) rfl⟩
theorem lw_p15 : lw_okq (⟨"DoorRounds", "rentOf", "(LDoorRounds$Strip;II)I"⟩, 16) := ⟨lw_ne0, tb_bt lw_B0 (j := 0) rfl, tb_bt lw_B1 (j := 10) rfl, tb_bt lw_B1 (j := 11) rfl⟩
def lw_privs_1 : List (MethodName × Nat) := [(⟨"DoorRounds", "found", "(I)I"⟩, 16), (⟨"DoorRounds", "rowOf", "(I)LDoorRounds$Strip;"⟩, 16), (⟨"DoorRounds", "tell", "(II)I"⟩, 16), (⟨"DoorRounds", "textOf", "(I)LDoorRounds$Strip;"⟩, 16), (⟨"DoorRounds$Plan", "readShop", "(LDoorRounds$Shop;)Z"⟩, 6), (⟨"DoorRounds$Plan", "isAhead", "(II)Z"⟩, 6), (⟨"DoorRounds", "keptOf", "(I)LDoorRounds$Standing;"⟩, 16), (⟨"DoorRounds", "trait", "(II)I"⟩, 16), (⟨"DoorRounds", "neighbours", "(I)I"⟩, 16), (⟨"DoorRounds", "rivals", "(I)I"⟩, 16), (⟨"DoorRounds$Standing", "passOne", "(LDoorRounds$Plan;)V"⟩, 3), (⟨"DoorRounds", "areTwo", "(II)Z"⟩, 16), (⟨"DoorRounds$Errands", "leastOf", "(I)J"⟩, 2), (⟨"DoorRounds", "metBy", "(II)I"⟩, 16), (⟨"DoorRounds", "passersFinding", "(LDoorRounds$Strip;)I"⟩, 16), (⟨"DoorRounds", "rentOf", "(LDoorRounds$Strip;II)I"⟩, 16)]
theorem lw_r1 : ∀ q ∈ lw_privs_1, lw_okq q := List.forall_mem_cons.mpr ⟨lw_p0, List.forall_mem_cons.mpr ⟨lw_p1, List.forall_mem_cons.mpr ⟨lw_p2, List.forall_mem_cons.mpr ⟨lw_p3, List.forall_mem_cons.mpr ⟨lw_p4, List.forall_mem_cons.mpr ⟨lw_p5, List.forall_mem_cons.mpr ⟨lw_p6, List.forall_mem_cons.mpr ⟨lw_p7, List.forall_mem_cons.mpr ⟨lw_p8, List.forall_mem_cons.mpr ⟨lw_p9, List.forall_mem_cons.mpr ⟨lw_p10, List.forall_mem_cons.mpr ⟨lw_p11, List.forall_mem_cons.mpr ⟨lw_p12, List.forall_mem_cons.mpr ⟨lw_p13, List.forall_mem_cons.mpr ⟨lw_p14, List.forall_mem_cons.mpr ⟨lw_p15, fun _ h => absurd h List.not_mem_nil⟩⟩⟩⟩⟩⟩⟩⟩⟩⟩⟩⟩⟩⟩⟩⟩
theorem lw_p16 : lw_okq (⟨"DoorRounds", "tellFraction", "(JJ)V"⟩, 16) := ⟨lw_ne0, tb_bt lw_B0 (j := 0) rfl, tb_bt lw_B1 (j := 12) rfl, tb_bt lw_B1 (j := 13) rfl⟩
theorem lw_p17 : lw_okq (⟨"DoorRounds", "imageFinding", "(LDoorRounds$Strip;)I"⟩, 16) := ⟨lw_ne0, tb_bt lw_B0 (j := 0) rfl, tb_bt lw_B1 (j := 14) rfl, tb_bt lw_B1 (j := 15) rfl⟩
theorem lw_p18 : lw_okq (⟨"DoorRounds", "countOf", "(I)I"⟩, 16) := ⟨lw_ne0, tb_bt lw_B0 (j := 0) rfl, tb_bt lw_B1 (j := 16) rfl, tb_bt lw_B1 (j := 17) rfl⟩
theorem lw_p19 : lw_okq (⟨"DoorRoundsModel", "meet", "(I)I"⟩, 33) := ⟨lw_ne4, tb_bt lw_B1 (j := 18) rfl, tb_bt lw_B1 (j := 19) rfl, tb_bt lw_B1 (j := 20) rfl⟩
theorem lw_p20 : lw_okq (⟨"DoorRoundsModel", "setRow", "(III)V"⟩, 33) := ⟨lw_ne4, tb_bt lw_B1 (j := 18) rfl, tb_bt lw_B1 (j := 21) rfl, tb_bt lw_B1 (j := 22) rfl⟩
theorem lw_p21 : lw_okq (⟨"DoorRoundsModel", "askedRow", "(I)I"⟩, 33) := ⟨lw_ne4, tb_bt lw_B1 (j := 18) rfl, tb_bt lw_B1 (j := 23) rfl, tb_bt lw_B2 (j := 0) rfl⟩
theorem lw_p22 : lw_okq (⟨"DoorRoundsModel", "rowAt", "(II)I"⟩, 33) := ⟨lw_ne4, tb_bt lw_B1 (j := 18) rfl, tb_bt lw_B2 (j := 1) rfl, tb_bt lw_B2 (j := 2) rfl⟩
theorem lw_p23 : lw_okq (⟨"DoorRoundsModel", "ask", "(II)I"⟩, 33) := ⟨lw_ne4, tb_bt lw_B1 (j := 18) rfl, tb_bt lw_B2 (j := 3) rfl, tb_bt lw_B2 (j := 4) rfl⟩
theorem lw_p24 : lw_okq (⟨"DoorRoundsModel", "askedText", "(I)I"⟩, 33) := ⟨lw_ne4, tb_bt lw_B1 (j := 18) rfl, tb_bt lw_B2 (j := 5) rfl, tb_bt lw_B2 (j := 6) rfl⟩
theorem lw_p25 : lw_okq (⟨"DoorRoundsModel", "goesOn", "(I)I"⟩, 33) := ⟨lw_ne4, tb_bt lw_B1 (j := 18) rfl, tb_bt lw_B2 (j := 7) rfl, tb_bt lw_B2 (j := 8) rfl⟩
theorem lw_p26 : lw_okq (⟨"DoorRoundsModel", "here", "(I)I"⟩, 33) := ⟨lw_ne4, tb_bt lw_B1 (j := 18) rfl, tb_bt lw_B2 (j := 9) rfl, tb_bt lw_B2 (j := 10) rfl⟩
theorem lw_p27 : lw_okq (⟨"DoorRoundsModel", "readsDoors", "(I)Z"⟩, 33) := ⟨lw_ne4, tb_bt lw_B1 (j := 18) rfl, tb_bt lw_B2 (j := 11) rfl, tb_bt lw_B2 (j := 12) rfl⟩
theorem lw_p28 : lw_okq (⟨"DoorRoundsModel", "sees", "(II)Z"⟩, 33) := ⟨lw_ne4, tb_bt lw_B1 (j := 18) rfl, tb_bt lw_B2 (j := 13) rfl, tb_bt lw_B2 (j := 14) rfl⟩
theorem lw_p29 : lw_okq (⟨"DoorRoundsModel", "readsNumber", "(III)Z"⟩, 33) := ⟨lw_ne4, tb_bt lw_B1 (j := 18) rfl, tb_bt lw_B2 (j := 15) rfl, tb_bt lw_B2 (j := 16) rfl⟩
theorem lw_p30 : lw_okq (⟨"DoorRoundsModel", "readsShop", "(I)Z"⟩, 33) := ⟨lw_ne4, tb_bt lw_B1 (j := 18) rfl, tb_bt lw_B2 (j := 17) rfl, tb_bt lw_B2 (j := 18) rfl⟩
theorem lw_p31 : lw_okq (⟨"DoorRoundsModel", "isTold", "(I)Z"⟩, 33) := ⟨lw_ne4, tb_bt lw_B1 (j := 18) rfl, tb_bt lw_B2 (j := 19) rfl, tb_bt lw_B2 (j := 20) rfl⟩
def lw_privs_2 : List (MethodName × Nat) := [(⟨"DoorRounds", "tellFraction", "(JJ)V"⟩, 16), (⟨"DoorRounds", "imageFinding", "(LDoorRounds$Strip;)I"⟩, 16), (⟨"DoorRounds", "countOf", "(I)I"⟩, 16), (⟨"DoorRoundsModel", "meet", "(I)I"⟩, 33), (⟨"DoorRoundsModel", "setRow", "(III)V"⟩, 33), (⟨"DoorRoundsModel", "askedRow", "(I)I"⟩, 33), (⟨"DoorRoundsModel", "rowAt", "(II)I"⟩, 33), (⟨"DoorRoundsModel", "ask", "(II)I"⟩, 33), (⟨"DoorRoundsModel", "askedText", "(I)I"⟩, 33), (⟨"DoorRoundsModel", "goesOn", "(I)I"⟩, 33), (⟨"DoorRoundsModel", "here", "(I)I"⟩, 33), (⟨"DoorRoundsModel", "readsDoors", "(I)Z"⟩, 33), (⟨"DoorRoundsModel", "sees", "(II)Z"⟩, 33), (⟨"DoorRoundsModel", "readsNumber", "(III)Z"⟩, 33), (⟨"DoorRoundsModel", "readsShop", "(I)Z"⟩, 33), (⟨"DoorRoundsModel", "isTold", "(I)Z"⟩, 33)]
theorem lw_r2 : ∀ q ∈ lw_privs_2, lw_okq q := List.forall_mem_cons.mpr ⟨lw_p16, List.forall_mem_cons.mpr ⟨lw_p17, List.forall_mem_cons.mpr ⟨lw_p18, List.forall_mem_cons.mpr ⟨lw_p19, List.forall_mem_cons.mpr ⟨lw_p20, List.forall_mem_cons.mpr ⟨lw_p21, List.forall_mem_cons.mpr ⟨lw_p22, List.forall_mem_cons.mpr ⟨lw_p23, List.forall_mem_cons.mpr ⟨lw_p24, List.forall_mem_cons.mpr ⟨lw_p25, List.forall_mem_cons.mpr ⟨lw_p26, List.forall_mem_cons.mpr ⟨lw_p27, List.forall_mem_cons.mpr ⟨lw_p28, List.forall_mem_cons.mpr ⟨lw_p29, List.forall_mem_cons.mpr ⟨lw_p30, List.forall_mem_cons.mpr ⟨lw_p31, fun _ h => absurd h List.not_mem_nil⟩⟩⟩⟩⟩⟩⟩⟩⟩⟩⟩⟩⟩⟩⟩⟩
theorem lw_p32 : lw_okq (⟨"DoorRoundsModel", "readsFigure", "(II)Z"⟩, 33) := ⟨lw_ne4, tb_bt lw_B1 (j := 18) rfl, tb_bt lw_B2 (j := 21) rfl, tb_bt lw_B2 (j := 22) rfl⟩
theorem lw_p33 : lw_okq (⟨"DoorRoundsModel", "tell", "(II)I"⟩, 33) := ⟨lw_ne4, tb_bt lw_B1 (j := 18) rfl, tb_bt lw_B2 (j := 23) rfl, tb_bt lw_B3 (j := 0) rfl⟩
theorem lw_p34 : lw_okq (⟨"DoorRoundsModel", "isShop", "(I)Z"⟩, 33) := ⟨lw_ne4, tb_bt lw_B1 (j := 18) rfl, tb_bt lw_B3 (j := 1) rfl, tb_bt lw_B3 (j := 2) rfl⟩
theorem lw_p35 : lw_okq (⟨"DoorRoundsModel", "aboutOf", "(II)I"⟩, 33) := ⟨lw_ne4, tb_bt lw_B1 (j := 18) rfl, tb_bt lw_B3 (j := 3) rfl, tb_bt lw_B3 (j := 4) rfl⟩
theorem lw_p36 : lw_okq (⟨"DoorRoundsModel", "isSleeper", "(I)Z"⟩, 33) := ⟨lw_ne4, tb_bt lw_B1 (j := 18) rfl, tb_bt lw_B3 (j := 5) rfl, tb_bt lw_B3 (j := 6) rfl⟩
theorem lw_p37 : lw_okq (⟨"DoorRoundsModel", "areBeside", "(II)Z"⟩, 33) := ⟨lw_ne4, tb_bt lw_B1 (j := 18) rfl, tb_bt lw_B3 (j := 7) rfl, tb_bt lw_B3 (j := 8) rfl⟩
theorem lw_p38 : lw_okq (⟨"DoorRoundsModel", "doorAt", "(J)I"⟩, 33) := ⟨lw_ne4, tb_bt lw_B1 (j := 18) rfl, tb_bt lw_B3 (j := 9) rfl, tb_bt lw_B3 (j := 10) rfl⟩
theorem lw_p39 : lw_okq (⟨"DoorRoundsModel", "going", "(II)I"⟩, 33) := ⟨lw_ne4, tb_bt lw_B1 (j := 18) rfl, tb_bt lw_B3 (j := 11) rfl, tb_bt lw_B3 (j := 12) rfl⟩
theorem lw_p40 : lw_okq (⟨"DoorRoundsModel", "isDoor", "(I)Z"⟩, 33) := ⟨lw_ne4, tb_bt lw_B1 (j := 18) rfl, tb_bt lw_B3 (j := 13) rfl, tb_bt lw_B3 (j := 14) rfl⟩
theorem lw_p41 : lw_okq (⟨"DoorRoundsModel", "shutMany", "()I"⟩, 33) := ⟨lw_ne4, tb_bt lw_B1 (j := 18) rfl, tb_bt lw_B3 (j := 15) rfl, tb_bt lw_B3 (j := 16) rfl⟩
theorem lw_p42 : lw_okq (⟨"DoorRoundsModel", "fromNow", "()V"⟩, 33) := ⟨lw_ne4, tb_bt lw_B1 (j := 18) rfl, tb_bt lw_B3 (j := 17) rfl, tb_bt lw_B3 (j := 18) rfl⟩
theorem lw_p43 : lw_okq (⟨"DoorRoundsModel", "passOne", "(II)V"⟩, 33) := ⟨lw_ne4, tb_bt lw_B1 (j := 18) rfl, tb_bt lw_B3 (j := 19) rfl, tb_bt lw_B3 (j := 20) rfl⟩
theorem lw_p44 : lw_okq (⟨"DoorRoundsModel", "taker", "(I)I"⟩, 33) := ⟨lw_ne4, tb_bt lw_B1 (j := 18) rfl, tb_bt lw_B3 (j := 21) rfl, tb_bt lw_B3 (j := 22) rfl⟩
theorem lw_p45 : lw_okq (⟨"DoorRoundsModel", "plainBy", "(IIIIJJ)I"⟩, 33) := ⟨lw_ne4, tb_bt lw_B1 (j := 18) rfl, tb_bt lw_B3 (j := 23) rfl, tb_bt lw_B4 (j := 0) rfl⟩
theorem lw_p46 : lw_okq (⟨"DoorRoundsModel", "isPair", "(III)Z"⟩, 33) := ⟨lw_ne4, tb_bt lw_B1 (j := 18) rfl, tb_bt lw_B4 (j := 1) rfl, tb_bt lw_B4 (j := 2) rfl⟩
theorem lw_p47 : lw_okq (⟨"DoorRoundsModel", "divisor", "(I)I"⟩, 33) := ⟨lw_ne4, tb_bt lw_B1 (j := 18) rfl, tb_bt lw_B4 (j := 3) rfl, tb_bt lw_B4 (j := 4) rfl⟩
def lw_privs_3 : List (MethodName × Nat) := [(⟨"DoorRoundsModel", "readsFigure", "(II)Z"⟩, 33), (⟨"DoorRoundsModel", "tell", "(II)I"⟩, 33), (⟨"DoorRoundsModel", "isShop", "(I)Z"⟩, 33), (⟨"DoorRoundsModel", "aboutOf", "(II)I"⟩, 33), (⟨"DoorRoundsModel", "isSleeper", "(I)Z"⟩, 33), (⟨"DoorRoundsModel", "areBeside", "(II)Z"⟩, 33), (⟨"DoorRoundsModel", "doorAt", "(J)I"⟩, 33), (⟨"DoorRoundsModel", "going", "(II)I"⟩, 33), (⟨"DoorRoundsModel", "isDoor", "(I)Z"⟩, 33), (⟨"DoorRoundsModel", "shutMany", "()I"⟩, 33), (⟨"DoorRoundsModel", "fromNow", "()V"⟩, 33), (⟨"DoorRoundsModel", "passOne", "(II)V"⟩, 33), (⟨"DoorRoundsModel", "taker", "(I)I"⟩, 33), (⟨"DoorRoundsModel", "plainBy", "(IIIIJJ)I"⟩, 33), (⟨"DoorRoundsModel", "isPair", "(III)Z"⟩, 33), (⟨"DoorRoundsModel", "divisor", "(I)I"⟩, 33)]
theorem lw_r3 : ∀ q ∈ lw_privs_3, lw_okq q := List.forall_mem_cons.mpr ⟨lw_p32, List.forall_mem_cons.mpr ⟨lw_p33, List.forall_mem_cons.mpr ⟨lw_p34, List.forall_mem_cons.mpr ⟨lw_p35, List.forall_mem_cons.mpr ⟨lw_p36, List.forall_mem_cons.mpr ⟨lw_p37, List.forall_mem_cons.mpr ⟨lw_p38, List.forall_mem_cons.mpr ⟨lw_p39, List.forall_mem_cons.mpr ⟨lw_p40, List.forall_mem_cons.mpr ⟨lw_p41, List.forall_mem_cons.mpr ⟨lw_p42, List.forall_mem_cons.mpr ⟨lw_p43, List.forall_mem_cons.mpr ⟨lw_p44, List.forall_mem_cons.mpr ⟨lw_p45, List.forall_mem_cons.mpr ⟨lw_p46, List.forall_mem_cons.mpr ⟨lw_p47, fun _ h => absurd h List.not_mem_nil⟩⟩⟩⟩⟩⟩⟩⟩⟩⟩⟩⟩⟩⟩⟩⟩
theorem lw_p48 : lw_okq (⟨"DoorRoundsModel", "walkOf", "(II)I"⟩, 33) := ⟨lw_ne4, tb_bt lw_B1 (j := 18) rfl, tb_bt lw_B4 (j := 5) rfl, tb_bt lw_B4 (j := 6) rfl⟩
theorem lw_p49 : lw_okq (⟨"DoorRoundsModel", "isSet", "(I)Z"⟩, 33) := ⟨lw_ne4, tb_bt lw_B1 (j := 18) rfl, tb_bt lw_B4 (j := 7) rfl, tb_bt lw_B4 (j := 8) rfl⟩
theorem lw_p50 : lw_okq (⟨"DoorRoundsModel", "roundOf", "(II)I"⟩, 33) := ⟨lw_ne4, tb_bt lw_B1 (j := 18) rfl, tb_bt lw_B4 (j := 9) rfl, tb_bt lw_B4 (j := 10) rfl⟩
theorem lw_p51 : lw_okq (⟨"DoorRoundsModel", "leastFor", "(II)I"⟩, 33) := ⟨lw_ne4, tb_bt lw_B1 (j := 18) rfl, tb_bt lw_B4 (j := 11) rfl, tb_bt lw_B4 (j := 12) rfl⟩
theorem lw_p52 : lw_okq (⟨"DoorRoundsModel", "mayIn", "(II)Z"⟩, 33) := ⟨lw_ne4, tb_bt lw_B1 (j := 18) rfl, tb_bt lw_B4 (j := 13) rfl, tb_bt lw_B4 (j := 14) rfl⟩
theorem lw_p53 : lw_okq (⟨"DoorRoundsModel", "joinsOf", "(II)I"⟩, 33) := ⟨lw_ne4, tb_bt lw_B1 (j := 18) rfl, tb_bt lw_B4 (j := 15) rfl, tb_bt lw_B4 (j := 16) rfl⟩
theorem lw_p54 : lw_okq (⟨"DoorRoundsModel", "fits", "(IIII)Z"⟩, 33) := ⟨lw_ne4, tb_bt lw_B1 (j := 18) rfl, tb_bt lw_B4 (j := 17) rfl, tb_bt lw_B4 (j := 18) rfl⟩
theorem lw_p55 : lw_okq (⟨"DoorRoundsModel", "askedRents", "(I)I"⟩, 33) := ⟨lw_ne4, tb_bt lw_B1 (j := 18) rfl, tb_bt lw_B4 (j := 19) rfl, tb_bt lw_B4 (j := 20) rfl⟩
theorem lw_p56 : lw_okq (⟨"DoorRoundsModel", "setRents", "(II)V"⟩, 33) := ⟨lw_ne4, tb_bt lw_B1 (j := 18) rfl, tb_bt lw_B4 (j := 21) rfl, tb_bt lw_B4 (j := 22) rfl⟩
theorem lw_p57 : lw_okq (⟨"DoorRoundsModel", "part", "(JJI)I"⟩, 33) := ⟨lw_ne4, tb_bt lw_B1 (j := 18) rfl, tb_bt lw_B4 (j := 23) rfl, tb_bt lw_B5 (j := 0) rfl⟩
theorem lw_p58 : lw_okq (⟨"DoorRoundsModel", "setPlans", "(I)V"⟩, 33) := ⟨lw_ne4, tb_bt lw_B1 (j := 18) rfl, tb_bt lw_B5 (j := 1) rfl, tb_bt lw_B5 (j := 2) rfl⟩
theorem lw_p59 : lw_okq (⟨"DoorRoundsModel", "othersBy", "(II)I"⟩, 33) := ⟨lw_ne4, tb_bt lw_B1 (j := 18) rfl, tb_bt lw_B5 (j := 3) rfl, tb_bt lw_B5 (j := 4) rfl⟩
theorem lw_p60 : lw_okq (⟨"DoorRoundsModel", "isImage", "(I)Z"⟩, 33) := ⟨lw_ne4, tb_bt lw_B1 (j := 18) rfl, tb_bt lw_B5 (j := 5) rfl, tb_bt lw_B5 (j := 6) rfl⟩
theorem lw_p61 : lw_okq (⟨"DoorRoundsModel", "counts", "(I)I"⟩, 33) := ⟨lw_ne4, tb_bt lw_B1 (j := 18) rfl, tb_bt lw_B5 (j := 7) rfl, tb_bt lw_B5 (j := 8) rfl⟩
theorem lw_p62 : lw_okq (⟨"DoorRoundsModel", "mix", "(I)V"⟩, 33) := ⟨lw_ne4, tb_bt lw_B1 (j := 18) rfl, tb_bt lw_B5 (j := 9) rfl, tb_bt lw_B5 (j := 10) rfl⟩
theorem lw_p63 : lw_okq (⟨"DoorRoundsModel", "mixSquare", "()V"⟩, 33) := ⟨lw_ne4, tb_bt lw_B1 (j := 18) rfl, tb_bt lw_B5 (j := 11) rfl, tb_bt lw_B5 (j := 12) rfl⟩
def lw_privs_4 : List (MethodName × Nat) := [(⟨"DoorRoundsModel", "walkOf", "(II)I"⟩, 33), (⟨"DoorRoundsModel", "isSet", "(I)Z"⟩, 33), (⟨"DoorRoundsModel", "roundOf", "(II)I"⟩, 33), (⟨"DoorRoundsModel", "leastFor", "(II)I"⟩, 33), (⟨"DoorRoundsModel", "mayIn", "(II)Z"⟩, 33), (⟨"DoorRoundsModel", "joinsOf", "(II)I"⟩, 33), (⟨"DoorRoundsModel", "fits", "(IIII)Z"⟩, 33), (⟨"DoorRoundsModel", "askedRents", "(I)I"⟩, 33), (⟨"DoorRoundsModel", "setRents", "(II)V"⟩, 33), (⟨"DoorRoundsModel", "part", "(JJI)I"⟩, 33), (⟨"DoorRoundsModel", "setPlans", "(I)V"⟩, 33), (⟨"DoorRoundsModel", "othersBy", "(II)I"⟩, 33), (⟨"DoorRoundsModel", "isImage", "(I)Z"⟩, 33), (⟨"DoorRoundsModel", "counts", "(I)I"⟩, 33), (⟨"DoorRoundsModel", "mix", "(I)V"⟩, 33), (⟨"DoorRoundsModel", "mixSquare", "()V"⟩, 33)]
theorem lw_r4 : ∀ q ∈ lw_privs_4, lw_okq q := List.forall_mem_cons.mpr ⟨lw_p48, List.forall_mem_cons.mpr ⟨lw_p49, List.forall_mem_cons.mpr ⟨lw_p50, List.forall_mem_cons.mpr ⟨lw_p51, List.forall_mem_cons.mpr ⟨lw_p52, List.forall_mem_cons.mpr ⟨lw_p53, List.forall_mem_cons.mpr ⟨lw_p54, List.forall_mem_cons.mpr ⟨lw_p55, List.forall_mem_cons.mpr ⟨lw_p56, List.forall_mem_cons.mpr ⟨lw_p57, List.forall_mem_cons.mpr ⟨lw_p58, List.forall_mem_cons.mpr ⟨lw_p59, List.forall_mem_cons.mpr ⟨lw_p60, List.forall_mem_cons.mpr ⟨lw_p61, List.forall_mem_cons.mpr ⟨lw_p62, List.forall_mem_cons.mpr ⟨lw_p63, fun _ h => absurd h List.not_mem_nil⟩⟩⟩⟩⟩⟩⟩⟩⟩⟩⟩⟩⟩⟩⟩⟩
def lw_privs : List (MethodName × Nat) := lw_privs_1 ++ (lw_privs_2 ++ (lw_privs_3 ++ (lw_privs_4)))
def lw_tbl : List Cond := k2_sels lw_privs ++ tables_1
theorem lw_privs_ok : ∀ q ∈ lw_privs, lw_okq q := by
  show ∀ q ∈ lw_privs_1 ++ (lw_privs_2 ++ (lw_privs_3 ++ (lw_privs_4))), lw_okq q
  exact List.forall_mem_append.mpr ⟨lw_r1, List.forall_mem_append.mpr ⟨lw_r2, List.forall_mem_append.mpr ⟨lw_r3, lw_r4⟩⟩⟩
noncomputable def lw_g : List Cond := Classical.choose (⟨lw_tbl.filter goodWord, rfl⟩ : ∃ l : List Cond, l = lw_tbl.filter goodWord)
theorem lw_g_e : lw_g = lw_tbl.filter goodWord := Classical.choose_spec (⟨lw_tbl.filter goodWord, rfl⟩ : ∃ l : List Cond, l = lw_tbl.filter goodWord)
theorem lw_mem {w : Cond} : w ∈ lw_g ↔ w ∈ lw_tbl ∧ goodWord w = true := by rw [lw_g_e]; exact List.mem_filter
theorem lw_in {w : Cond} {i : Nat} (h : tables_1[i]? = some w) (hg : goodWord w = true) : w ∈ lw_g := lw_mem.mpr ⟨List.mem_append_right _ (List.mem_of_getElem? h), hg⟩
theorem lw_ins (ws : List Cond) (ps : List Nat) (hp : ws = ps.filterMap (fun i => tables_1[i]?)) (hg : ws.all goodWord = true) : ∀ w ∈ ws, w ∈ lw_g := by
  intro w hw
  have h1 := List.all_eq_true.mp hg w hw
  rw [hp] at hw
  obtain ⟨i, -, hi⟩ := List.mem_filterMap.mp hw
  exact lw_in hi h1
theorem lw_insel {q : MethodName × Nat} {i : Nat} (h : lw_privs[i]? = some q) (hg : goodWord (Cond.selects q.1.cls q.1 q.1) = true) : Cond.selects q.1.cls q.1 q.1 ∈ lw_g := lw_mem.mpr ⟨List.mem_append_left _ (List.mem_map.mpr ⟨q, List.mem_of_getElem? h, rfl⟩), hg⟩
def lw_ck (x : List (Nat × Cond)) : Bool := tb_wk x tables_1 && x.all (fun q => goodWord q.2)
theorem lw_bt {l : List (Nat × Cond)} (h : lw_ck l = true) {j i : Nat} {w : Cond} (e : l[j]? = some (i, w)) : w ∈ lw_g := by
  unfold lw_ck at h
  rw [Bool.and_eq_true] at h
  have hm := List.mem_of_getElem? e
  have r := List.all_eq_true.mp h.2 _ hm
  exact lw_mem.mpr ⟨List.mem_append_right _ (tb_wk_ok l tables_1 h.1 (fun _ q => q) _ hm), r⟩
def lw_sk (x : (MethodName × Nat) × Nat) : Bool := decide (lw_privs[x.2]? = some x.1) && goodWord (Cond.selects x.1.1.cls x.1.1 x.1.1)
theorem lw_bs {l : List ((MethodName × Nat) × Nat)} (h : l.all lw_sk = true) {j i : Nat} {q : MethodName × Nat} (e : l[j]? = some (q, i)) : Cond.selects q.1.cls q.1 q.1 ∈ lw_g := by
  have r := List.all_eq_true.mp h _ (List.mem_of_getElem? e)
  unfold lw_sk at r
  rw [Bool.and_eq_true] at r
  exact lw_insel (of_decide_eq_true r.1) r.2
def TX0 : u_T := fun k => match k with
  | 0 => ("DoorRounds$Diary", "size", "I", false)
  | 1 => ("DoorRounds$Diary", "weeks", "[I", true)
  | 2 => ("DoorRounds$Diary", "shops", "[I", true)
  | _ => ("DoorRounds$Diary", "doors", "[I", true)
def tyX0 : Nat → FieldType := fun k => match k with
  | 0 => .int
  | 1 => .array .int
  | 2 => .array .int
  | _ => .array .int
def TX1 : u_T := fun k => match k with
  | 0 => ("DoorRounds$Errands", "together", "[J", true)
  | _ => ("DoorRounds$Errands", "shared", "[J", true)
def tyX1 : Nat → FieldType := fun k => match k with
  | 0 => .array .long
  | _ => .array .long
def TX2 : u_T := fun k => match k with
  | 0 => ("DoorRounds$Plan", "doors", "I", false)
  | 1 => ("DoorRounds$Plan", "size", "I", false)
  | 2 => ("DoorRounds$Plan", "shops", "[LDoorRounds$Shop;", true)
  | 3 => ("DoorRounds$Plan", "noShop", "LDoorRounds$Shop;", true)
  | 4 => ("DoorRounds$Plan", "order", "[I", true)
  | _ => ("DoorRounds$Plan", "reader", "LDoorRounds$Reader;", true)
def tyX2 : Nat → FieldType := fun k => match k with
  | 0 => .int
  | 1 => .int
  | 2 => .array (.object "DoorRounds$Shop")
  | 3 => .object "DoorRounds$Shop"
  | 4 => .array .int
  | _ => .object "DoorRounds$Reader"
def TX3 : u_T := fun k => match k with
  | 0 => ("DoorRounds$Reader", "text", "LDoorRounds$Strip;", false)
  | 1 => ("DoorRounds$Reader", "place", "I", false)
  | _ => ("DoorRounds$Reader", "number", "I", false)
def tyX3 : Nat → FieldType := fun k => match k with
  | 0 => .object "DoorRounds$Strip"
  | 1 => .int
  | _ => .int
def TX4 : u_T := fun k => match k with
  | 0 => ("DoorRounds$Shop", "kind", "I", false)
  | 1 => ("DoorRounds$Shop", "firstDoor", "I", false)
  | 2 => ("DoorRounds$Shop", "step", "I", false)
  | 3 => ("DoorRounds$Shop", "age", "I", false)
  | _ => ("DoorRounds$Shop", "k", "I", false)
def tyX4 : Nat → FieldType := fun k => match k with
  | 0 => .int
  | 1 => .int
  | 2 => .int
  | 3 => .int
  | _ => .int
def TX5 : u_T := fun k => match k with
  | 0 => ("DoorRounds$Standing", "week", "I", false)
  | 1 => ("DoorRounds$Standing", "shut", "I", false)
  | _ => ("DoorRounds$Standing", "doors", "[I", true)
def tyX5 : Nat → FieldType := fun k => match k with
  | 0 => .int
  | 1 => .int
  | _ => .array .int
def TX6 : u_T := fun k => match k with
  | 0 => ("DoorRounds$Strip", "places", "[I", true)
  | _ => ("DoorRounds$Strip", "size", "I", false)
def tyX6 : Nat → FieldType := fun k => match k with
  | 0 => .array .int
  | _ => .int
def TX7 : u_T := fun k => match k with
  | 0 => ("DoorRounds", "rows", "[LDoorRounds$Strip;", true)
  | 1 => ("DoorRounds", "texts", "[LDoorRounds$Strip;", true)
  | 2 => ("DoorRounds", "noStrip", "LDoorRounds$Strip;", true)
  | 3 => ("DoorRounds", "now", "LDoorRounds$Standing;", true)
  | 4 => ("DoorRounds", "kept", "[LDoorRounds$Standing;", true)
  | 5 => ("DoorRounds", "ahead", "LDoorRounds$Standing;", true)
  | 6 => ("DoorRounds", "mended", "LDoorRounds$Standing;", true)
  | 7 => ("DoorRounds", "diary", "LDoorRounds$Diary;", true)
  | 8 => ("DoorRounds", "trips", "LDoorRounds$Errands;", true)
  | 9 => ("DoorRounds", "findingCounts", "[I", true)
  | 10 => ("DoorRounds", "plan", "LDoorRounds$Plan;", false)
  | 11 => ("DoorRounds", "draft", "LDoorRounds$Plan;", false)
  | 12 => ("DoorRounds", "asked", "I", false)
  | 13 => ("DoorRounds", "upper", "J", false)
  | 14 => ("DoorRounds", "lower", "J", false)
  | _ => ("DoorRounds", "finding", "I", false)
def tyX7 : Nat → FieldType := fun k => match k with
  | 0 => .array (.object "DoorRounds$Strip")
  | 1 => .array (.object "DoorRounds$Strip")
  | 2 => .object "DoorRounds$Strip"
  | 3 => .object "DoorRounds$Standing"
  | 4 => .array (.object "DoorRounds$Standing")
  | 5 => .object "DoorRounds$Standing"
  | 6 => .object "DoorRounds$Standing"
  | 7 => .object "DoorRounds$Diary"
  | 8 => .object "DoorRounds$Errands"
  | 9 => .array .int
  | 10 => .object "DoorRounds$Plan"
  | 11 => .object "DoorRounds$Plan"
  | 12 => .int
  | 13 => .long
  | 14 => .long
  | _ => .int
def TX8 : u_T := fun k => match k with
  | 0 => ("DoorRoundsModel", "finding", "I", false)
  | 1 => ("DoorRoundsModel", "findings", "[I", true)
  | 2 => ("DoorRoundsModel", "asked", "I", false)
  | 3 => ("DoorRoundsModel", "upper", "J", false)
  | 4 => ("DoorRoundsModel", "lower", "J", false)
  | 5 => ("DoorRoundsModel", "sizes", "[I", true)
  | 6 => ("DoorRoundsModel", "rows", "[I", true)
  | 7 => ("DoorRoundsModel", "moving", "[I", true)
  | 8 => ("DoorRoundsModel", "lengths", "[I", true)
  | 9 => ("DoorRoundsModel", "texts", "[I", true)
  | 10 => ("DoorRoundsModel", "n", "I", false)
  | 11 => ("DoorRoundsModel", "many", "I", false)
  | 12 => ("DoorRoundsModel", "shops", "[I", true)
  | 13 => ("DoorRoundsModel", "readAt", "I", false)
  | 14 => ("DoorRoundsModel", "readNumber", "I", false)
  | 15 => ("DoorRoundsModel", "readDoors", "I", false)
  | 16 => ("DoorRoundsModel", "readMany", "I", false)
  | 17 => ("DoorRoundsModel", "doors", "[I", true)
  | 18 => ("DoorRoundsModel", "week", "I", false)
  | 19 => ("DoorRoundsModel", "shut", "I", false)
  | 20 => ("DoorRoundsModel", "went", "[I", true)
  | 21 => ("DoorRoundsModel", "before", "[I", true)
  | 22 => ("DoorRoundsModel", "kept", "[I", true)
  | 23 => ("DoorRoundsModel", "rounds", "[I", true)
  | 24 => ("DoorRoundsModel", "leasts", "[I", true)
  | 25 => ("DoorRoundsModel", "next", "[I", true)
  | 26 => ("DoorRoundsModel", "fixedWeeks", "[I", true)
  | 27 => ("DoorRoundsModel", "notes", "[I", true)
  | 28 => ("DoorRoundsModel", "noteMany", "I", false)
  | 29 => ("DoorRoundsModel", "rents", "[I", true)
  | 30 => ("DoorRoundsModel", "plans", "[I", true)
  | 31 => ("DoorRoundsModel", "firstOther", "I", false)
  | _ => ("DoorRoundsModel", "h0", "J", false)
def tyX8 : Nat → FieldType := fun k => match k with
  | 0 => .int
  | 1 => .array .int
  | 2 => .int
  | 3 => .long
  | 4 => .long
  | 5 => .array .int
  | 6 => .array .int
  | 7 => .array .int
  | 8 => .array .int
  | 9 => .array .int
  | 10 => .int
  | 11 => .int
  | 12 => .array .int
  | 13 => .int
  | 14 => .int
  | 15 => .int
  | 16 => .int
  | 17 => .array .int
  | 18 => .int
  | 19 => .int
  | 20 => .array .int
  | 21 => .array .int
  | 22 => .array .int
  | 23 => .array .int
  | 24 => .array .int
  | 25 => .array .int
  | 26 => .array .int
  | 27 => .array .int
  | 28 => .int
  | 29 => .array .int
  | 30 => .array .int
  | 31 => .int
  | _ => .long
abbrev cls9 : List vw_C := [("DoorRounds$Diary", TX0, 4), ("DoorRounds$Errands", TX1, 2), ("DoorRounds$Plan", TX2, 6), ("DoorRounds$Reader", TX3, 3), ("DoorRounds$Shop", TX4, 5), ("DoorRounds$Standing", TX5, 3), ("DoorRounds$Strip", TX6, 2), ("DoorRounds", TX7, 16), ("DoorRoundsModel", TX8, 33)]
def ftys : List (List Nat) := [[0, 2, 2, 2], [2, 2], [0, 0, 2, 2, 2, 2], [2, 0, 0], [0, 0, 0, 0, 0], [0, 0, 2], [2, 0], [2, 2, 2, 2, 2, 2, 2, 2, 2, 2, 2, 2, 0, 1, 1, 0], [0, 2, 0, 1, 1, 2, 2, 2, 2, 2, 0, 0, 2, 0, 0, 0, 0, 2, 0, 0, 2, 2, 2, 2, 2, 2, 2, 2, 0, 2, 2, 0, 1]]
def tyc (t : FieldType) : Nat := match t with
  | .int => 0
  | .long => 1
  | .object _ => 2
  | .array _ => 2
  | _ => 3
def fty (ci k : Nat) : Nat := (ftys.getD ci []).getD k 3
def clOK (ci : Nat) (r : vw_C) (ty : Nat → FieldType) : Prop := cls9[ci]? = some r ∧ (∀ w ∈ u_ws r.1 r.2.1 r.2.2, w ∈ lw_g) ∧ (∀ k, k < r.2.2 → parseFieldDescriptor (r.2.1 k).2.2.1 = some (ty k)) ∧ (∀ a, a < r.2.2 → ∀ b, b < r.2.2 → a ≠ b → (r.2.1 a).2.1 ≠ (r.2.1 b).2.1) ∧ r.2.2 = (ftys.getD ci []).length ∧ (∀ k, k < r.2.2 → tyc (ty k) = fty ci k) ∧ (∀ k, k < r.2.2 → (r.2.1 k).1 = r.1)
theorem cl_0 : clOK 0 ("DoorRounds$Diary", TX0, 4) tyX0 := ⟨rfl, lw_ins _ [73, 75, 77, 79] (by decide +kernel) (by decide +kernel), by decide +kernel, by decide +kernel, by decide +kernel, by decide +kernel, by decide +kernel⟩
theorem cl_1 : clOK 1 ("DoorRounds$Errands", TX1, 2) tyX1 := ⟨rfl, lw_ins _ [90, 92] (by decide +kernel) (by decide +kernel), by decide +kernel, by decide +kernel, by decide +kernel, by decide +kernel, by decide +kernel⟩
theorem cl_2 : clOK 2 ("DoorRounds$Plan", TX2, 6) tyX2 := ⟨rfl, lw_ins _ [168, 170, 172, 174, 176, 178] (by decide +kernel) (by decide +kernel), by decide +kernel, by decide +kernel, by decide +kernel, by decide +kernel, by decide +kernel⟩
theorem cl_3 : clOK 3 ("DoorRounds$Reader", TX3, 3) tyX3 := ⟨rfl, lw_ins _ [150, 152, 154] (by decide +kernel) (by decide +kernel), by decide +kernel, by decide +kernel, by decide +kernel, by decide +kernel, by decide +kernel⟩
theorem cl_4 : clOK 4 ("DoorRounds$Shop", TX4, 5) tyX4 := ⟨rfl, lw_ins _ [126, 128, 130, 132, 134] (by decide +kernel) (by decide +kernel), by decide +kernel, by decide +kernel, by decide +kernel, by decide +kernel, by decide +kernel⟩
theorem cl_5 : clOK 5 ("DoorRounds$Standing", TX5, 3) tyX5 := ⟨rfl, lw_ins _ [54, 56, 58] (by decide +kernel) (by decide +kernel), by decide +kernel, by decide +kernel, by decide +kernel, by decide +kernel, by decide +kernel⟩
theorem cl_6 : clOK 6 ("DoorRounds$Strip", TX6, 2) tyX6 := ⟨rfl, lw_ins _ [37, 39] (by decide +kernel) (by decide +kernel), by decide +kernel, by decide +kernel, by decide +kernel, by decide +kernel, by decide +kernel⟩
theorem cl_7 : clOK 7 ("DoorRounds", TX7, 16) tyX7 := ⟨rfl, lw_ins _ [197, 199, 201, 203, 205, 207, 209, 211, 213, 215, 217, 219, 221, 223, 225, 227] (by decide +kernel) (by decide +kernel), by decide +kernel, by decide +kernel, by decide +kernel, by decide +kernel, by decide +kernel⟩
theorem cl_8 : clOK 8 ("DoorRoundsModel", TX8, 33) tyX8 := ⟨rfl, lw_ins _ [866, 868, 870, 872, 874, 876, 878, 880, 882, 884, 886, 888, 890, 892, 894, 896, 898, 900, 902, 904, 906, 908, 910, 912, 914, 916, 918, 920, 922, 924, 926, 928, 930] (by decide +kernel) (by decide +kernel), by decide +kernel, by decide +kernel, by decide +kernel, by decide +kernel, by decide +kernel⟩
def nbM0 : List (String × Nat × MethodName × String) := [("DoorRounds", 27, ⟨"DoorRounds$Standing", "<init>", "()V"⟩, "DoorRounds"), ("DoorRounds", 44, ⟨"DoorRounds$Diary", "<init>", "()V"⟩, "DoorRounds"), ("DoorRounds", 51, ⟨"DoorRounds$Errands", "<init>", "()V"⟩, "DoorRounds"), ("DoorRounds$Plan", 24, ⟨"DoorRounds$Shop", "<init>", "()V"⟩, "DoorRounds"), ("DoorRounds$Plan", 35, ⟨"DoorRounds$Reader", "<init>", "()V"⟩, "DoorRounds"), ("DoorRounds$Standing", 46, ⟨"DoorRounds", "isIn", "(II)Z"⟩, "DoorRounds"), ("DoorRounds$Plan", 65, ⟨"DoorRounds", "greatestCommon", "(JJ)J"⟩, "DoorRounds"), ("DoorRounds$Errands", 42, ⟨"DoorRounds", "isIn", "(II)Z"⟩, "DoorRounds")]
