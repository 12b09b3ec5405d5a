theorem in_Di : Cond.initialized "DoorRounds$Diary" ∈ lw_g := lw_in (i := 5) (by decide +kernel) (by decide +kernel)
theorem in_Er : Cond.initialized "DoorRounds$Errands" ∈ lw_g := lw_in (i := 6) (by decide +kernel) (by decide +kernel)
theorem in_Pl : Cond.initialized "DoorRounds$Plan" ∈ lw_g := lw_in (i := 7) (by decide +kernel) (by decide +kernel)
theorem in_Rd : Cond.initialized "DoorRounds$Reader" ∈ lw_g := lw_in (i := 9) (by decide +kernel) (by decide +kernel)
theorem in_Sh : Cond.initialized "DoorRounds$Shop" ∈ lw_g := lw_in (i := 8) (by decide +kernel) (by decide +kernel)
theorem in_Sn : Cond.initialized "DoorRounds$Standing" ∈ lw_g := lw_in (i := 4) (by decide +kernel) (by decide +kernel)
theorem in_Sp : Cond.initialized "DoorRounds$Strip" ∈ lw_g := lw_in (i := 2) (by decide +kernel) (by decide +kernel)
theorem in_D : Cond.initialized "DoorRounds" ∈ lw_g := lw_in (i := 1) (by decide +kernel) (by decide +kernel)
theorem in_m : Cond.initialized "DoorRoundsModel" ∈ lw_g := lw_in (i := 10) (by decide +kernel) (by decide +kernel)
theorem in_jm : Cond.initialized "java/lang/Math" ∈ lw_g := lw_in (i := 3) (by decide +kernel) (by decide +kernel)
theorem in_ji : Cond.initialized "java/lang/Integer" ∈ lw_g := lw_in (i := 13) (by decide +kernel) (by decide +kernel)
theorem in_ja : Cond.initialized "java/util/Arrays" ∈ lw_g := lw_in (i := 11) (by decide +kernel) (by decide +kernel)
abbrev D_init : pY := (⟨"DoorRounds", "<init>", "()V"⟩, prog_1_method_1_code, 2, (Option.none : Option Jvm.ClassFile.FieldType), 4, 87)
noncomputable def t_D_init_0 : List (Nat × Instr × Nat) := [(0, .aload_n 0, 1), (1, .invokespecial 1, 3), (4, .aload_n 0, 1), (5, .bipush 6, 2), (7, .anewarray 9, 3), (10, .putfield 11, 3), (13, .aload_n 0, 1), (14, .iconst 4, 1), (15, .anewarray 9, 3), (18, .putfield 15, 3), (21, .aload_n 0, 1), (22, .new 9, 3), (25, .dup, 1), (26, .iconst 0, 1), (27, .invokespecial 18, 3), (30, .putfield 21, 3), (33, .aload_n 0, 1), (34, .new 25, 3), (37, .dup, 1), (38, .invokespecial 27, 3), (41, .putfield 28, 3), (44, .aload_n 0, 1), (45, .iconst 3, 1), (46, .anewarray 25, 3), (49, .putfield 32, 3), (52, .aload_n 0, 1), (53, .new 25, 3), (56, .dup, 1), (57, .invokespecial 27, 3), (60, .putfield 36, 3)]
noncomputable def t_D_init_1 : List (Nat × Instr × Nat) := [(63, .aload_n 0, 1), (64, .new 25, 3), (67, .dup, 1), (68, .invokespecial 27, 3), (71, .putfield 39, 3), (74, .aload_n 0, 1), (75, .new 42, 3), (78, .dup, 1), (79, .invokespecial 44, 3), (82, .putfield 45, 3), (85, .aload_n 0, 1), (86, .new 49, 3), (89, .dup, 1), (90, .invokespecial 51, 3), (93, .putfield 52, 3), (96, .aload_n 0, 1), (97, .bipush 6, 2), (99, .newarray .int, 2), (101, .putfield 56, 3), (104, .aload_n 0, 1), (105, .new 60, 3), (108, .dup, 1), (109, .invokespecial 62, 3), (112, .putfield 63, 3), (115, .aload_n 0, 1), (116, .new 60, 3), (119, .dup, 1), (120, .invokespecial 62, 3), (123, .putfield 67, 3), (126, .aload_n 0, 1)]
noncomputable def t_D_init_2 : List (Nat × Instr × Nat) := [(127, .iconst 0, 1), (128, .putfield 70, 3), (131, .aload_n 0, 1), (132, .lconst 0, 1), (133, .putfield 74, 3), (136, .aload_n 0, 1), (137, .lconst 1, 1), (138, .putfield 78, 3), (141, .aload_n 0, 1), (142, .iconst 0, 1), (143, .putfield 81, 3), (146, .iconst 0, 1), (147, .istore_n 1, 1), (148, .iload_n 1, 1), (149, .bipush 6, 2), (151, .if_icmp .ge 24, 3), (154, .aload_n 0, 1), (155, .getfield 11, 3), (158, .iload_n 1, 1), (159, .new 9, 3), (162, .dup, 1), (163, .bipush 40, 2), (165, .invokespecial 18, 3), (168, .aastore, 1), (169, .iinc 1 1, 3), (172, .goto (-24), 3), (175, .iconst 0, 1), (176, .istore_n 1, 1), (177, .iload_n 1, 1), (178, .iconst 4, 1)]
noncomputable def t_D_init_3 : List (Nat × Instr × Nat) := [(179, .if_icmp .ge 24, 3), (182, .aload_n 0, 1), (183, .getfield 15, 3), (186, .iload_n 1, 1), (187, .new 9, 3), (190, .dup, 1), (191, .bipush 100, 2), (193, .invokespecial 18, 3), (196, .aastore, 1), (197, .iinc 1 1, 3), (200, .goto (-23), 3), (203, .iconst 0, 1), (204, .istore_n 1, 1), (205, .iload_n 1, 1), (206, .iconst 3, 1), (207, .if_icmp .ge 32, 3), (210, .aload_n 0, 1), (211, .getfield 32, 3), (214, .iload_n 1, 1), (215, .new 25, 3), (218, .dup, 1), (219, .invokespecial 27, 3), (222, .aastore, 1), (223, .aload_n 0, 1), (224, .getfield 32, 3), (227, .iload_n 1, 1), (228, .aaload, 1), (229, .iconst (-1), 1), (230, .putfield 84, 3), (233, .iinc 1 1, 3)]
noncomputable def t_D_init_4 : List (Nat × Instr × Nat) := [(236, .goto (-31), 3), (239, .return_, 1)]
theorem d_D_init : wkk prog_1_method_1_code [t_D_init_0, t_D_init_1, t_D_init_2, t_D_init_3, t_D_init_4] prog_1_method_1_code.data.toList 0 = true := by decide +kernel
theorem d_D_init_0 : ∀ q ∈ t_D_init_0, decode prog_1_method_1_code q.1 = .ok q.2 := wkd d_D_init (j := 0) rfl
theorem d_D_init_1 : ∀ q ∈ t_D_init_1, decode prog_1_method_1_code q.1 = .ok q.2 := wkd d_D_init (j := 1) rfl
theorem d_D_init_2 : ∀ q ∈ t_D_init_2, decode prog_1_method_1_code q.1 = .ok q.2 := wkd d_D_init (j := 2) rfl
theorem d_D_init_3 : ∀ q ∈ t_D_init_3, decode prog_1_method_1_code q.1 = .ok q.2 := wkd d_D_init (j := 3) rfl
theorem d_D_init_4 : ∀ q ∈ t_D_init_4, decode prog_1_method_1_code q.1 = .ok q.2 := wkd d_D_init (j := 4) rfl
abbrev Sp_init : pY := (⟨"DoorRounds$Strip", "<init>", "(I)V"⟩, prog_8_method_1_code, 2, (Option.none : Option Jvm.ClassFile.FieldType), 1, 25)
noncomputable def t_Sp_init_0 : List (Nat × Instr × Nat) := [(0, .aload_n 0, 1), (1, .invokespecial 3, 3), (4, .aload_n 0, 1), (5, .iconst (-1), 1), (6, .putfield 9, 3), (9, .aload_n 0, 1), (10, .iconst 0, 1), (11, .iload_n 1, 1), (12, .invokestatic 15, 3), (15, .newarray .int, 2), (17, .putfield 21, 3), (20, .return_, 1)]
theorem d_Sp_init : wkk prog_8_method_1_code [t_Sp_init_0] prog_8_method_1_code.data.toList 0 = true := by decide +kernel
theorem d_Sp_init_0 : ∀ q ∈ t_Sp_init_0, decode prog_8_method_1_code q.1 = .ok q.2 := wkd d_Sp_init (j := 0) rfl
abbrev Sn_init : pY := (⟨"DoorRounds$Standing", "<init>", "()V"⟩, prog_7_method_1_code, 1, (Option.none : Option Jvm.ClassFile.FieldType), 1, 20)
noncomputable def t_Sn_init_0 : List (Nat × Instr × Nat) := [(0, .aload_n 0, 1), (1, .invokespecial 3, 3), (4, .aload_n 0, 1), (5, .iconst 0, 1), (6, .putfield 9, 3), (9, .aload_n 0, 1), (10, .iconst 0, 1), (11, .putfield 15, 3), (14, .aload_n 0, 1), (15, .bipush 7, 2), (17, .newarray .int, 2), (19, .putfield 18, 3), (22, .return_, 1)]
theorem d_Sn_init : wkk prog_7_method_1_code [t_Sn_init_0] prog_7_method_1_code.data.toList 0 = true := by decide +kernel
theorem d_Sn_init_0 : ∀ q ∈ t_Sn_init_0, decode prog_7_method_1_code q.1 = .ok q.2 := wkd d_Sn_init (j := 0) rfl
abbrev Di_init : pY := (⟨"DoorRounds$Diary", "<init>", "()V"⟩, prog_2_method_1_code, 1, (Option.none : Option Jvm.ClassFile.FieldType), 1, 20)
noncomputable def t_Di_init_0 : List (Nat × Instr × Nat) := [(0, .aload_n 0, 1), (1, .invokespecial 3, 3), (4, .aload_n 0, 1), (5, .iconst 0, 1), (6, .putfield 9, 3), (9, .aload_n 0, 1), (10, .bipush 12, 2), (12, .newarray .int, 2), (14, .putfield 15, 3), (17, .aload_n 0, 1), (18, .bipush 12, 2), (20, .newarray .int, 2), (22, .putfield 19, 3), (25, .aload_n 0, 1), (26, .bipush 12, 2), (28, .newarray .int, 2), (30, .putfield 22, 3), (33, .return_, 1)]
theorem d_Di_init : wkk prog_2_method_1_code [t_Di_init_0] prog_2_method_1_code.data.toList 0 = true := by decide +kernel
theorem d_Di_init_0 : ∀ q ∈ t_Di_init_0, decode prog_2_method_1_code q.1 = .ok q.2 := wkd d_Di_init (j := 0) rfl
abbrev Er_init : pY := (⟨"DoorRounds$Errands", "<init>", "()V"⟩, prog_3_method_1_code, 1, (Option.none : Option Jvm.ClassFile.FieldType), 1, 20)
noncomputable def t_Er_init_0 : List (Nat × Instr × Nat) := [(0, .aload_n 0, 1), (1, .invokespecial 5, 3), (4, .aload_n 0, 1), (5, .sipush 128, 3), (8, .newarray .long, 2), (10, .putfield 11, 3), (13, .aload_n 0, 1), (14, .sipush 128, 3), (17, .newarray .long, 2), (19, .putfield 15, 3), (22, .return_, 1)]
theorem d_Er_init : wkk prog_3_method_1_code [t_Er_init_0] prog_3_method_1_code.data.toList 0 = true := by decide +kernel
theorem d_Er_init_0 : ∀ q ∈ t_Er_init_0, decode prog_3_method_1_code q.1 = .ok q.2 := wkd d_Er_init (j := 0) rfl
abbrev Pl_init : pY := (⟨"DoorRounds$Plan", "<init>", "()V"⟩, prog_4_method_1_code, 2, (Option.none : Option Jvm.ClassFile.FieldType), 3, 66)
noncomputable def t_Pl_init_0 : List (Nat × Instr × Nat) := [(0, .aload_n 0, 1), (1, .invokespecial 3, 3), (4, .aload_n 0, 1), (5, .iconst 0, 1), (6, .putfield 9, 3), (9, .aload_n 0, 1), (10, .iconst 0, 1), (11, .putfield 15, 3), (14, .aload_n 0, 1), (15, .bipush 7, 2), (17, .anewarray 18, 3), (20, .putfield 20, 3), (23, .aload_n 0, 1), (24, .new 18, 3), (27, .dup, 1), (28, .invokespecial 24, 3), (31, .putfield 25, 3), (34, .aload_n 0, 1), (35, .bipush 7, 2), (37, .newarray .int, 2), (39, .putfield 29, 3), (42, .aload_n 0, 1), (43, .new 33, 3), (46, .dup, 1), (47, .invokespecial 35, 3), (50, .putfield 36, 3), (53, .iconst 0, 1), (54, .istore_n 1, 1), (55, .iload_n 1, 1), (56, .bipush 7, 2)]
noncomputable def t_Pl_init_1 : List (Nat × Instr × Nat) := [(58, .if_icmp .ge 22, 3), (61, .aload_n 0, 1), (62, .getfield 20, 3), (65, .iload_n 1, 1), (66, .new 18, 3), (69, .dup, 1), (70, .invokespecial 24, 3), (73, .aastore, 1), (74, .iinc 1 1, 3), (77, .goto (-22), 3), (80, .return_, 1)]
theorem d_Pl_init : wkk prog_4_method_1_code [t_Pl_init_0, t_Pl_init_1] prog_4_method_1_code.data.toList 0 = true := by decide +kernel
theorem d_Pl_init_0 : ∀ q ∈ t_Pl_init_0, decode prog_4_method_1_code q.1 = .ok q.2 := wkd d_Pl_init (j := 0) rfl
theorem d_Pl_init_1 : ∀ q ∈ t_Pl_init_1, decode prog_4_method_1_code q.1 = .ok q.2 := wkd d_Pl_init (j := 1) rfl
abbrev Sh_init : pY := (⟨"DoorRounds$Shop", "<init>", "()V"⟩, prog_6_method_1_code, 1, (Option.none : Option Jvm.ClassFile.FieldType), 1, 20)
noncomputable def t_Sh_init_0 : List (Nat × Instr × Nat) := [(0, .aload_n 0, 1), (1, .invokespecial 3, 3), (4, .aload_n 0, 1), (5, .iconst 0, 1), (6, .putfield 9, 3), (9, .aload_n 0, 1), (10, .iconst 0, 1), (11, .putfield 15, 3), (14, .aload_n 0, 1), (15, .iconst 0, 1), (16, .putfield 18, 3), (19, .aload_n 0, 1), (20, .iconst 0, 1), (21, .putfield 21, 3), (24, .aload_n 0, 1), (25, .iconst 0, 1), (26, .putfield 24, 3), (29, .return_, 1)]
theorem d_Sh_init : wkk prog_6_method_1_code [t_Sh_init_0] prog_6_method_1_code.data.toList 0 = true := by decide +kernel
theorem d_Sh_init_0 : ∀ q ∈ t_Sh_init_0, decode prog_6_method_1_code q.1 = .ok q.2 := wkd d_Sh_init (j := 0) rfl
abbrev Rd_init : pY := (⟨"DoorRounds$Reader", "<init>", "()V"⟩, prog_5_method_1_code, 1, (Option.none : Option Jvm.ClassFile.FieldType), 2, 46)
noncomputable def t_Rd_init_0 : List (Nat × Instr × Nat) := [(0, .aload_n 0, 1), (1, .invokespecial 3, 3), (4, .aload_n 0, 1), (5, .new 9, 3), (8, .dup, 1), (9, .iconst 0, 1), (10, .invokespecial 11, 3), (13, .putfield 14, 3), (16, .aload_n 0, 1), (17, .iconst 0, 1), (18, .putfield 20, 3), (21, .aload_n 0, 1), (22, .iconst 0, 1), (23, .putfield 24, 3), (26, .return_, 1)]
theorem d_Rd_init : wkk prog_5_method_1_code [t_Rd_init_0] prog_5_method_1_code.data.toList 0 = true := by decide +kernel
theorem d_Rd_init_0 : ∀ q ∈ t_Rd_init_0, decode prog_5_method_1_code q.1 = .ok q.2 := wkd d_Rd_init (j := 0) rfl
abbrev D_row : pY := (⟨"DoorRounds", "row", "(II)I"⟩, prog_1_method_2_code, 3, (Option.some Jvm.ClassFile.FieldType.int), 2, 47)
noncomputable def t_D_row_0 : List (Nat × Instr × Nat) := [(0, .iload_n 1, 1), (1, .invokestatic 87, 3), (4, .ifCond .eq 9, 3), (7, .iload_n 2, 1), (8, .bipush 40, 2), (10, .if_icmp .le 5, 3), (13, .iconst (-1), 1), (14, .ireturn, 1), (15, .iload_n 2, 1), (16, .ifCond .ge 9, 3), (19, .aload_n 0, 1), (20, .iconst 5, 1), (21, .invokevirtual 91, 3), (24, .ireturn, 1), (25, .aload_n 0, 1), (26, .iload_n 1, 1), (27, .invokevirtual 95, 3), (30, .iload_n 2, 1), (31, .iconst 0, 1), (32, .invokevirtual 99, 3), (35, .iload_n 2, 1), (36, .ireturn, 1)]
theorem d_D_row : wkk prog_1_method_2_code [t_D_row_0] prog_1_method_2_code.data.toList 0 = true := by decide +kernel
theorem d_D_row_0 : ∀ q ∈ t_D_row_0, decode prog_1_method_2_code q.1 = .ok q.2 := wkd d_D_row (j := 0) rfl
abbrev D_isRow : pY := (⟨"DoorRounds", "isRow", "(I)Z"⟩, prog_1_method_57_code, 1, (Option.some Jvm.ClassFile.FieldType.boolean), 0, 0)
noncomputable def t_D_isRow_0 : List (Nat × Instr × Nat) := [(0, .iload_n 0, 1), (1, .ifCond .lt 13, 3), (4, .iload_n 0, 1), (5, .bipush 6, 2), (7, .if_icmp .ge 7, 3), (10, .iconst 1, 1), (11, .goto 4, 3), (14, .iconst 0, 1), (15, .ireturn, 1)]
theorem d_D_isRow : wkk prog_1_method_57_code [t_D_isRow_0] prog_1_method_57_code.data.toList 0 = true := by decide +kernel
theorem d_D_isRow_0 : ∀ q ∈ t_D_isRow_0, decode prog_1_method_57_code q.1 = .ok q.2 := wkd d_D_isRow (j := 0) rfl
abbrev D_found : pY := (⟨"DoorRounds", "found", "(I)I"⟩, prog_1_method_54_code, 2, (Option.some Jvm.ClassFile.FieldType.int), 0, 0)
noncomputable def t_D_found_0 : List (Nat × Instr × Nat) := [(0, .iload_n 1, 1), (1, .iconst 1, 1), (2, .if_icmp .lt 23, 3), (5, .iload_n 1, 1), (6, .iconst 5, 1), (7, .if_icmp .gt 18, 3), (10, .aload_n 0, 1), (11, .iload_n 1, 1), (12, .putfield 81, 3), (15, .aload_n 0, 1), (16, .getfield 56, 3), (19, .iload_n 1, 1), (20, .dup2, 1), (21, .iaload, 1), (22, .iconst 1, 1), (23, .iadd, 1), (24, .iastore, 1), (25, .bipush (-3), 2), (27, .ireturn, 1)]
theorem d_D_found : wkk prog_1_method_54_code [t_D_found_0] prog_1_method_54_code.data.toList 0 = true := by decide +kernel
theorem d_D_found_0 : ∀ q ∈ t_D_found_0, decode prog_1_method_54_code q.1 = .ok q.2 := wkd d_D_found (j := 0) rfl
abbrev D_rowOf : pY := (⟨"DoorRounds", "rowOf", "(I)LDoorRounds$Strip;"⟩, prog_1_method_62_code, 2, (Option.some (Jvm.ClassFile.FieldType.object "DoorRounds$Strip")), 1, 20)
noncomputable def t_D_rowOf_0 : List (Nat × Instr × Nat) := [(0, .iload_n 1, 1), (1, .invokestatic 87, 3), (4, .ifCond .eq 12, 3), (7, .aload_n 0, 1), (8, .getfield 11, 3), (11, .iload_n 1, 1), (12, .aaload, 1), (13, .goto 7, 3), (16, .aload_n 0, 1), (17, .getfield 21, 3), (20, .areturn, 1)]
theorem d_D_rowOf : wkk prog_1_method_62_code [t_D_rowOf_0] prog_1_method_62_code.data.toList 0 = true := by decide +kernel
theorem d_D_rowOf_0 : ∀ q ∈ t_D_rowOf_0, decode prog_1_method_62_code q.1 = .ok q.2 := wkd d_D_rowOf (j := 0) rfl
abbrev Sp_renew : pY := (⟨"DoorRounds$Strip", "renew", "(II)V"⟩, prog_8_method_7_code, 3, (Option.none : Option Jvm.ClassFile.FieldType), 1, 25)
noncomputable def t_Sp_renew_0 : List (Nat × Instr × Nat) := [(0, .aload_n 0, 1), (1, .iload_n 1, 1), (2, .aload_n 0, 1), (3, .getfield 21, 3), (6, .arraylength, 1), (7, .invokestatic 29, 3), (10, .putfield 9, 3), (13, .aload_n 0, 1), (14, .getfield 21, 3), (17, .iload_n 2, 1), (18, .invokestatic 32, 3), (21, .return_, 1)]
theorem d_Sp_renew : wkk prog_8_method_7_code [t_Sp_renew_0] prog_8_method_7_code.data.toList 0 = true := by decide +kernel
theorem d_Sp_renew_0 : ∀ q ∈ t_Sp_renew_0, decode prog_8_method_7_code q.1 = .ok q.2 := wkd d_Sp_renew (j := 0) rfl
abbrev ja_fill : pY := (⟨"java/util/Arrays", "fill", "([II)V"⟩, prog_14_method_103_code, 4, (Option.none : Option Jvm.ClassFile.FieldType), 0, 0)
noncomputable def t_ja_fill_0 : List (Nat × Instr × Nat) := [(0, .iconst 0, 1), (1, .istore_n 2, 1), (2, .aload_n 0, 1), (3, .arraylength, 1), (4, .istore_n 3, 1), (5, .iload_n 2, 1), (6, .iload_n 3, 1), (7, .if_icmp .ge 13, 3), (10, .aload_n 0, 1), (11, .iload_n 2, 1), (12, .iload_n 1, 1), (13, .iastore, 1), (14, .iinc 2 1, 3), (17, .goto (-12), 3), (20, .return_, 1)]
theorem d_ja_fill : wkk prog_14_method_103_code [t_ja_fill_0] prog_14_method_103_code.data.toList 0 = true := by decide +kernel
theorem d_ja_fill_0 : ∀ q ∈ t_ja_fill_0, decode prog_14_method_103_code q.1 = .ok q.2 := wkd d_ja_fill (j := 0) rfl
abbrev ja_fillJ : pY := (⟨"java/util/Arrays", "fill", "([JJ)V"⟩, prog_14_method_101_code, 5, (Option.none : Option Jvm.ClassFile.FieldType), 0, 0)
noncomputable def t_ja_fillJ_0 : List (Nat × Instr × Nat) := [(0, .iconst 0, 1), (1, .istore_n 3, 1), (2, .aload_n 0, 1), (3, .arraylength, 1), (4, .istore 4, 2), (6, .iload_n 3, 1), (7, .iload 4, 2), (9, .if_icmp .ge 13, 3), (12, .aload_n 0, 1), (13, .iload_n 3, 1), (14, .lload_n 1, 1), (15, .lastore, 1), (16, .iinc 3 1, 3), (19, .goto (-13), 3), (22, .return_, 1)]
theorem d_ja_fillJ : wkk prog_14_method_101_code [t_ja_fillJ_0] prog_14_method_101_code.data.toList 0 = true := by decide +kernel
theorem d_ja_fillJ_0 : ∀ q ∈ t_ja_fillJ_0, decode prog_14_method_101_code q.1 = .ok q.2 := wkd d_ja_fillJ (j := 0) rfl
abbrev D_lay : pY := (⟨"DoorRounds", "lay", "(III)I"⟩, prog_1_method_3_code, 7, (Option.some Jvm.ClassFile.FieldType.int), 2, 43)
noncomputable def t_D_lay_0 : List (Nat × Instr × Nat) := [(0, .iload_n 1, 1), (1, .invokestatic 87, 3), (4, .ifCond .ne 5, 3), (7, .iconst (-1), 1), (8, .ireturn, 1), (9, .aload_n 0, 1), (10, .iload_n 1, 1), (11, .invokevirtual 95, 3), (14, .astore 4, 2), (16, .aload 4, 2), (18, .iload_n 2, 1), (19, .invokestatic 103, 3), (22, .istore 5, 2), (24, .iload 5, 2), (26, .ifCond .eq 10, 3), (29, .aload_n 0, 1), (30, .iload 5, 2), (32, .invokevirtual 91, 3), (35, .ireturn, 1), (36, .aload 4, 2), (38, .iload_n 2, 1), (39, .invokevirtual 107, 3), (42, .istore 6, 2), (44, .aload 4, 2), (46, .iload_n 2, 1), (47, .iload_n 3, 1), (48, .invokevirtual 110, 3), (51, .aload_n 0, 1), (52, .iload 6, 2), (54, .iconst 1, 1)]
noncomputable def t_D_lay_1 : List (Nat × Instr × Nat) := [(55, .invokevirtual 113, 3), (58, .ireturn, 1)]
theorem d_D_lay : wkk prog_1_method_3_code [t_D_lay_0, t_D_lay_1] prog_1_method_3_code.data.toList 0 = true := by decide +kernel
theorem d_D_lay_0 : ∀ q ∈ t_D_lay_0, decode prog_1_method_3_code q.1 = .ok q.2 := wkd d_D_lay (j := 0) rfl
theorem d_D_lay_1 : ∀ q ∈ t_D_lay_1, decode prog_1_method_3_code q.1 = .ok q.2 := wkd d_D_lay (j := 1) rfl
abbrev D_placeFinding : pY := (⟨"DoorRounds", "placeFinding", "(LDoorRounds$Strip;I)I"⟩, prog_1_method_65_code, 2, (Option.some Jvm.ClassFile.FieldType.int), 1, 21)
noncomputable def t_D_placeFinding_0 : List (Nat × Instr × Nat) := [(0, .aload_n 0, 1), (1, .invokevirtual 117, 3), (4, .ifCond .ne 5, 3), (7, .iconst 1, 1), (8, .ireturn, 1), (9, .aload_n 0, 1), (10, .iload_n 1, 1), (11, .invokevirtual 341, 3), (14, .ifCond .eq 7, 3), (17, .iconst 0, 1), (18, .goto 4, 3), (21, .iconst 2, 1), (22, .ireturn, 1)]
theorem d_D_placeFinding : wkk prog_1_method_65_code [t_D_placeFinding_0] prog_1_method_65_code.data.toList 0 = true := by decide +kernel
theorem d_D_placeFinding_0 : ∀ q ∈ t_D_placeFinding_0, decode prog_1_method_65_code q.1 = .ok q.2 := wkd d_D_placeFinding (j := 0) rfl
abbrev Sp_isThere : pY := (⟨"DoorRounds$Strip", "isThere", "()Z"⟩, prog_8_method_2_code, 1, (Option.some Jvm.ClassFile.FieldType.boolean), 0, 0)
noncomputable def t_Sp_isThere_0 : List (Nat × Instr × Nat) := [(0, .aload_n 0, 1), (1, .getfield 9, 3), (4, .ifCond .lt 7, 3), (7, .iconst 1, 1), (8, .goto 4, 3), (11, .iconst 0, 1), (12, .ireturn, 1)]
theorem d_Sp_isThere : wkk prog_8_method_2_code [t_Sp_isThere_0] prog_8_method_2_code.data.toList 0 = true := by decide +kernel
theorem d_Sp_isThere_0 : ∀ q ∈ t_Sp_isThere_0, decode prog_8_method_2_code q.1 = .ok q.2 := wkd d_Sp_isThere (j := 0) rfl
abbrev Sp_has : pY := (⟨"DoorRounds$Strip", "has", "(I)Z"⟩, prog_8_method_3_code, 2, (Option.some Jvm.ClassFile.FieldType.boolean), 0, 0)
noncomputable def t_Sp_has_0 : List (Nat × Instr × Nat) := [(0, .iload_n 1, 1), (1, .ifCond .lt 24, 3), (4, .iload_n 1, 1), (5, .aload_n 0, 1), (6, .getfield 9, 3), (9, .if_icmp .ge 16, 3), (12, .iload_n 1, 1), (13, .aload_n 0, 1), (14, .getfield 21, 3), (17, .arraylength, 1), (18, .if_icmp .ge 7, 3), (21, .iconst 1, 1), (22, .goto 4, 3), (25, .iconst 0, 1), (26, .ireturn, 1)]
theorem d_Sp_has : wkk prog_8_method_3_code [t_Sp_has_0] prog_8_method_3_code.data.toList 0 = true := by decide +kernel
theorem d_Sp_has_0 : ∀ q ∈ t_Sp_has_0, decode prog_8_method_3_code q.1 = .ok q.2 := wkd d_Sp_has (j := 0) rfl
abbrev Sp_get : pY := (⟨"DoorRounds$Strip", "get", "(I)I"⟩, prog_8_method_5_code, 2, (Option.some Jvm.ClassFile.FieldType.int), 1, 21)
noncomputable def t_Sp_get_0 : List (Nat × Instr × Nat) := [(0, .aload_n 0, 1), (1, .iload_n 1, 1), (2, .invokevirtual 25, 3), (5, .ifCond .eq 12, 3), (8, .aload_n 0, 1), (9, .getfield 21, 3), (12, .iload_n 1, 1), (13, .iaload, 1), (14, .goto 4, 3), (17, .iconst 0, 1), (18, .ireturn, 1)]
theorem d_Sp_get : wkk prog_8_method_5_code [t_Sp_get_0] prog_8_method_5_code.data.toList 0 = true := by decide +kernel
theorem d_Sp_get_0 : ∀ q ∈ t_Sp_get_0, decode prog_8_method_5_code q.1 = .ok q.2 := wkd d_Sp_get (j := 0) rfl
abbrev Sp_set : pY := (⟨"DoorRounds$Strip", "set", "(II)V"⟩, prog_8_method_6_code, 3, (Option.none : Option Jvm.ClassFile.FieldType), 1, 21)
noncomputable def t_Sp_set_0 : List (Nat × Instr × Nat) := [(0, .aload_n 0, 1), (1, .iload_n 1, 1), (2, .invokevirtual 25, 3), (5, .ifCond .eq 10, 3), (8, .aload_n 0, 1), (9, .getfield 21, 3), (12, .iload_n 1, 1), (13, .iload_n 2, 1), (14, .iastore, 1), (15, .return_, 1)]
theorem d_Sp_set : wkk prog_8_method_6_code [t_Sp_set_0] prog_8_method_6_code.data.toList 0 = true := by decide +kernel
theorem d_Sp_set_0 : ∀ q ∈ t_Sp_set_0, decode prog_8_method_6_code q.1 = .ok q.2 := wkd d_Sp_set (j := 0) rfl
abbrev D_tell : pY := (⟨"DoorRounds", "tell", "(II)I"⟩, prog_1_method_55_code, 3, (Option.some Jvm.ClassFile.FieldType.int), 0, 0)
noncomputable def t_D_tell_0 : List (Nat × Instr × Nat) := [(0, .aload_n 0, 1), (1, .iload_n 1, 1), (2, .putfield 70, 3), (5, .iload_n 2, 1), (6, .ireturn, 1)]
theorem d_D_tell : wkk prog_1_method_55_code [t_D_tell_0] prog_1_method_55_code.data.toList 0 = true := by decide +kernel
theorem d_D_tell_0 : ∀ q ∈ t_D_tell_0, decode prog_1_method_55_code q.1 = .ok q.2 := wkd d_D_tell (j := 0) rfl
abbrev D_at : pY := (⟨"DoorRounds", "at", "(II)I"⟩, prog_1_method_4_code, 5, (Option.some Jvm.ClassFile.FieldType.int), 2, 42)
noncomputable def t_D_at_0 : List (Nat × Instr × Nat) := [(0, .iload_n 1, 1), (1, .invokestatic 87, 3), (4, .ifCond .ne 5, 3), (7, .iconst (-1), 1), (8, .ireturn, 1), (9, .aload_n 0, 1), (10, .iload_n 1, 1), (11, .invokevirtual 95, 3), (14, .astore_n 3, 1), (15, .aload_n 3, 1), (16, .iload_n 2, 1), (17, .invokestatic 103, 3), (20, .istore 4, 2), (22, .iload 4, 2), (24, .ifCond .eq 12, 3), (27, .aload_n 0, 1), (28, .iload 4, 2), (30, .invokevirtual 91, 3), (33, .goto 13, 3), (36, .aload_n 0, 1), (37, .aload_n 3, 1), (38, .iload_n 2, 1), (39, .invokevirtual 107, 3), (42, .iconst 1, 1), (43, .invokevirtual 113, 3), (46, .ireturn, 1)]
theorem d_D_at : wkk prog_1_method_4_code [t_D_at_0] prog_1_method_4_code.data.toList 0 = true := by decide +kernel
theorem d_D_at_0 : ∀ q ∈ t_D_at_0, decode prog_1_method_4_code q.1 = .ok q.2 := wkd d_D_at (j := 0) rfl
abbrev D_tear : pY := (⟨"DoorRounds", "tear", "(I)I"⟩, prog_1_method_5_code, 3, (Option.some Jvm.ClassFile.FieldType.int), 2, 41)
noncomputable def t_D_tear_0 : List (Nat × Instr × Nat) := [(0, .iload_n 1, 1), (1, .invokestatic 87, 3), (4, .ifCond .ne 5, 3), (7, .iconst (-1), 1), (8, .ireturn, 1), (9, .aload_n 0, 1), (10, .iload_n 1, 1), (11, .invokevirtual 95, 3), (14, .astore_n 2, 1), (15, .aload_n 2, 1), (16, .invokevirtual 117, 3), (19, .ifCond .ne 9, 3), (22, .aload_n 0, 1), (23, .iconst 1, 1), (24, .invokevirtual 91, 3), (27, .ireturn, 1), (28, .aload_n 2, 1), (29, .iconst (-1), 1), (30, .putfield 121, 3), (33, .iconst 1, 1), (34, .ireturn, 1)]
theorem d_D_tear : wkk prog_1_method_5_code [t_D_tear_0] prog_1_method_5_code.data.toList 0 = true := by decide +kernel
theorem d_D_tear_0 : ∀ q ∈ t_D_tear_0, decode prog_1_method_5_code q.1 = .ok q.2 := wkd d_D_tear (j := 0) rfl
abbrev D_copy : pY := (⟨"DoorRounds", "copy", "(IIIII)I"⟩, prog_1_method_6_code, 8, (Option.some Jvm.ClassFile.FieldType.int), 2, 41)
noncomputable def t_D_copy_0 : List (Nat × Instr × Nat) := [(0, .iload_n 1, 1), (1, .invokestatic 87, 3), (4, .ifCond .eq 10, 3), (7, .iload_n 3, 1), (8, .invokestatic 87, 3), (11, .ifCond .ne 5, 3), (14, .iconst (-1), 1), (15, .ireturn, 1), (16, .iload 5, 2), (18, .ifCond .ge 9, 3), (21, .aload_n 0, 1), (22, .iconst 5, 1), (23, .invokevirtual 91, 3), (26, .ireturn, 1), (27, .aload_n 0, 1), (28, .iload_n 1, 1), (29, .invokevirtual 95, 3), (32, .astore 6, 2), (34, .aload_n 0, 1), (35, .iload_n 3, 1), (36, .invokevirtual 95, 3), (39, .astore 7, 2), (41, .aload 6, 2), (43, .invokevirtual 117, 3), (46, .ifCond .eq 11, 3), (49, .aload 7, 2), (51, .invokevirtual 117, 3), (54, .ifCond .ne 9, 3), (57, .aload_n 0, 1), (58, .iconst 1, 1)]
noncomputable def t_D_copy_1 : List (Nat × Instr × Nat) := [(59, .invokevirtual 91, 3), (62, .ireturn, 1), (63, .aload 6, 2), (65, .iload_n 2, 1), (66, .iload 5, 2), (68, .invokevirtual 124, 3), (71, .ifCond .eq 15, 3), (74, .aload 7, 2), (76, .iload 4, 2), (78, .iload 5, 2), (80, .invokevirtual 124, 3), (83, .ifCond .ne 9, 3), (86, .aload_n 0, 1), (87, .iconst 2, 1), (88, .invokevirtual 91, 3), (91, .ireturn, 1), (92, .aload 6, 2), (94, .getfield 128, 3), (97, .iload_n 2, 1), (98, .aload 7, 2), (100, .getfield 128, 3), (103, .iload 4, 2), (105, .iload 5, 2), (107, .invokestatic 131, 3), (110, .iconst 1, 1), (111, .ireturn, 1)]
theorem d_D_copy : wkk prog_1_method_6_code [t_D_copy_0, t_D_copy_1] prog_1_method_6_code.data.toList 0 = true := by decide +kernel
theorem d_D_copy_0 : ∀ q ∈ t_D_copy_0, decode prog_1_method_6_code q.1 = .ok q.2 := wkd d_D_copy (j := 0) rfl
theorem d_D_copy_1 : ∀ q ∈ t_D_copy_1, decode prog_1_method_6_code q.1 = .ok q.2 := wkd d_D_copy (j := 1) rfl
abbrev Sp_holds : pY := (⟨"DoorRounds$Strip", "holds", "(II)Z"⟩, prog_8_method_4_code, 3, (Option.some Jvm.ClassFile.FieldType.boolean), 0, 0)
noncomputable def t_Sp_holds_0 : List (Nat × Instr × Nat) := [(0, .iload_n 1, 1), (1, .ifCond .lt 21, 3), (4, .iload_n 2, 1), (5, .ifCond .lt 17, 3), (8, .iload_n 1, 1), (9, .aload_n 0, 1), (10, .getfield 9, 3), (13, .iload_n 2, 1), (14, .isub, 1), (15, .if_icmp .gt 7, 3), (18, .iconst 1, 1), (19, .goto 4, 3), (22, .iconst 0, 1), (23, .ireturn, 1)]
theorem d_Sp_holds : wkk prog_8_method_4_code [t_Sp_holds_0] prog_8_method_4_code.data.toList 0 = true := by decide +kernel
theorem d_Sp_holds_0 : ∀ q ∈ t_Sp_holds_0, decode prog_8_method_4_code q.1 = .ok q.2 := wkd d_Sp_holds (j := 0) rfl
abbrev D_mean : pY := (⟨"DoorRounds", "mean", "(I)I"⟩, prog_1_method_7_code, 4, (Option.some Jvm.ClassFile.FieldType.int), 3, 65)
noncomputable def t_D_mean_0 : List (Nat × Instr × Nat) := [(0, .iload_n 1, 1), (1, .invokestatic 87, 3), (4, .ifCond .ne 5, 3), (7, .iconst (-1), 1), (8, .ireturn, 1), (9, .aload_n 0, 1), (10, .iload_n 1, 1), (11, .invokevirtual 95, 3), (14, .astore_n 2, 1), (15, .aload_n 2, 1), (16, .invokevirtual 117, 3), (19, .ifCond .ne 9, 3), (22, .aload_n 0, 1), (23, .iconst 1, 1), (24, .invokevirtual 91, 3), (27, .ireturn, 1), (28, .aload_n 2, 1), (29, .getfield 121, 3), (32, .istore_n 3, 1), (33, .iload_n 3, 1), (34, .ifCond .gt 9, 3), (37, .aload_n 0, 1), (38, .iconst 4, 1), (39, .invokevirtual 91, 3), (42, .ireturn, 1), (43, .aload_n 0, 1), (44, .aload_n 2, 1), (45, .invokevirtual 137, 3), (48, .iload_n 3, 1), (49, .i2l, 1)]
noncomputable def t_D_mean_1 : List (Nat × Instr × Nat) := [(50, .ldiv, 1), (51, .l2i, 1), (52, .iconst 1, 1), (53, .invokevirtual 113, 3), (56, .ireturn, 1)]
theorem d_D_mean : wkk prog_1_method_7_code [t_D_mean_0, t_D_mean_1] prog_1_method_7_code.data.toList 0 = true := by decide +kernel
theorem d_D_mean_0 : ∀ q ∈ t_D_mean_0, decode prog_1_method_7_code q.1 = .ok q.2 := wkd d_D_mean (j := 0) rfl
theorem d_D_mean_1 : ∀ q ∈ t_D_mean_1, decode prog_1_method_7_code q.1 = .ok q.2 := wkd d_D_mean (j := 1) rfl
abbrev Sp_sum : pY := (⟨"DoorRounds$Strip", "sum", "()J"⟩, prog_8_method_8_code, 4, (Option.some Jvm.ClassFile.FieldType.long), 2, 42)
noncomputable def t_Sp_sum_0 : List (Nat × Instr × Nat) := [(0, .lconst 0, 1), (1, .lstore_n 1, 1), (2, .iconst 0, 1), (3, .istore_n 3, 1), (4, .iload_n 3, 1), (5, .aload_n 0, 1), (6, .getfield 9, 3), (9, .if_icmp .ge 18, 3), (12, .lload_n 1, 1), (13, .aload_n 0, 1), (14, .iload_n 3, 1), (15, .invokevirtual 38, 3), (18, .i2l, 1), (19, .ladd, 1), (20, .lstore_n 1, 1), (21, .iinc 3 1, 3), (24, .goto (-20), 3), (27, .lload_n 1, 1), (28, .lreturn, 1)]
theorem d_Sp_sum : wkk prog_8_method_8_code [t_Sp_sum_0] prog_8_method_8_code.data.toList 0 = true := by decide +kernel
theorem d_Sp_sum_0 : ∀ q ∈ t_Sp_sum_0, decode prog_8_method_8_code q.1 = .ok q.2 := wkd d_Sp_sum (j := 0) rfl
abbrev D_text : pY := (⟨"DoorRounds", "text", "(II)I"⟩, prog_1_method_8_code, 3, (Option.some Jvm.ClassFile.FieldType.int), 2, 47)
noncomputable def t_D_text_0 : List (Nat × Instr × Nat) := [(0, .iload_n 1, 1), (1, .invokestatic 141, 3), (4, .ifCond .eq 9, 3), (7, .iload_n 2, 1), (8, .bipush 100, 2), (10, .if_icmp .le 5, 3), (13, .iconst (-1), 1), (14, .ireturn, 1), (15, .iload_n 2, 1), (16, .ifCond .ge 9, 3), (19, .aload_n 0, 1), (20, .iconst 5, 1), (21, .invokevirtual 91, 3), (24, .ireturn, 1), (25, .aload_n 0, 1), (26, .iload_n 1, 1), (27, .invokevirtual 144, 3), (30, .iload_n 2, 1), (31, .bipush 32, 2), (33, .invokevirtual 99, 3), (36, .iload_n 2, 1), (37, .ireturn, 1)]
theorem d_D_text : wkk prog_1_method_8_code [t_D_text_0] prog_1_method_8_code.data.toList 0 = true := by decide +kernel
theorem d_D_text_0 : ∀ q ∈ t_D_text_0, decode prog_1_method_8_code q.1 = .ok q.2 := wkd d_D_text (j := 0) rfl
abbrev D_isText : pY := (⟨"DoorRounds", "isText", "(I)Z"⟩, prog_1_method_58_code, 1, (Option.some Jvm.ClassFile.FieldType.boolean), 0, 0)
noncomputable def t_D_isText_0 : List (Nat × Instr × Nat) := [(0, .iload_n 0, 1), (1, .ifCond .lt 12, 3), (4, .iload_n 0, 1), (5, .iconst 4, 1), (6, .if_icmp .ge 7, 3), (9, .iconst 1, 1), (10, .goto 4, 3), (13, .iconst 0, 1), (14, .ireturn, 1)]
theorem d_D_isText : wkk prog_1_method_58_code [t_D_isText_0] prog_1_method_58_code.data.toList 0 = true := by decide +kernel
theorem d_D_isText_0 : ∀ q ∈ t_D_isText_0, decode prog_1_method_58_code q.1 = .ok q.2 := wkd d_D_isText (j := 0) rfl
abbrev D_textOf : pY := (⟨"DoorRounds", "textOf", "(I)LDoorRounds$Strip;"⟩, prog_1_method_63_code, 2, (Option.some (Jvm.ClassFile.FieldType.object "DoorRounds$Strip")), 1, 20)
noncomputable def t_D_textOf_0 : List (Nat × Instr × Nat) := [(0, .iload_n 1, 1), (1, .invokestatic 141, 3), (4, .ifCond .eq 12, 3), (7, .aload_n 0, 1), (8, .getfield 15, 3), (11, .iload_n 1, 1), (12, .aaload, 1), (13, .goto 7, 3), (16, .aload_n 0, 1), (17, .getfield 21, 3), (20, .areturn, 1)]
theorem d_D_textOf : wkk prog_1_method_63_code [t_D_textOf_0] prog_1_method_63_code.data.toList 0 = true := by decide +kernel
theorem d_D_textOf_0 : ∀ q ∈ t_D_textOf_0, decode prog_1_method_63_code q.1 = .ok q.2 := wkd d_D_textOf (j := 0) rfl
abbrev D_put : pY := (⟨"DoorRounds", "put", "(III)I"⟩, prog_1_method_9_code, 7, (Option.some Jvm.ClassFile.FieldType.int), 2, 43)
noncomputable def t_D_put_0 : List (Nat × Instr × Nat) := [(0, .iload_n 1, 1), (1, .invokestatic 141, 3), (4, .ifCond .ne 5, 3), (7, .iconst (-1), 1), (8, .ireturn, 1), (9, .aload_n 0, 1), (10, .iload_n 1, 1), (11, .invokevirtual 144, 3), (14, .astore 4, 2), (16, .aload 4, 2), (18, .iload_n 2, 1), (19, .invokestatic 103, 3), (22, .istore 5, 2), (24, .iload 5, 2), (26, .ifCond .eq 10, 3), (29, .aload_n 0, 1), (30, .iload 5, 2), (32, .invokevirtual 91, 3), (35, .ireturn, 1), (36, .aload 4, 2), (38, .iload_n 2, 1), (39, .invokevirtual 107, 3), (42, .istore 6, 2), (44, .aload 4, 2), (46, .iload_n 2, 1), (47, .iload_n 3, 1), (48, .i2b, 1), (49, .invokevirtual 110, 3), (52, .iload 6, 2), (54, .sipush 1000, 3)]
noncomputable def t_D_put_1 : List (Nat × Instr × Nat) := [(57, .iadd, 1), (58, .ireturn, 1)]
theorem d_D_put : wkk prog_1_method_9_code [t_D_put_0, t_D_put_1] prog_1_method_9_code.data.toList 0 = true := by decide +kernel
theorem d_D_put_0 : ∀ q ∈ t_D_put_0, decode prog_1_method_9_code q.1 = .ok q.2 := wkd d_D_put (j := 0) rfl
theorem d_D_put_1 : ∀ q ∈ t_D_put_1, decode prog_1_method_9_code q.1 = .ok q.2 := wkd d_D_put (j := 1) rfl
abbrev D_fault : pY := (⟨"DoorRounds", "fault", "(I)I"⟩, prog_1_method_10_code, 3, (Option.some Jvm.ClassFile.FieldType.int), 6, 131)
noncomputable def t_D_fault_0 : List (Nat × Instr × Nat) := [(0, .iload_n 1, 1), (1, .invokestatic 141, 3), (4, .ifCond .ne 5, 3), (7, .iconst (-1), 1), (8, .ireturn, 1), (9, .aload_n 0, 1), (10, .iload_n 1, 1), (11, .invokevirtual 144, 3), (14, .astore_n 2, 1), (15, .aload_n 2, 1), (16, .invokevirtual 117, 3), (19, .ifCond .eq 14, 3), (22, .aload_n 0, 1), (23, .getfield 67, 3), (26, .aload_n 2, 1), (27, .invokevirtual 147, 3), (30, .goto 8, 3), (33, .aload_n 0, 1), (34, .iconst 1, 1), (35, .invokevirtual 91, 3), (38, .ireturn, 1)]
theorem d_D_fault : wkk prog_1_method_10_code [t_D_fault_0] prog_1_method_10_code.data.toList 0 = true := by decide +kernel
theorem d_D_fault_0 : ∀ q ∈ t_D_fault_0, decode prog_1_method_10_code q.1 = .ok q.2 := wkd d_D_fault (j := 0) rfl
abbrev Pl_read : pY := (⟨"DoorRounds$Plan", "read", "(LDoorRounds$Strip;)I"⟩, prog_4_method_14_code, 3, (Option.some Jvm.ClassFile.FieldType.int), 5, 109)
noncomputable def t_Pl_read_0 : List (Nat × Instr × Nat) := [(0, .aload_n 0, 1), (1, .iconst 0, 1), (2, .putfield 9, 3), (5, .aload_n 0, 1), (6, .iconst 0, 1), (7, .putfield 15, 3), (10, .aload_n 0, 1), (11, .getfield 36, 3), (14, .aload_n 1, 1), (15, .invokevirtual 75, 3), (18, .aload_n 0, 1), (19, .getfield 36, 3), (22, .invokevirtual 79, 3), (25, .aload_n 0, 1), (26, .getfield 36, 3), (29, .bipush 100, 2), (31, .invokevirtual 82, 3), (34, .ifCond .eq 19, 3), (37, .aload_n 0, 1), (38, .getfield 36, 3), (41, .iconst 2, 1), (42, .iconst 2, 1), (43, .bipush 10, 2), (45, .bipush 30, 2), (47, .invokevirtual 85, 3), (50, .ifCond .ne 11, 3), (53, .aload_n 0, 1), (54, .getfield 36, 3), (57, .getfield 89, 3), (60, .ireturn, 1)]
noncomputable def t_Pl_read_1 : List (Nat × Instr × Nat) := [(61, .aload_n 0, 1), (62, .aload_n 0, 1), (63, .getfield 36, 3), (66, .getfield 92, 3), (69, .putfield 9, 3), (72, .aload_n 0, 1), (73, .getfield 36, 3), (76, .invokevirtual 79, 3), (79, .iconst 0, 1), (80, .istore_n 2, 1), (81, .iload_n 2, 1), (82, .bipush 7, 2), (84, .if_icmp .ge 54, 3), (87, .aload_n 0, 1), (88, .getfield 36, 3), (91, .invokevirtual 95, 3), (94, .ifCond .ne 44, 3), (97, .aload_n 0, 1), (98, .aload_n 0, 1), (99, .getfield 20, 3), (102, .iload_n 2, 1), (103, .aaload, 1), (104, .invokevirtual 99, 3), (107, .ifCond .ne 11, 3), (110, .aload_n 0, 1), (111, .getfield 36, 3), (114, .getfield 89, 3), (117, .ireturn, 1), (118, .aload_n 0, 1), (119, .iload_n 2, 1)]
noncomputable def t_Pl_read_2 : List (Nat × Instr × Nat) := [(120, .iconst 1, 1), (121, .iadd, 1), (122, .putfield 15, 3), (125, .aload_n 0, 1), (126, .getfield 36, 3), (129, .invokevirtual 79, 3), (132, .iinc 2 1, 3), (135, .goto (-54), 3), (138, .aload_n 0, 1), (139, .getfield 36, 3), (142, .invokevirtual 95, 3), (145, .ifCond .eq 8, 3), (148, .bipush (-9), 2), (150, .goto 10, 3), (153, .aload_n 0, 1), (154, .getfield 36, 3), (157, .getfield 89, 3), (160, .ireturn, 1)]
theorem d_Pl_read : wkk prog_4_method_14_code [t_Pl_read_0, t_Pl_read_1, t_Pl_read_2] prog_4_method_14_code.data.toList 0 = true := by decide +kernel
theorem d_Pl_read_0 : ∀ q ∈ t_Pl_read_0, decode prog_4_method_14_code q.1 = .ok q.2 := wkd d_Pl_read (j := 0) rfl
theorem d_Pl_read_1 : ∀ q ∈ t_Pl_read_1, decode prog_4_method_14_code q.1 = .ok q.2 := wkd d_Pl_read (j := 1) rfl
theorem d_Pl_read_2 : ∀ q ∈ t_Pl_read_2, decode prog_4_method_14_code q.1 = .ok q.2 := wkd d_Pl_read (j := 2) rfl
abbrev Rd_begin : pY := (⟨"DoorRounds$Reader", "begin", "(LDoorRounds$Strip;)V"⟩, prog_5_method_2_code, 2, (Option.none : Option Jvm.ClassFile.FieldType), 0, 0)
noncomputable def t_Rd_begin_0 : List (Nat × Instr × Nat) := [(0, .aload_n 0, 1), (1, .aload_n 1, 1), (2, .putfield 14, 3), (5, .aload_n 0, 1), (6, .iconst 0, 1), (7, .putfield 20, 3), (10, .return_, 1)]
theorem d_Rd_begin : wkk prog_5_method_2_code [t_Rd_begin_0] prog_5_method_2_code.data.toList 0 = true := by decide +kernel
theorem d_Rd_begin_0 : ∀ q ∈ t_Rd_begin_0, decode prog_5_method_2_code q.1 = .ok q.2 := wkd d_Rd_begin (j := 0) rfl
abbrev Rd_skipBlanks : pY := (⟨"DoorRounds$Reader", "skipBlanks", "()V"⟩, prog_5_method_4_code, 1, (Option.none : Option Jvm.ClassFile.FieldType), 2, 42)
noncomputable def t_Rd_skipBlanks_0 : List (Nat × Instr × Nat) := [(0, .aload_n 0, 1), (1, .getfield 20, 3), (4, .aload_n 0, 1), (5, .getfield 14, 3), (8, .getfield 27, 3), (11, .if_icmp .ge 32, 3), (14, .aload_n 0, 1), (15, .getfield 14, 3), (18, .aload_n 0, 1), (19, .getfield 20, 3), (22, .invokevirtual 30, 3), (25, .bipush 32, 2), (27, .if_icmp .ne 16, 3), (30, .aload_n 0, 1), (31, .dup, 1), (32, .getfield 20, 3), (35, .iconst 1, 1), (36, .iadd, 1), (37, .putfield 20, 3), (40, .goto (-40), 3), (43, .return_, 1)]
theorem d_Rd_skipBlanks : wkk prog_5_method_4_code [t_Rd_skipBlanks_0] prog_5_method_4_code.data.toList 0 = true := by decide +kernel
theorem d_Rd_skipBlanks_0 : ∀ q ∈ t_Rd_skipBlanks_0, decode prog_5_method_4_code q.1 = .ok q.2 := wkd d_Rd_skipBlanks (j := 0) rfl
abbrev Rd_passes : pY := (⟨"DoorRounds$Reader", "passes", "(I)Z"⟩, prog_5_method_5_code, 2, (Option.some Jvm.ClassFile.FieldType.boolean), 2, 42)
noncomputable def t_Rd_passes_0 : List (Nat × Instr × Nat) := [(0, .aload_n 0, 1), (1, .invokevirtual 34, 3), (4, .ifCond .ne 18, 3), (7, .aload_n 0, 1), (8, .getfield 14, 3), (11, .aload_n 0, 1), (12, .getfield 20, 3), (15, .invokevirtual 30, 3), (18, .iload_n 1, 1), (19, .if_icmp .eq 5, 3), (22, .iconst 0, 1), (23, .ireturn, 1), (24, .aload_n 0, 1), (25, .dup, 1), (26, .getfield 20, 3), (29, .iconst 1, 1), (30, .iadd, 1), (31, .putfield 20, 3), (34, .iconst 1, 1), (35, .ireturn, 1)]
theorem d_Rd_passes : wkk prog_5_method_5_code [t_Rd_passes_0] prog_5_method_5_code.data.toList 0 = true := by decide +kernel
theorem d_Rd_passes_0 : ∀ q ∈ t_Rd_passes_0, decode prog_5_method_5_code q.1 = .ok q.2 := wkd d_Rd_passes (j := 0) rfl
abbrev Rd_isAtEnd : pY := (⟨"DoorRounds$Reader", "isAtEnd", "()Z"⟩, prog_5_method_3_code, 1, (Option.some Jvm.ClassFile.FieldType.boolean), 0, 0)
noncomputable def t_Rd_isAtEnd_0 : List (Nat × Instr × Nat) := [(0, .aload_n 0, 1), (1, .getfield 20, 3), (4, .aload_n 0, 1), (5, .getfield 14, 3), (8, .getfield 27, 3), (11, .if_icmp .lt 7, 3), (14, .iconst 1, 1), (15, .goto 4, 3), (18, .iconst 0, 1), (19, .ireturn, 1)]
theorem d_Rd_isAtEnd : wkk prog_5_method_3_code [t_Rd_isAtEnd_0] prog_5_method_3_code.data.toList 0 = true := by decide +kernel
theorem d_Rd_isAtEnd_0 : ∀ q ∈ t_Rd_isAtEnd_0, decode prog_5_method_3_code q.1 = .ok q.2 := wkd d_Rd_isAtEnd (j := 0) rfl
abbrev Rd_readNumber : pY := (⟨"DoorRounds$Reader", "readNumber", "(IIII)Z"⟩, prog_5_method_7_code, 6, (Option.some Jvm.ClassFile.FieldType.boolean), 2, 42)
noncomputable def t_Rd_readNumber_0 : List (Nat × Instr × Nat) := [(0, .iconst 0, 1), (1, .istore 5, 2), (3, .aload_n 0, 1), (4, .iconst 0, 1), (5, .putfield 24, 3), (8, .iload 5, 2), (10, .iload_n 2, 1), (11, .if_icmp .ge 62, 3), (14, .aload_n 0, 1), (15, .getfield 14, 3), (18, .aload_n 0, 1), (19, .getfield 20, 3), (22, .invokevirtual 30, 3), (25, .invokestatic 38, 3), (28, .ifCond .eq 45, 3), (31, .aload_n 0, 1), (32, .bipush 10, 2), (34, .aload_n 0, 1), (35, .getfield 24, 3), (38, .imul, 1), (39, .aload_n 0, 1), (40, .getfield 14, 3), (43, .aload_n 0, 1), (44, .getfield 20, 3), (47, .invokevirtual 30, 3), (50, .iadd, 1), (51, .bipush 48, 2), (53, .isub, 1), (54, .putfield 24, 3), (57, .aload_n 0, 1)]
noncomputable def t_Rd_readNumber_1 : List (Nat × Instr × Nat) := [(58, .dup, 1), (59, .getfield 20, 3), (62, .iconst 1, 1), (63, .iadd, 1), (64, .putfield 20, 3), (67, .iinc 5 1, 3), (70, .goto (-62), 3), (73, .iload 5, 2), (75, .iload_n 1, 1), (76, .if_icmp .lt 24, 3), (79, .aload_n 0, 1), (80, .getfield 24, 3), (83, .iload_n 3, 1), (84, .if_icmp .lt 16, 3), (87, .aload_n 0, 1), (88, .getfield 24, 3), (91, .iload 4, 2), (93, .if_icmp .gt 7, 3), (96, .iconst 1, 1), (97, .goto 4, 3), (100, .iconst 0, 1), (101, .ireturn, 1)]
theorem d_Rd_readNumber : wkk prog_5_method_7_code [t_Rd_readNumber_0, t_Rd_readNumber_1] prog_5_method_7_code.data.toList 0 = true := by decide +kernel
theorem d_Rd_readNumber_0 : ∀ q ∈ t_Rd_readNumber_0, decode prog_5_method_7_code q.1 = .ok q.2 := wkd d_Rd_readNumber (j := 0) rfl
theorem d_Rd_readNumber_1 : ∀ q ∈ t_Rd_readNumber_1, decode prog_5_method_7_code q.1 = .ok q.2 := wkd d_Rd_readNumber (j := 1) rfl
abbrev Rd_isFigure : pY := (⟨"DoorRounds$Reader", "isFigure", "(I)Z"⟩, prog_5_method_6_code, 1, (Option.some Jvm.ClassFile.FieldType.boolean), 0, 0)
noncomputable def t_Rd_isFigure_0 : List (Nat × Instr × Nat) := [(0, .iload_n 0, 1), (1, .bipush 48, 2), (3, .if_icmp .lt 13, 3), (6, .iload_n 0, 1), (7, .bipush 57, 2), (9, .if_icmp .gt 7, 3), (12, .iconst 1, 1), (13, .goto 4, 3), (16, .iconst 0, 1), (17, .ireturn, 1)]
theorem d_Rd_isFigure : wkk prog_5_method_6_code [t_Rd_isFigure_0] prog_5_method_6_code.data.toList 0 = true := by decide +kernel
theorem d_Rd_isFigure_0 : ∀ q ∈ t_Rd_isFigure_0, decode prog_5_method_6_code q.1 = .ok q.2 := wkd d_Rd_isFigure (j := 0) rfl
abbrev Pl_readShop : pY := (⟨"DoorRounds$Plan", "readShop", "(LDoorRounds$Shop;)Z"⟩, prog_4_method_15_code, 2, (Option.some Jvm.ClassFile.FieldType.boolean), 4, 88)
noncomputable def t_Pl_readShop_0 : List (Nat × Instr × Nat) := [(0, .aload_n 0, 1), (1, .getfield 36, 3), (4, .invokevirtual 103, 3), (7, .ifCond .ne 5, 3), (10, .iconst 0, 1), (11, .ireturn, 1), (12, .aload_n 1, 1), (13, .aload_n 0, 1), (14, .getfield 36, 3), (17, .getfield 92, 3), (20, .putfield 106, 3), (23, .aload_n 0, 1), (24, .getfield 36, 3), (27, .iconst 1, 1), (28, .iconst 2, 1), (29, .iconst 0, 1), (30, .aload_n 0, 1), (31, .getfield 9, 3), (34, .iconst 1, 1), (35, .isub, 1), (36, .invokevirtual 85, 3), (39, .ifCond .eq 17, 3), (42, .aload_n 0, 1), (43, .aload_n 0, 1), (44, .getfield 36, 3), (47, .getfield 92, 3), (50, .invokevirtual 109, 3), (53, .ifCond .eq 5, 3), (56, .iconst 0, 1), (57, .ireturn, 1)]
noncomputable def t_Pl_readShop_1 : List (Nat × Instr × Nat) := [(58, .aload_n 1, 1), (59, .aload_n 0, 1), (60, .getfield 36, 3), (63, .getfield 92, 3), (66, .putfield 72, 3), (69, .aload_n 0, 1), (70, .getfield 36, 3), (73, .bipush 58, 2), (75, .invokevirtual 82, 3), (78, .ifCond .eq 13, 3), (81, .aload_n 0, 1), (82, .getfield 36, 3), (85, .invokevirtual 112, 3), (88, .ifCond .ne 5, 3), (91, .iconst 0, 1), (92, .ireturn, 1), (93, .aload_n 1, 1), (94, .aload_n 0, 1), (95, .getfield 36, 3), (98, .getfield 92, 3), (101, .putfield 115, 3), (104, .aload_n 0, 1), (105, .getfield 36, 3), (108, .bipush 58, 2), (110, .invokevirtual 82, 3), (113, .ifCond .eq 18, 3), (116, .aload_n 0, 1), (117, .getfield 36, 3), (120, .iconst 1, 1), (121, .iconst 2, 1)]
noncomputable def t_Pl_readShop_2 : List (Nat × Instr × Nat) := [(122, .iconst 1, 1), (123, .bipush 99, 2), (125, .invokevirtual 85, 3), (128, .ifCond .ne 5, 3), (131, .iconst 0, 1), (132, .ireturn, 1), (133, .aload_n 1, 1), (134, .aload_n 0, 1), (135, .getfield 36, 3), (138, .getfield 92, 3), (141, .putfield 118, 3), (144, .aload_n 1, 1), (145, .iconst 0, 1), (146, .putfield 121, 3), (149, .aload_n 1, 1), (150, .getfield 106, 3), (153, .iconst 3, 1), (154, .if_icmp .lt 43, 3), (157, .aload_n 0, 1), (158, .getfield 36, 3), (161, .bipush 58, 2), (163, .invokevirtual 82, 3), (166, .ifCond .eq 18, 3), (169, .aload_n 0, 1), (170, .getfield 36, 3), (173, .iconst 1, 1), (174, .iconst 1, 1), (175, .iconst 2, 1), (176, .bipush 9, 2), (178, .invokevirtual 85, 3)]
noncomputable def t_Pl_readShop_3 : List (Nat × Instr × Nat) := [(181, .ifCond .ne 5, 3), (184, .iconst 0, 1), (185, .ireturn, 1), (186, .aload_n 1, 1), (187, .aload_n 0, 1), (188, .getfield 36, 3), (191, .getfield 92, 3), (194, .putfield 121, 3), (197, .iconst 1, 1), (198, .ireturn, 1)]
theorem d_Pl_readShop : wkk prog_4_method_15_code [t_Pl_readShop_0, t_Pl_readShop_1, t_Pl_readShop_2, t_Pl_readShop_3] prog_4_method_15_code.data.toList 0 = true := by decide +kernel
theorem d_Pl_readShop_0 : ∀ q ∈ t_Pl_readShop_0, decode prog_4_method_15_code q.1 = .ok q.2 := wkd d_Pl_readShop (j := 0) rfl
theorem d_Pl_readShop_1 : ∀ q ∈ t_Pl_readShop_1, decode prog_4_method_15_code q.1 = .ok q.2 := wkd d_Pl_readShop (j := 1) rfl
theorem d_Pl_readShop_2 : ∀ q ∈ t_Pl_readShop_2, decode prog_4_method_15_code q.1 = .ok q.2 := wkd d_Pl_readShop (j := 2) rfl
theorem d_Pl_readShop_3 : ∀ q ∈ t_Pl_readShop_3, decode prog_4_method_15_code q.1 = .ok q.2 := wkd d_Pl_readShop (j := 3) rfl
abbrev Rd_readKind : pY := (⟨"DoorRounds$Reader", "readKind", "()Z"⟩, prog_5_method_8_code, 2, (Option.some Jvm.ClassFile.FieldType.boolean), 3, 63)
noncomputable def t_Rd_readKind_0 : List (Nat × Instr × Nat) := [(0, .iconst 0, 1), (1, .istore_n 1, 1), (2, .iload_n 1, 1), (3, .getstatic 42, 3), (6, .arraylength, 1), (7, .if_icmp .ge 28, 3), (10, .aload_n 0, 1), (11, .getstatic 42, 3), (14, .iload_n 1, 1), (15, .iaload, 1), (16, .invokevirtual 46, 3), (19, .ifCond .eq 10, 3), (22, .aload_n 0, 1), (23, .iload_n 1, 1), (24, .putfield 24, 3), (27, .iconst 1, 1), (28, .ireturn, 1), (29, .iinc 1 1, 3), (32, .goto (-30), 3), (35, .iconst 0, 1), (36, .ireturn, 1)]
theorem d_Rd_readKind : wkk prog_5_method_8_code [t_Rd_readKind_0] prog_5_method_8_code.data.toList 0 = true := by decide +kernel
theorem d_Rd_readKind_0 : ∀ q ∈ t_Rd_readKind_0, decode prog_5_method_8_code q.1 = .ok q.2 := wkd d_Rd_readKind (j := 0) rfl
abbrev Pl_isFirstDoor : pY := (⟨"DoorRounds$Plan", "isFirstDoor", "(I)Z"⟩, prog_4_method_13_code, 3, (Option.some Jvm.ClassFile.FieldType.boolean), 2, 42)
noncomputable def t_Pl_isFirstDoor_0 : List (Nat × Instr × Nat) := [(0, .iconst 0, 1), (1, .istore_n 2, 1), (2, .iload_n 2, 1), (3, .aload_n 0, 1), (4, .getfield 15, 3), (7, .if_icmp .ge 23, 3), (10, .aload_n 0, 1), (11, .iload_n 2, 1), (12, .invokevirtual 44, 3), (15, .getfield 72, 3), (18, .iload_n 1, 1), (19, .if_icmp .ne 5, 3), (22, .iconst 1, 1), (23, .ireturn, 1), (24, .iinc 2 1, 3), (27, .goto (-25), 3), (30, .iconst 0, 1), (31, .ireturn, 1)]
theorem d_Pl_isFirstDoor : wkk prog_4_method_13_code [t_Pl_isFirstDoor_0] prog_4_method_13_code.data.toList 0 = true := by decide +kernel
theorem d_Pl_isFirstDoor_0 : ∀ q ∈ t_Pl_isFirstDoor_0, decode prog_4_method_13_code q.1 = .ok q.2 := wkd d_Pl_isFirstDoor (j := 0) rfl
abbrev Pl_shopOf : pY := (⟨"DoorRounds$Plan", "shopOf", "(I)LDoorRounds$Shop;"⟩, prog_4_method_7_code, 2, (Option.some (Jvm.ClassFile.FieldType.object "DoorRounds$Shop")), 1, 21)
noncomputable def t_Pl_shopOf_0 : List (Nat × Instr × Nat) := [(0, .aload_n 0, 1), (1, .iload_n 1, 1), (2, .invokevirtual 40, 3), (5, .ifCond .eq 12, 3), (8, .aload_n 0, 1), (9, .getfield 20, 3), (12, .iload_n 1, 1), (13, .aaload, 1), (14, .goto 7, 3), (17, .aload_n 0, 1), (18, .getfield 25, 3), (21, .areturn, 1)]
theorem d_Pl_shopOf : wkk prog_4_method_7_code [t_Pl_shopOf_0] prog_4_method_7_code.data.toList 0 = true := by decide +kernel
theorem d_Pl_shopOf_0 : ∀ q ∈ t_Pl_shopOf_0, decode prog_4_method_7_code q.1 = .ok q.2 := wkd d_Pl_shopOf (j := 0) rfl
abbrev Pl_hasShop : pY := (⟨"DoorRounds$Plan", "hasShop", "(I)Z"⟩, prog_4_method_5_code, 2, (Option.some Jvm.ClassFile.FieldType.boolean), 0, 0)
noncomputable def t_Pl_hasShop_0 : List (Nat × Instr × Nat) := [(0, .iload_n 1, 1), (1, .ifCond .lt 21, 3), (4, .iload_n 1, 1), (5, .aload_n 0, 1), (6, .getfield 15, 3), (9, .if_icmp .ge 13, 3), (12, .iload_n 1, 1), (13, .bipush 7, 2), (15, .if_icmp .ge 7, 3), (18, .iconst 1, 1), (19, .goto 4, 3), (22, .iconst 0, 1), (23, .ireturn, 1)]
theorem d_Pl_hasShop : wkk prog_4_method_5_code [t_Pl_hasShop_0] prog_4_method_5_code.data.toList 0 = true := by decide +kernel
theorem d_Pl_hasShop_0 : ∀ q ∈ t_Pl_hasShop_0, decode prog_4_method_5_code q.1 = .ok q.2 := wkd d_Pl_hasShop (j := 0) rfl
abbrev Rd_readStep : pY := (⟨"DoorRounds$Reader", "readStep", "()Z"⟩, prog_5_method_9_code, 2, (Option.some Jvm.ClassFile.FieldType.boolean), 3, 67)
noncomputable def t_Rd_readStep_0 : List (Nat × Instr × Nat) := [(0, .aload_n 0, 1), (1, .bipush 45, 2), (3, .invokevirtual 46, 3), (6, .istore_n 1, 1), (7, .iload_n 1, 1), (8, .ifCond .ne 12, 3), (11, .aload_n 0, 1), (12, .bipush 43, 2), (14, .invokevirtual 46, 3), (17, .ifCond .eq 15, 3), (20, .aload_n 0, 1), (21, .iconst 1, 1), (22, .iconst 1, 1), (23, .iconst 0, 1), (24, .bipush 9, 2), (26, .invokevirtual 49, 3), (29, .ifCond .ne 5, 3), (32, .iconst 0, 1), (33, .ireturn, 1), (34, .aload_n 0, 1), (35, .iload_n 1, 1), (36, .ifCond .eq 11, 3), (39, .aload_n 0, 1), (40, .getfield 24, 3), (43, .ineg, 1), (44, .goto 7, 3), (47, .aload_n 0, 1), (48, .getfield 24, 3), (51, .putfield 24, 3), (54, .iconst 1, 1)]
noncomputable def t_Rd_readStep_1 : List (Nat × Instr × Nat) := [(55, .ireturn, 1)]
theorem d_Rd_readStep : wkk prog_5_method_9_code [t_Rd_readStep_0, t_Rd_readStep_1] prog_5_method_9_code.data.toList 0 = true := by decide +kernel
theorem d_Rd_readStep_0 : ∀ q ∈ t_Rd_readStep_0, decode prog_5_method_9_code q.1 = .ok q.2 := wkd d_Rd_readStep (j := 0) rfl
theorem d_Rd_readStep_1 : ∀ q ∈ t_Rd_readStep_1, decode prog_5_method_9_code q.1 = .ok q.2 := wkd d_Rd_readStep (j := 1) rfl
abbrev D_square : pY := (⟨"DoorRounds", "square", "(I)I"⟩, prog_1_method_11_code, 5, (Option.some Jvm.ClassFile.FieldType.int), 6, 131)
noncomputable def t_D_square_0 : List (Nat × Instr × Nat) := [(0, .iload_n 1, 1), (1, .invokestatic 141, 3), (4, .ifCond .ne 5, 3), (7, .iconst (-1), 1), (8, .ireturn, 1), (9, .aload_n 0, 1), (10, .iload_n 1, 1), (11, .invokevirtual 144, 3), (14, .astore_n 2, 1), (15, .aload_n 2, 1), (16, .invokevirtual 117, 3), (19, .ifCond .ne 9, 3), (22, .aload_n 0, 1), (23, .iconst 1, 1), (24, .invokevirtual 91, 3), (27, .ireturn, 1), (28, .aload_n 0, 1), (29, .getfield 67, 3), (32, .aload_n 2, 1), (33, .invokevirtual 147, 3), (36, .bipush (-9), 2), (38, .if_icmp .eq 6, 3), (41, .bipush (-4), 2), (43, .ireturn, 1), (44, .aload_n 0, 1), (45, .getfield 63, 3), (48, .astore_n 3, 1), (49, .aload_n 0, 1), (50, .aload_n 0, 1), (51, .getfield 67, 3)]
noncomputable def t_D_square_1 : List (Nat × Instr × Nat) := [(54, .putfield 63, 3), (57, .aload_n 0, 1), (58, .aload_n 3, 1), (59, .putfield 67, 3), (62, .aload_n 0, 1), (63, .getfield 63, 3), (66, .invokevirtual 151, 3), (69, .aload_n 0, 1), (70, .getfield 28, 3), (73, .aload_n 0, 1), (74, .getfield 63, 3), (77, .invokevirtual 154, 3), (80, .aload_n 0, 1), (81, .getfield 45, 3), (84, .iconst 0, 1), (85, .putfield 158, 3), (88, .iconst 0, 1), (89, .istore 4, 2), (91, .iload 4, 2), (93, .iconst 3, 1), (94, .if_icmp .ge 19, 3), (97, .aload_n 0, 1), (98, .iload 4, 2), (100, .invokevirtual 159, 3), (103, .iconst (-1), 1), (104, .putfield 84, 3), (107, .iinc 4 1, 3), (110, .goto (-19), 3), (113, .aload_n 0, 1), (114, .getfield 63, 3)]
noncomputable def t_D_square_2 : List (Nat × Instr × Nat) := [(117, .getfield 163, 3), (120, .ireturn, 1)]
theorem d_D_square : wkk prog_1_method_11_code [t_D_square_0, t_D_square_1, t_D_square_2] prog_1_method_11_code.data.toList 0 = true := by decide +kernel
theorem d_D_square_0 : ∀ q ∈ t_D_square_0, decode prog_1_method_11_code q.1 = .ok q.2 := wkd d_D_square (j := 0) rfl
theorem d_D_square_1 : ∀ q ∈ t_D_square_1, decode prog_1_method_11_code q.1 = .ok q.2 := wkd d_D_square (j := 1) rfl
theorem d_D_square_2 : ∀ q ∈ t_D_square_2, decode prog_1_method_11_code q.1 = .ok q.2 := wkd d_D_square (j := 2) rfl
abbrev Pl_rank : pY := (⟨"DoorRounds$Plan", "rank", "()V"⟩, prog_4_method_16_code, 3, (Option.none : Option Jvm.ClassFile.FieldType), 3, 67)
noncomputable def t_Pl_rank_0 : List (Nat × Instr × Nat) := [(0, .iconst 0, 1), (1, .istore_n 1, 1), (2, .iload_n 1, 1), (3, .aload_n 0, 1), (4, .getfield 15, 3), (7, .if_icmp .ge 64, 3), (10, .iload_n 1, 1), (11, .bipush 7, 2), (13, .if_icmp .ge 58, 3), (16, .iload_n 1, 1), (17, .istore_n 2, 1), (18, .iload_n 2, 1), (19, .ifCond .le 39, 3), (22, .aload_n 0, 1), (23, .iload_n 1, 1), (24, .aload_n 0, 1), (25, .getfield 29, 3), (28, .iload_n 2, 1), (29, .iconst 1, 1), (30, .isub, 1), (31, .iaload, 1), (32, .invokevirtual 124, 3), (35, .ifCond .eq 23, 3), (38, .aload_n 0, 1), (39, .getfield 29, 3), (42, .iload_n 2, 1), (43, .aload_n 0, 1), (44, .getfield 29, 3), (47, .iload_n 2, 1), (48, .iconst 1, 1)]
noncomputable def t_Pl_rank_1 : List (Nat × Instr × Nat) := [(49, .isub, 1), (50, .iaload, 1), (51, .iastore, 1), (52, .iinc 2 (-1), 3), (55, .goto (-37), 3), (58, .aload_n 0, 1), (59, .getfield 29, 3), (62, .iload_n 2, 1), (63, .iload_n 1, 1), (64, .iastore, 1), (65, .iinc 1 1, 3), (68, .goto (-66), 3), (71, .return_, 1)]
theorem d_Pl_rank : wkk prog_4_method_16_code [t_Pl_rank_0, t_Pl_rank_1] prog_4_method_16_code.data.toList 0 = true := by decide +kernel
theorem d_Pl_rank_0 : ∀ q ∈ t_Pl_rank_0, decode prog_4_method_16_code q.1 = .ok q.2 := wkd d_Pl_rank (j := 0) rfl
theorem d_Pl_rank_1 : ∀ q ∈ t_Pl_rank_1, decode prog_4_method_16_code q.1 = .ok q.2 := wkd d_Pl_rank (j := 1) rfl
abbrev Pl_isAhead : pY := (⟨"DoorRounds$Plan", "isAhead", "(II)Z"⟩, prog_4_method_17_code, 6, (Option.some Jvm.ClassFile.FieldType.boolean), 2, 42)
noncomputable def t_Pl_isAhead_0 : List (Nat × Instr × Nat) := [(0, .aload_n 0, 1), (1, .iload_n 1, 1), (2, .invokevirtual 44, 3), (5, .astore_n 3, 1), (6, .aload_n 0, 1), (7, .iload_n 2, 1), (8, .invokevirtual 44, 3), (11, .astore 4, 2), (13, .aload_n 3, 1), (14, .getfield 106, 3), (17, .iconst 2, 1), (18, .if_icmp .ne 7, 3), (21, .iconst 1, 1), (22, .goto 4, 3), (25, .iconst 0, 1), (26, .istore 5, 2), (28, .iload 5, 2), (30, .aload 4, 2), (32, .getfield 106, 3), (35, .iconst 2, 1), (36, .if_icmp .ne 7, 3), (39, .iconst 1, 1), (40, .goto 4, 3), (43, .iconst 0, 1), (44, .if_icmp .eq 14, 3), (47, .iload 5, 2), (49, .ifCond .ne 7, 3), (52, .iconst 1, 1), (53, .goto 4, 3), (56, .iconst 0, 1)]
noncomputable def t_Pl_isAhead_1 : List (Nat × Instr × Nat) := [(57, .ireturn, 1), (58, .aload_n 3, 1), (59, .getfield 118, 3), (62, .aload 4, 2), (64, .getfield 118, 3), (67, .if_icmp .le 7, 3), (70, .iconst 1, 1), (71, .goto 4, 3), (74, .iconst 0, 1), (75, .ireturn, 1)]
theorem d_Pl_isAhead : wkk prog_4_method_17_code [t_Pl_isAhead_0, t_Pl_isAhead_1] prog_4_method_17_code.data.toList 0 = true := by decide +kernel
theorem d_Pl_isAhead_0 : ∀ q ∈ t_Pl_isAhead_0, decode prog_4_method_17_code q.1 = .ok q.2 := wkd d_Pl_isAhead (j := 0) rfl
theorem d_Pl_isAhead_1 : ∀ q ∈ t_Pl_isAhead_1, decode prog_4_method_17_code q.1 = .ok q.2 := wkd d_Pl_isAhead (j := 1) rfl
abbrev Sn_begin : pY := (⟨"DoorRounds$Standing", "begin", "(LDoorRounds$Plan;)V"⟩, prog_7_method_2_code, 3, (Option.none : Option Jvm.ClassFile.FieldType), 2, 42)
noncomputable def t_Sn_begin_0 : List (Nat × Instr × Nat) := [(0, .aload_n 0, 1), (1, .iconst 0, 1), (2, .putfield 9, 3), (5, .aload_n 0, 1), (6, .iconst 0, 1), (7, .putfield 15, 3), (10, .iconst 0, 1), (11, .istore_n 2, 1), (12, .iload_n 2, 1), (13, .aload_n 1, 1), (14, .getfield 22, 3), (17, .if_icmp .ge 22, 3), (20, .aload_n 0, 1), (21, .iload_n 2, 1), (22, .aload_n 1, 1), (23, .iload_n 2, 1), (24, .invokevirtual 27, 3), (27, .getfield 31, 3), (30, .invokevirtual 36, 3), (33, .iinc 2 1, 3), (36, .goto (-24), 3), (39, .return_, 1)]
theorem d_Sn_begin : wkk prog_7_method_2_code [t_Sn_begin_0] prog_7_method_2_code.data.toList 0 = true := by decide +kernel
theorem d_Sn_begin_0 : ∀ q ∈ t_Sn_begin_0, decode prog_7_method_2_code q.1 = .ok q.2 := wkd d_Sn_begin (j := 0) rfl
abbrev Sn_setDoor : pY := (⟨"DoorRounds$Standing", "setDoor", "(II)V"⟩, prog_7_method_5_code, 3, (Option.none : Option Jvm.ClassFile.FieldType), 0, 0)
noncomputable def t_Sn_setDoor_0 : List (Nat × Instr × Nat) := [(0, .iload_n 1, 1), (1, .ifCond .lt 16, 3), (4, .iload_n 1, 1), (5, .bipush 7, 2), (7, .if_icmp .ge 10, 3), (10, .aload_n 0, 1), (11, .getfield 18, 3), (14, .iload_n 1, 1), (15, .iload_n 2, 1), (16, .iastore, 1), (17, .return_, 1)]
theorem d_Sn_setDoor : wkk prog_7_method_5_code [t_Sn_setDoor_0] prog_7_method_5_code.data.toList 0 = true := by decide +kernel
theorem d_Sn_setDoor_0 : ∀ q ∈ t_Sn_setDoor_0, decode prog_7_method_5_code q.1 = .ok q.2 := wkd d_Sn_setDoor (j := 0) rfl
abbrev D_keptOf : pY := (⟨"DoorRounds", "keptOf", "(I)LDoorRounds$Standing;"⟩, prog_1_method_64_code, 2, (Option.some (Jvm.ClassFile.FieldType.object "DoorRounds$Standing")), 1, 20)
noncomputable def t_D_keptOf_0 : List (Nat × Instr × Nat) := [(0, .iload_n 1, 1), (1, .invokestatic 237, 3), (4, .ifCond .eq 12, 3), (7, .aload_n 0, 1), (8, .getfield 32, 3), (11, .iload_n 1, 1), (12, .aaload, 1), (13, .goto 7, 3), (16, .aload_n 0, 1), (17, .getfield 36, 3), (20, .areturn, 1)]
theorem d_D_keptOf : wkk prog_1_method_64_code [t_D_keptOf_0] prog_1_method_64_code.data.toList 0 = true := by decide +kernel
theorem d_D_keptOf_0 : ∀ q ∈ t_D_keptOf_0, decode prog_1_method_64_code q.1 = .ok q.2 := wkd d_D_keptOf (j := 0) rfl
abbrev D_isKeptPlace : pY := (⟨"DoorRounds", "isKeptPlace", "(I)Z"⟩, prog_1_method_59_code, 1, (Option.some Jvm.ClassFile.FieldType.boolean), 0, 0)
noncomputable def t_D_isKeptPlace_0 : List (Nat × Instr × Nat) := [(0, .iload_n 0, 1), (1, .ifCond .lt 12, 3), (4, .iload_n 0, 1), (5, .iconst 3, 1), (6, .if_icmp .ge 7, 3), (9, .iconst 1, 1), (10, .goto 4, 3), (13, .iconst 0, 1), (14, .ireturn, 1)]
theorem d_D_isKeptPlace : wkk prog_1_method_59_code [t_D_isKeptPlace_0] prog_1_method_59_code.data.toList 0 = true := by decide +kernel
theorem d_D_isKeptPlace_0 : ∀ q ∈ t_D_isKeptPlace_0, decode prog_1_method_59_code q.1 = .ok q.2 := wkd d_D_isKeptPlace (j := 0) rfl
abbrev D_about : pY := (⟨"DoorRounds", "about", "(II)I"⟩, prog_1_method_12_code, 3, (Option.some Jvm.ClassFile.FieldType.int), 3, 65)
noncomputable def t_D_about_0 : List (Nat × Instr × Nat) := [(0, .aload_n 0, 1), (1, .getfield 63, 3), (4, .iload_n 1, 1), (5, .invokevirtual 164, 3), (8, .ifCond .eq 12, 3), (11, .iload_n 2, 1), (12, .ifCond .lt 8, 3), (15, .iload_n 2, 1), (16, .iconst 5, 1), (17, .if_icmp .le 5, 3), (20, .iconst (-1), 1), (21, .ireturn, 1), (22, .aload_n 0, 1), (23, .aload_n 0, 1), (24, .iload_n 1, 1), (25, .iload_n 2, 1), (26, .invokevirtual 167, 3), (29, .iconst 1, 1), (30, .invokevirtual 113, 3), (33, .ireturn, 1)]
theorem d_D_about : wkk prog_1_method_12_code [t_D_about_0] prog_1_method_12_code.data.toList 0 = true := by decide +kernel
theorem d_D_about_0 : ∀ q ∈ t_D_about_0, decode prog_1_method_12_code q.1 = .ok q.2 := wkd d_D_about (j := 0) rfl
abbrev D_trait : pY := (⟨"DoorRounds", "trait", "(II)I"⟩, prog_1_method_68_code, 4, (Option.some Jvm.ClassFile.FieldType.int), 2, 42)
noncomputable def t_D_trait_0 : List (Nat × Instr × Nat) := [(0, .aload_n 0, 1), (1, .getfield 63, 3), (4, .iload_n 1, 1), (5, .invokevirtual 170, 3), (8, .astore_n 3, 1), (9, .iload_n 2, 1), (10, .tableswitch 63 0 4 #[34, 39, 48, 53, 58], 34), (44, .aload_n 3, 1), (45, .getfield 298, 3), (48, .ireturn, 1), (49, .aload_n 0, 1), (50, .getfield 28, 3), (53, .iload_n 1, 1), (54, .invokevirtual 217, 3), (57, .ireturn, 1), (58, .aload_n 3, 1), (59, .getfield 246, 3), (62, .ireturn, 1), (63, .aload_n 3, 1), (64, .getfield 347, 3), (67, .ireturn, 1), (68, .aload_n 3, 1), (69, .getfield 191, 3), (72, .ireturn, 1), (73, .aload_n 3, 1), (74, .getfield 350, 3), (77, .ireturn, 1)]
theorem d_D_trait : wkk prog_1_method_68_code [t_D_trait_0] prog_1_method_68_code.data.toList 0 = true := by decide +kernel
theorem d_D_trait_0 : ∀ q ∈ t_D_trait_0, decode prog_1_method_68_code q.1 = .ok q.2 := wkd d_D_trait (j := 0) rfl
abbrev Sn_doorOf : pY := (⟨"DoorRounds$Standing", "doorOf", "(I)I"⟩, prog_7_method_4_code, 2, (Option.some Jvm.ClassFile.FieldType.int), 0, 0)
noncomputable def t_Sn_doorOf_0 : List (Nat × Instr × Nat) := [(0, .iload_n 1, 1), (1, .ifCond .lt 18, 3), (4, .iload_n 1, 1), (5, .bipush 7, 2), (7, .if_icmp .ge 12, 3), (10, .aload_n 0, 1), (11, .getfield 18, 3), (14, .iload_n 1, 1), (15, .iaload, 1), (16, .goto 4, 3), (19, .iconst 0, 1), (20, .ireturn, 1)]
theorem d_Sn_doorOf : wkk prog_7_method_4_code [t_Sn_doorOf_0] prog_7_method_4_code.data.toList 0 = true := by decide +kernel
theorem d_Sn_doorOf_0 : ∀ q ∈ t_Sn_doorOf_0, decode prog_7_method_4_code q.1 = .ok q.2 := wkd d_Sn_doorOf (j := 0) rfl
noncomputable def bcL_0_0 : List (pY × Nat × Nat) := [(D_init, 18, 0), (Sp_init, 8, 1), (Sn_init, 19, 0), (Di_init, 18, 0), (Er_init, 19, 0), (Pl_init, 13, 0), (Sh_init, 6, 0), (Rd_init, 33, 0), (D_row, 91, 2), (D_isRow, 2, 1), (D_found, 3, 1), (D_rowOf, 3, 1), (Sp_renew, 3, 2), (ja_fill, 5, 2), (D_lay, 3, 3), (D_placeFinding, 2, 2), (Sp_isThere, 3, 0), (Sp_has, 3, 1), (Sp_get, 3, 1), (Sp_set, 4, 2), (D_tell, 3, 2), (D_at, 3, 2), (D_tear, 3, 1), (D_copy, 3, 5)]
theorem bc_0_0 : cm_wk bcL_0_0 tables_1 = true := by decide +kernel
noncomputable def bcL_0_1 : List (pY × Nat × Nat) := [(Sp_holds, 298, 2), (D_mean, 6, 1), (Sp_sum, 3, 0), (D_text, 4, 2), (D_isText, 2, 1), (D_textOf, 3, 1), (D_put, 3, 3), (D_fault, 3, 1), (Pl_read, 3, 1), (Rd_begin, 3, 1), (Rd_skipBlanks, 3, 0), (Rd_passes, 4, 1), (Rd_isAtEnd, 3, 0), (Rd_readNumber, 3, 4), (Rd_isFigure, 2, 1), (Pl_readShop, 4, 1), (Rd_readKind, 3, 0), (Pl_isFirstDoor, 6, 1), (Pl_shopOf, 3, 1), (Pl_hasShop, 3, 1), (Rd_readStep, 3, 0), (D_square, 4, 1), (Pl_rank, 3, 0), (Pl_isAhead, 3, 2)]
theorem bc_0_1 : cm_wk bcL_0_1 tables_1 = true := by decide +kernel
noncomputable def bcL_0_2 : List (pY × Nat × Nat) := [(Sn_begin, 402, 1), (Sn_setDoor, 4, 2), (D_keptOf, 3, 1), (D_isKeptPlace, 2, 1), (D_about, 3, 2), (D_trait, 4, 2), (Sn_doorOf, 4, 1), (ja_fillJ, 213, 2)]
theorem bc_0_2 : cm_wk bcL_0_2 tables_1 = true := by decide +kernel
noncomputable def bwL_0_0 : List (Nat × Cond) := [(17, Cond.instanceMethod D_init.1), (8, Cond.instanceMethod Sp_init.1), (19, Cond.instanceMethod Sn_init.1), (18, Cond.instanceMethod Di_init.1), (19, Cond.instanceMethod Er_init.1), (13, Cond.instanceMethod Pl_init.1), (6, Cond.instanceMethod Sh_init.1), (33, Cond.instanceMethod Rd_init.1), (90, Cond.instanceMethod D_row.1), (0, Cond.selects D_row.1.cls D_row.1 D_row.1), (2, Cond.static D_isRow.1), (3, Cond.instanceMethod D_found.1), (3, Cond.instanceMethod D_rowOf.1), (2, Cond.instanceMethod Sp_renew.1), (0, Cond.selects Sp_renew.1.cls Sp_renew.1 Sp_renew.1), (5, Cond.static ja_fill.1), (2, Cond.instanceMethod D_lay.1), (0, Cond.selects D_lay.1.cls D_lay.1 D_lay.1), (2, Cond.static D_placeFinding.1), (2, Cond.instanceMethod Sp_isThere.1), (0, Cond.selects Sp_isThere.1.cls Sp_isThere.1 Sp_isThere.1), (2, Cond.instanceMethod Sp_has.1), (0, Cond.selects Sp_has.1.cls Sp_has.1 Sp_has.1), (2, Cond.instanceMethod Sp_get.1)]
theorem bw_0_0 : lw_ck bwL_0_0 = true := by decide +kernel
noncomputable def bwL_0_1 : List (Nat × Cond) := [(272, Cond.selects Sp_get.1.cls Sp_get.1 Sp_get.1), (3, Cond.instanceMethod Sp_set.1), (0, Cond.selects Sp_set.1.cls Sp_set.1 Sp_set.1), (3, Cond.instanceMethod D_tell.1), (2, Cond.instanceMethod D_at.1), (0, Cond.selects D_at.1.cls D_at.1 D_at.1), (2, Cond.instanceMethod D_tear.1), (0, Cond.selects D_tear.1.cls D_tear.1 D_tear.1), (2, Cond.instanceMethod D_copy.1), (0, Cond.selects D_copy.1.cls D_copy.1 D_copy.1), (2, Cond.instanceMethod Sp_holds.1), (0, Cond.selects Sp_holds.1.cls Sp_holds.1 Sp_holds.1), (5, Cond.instanceMethod D_mean.1), (0, Cond.selects D_mean.1.cls D_mean.1 D_mean.1), (2, Cond.instanceMethod Sp_sum.1), (0, Cond.selects Sp_sum.1.cls Sp_sum.1 Sp_sum.1), (3, Cond.instanceMethod D_text.1), (0, Cond.selects D_text.1.cls D_text.1 D_text.1), (2, Cond.static D_isText.1), (3, Cond.instanceMethod D_textOf.1), (2, Cond.instanceMethod D_put.1), (0, Cond.selects D_put.1.cls D_put.1 D_put.1), (2, Cond.instanceMethod D_fault.1), (0, Cond.selects D_fault.1.cls D_fault.1 D_fault.1)]
theorem bw_0_1 : lw_ck bwL_0_1 = true := by decide +kernel
noncomputable def bwL_0_2 : List (Nat × Cond) := [(331, Cond.instanceMethod Pl_read.1), (0, Cond.selects Pl_read.1.cls Pl_read.1 Pl_read.1), (2, Cond.instanceMethod Rd_begin.1), (0, Cond.selects Rd_begin.1.cls Rd_begin.1 Rd_begin.1), (2, Cond.instanceMethod Rd_skipBlanks.1), (0, Cond.selects Rd_skipBlanks.1.cls Rd_skipBlanks.1 Rd_skipBlanks.1), (3, Cond.instanceMethod Rd_passes.1), (0, Cond.selects Rd_passes.1.cls Rd_passes.1 Rd_passes.1), (2, Cond.instanceMethod Rd_isAtEnd.1), (0, Cond.selects Rd_isAtEnd.1.cls Rd_isAtEnd.1 Rd_isAtEnd.1), (2, Cond.instanceMethod Rd_readNumber.1), (0, Cond.selects Rd_readNumber.1.cls Rd_readNumber.1 Rd_readNumber.1), (2, Cond.static Rd_isFigure.1), (4, Cond.instanceMethod Pl_readShop.1), (2, Cond.instanceMethod Rd_readKind.1), (0, Cond.selects Rd_readKind.1.cls Rd_readKind.1 Rd_readKind.1), (5, Cond.instanceMethod Pl_isFirstDoor.1), (0, Cond.selects Pl_isFirstDoor.1.cls Pl_isFirstDoor.1 Pl_isFirstDoor.1), (2, Cond.instanceMethod Pl_shopOf.1), (0, Cond.selects Pl_shopOf.1.cls Pl_shopOf.1 Pl_shopOf.1), (2, Cond.instanceMethod Pl_hasShop.1), (0, Cond.selects Pl_hasShop.1.cls Pl_hasShop.1 Pl_hasShop.1), (2, Cond.instanceMethod Rd_readStep.1), (0, Cond.selects Rd_readStep.1.cls Rd_readStep.1 Rd_readStep.1)]
theorem bw_0_2 : lw_ck bwL_0_2 = true := by decide +kernel
noncomputable def bwL_0_3 : List (Nat × Cond) := [(388, Cond.instanceMethod D_square.1), (0, Cond.selects D_square.1.cls D_square.1 D_square.1), (2, Cond.instanceMethod Pl_rank.1), (0, Cond.selects Pl_rank.1.cls Pl_rank.1 Pl_rank.1), (3, Cond.instanceMethod Pl_isAhead.1), (2, Cond.instanceMethod Sn_begin.1), (0, Cond.selects Sn_begin.1.cls Sn_begin.1 Sn_begin.1), (3, Cond.instanceMethod Sn_setDoor.1), (0, Cond.selects Sn_setDoor.1.cls Sn_setDoor.1 Sn_setDoor.1), (3, Cond.instanceMethod D_keptOf.1), (2, Cond.static D_isKeptPlace.1), (2, Cond.instanceMethod D_about.1), (0, Cond.selects D_about.1.cls D_about.1 D_about.1), (4, Cond.instanceMethod D_trait.1), (3, Cond.instanceMethod Sn_doorOf.1), (0, Cond.selects Sn_doorOf.1.cls Sn_doorOf.1 Sn_doorOf.1), (213, Cond.static ja_fillJ.1)]
theorem bw_0_3 : lw_ck bwL_0_3 = true := by decide +kernel
noncomputable def bsL_0_0 : List ((MethodName × Nat) × Nat) := [((⟨"DoorRounds", "found", "(I)I"⟩, 16), 0), ((⟨"DoorRounds", "rowOf", "(I)LDoorRounds$Strip;"⟩, 16), 1), ((⟨"DoorRounds", "tell", "(II)I"⟩, 16), 2), ((⟨"DoorRounds", "textOf", "(I)LDoorRounds$Strip;"⟩, 16), 3), ((⟨"DoorRounds$Plan", "readShop", "(LDoorRounds$Shop;)Z"⟩, 6), 4), ((⟨"DoorRounds$Plan", "isAhead", "(II)Z"⟩, 6), 5), ((⟨"DoorRounds", "keptOf", "(I)LDoorRounds$Standing;"⟩, 16), 6), ((⟨"DoorRounds", "trait", "(II)I"⟩, 16), 7)]
theorem bs_0_0 : bsL_0_0.all lw_sk = true := by decide +kernel
theorem cm_D_init : CM D_init 0 := cm_bt bc_0_0 (j := 0) rfl in_D
theorem ci_D_init : Cond.instanceMethod D_init.1 ∈ lw_g := lw_bt bw_0_0 (j := 0) rfl
theorem cm_Sp_init : CM Sp_init 1 := cm_bt bc_0_0 (j := 1) rfl in_Sp
theorem ci_Sp_init : Cond.instanceMethod Sp_init.1 ∈ lw_g := lw_bt bw_0_0 (j := 1) rfl
theorem cm_Sn_init : CM Sn_init 0 := cm_bt bc_0_0 (j := 2) rfl in_Sn
theorem ci_Sn_init : Cond.instanceMethod Sn_init.1 ∈ lw_g := lw_bt bw_0_0 (j := 2) rfl
theorem cm_Di_init : CM Di_init 0 := cm_bt bc_0_0 (j := 3) rfl in_Di
theorem ci_Di_init : Cond.instanceMethod Di_init.1 ∈ lw_g := lw_bt bw_0_0 (j := 3) rfl
theorem cm_Er_init : CM Er_init 0 := cm_bt bc_0_0 (j := 4) rfl in_Er
theorem ci_Er_init : Cond.instanceMethod Er_init.1 ∈ lw_g := lw_bt bw_0_0 (j := 4) rfl
theorem cm_Pl_init : CM Pl_init 0 := cm_bt bc_0_0 (j := 5) rfl in_Pl
theorem ci_Pl_init : Cond.instanceMethod Pl_init.1 ∈ lw_g := lw_bt bw_0_0 (j := 5) rfl
theorem cm_Sh_init : CM Sh_init 0 := cm_bt bc_0_0 (j := 6) rfl in_Sh
theorem ci_Sh_init : Cond.instanceMethod Sh_init.1 ∈ lw_g := lw_bt bw_0_0 (j := 6) rfl
theorem cm_Rd_init : CM Rd_init 0 := cm_bt bc_0_0 (j := 7) rfl in_Rd
theorem ci_Rd_init : Cond.instanceMethod Rd_init.1 ∈ lw_g := lw_bt bw_0_0 (j := 7) rfl
theorem cm_D_row : CM D_row 2 := cm_bt bc_0_0 (j := 8) rfl in_D
theorem cv_D_row : CV D_row 2 7 := ⟨cm_D_row, lw_bt bw_0_0 (j := 8) rfl, lw_bt bw_0_0 (j := 9) rfl, ⟨_, rfl, rfl⟩, by decide⟩
theorem cm_D_isRow : CM D_isRow 1 := cm_bt bc_0_0 (j := 9) rfl in_D
theorem cs_D_isRow : CS D_isRow 1 := ⟨cm_D_isRow, lw_bt bw_0_0 (j := 10) rfl⟩
theorem cm_D_found : CM D_found 1 := cm_bt bc_0_0 (j := 10) rfl in_D
theorem cv_D_found : CV D_found 1 7 := ⟨cm_D_found, lw_bt bw_0_0 (j := 11) rfl, lw_bs bs_0_0 (j := 0) (i := 0) (q := (⟨"DoorRounds", "found", "(I)I"⟩, 16)) rfl, ⟨_, rfl, rfl⟩, by decide⟩
theorem cm_D_rowOf : CM D_rowOf 1 := cm_bt bc_0_0 (j := 11) rfl in_D
theorem cv_D_rowOf : CV D_rowOf 1 7 := ⟨cm_D_rowOf, lw_bt bw_0_0 (j := 12) rfl, lw_bs bs_0_0 (j := 1) (i := 1) (q := (⟨"DoorRounds", "rowOf", "(I)LDoorRounds$Strip;"⟩, 16)) rfl, ⟨_, rfl, rfl⟩, by decide⟩
theorem cm_Sp_renew : CM Sp_renew 2 := cm_bt bc_0_0 (j := 12) rfl in_Sp
theorem cv_Sp_renew : CV Sp_renew 2 6 := ⟨cm_Sp_renew, lw_bt bw_0_0 (j := 13) rfl, lw_bt bw_0_0 (j := 14) rfl, ⟨_, rfl, rfl⟩, by decide⟩
theorem cm_ja_fill : CM ja_fill 2 := cm_bt bc_0_0 (j := 13) rfl in_ja
theorem cs_ja_fill : CS ja_fill 2 := ⟨cm_ja_fill, lw_bt bw_0_0 (j := 15) rfl⟩
theorem cm_ja_fillJ : CM ja_fillJ 2 := cm_bt bc_0_2 (j := 7) rfl in_ja
theorem cs_ja_fillJ : CS ja_fillJ 2 := ⟨cm_ja_fillJ, lw_bt bw_0_3 (j := 16) rfl⟩
theorem cm_D_lay : CM D_lay 3 := cm_bt bc_0_0 (j := 14) rfl in_D
theorem cv_D_lay : CV D_lay 3 7 := ⟨cm_D_lay, lw_bt bw_0_0 (j := 16) rfl, lw_bt bw_0_0 (j := 17) rfl, ⟨_, rfl, rfl⟩, by decide⟩
theorem cm_D_placeFinding : CM D_placeFinding 2 := cm_bt bc_0_0 (j := 15) rfl in_D
theorem cs_D_placeFinding : CS D_placeFinding 2 := ⟨cm_D_placeFinding, lw_bt bw_0_0 (j := 18) rfl⟩
theorem cm_Sp_isThere : CM Sp_isThere 0 := cm_bt bc_0_0 (j := 16) rfl in_Sp
theorem cv_Sp_isThere : CV Sp_isThere 0 6 := ⟨cm_Sp_isThere, lw_bt bw_0_0 (j := 19) rfl, lw_bt bw_0_0 (j := 20) rfl, ⟨_, rfl, rfl⟩, by decide⟩
theorem cm_Sp_has : CM Sp_has 1 := cm_bt bc_0_0 (j := 17) rfl in_Sp
theorem cv_Sp_has : CV Sp_has 1 6 := ⟨cm_Sp_has, lw_bt bw_0_0 (j := 21) rfl, lw_bt bw_0_0 (j := 22) rfl, ⟨_, rfl, rfl⟩, by decide⟩
theorem cm_Sp_get : CM Sp_get 1 := cm_bt bc_0_0 (j := 18) rfl in_Sp
theorem cv_Sp_get : CV Sp_get 1 6 := ⟨cm_Sp_get, lw_bt bw_0_0 (j := 23) rfl, lw_bt bw_0_1 (j := 0) rfl, ⟨_, rfl, rfl⟩, by decide⟩
theorem cm_Sp_set : CM Sp_set 2 := cm_bt bc_0_0 (j := 19) rfl in_Sp
theorem cv_Sp_set : CV Sp_set 2 6 := ⟨cm_Sp_set, lw_bt bw_0_1 (j := 1) rfl, lw_bt bw_0_1 (j := 2) rfl, ⟨_, rfl, rfl⟩, by decide⟩
theorem cm_D_tell : CM D_tell 2 := cm_bt bc_0_0 (j := 20) rfl in_D
theorem cv_D_tell : CV D_tell 2 7 := ⟨cm_D_tell, lw_bt bw_0_1 (j := 3) rfl, lw_bs bs_0_0 (j := 2) (i := 2) (q := (⟨"DoorRounds", "tell", "(II)I"⟩, 16)) rfl, ⟨_, rfl, rfl⟩, by decide⟩
theorem cm_D_at : CM D_at 2 := cm_bt bc_0_0 (j := 21) rfl in_D
theorem cv_D_at : CV D_at 2 7 := ⟨cm_D_at, lw_bt bw_0_1 (j := 4) rfl, lw_bt bw_0_1 (j := 5) rfl, ⟨_, rfl, rfl⟩, by decide⟩
theorem cm_D_tear : CM D_tear 1 := cm_bt bc_0_0 (j := 22) rfl in_D
theorem cv_D_tear : CV D_tear 1 7 := ⟨cm_D_tear, lw_bt bw_0_1 (j := 6) rfl, lw_bt bw_0_1 (j := 7) rfl, ⟨_, rfl, rfl⟩, by decide⟩
theorem cm_D_copy : CM D_copy 5 := cm_bt bc_0_0 (j := 23) rfl in_D
theorem cv_D_copy : CV D_copy 5 7 := ⟨cm_D_copy, lw_bt bw_0_1 (j := 8) rfl, lw_bt bw_0_1 (j := 9) rfl, ⟨_, rfl, rfl⟩, by decide⟩
theorem cm_Sp_holds : CM Sp_holds 2 := cm_bt bc_0_1 (j := 0) rfl in_Sp
theorem cv_Sp_holds : CV Sp_holds 2 6 := ⟨cm_Sp_holds, lw_bt bw_0_1 (j := 10) rfl, lw_bt bw_0_1 (j := 11) rfl, ⟨_, rfl, rfl⟩, by decide⟩
theorem cm_D_mean : CM D_mean 1 := cm_bt bc_0_1 (j := 1) rfl in_D
theorem cv_D_mean : CV D_mean 1 7 := ⟨cm_D_mean, lw_bt bw_0_1 (j := 12) rfl, lw_bt bw_0_1 (j := 13) rfl, ⟨_, rfl, rfl⟩, by decide⟩
theorem cm_Sp_sum : CM Sp_sum 0 := cm_bt bc_0_1 (j := 2) rfl in_Sp
theorem cv_Sp_sum : CV Sp_sum 0 6 := ⟨cm_Sp_sum, lw_bt bw_0_1 (j := 14) rfl, lw_bt bw_0_1 (j := 15) rfl, ⟨_, rfl, rfl⟩, by decide⟩
theorem cm_D_text : CM D_text 2 := cm_bt bc_0_1 (j := 3) rfl in_D
theorem cv_D_text : CV D_text 2 7 := ⟨cm_D_text, lw_bt bw_0_1 (j := 16) rfl, lw_bt bw_0_1 (j := 17) rfl, ⟨_, rfl, rfl⟩, by decide⟩
theorem cm_D_isText : CM D_isText 1 := cm_bt bc_0_1 (j := 4) rfl in_D
theorem cs_D_isText : CS D_isText 1 := ⟨cm_D_isText, lw_bt bw_0_1 (j := 18) rfl⟩
theorem cm_D_textOf : CM D_textOf 1 := cm_bt bc_0_1 (j := 5) rfl in_D
theorem cv_D_textOf : CV D_textOf 1 7 := ⟨cm_D_textOf, lw_bt bw_0_1 (j := 19) rfl, lw_bs bs_0_0 (j := 3) (i := 3) (q := (⟨"DoorRounds", "textOf", "(I)LDoorRounds$Strip;"⟩, 16)) rfl, ⟨_, rfl, rfl⟩, by decide⟩
theorem cm_D_put : CM D_put 3 := cm_bt bc_0_1 (j := 6) rfl in_D
theorem cv_D_put : CV D_put 3 7 := ⟨cm_D_put, lw_bt bw_0_1 (j := 20) rfl, lw_bt bw_0_1 (j := 21) rfl, ⟨_, rfl, rfl⟩, by decide⟩
theorem cm_D_fault : CM D_fault 1 := cm_bt bc_0_1 (j := 7) rfl in_D
theorem cv_D_fault : CV D_fault 1 7 := ⟨cm_D_fault, lw_bt bw_0_1 (j := 22) rfl, lw_bt bw_0_1 (j := 23) rfl, ⟨_, rfl, rfl⟩, by decide⟩
theorem cm_Pl_read : CM Pl_read 1 := cm_bt bc_0_1 (j := 8) rfl in_Pl
theorem cv_Pl_read : CV Pl_read 1 2 := ⟨cm_Pl_read, lw_bt bw_0_2 (j := 0) rfl, lw_bt bw_0_2 (j := 1) rfl, ⟨_, rfl, rfl⟩, by decide⟩
theorem cm_Rd_begin : CM Rd_begin 1 := cm_bt bc_0_1 (j := 9) rfl in_Rd
theorem cv_Rd_begin : CV Rd_begin 1 3 := ⟨cm_Rd_begin, lw_bt bw_0_2 (j := 2) rfl, lw_bt bw_0_2 (j := 3) rfl, ⟨_, rfl, rfl⟩, by decide⟩
theorem cm_Rd_skipBlanks : CM Rd_skipBlanks 0 := cm_bt bc_0_1 (j := 10) rfl in_Rd
theorem cv_Rd_skipBlanks : CV Rd_skipBlanks 0 3 := ⟨cm_Rd_skipBlanks, lw_bt bw_0_2 (j := 4) rfl, lw_bt bw_0_2 (j := 5) rfl, ⟨_, rfl, rfl⟩, by decide⟩
theorem cm_Rd_passes : CM Rd_passes 1 := cm_bt bc_0_1 (j := 11) rfl in_Rd
theorem cv_Rd_passes : CV Rd_passes 1 3 := ⟨cm_Rd_passes, lw_bt bw_0_2 (j := 6) rfl, lw_bt bw_0_2 (j := 7) rfl, ⟨_, rfl, rfl⟩, by decide⟩
theorem cm_Rd_isAtEnd : CM Rd_isAtEnd 0 := cm_bt bc_0_1 (j := 12) rfl in_Rd
theorem cv_Rd_isAtEnd : CV Rd_isAtEnd 0 3 := ⟨cm_Rd_isAtEnd, lw_bt bw_0_2 (j := 8) rfl, lw_bt bw_0_2 (j := 9) rfl, ⟨_, rfl, rfl⟩, by decide⟩
theorem cm_Rd_readNumber : CM Rd_readNumber 4 := cm_bt bc_0_1 (j := 13) rfl in_Rd
theorem cv_Rd_readNumber : CV Rd_readNumber 4 3 := ⟨cm_Rd_readNumber, lw_bt bw_0_2 (j := 10) rfl, lw_bt bw_0_2 (j := 11) rfl, ⟨_, rfl, rfl⟩, by decide⟩
theorem cm_Rd_isFigure : CM Rd_isFigure 1 := cm_bt bc_0_1 (j := 14) rfl in_Rd
theorem cs_Rd_isFigure : CS Rd_isFigure 1 := ⟨cm_Rd_isFigure, lw_bt bw_0_2 (j := 12) rfl⟩
theorem cm_Pl_readShop : CM Pl_readShop 1 := cm_bt bc_0_1 (j := 15) rfl in_Pl
theorem cv_Pl_readShop : CV Pl_readShop 1 2 := ⟨cm_Pl_readShop, lw_bt bw_0_2 (j := 13) rfl, lw_bs bs_0_0 (j := 4) (i := 4) (q := (⟨"DoorRounds$Plan", "readShop", "(LDoorRounds$Shop;)Z"⟩, 6)) rfl, ⟨_, rfl, rfl⟩, by decide⟩
theorem cm_Rd_readKind : CM Rd_readKind 0 := cm_bt bc_0_1 (j := 16) rfl in_Rd
theorem cv_Rd_readKind : CV Rd_readKind 0 3 := ⟨cm_Rd_readKind, lw_bt bw_0_2 (j := 14) rfl, lw_bt bw_0_2 (j := 15) rfl, ⟨_, rfl, rfl⟩, by decide⟩
theorem cm_Pl_isFirstDoor : CM Pl_isFirstDoor 1 := cm_bt bc_0_1 (j := 17) rfl in_Pl
theorem cv_Pl_isFirstDoor : CV Pl_isFirstDoor 1 2 := ⟨cm_Pl_isFirstDoor, lw_bt bw_0_2 (j := 16) rfl, lw_bt bw_0_2 (j := 17) rfl, ⟨_, rfl, rfl⟩, by decide⟩
theorem cm_Pl_shopOf : CM Pl_shopOf 1 := cm_bt bc_0_1 (j := 18) rfl in_Pl
theorem cv_Pl_shopOf : CV Pl_shopOf 1 2 := ⟨cm_Pl_shopOf, lw_bt bw_0_2 (j := 18) rfl, lw_bt bw_0_2 (j := 19) rfl, ⟨_, rfl, rfl⟩, by decide⟩
theorem cm_Pl_hasShop : CM Pl_hasShop 1 := cm_bt bc_0_1 (j := 19) rfl in_Pl
theorem cv_Pl_hasShop : CV Pl_hasShop 1 2 := ⟨cm_Pl_hasShop, lw_bt bw_0_2 (j := 20) rfl, lw_bt bw_0_2 (j := 21) rfl, ⟨_, rfl, rfl⟩, by decide⟩
theorem cm_Rd_readStep : CM Rd_readStep 0 := cm_bt bc_0_1 (j := 20) rfl in_Rd
theorem cv_Rd_readStep : CV Rd_readStep 0 3 := ⟨cm_Rd_readStep, lw_bt bw_0_2 (j := 22) rfl, lw_bt bw_0_2 (j := 23) rfl, ⟨_, rfl, rfl⟩, by decide⟩
theorem cm_D_square : CM D_square 1 := cm_bt bc_0_1 (j := 21) rfl in_D
theorem cv_D_square : CV D_square 1 7 := ⟨cm_D_square, lw_bt bw_0_3 (j := 0) rfl, lw_bt bw_0_3 (j := 1) rfl, ⟨_, rfl, rfl⟩, by decide⟩
theorem cm_Pl_rank : CM Pl_rank 0 := cm_bt bc_0_1 (j := 22) rfl in_Pl
theorem cv_Pl_rank : CV Pl_rank 0 2 := ⟨cm_Pl_rank, lw_bt bw_0_3 (j := 2) rfl, lw_bt bw_0_3 (j := 3) rfl, ⟨_, rfl, rfl⟩, by decide⟩
theorem cm_Pl_isAhead : CM Pl_isAhead 2 := cm_bt bc_0_1 (j := 23) rfl in_Pl
theorem cv_Pl_isAhead : CV Pl_isAhead 2 2 := ⟨cm_Pl_isAhead, lw_bt bw_0_3 (j := 4) rfl, lw_bs bs_0_0 (j := 5) (i := 5) (q := (⟨"DoorRounds$Plan", "isAhead", "(II)Z"⟩, 6)) rfl, ⟨_, rfl, rfl⟩, by decide⟩
theorem cm_Sn_begin : CM Sn_begin 1 := cm_bt bc_0_2 (j := 0) rfl in_Sn
theorem cv_Sn_begin : CV Sn_begin 1 5 := ⟨cm_Sn_begin, lw_bt bw_0_3 (j := 5) rfl, lw_bt bw_0_3 (j := 6) rfl, ⟨_, rfl, rfl⟩, by decide⟩
theorem cm_Sn_setDoor : CM Sn_setDoor 2 := cm_bt bc_0_2 (j := 1) rfl in_Sn
theorem cv_Sn_setDoor : CV Sn_setDoor 2 5 := ⟨cm_Sn_setDoor, lw_bt bw_0_3 (j := 7) rfl, lw_bt bw_0_3 (j := 8) rfl, ⟨_, rfl, rfl⟩, by decide⟩
theorem cm_D_keptOf : CM D_keptOf 1 := cm_bt bc_0_2 (j := 2) rfl in_D
theorem cv_D_keptOf : CV D_keptOf 1 7 := ⟨cm_D_keptOf, lw_bt bw_0_3 (j := 9) rfl, lw_bs bs_0_0 (j := 6) (i := 6) (q := (⟨"DoorRounds", "keptOf", "(I)LDoorRounds$Standing;"⟩, 16)) rfl, ⟨_, rfl, rfl⟩, by decide⟩
theorem cm_D_isKeptPlace : CM D_isKeptPlace 1 := cm_bt bc_0_2 (j := 3) rfl in_D
theorem cs_D_isKeptPlace : CS D_isKeptPlace 1 := ⟨cm_D_isKeptPlace, lw_bt bw_0_3 (j := 10) rfl⟩
theorem cm_D_about : CM D_about 2 := cm_bt bc_0_2 (j := 4) rfl in_D
theorem cv_D_about : CV D_about 2 7 := ⟨cm_D_about, lw_bt bw_0_3 (j := 11) rfl, lw_bt bw_0_3 (j := 12) rfl, ⟨_, rfl, rfl⟩, by decide⟩
theorem cm_D_trait : CM D_trait 2 := cm_bt bc_0_2 (j := 5) rfl in_D
theorem cv_D_trait : CV D_trait 2 7 := ⟨cm_D_trait, lw_bt bw_0_3 (j := 13) rfl, lw_bs bs_0_0 (j := 7) (i := 7) (q := (⟨"DoorRounds", "trait", "(II)I"⟩, 16)) rfl, ⟨_, rfl, rfl⟩, by decide⟩
theorem cm_Sn_doorOf : CM Sn_doorOf 1 := cm_bt bc_0_2 (j := 6) rfl in_Sn
theorem cv_Sn_doorOf : CV Sn_doorOf 1 5 := ⟨cm_Sn_doorOf, lw_bt bw_0_3 (j := 14) rfl, lw_bt bw_0_3 (j := 15) rfl, ⟨_, rfl, rfl⟩, by decide⟩
