theorem d_Sh_init : wkk prog_6_method_1_code [t_Sh_init_0] prog_6_method_1_code.data.toList 0 = true := by decide +kernel
theorem d_Sh_init_0 : ∀ q ∈ t_Sh_init_0, decode prog_6_method_1_code q.1 = .ok q.2 := wkd d_Sh_init (j := 0) rfl
theorem cm_Sh_init : CM Sh_init 0 := ⟨by decide +kernel, lw_inc (i := 107) (by decide +kernel) (by decide +kernel), in_Sh, by decide +kernel⟩
theorem ci_Sh_init : Cond.instanceMethod Sh_init.1 ∈ lw_g := lw_in (i := 106) (by decide +kernel) (by decide +kernel)
abbrev Rd_init : pY := (⟨"DoorRounds$Reader", "<init>", "()V"⟩, prog_5_method_1_code, 1, (Option.none : Option Jvm.ClassFile.FieldType), 2, 46)
def t_Rd_init_0 : List (Nat × Instr × Nat) := [(0, .aload_n 0, 1), (1, .invokespecial 3, 3), (4, .aload_n 0, 1), (5, .new 9, 3), (8, .dup, 1), (9, .iconst 0, 1), (10, .invokespecial 11, 3), (13, .putfield 14, 3), (16, .aload_n 0, 1), (17, .iconst 0, 1), (18, .putfield 20, 3), (21, .aload_n 0, 1), (22, .iconst 0, 1), (23, .putfield 24, 3), (26, .return_, 1)]
theorem d_Rd_init : wkk prog_5_method_1_code [t_Rd_init_0] prog_5_method_1_code.data.toList 0 = true := by decide +kernel
theorem d_Rd_init_0 : ∀ q ∈ t_Rd_init_0, decode prog_5_method_1_code q.1 = .ok q.2 := wkd d_Rd_init (j := 0) rfl
theorem cm_Rd_init : CM Rd_init 0 := ⟨by decide +kernel, lw_inc (i := 141) (by decide +kernel) (by decide +kernel), in_Rd, by decide +kernel⟩
theorem ci_Rd_init : Cond.instanceMethod Rd_init.1 ∈ lw_g := lw_in (i := 140) (by decide +kernel) (by decide +kernel)
abbrev D_row : pY := (⟨"DoorRounds", "row", "(II)I"⟩, prog_1_method_2_code, 3, (Option.some Jvm.ClassFile.FieldType.int), 2, 47)
def t_D_row_0 : List (Nat × Instr × Nat) := [(0, .iload_n 1, 1), (1, .invokestatic 87, 3), (4, .ifCond .eq 9, 3), (7, .iload_n 2, 1), (8, .bipush 40, 2), (10, .if_icmp .le 5, 3), (13, .iconst (-1), 1), (14, .ireturn, 1), (15, .iload_n 2, 1), (16, .ifCond .ge 9, 3), (19, .aload_n 0, 1), (20, .iconst 5, 1), (21, .invokevirtual 91, 3), (24, .ireturn, 1), (25, .aload_n 0, 1), (26, .iload_n 1, 1), (27, .invokevirtual 95, 3), (30, .iload_n 2, 1), (31, .iconst 0, 1), (32, .invokevirtual 99, 3), (35, .iload_n 2, 1), (36, .ireturn, 1)]
theorem d_D_row : wkk prog_1_method_2_code [t_D_row_0] prog_1_method_2_code.data.toList 0 = true := by decide +kernel
theorem d_D_row_0 : ∀ q ∈ t_D_row_0, decode prog_1_method_2_code q.1 = .ok q.2 := wkd d_D_row (j := 0) rfl
theorem cm_D_row : CM D_row 2 := ⟨by decide +kernel, lw_inc (i := 233) (by decide +kernel) (by decide +kernel), in_D, by decide +kernel⟩
theorem cv_D_row : CV D_row 2 7 := ⟨cm_D_row, lw_in (i := 231) (by decide +kernel) (by decide +kernel), lw_in (i := 232) (by decide +kernel) (by decide +kernel), ⟨_, rfl, rfl⟩, by decide⟩
abbrev D_isRow : pY := (⟨"DoorRounds", "isRow", "(I)Z"⟩, prog_1_method_57_code, 1, (Option.some Jvm.ClassFile.FieldType.boolean), 0, 0)
def t_D_isRow_0 : List (Nat × Instr × Nat) := [(0, .iload_n 0, 1), (1, .ifCond .lt 13, 3), (4, .iload_n 0, 1), (5, .bipush 6, 2), (7, .if_icmp .ge 7, 3), (10, .iconst 1, 1), (11, .goto 4, 3), (14, .iconst 0, 1), (15, .ireturn, 1)]
theorem d_D_isRow : wkk prog_1_method_57_code [t_D_isRow_0] prog_1_method_57_code.data.toList 0 = true := by decide +kernel
theorem d_D_isRow_0 : ∀ q ∈ t_D_isRow_0, decode prog_1_method_57_code q.1 = .ok q.2 := wkd d_D_isRow (j := 0) rfl
theorem cm_D_isRow : CM D_isRow 1 := ⟨by decide +kernel, lw_inc (i := 236) (by decide +kernel) (by decide +kernel), in_D, by decide +kernel⟩
theorem cs_D_isRow : CS D_isRow 1 := ⟨cm_D_isRow, lw_in (i := 235) (by decide +kernel) (by decide +kernel)⟩
abbrev D_found : pY := (⟨"DoorRounds", "found", "(I)I"⟩, prog_1_method_54_code, 2, (Option.some Jvm.ClassFile.FieldType.int), 0, 0)
def t_D_found_0 : List (Nat × Instr × Nat) := [(0, .iload_n 1, 1), (1, .iconst 1, 1), (2, .if_icmp .lt 23, 3), (5, .iload_n 1, 1), (6, .iconst 5, 1), (7, .if_icmp .gt 18, 3), (10, .aload_n 0, 1), (11, .iload_n 1, 1), (12, .putfield 81, 3), (15, .aload_n 0, 1), (16, .getfield 56, 3), (19, .iload_n 1, 1), (20, .dup2, 1), (21, .iaload, 1), (22, .iconst 1, 1), (23, .iadd, 1), (24, .iastore, 1), (25, .bipush (-3), 2), (27, .ireturn, 1)]
theorem d_D_found : wkk prog_1_method_54_code [t_D_found_0] prog_1_method_54_code.data.toList 0 = true := by decide +kernel
theorem d_D_found_0 : ∀ q ∈ t_D_found_0, decode prog_1_method_54_code q.1 = .ok q.2 := wkd d_D_found (j := 0) rfl
theorem cm_D_found : CM D_found 1 := ⟨by decide +kernel, lw_inc (i := 240) (by decide +kernel) (by decide +kernel), in_D, by decide +kernel⟩
theorem cv_D_found : CV D_found 1 7 := ⟨cm_D_found, lw_in (i := 239) (by decide +kernel) (by decide +kernel), lw_insel (q := (⟨"DoorRounds", "found", "(I)I"⟩, 16)) (i := 0) (by decide +kernel) (by decide +kernel), ⟨_, rfl, rfl⟩, by decide⟩
abbrev D_rowOf : pY := (⟨"DoorRounds", "rowOf", "(I)LDoorRounds$Strip;"⟩, prog_1_method_62_code, 2, (Option.some (Jvm.ClassFile.FieldType.object "DoorRounds$Strip")), 1, 20)
def t_D_rowOf_0 : List (Nat × Instr × Nat) := [(0, .iload_n 1, 1), (1, .invokestatic 87, 3), (4, .ifCond .eq 12, 3), (7, .aload_n 0, 1), (8, .getfield 11, 3), (11, .iload_n 1, 1), (12, .aaload, 1), (13, .goto 7, 3), (16, .aload_n 0, 1), (17, .getfield 21, 3), (20, .areturn, 1)]
theorem d_D_rowOf : wkk prog_1_method_62_code [t_D_rowOf_0] prog_1_method_62_code.data.toList 0 = true := by decide +kernel
theorem d_D_rowOf_0 : ∀ q ∈ t_D_rowOf_0, decode prog_1_method_62_code q.1 = .ok q.2 := wkd d_D_rowOf (j := 0) rfl
theorem cm_D_rowOf : CM D_rowOf 1 := ⟨by decide +kernel, lw_inc (i := 244) (by decide +kernel) (by decide +kernel), in_D, by decide +kernel⟩
theorem cv_D_rowOf : CV D_rowOf 1 7 := ⟨cm_D_rowOf, lw_in (i := 243) (by decide +kernel) (by decide +kernel), lw_insel (q := (⟨"DoorRounds", "rowOf", "(I)LDoorRounds$Strip;"⟩, 16)) (i := 1) (by decide +kernel) (by decide +kernel), ⟨_, rfl, rfl⟩, by decide⟩
abbrev Sp_renew : pY := (⟨"DoorRounds$Strip", "renew", "(II)V"⟩, prog_8_method_7_code, 3, (Option.none : Option Jvm.ClassFile.FieldType), 1, 25)
def t_Sp_renew_0 : List (Nat × Instr × Nat) := [(0, .aload_n 0, 1), (1, .iload_n 1, 1), (2, .aload_n 0, 1), (3, .getfield 21, 3), (6, .arraylength, 1), (7, .invokestatic 29, 3), (10, .putfield 9, 3), (13, .aload_n 0, 1), (14, .getfield 21, 3), (17, .iload_n 2, 1), (18, .invokestatic 32, 3), (21, .return_, 1)]
theorem d_Sp_renew : wkk prog_8_method_7_code [t_Sp_renew_0] prog_8_method_7_code.data.toList 0 = true := by decide +kernel
theorem d_Sp_renew_0 : ∀ q ∈ t_Sp_renew_0, decode prog_8_method_7_code q.1 = .ok q.2 := wkd d_Sp_renew (j := 0) rfl
theorem cm_Sp_renew : CM Sp_renew 2 := ⟨by decide +kernel, lw_inc (i := 248) (by decide +kernel) (by decide +kernel), in_Sp, by decide +kernel⟩
theorem cv_Sp_renew : CV Sp_renew 2 6 := ⟨cm_Sp_renew, lw_in (i := 246) (by decide +kernel) (by decide +kernel), lw_in (i := 247) (by decide +kernel) (by decide +kernel), ⟨_, rfl, rfl⟩, by decide⟩
abbrev ja_fill : pY := (⟨"java/util/Arrays", "fill", "([II)V"⟩, prog_14_method_103_code, 4, (Option.none : Option Jvm.ClassFile.FieldType), 0, 0)
def t_ja_fill_0 : List (Nat × Instr × Nat) := [(0, .iconst 0, 1), (1, .istore_n 2, 1), (2, .aload_n 0, 1), (3, .arraylength, 1), (4, .istore_n 3, 1), (5, .iload_n 2, 1), (6, .iload_n 3, 1), (7, .if_icmp .ge 13, 3), (10, .aload_n 0, 1), (11, .iload_n 2, 1), (12, .iload_n 1, 1), (13, .iastore, 1), (14, .iinc 2 1, 3), (17, .goto (-12), 3), (20, .return_, 1)]
theorem d_ja_fill : wkk prog_14_method_103_code [t_ja_fill_0] prog_14_method_103_code.data.toList 0 = true := by decide +kernel
theorem d_ja_fill_0 : ∀ q ∈ t_ja_fill_0, decode prog_14_method_103_code q.1 = .ok q.2 := wkd d_ja_fill (j := 0) rfl
theorem cm_ja_fill : CM ja_fill 2 := ⟨by decide +kernel, lw_inc (i := 254) (by decide +kernel) (by decide +kernel), in_ja, by decide +kernel⟩
theorem cs_ja_fill : CS ja_fill 2 := ⟨cm_ja_fill, lw_in (i := 253) (by decide +kernel) (by decide +kernel)⟩
abbrev ja_fillJ : pY := (⟨"java/util/Arrays", "fill", "([JJ)V"⟩, prog_14_method_101_code, 5, (Option.none : Option Jvm.ClassFile.FieldType), 0, 0)
def t_ja_fillJ_0 : List (Nat × Instr × Nat) := [(0, .iconst 0, 1), (1, .istore_n 3, 1), (2, .aload_n 0, 1), (3, .arraylength, 1), (4, .istore 4, 2), (6, .iload_n 3, 1), (7, .iload 4, 2), (9, .if_icmp .ge 13, 3), (12, .aload_n 0, 1), (13, .iload_n 3, 1), (14, .lload_n 1, 1), (15, .lastore, 1), (16, .iinc 3 1, 3), (19, .goto (-13), 3), (22, .return_, 1)]
theorem d_ja_fillJ : wkk prog_14_method_101_code [t_ja_fillJ_0] prog_14_method_101_code.data.toList 0 = true := by decide +kernel
theorem d_ja_fillJ_0 : ∀ q ∈ t_ja_fillJ_0, decode prog_14_method_101_code q.1 = .ok q.2 := wkd d_ja_fillJ (j := 0) rfl
theorem cm_ja_fillJ : CM ja_fillJ 2 := ⟨by decide +kernel, lw_inc (i := 642) (by decide +kernel) (by decide +kernel), in_ja, by decide +kernel⟩
theorem cs_ja_fillJ : CS ja_fillJ 2 := ⟨cm_ja_fillJ, lw_in (i := 641) (by decide +kernel) (by decide +kernel)⟩
abbrev D_lay : pY := (⟨"DoorRounds", "lay", "(III)I"⟩, prog_1_method_3_code, 7, (Option.some Jvm.ClassFile.FieldType.int), 2, 43)
def t_D_lay_0 : List (Nat × Instr × Nat) := [(0, .iload_n 1, 1), (1, .invokestatic 87, 3), (4, .ifCond .ne 5, 3), (7, .iconst (-1), 1), (8, .ireturn, 1), (9, .aload_n 0, 1), (10, .iload_n 1, 1), (11, .invokevirtual 95, 3), (14, .astore 4, 2), (16, .aload 4, 2), (18, .iload_n 2, 1), (19, .invokestatic 103, 3), (22, .istore 5, 2), (24, .iload 5, 2), (26, .ifCond .eq 10, 3), (29, .aload_n 0, 1), (30, .iload 5, 2), (32, .invokevirtual 91, 3), (35, .ireturn, 1), (36, .aload 4, 2), (38, .iload_n 2, 1), (39, .invokevirtual 107, 3), (42, .istore 6, 2), (44, .aload 4, 2), (46, .iload_n 2, 1), (47, .iload_n 3, 1), (48, .invokevirtual 110, 3), (51, .aload_n 0, 1), (52, .iload 6, 2), (54, .iconst 1, 1)]
def t_D_lay_1 : List (Nat × Instr × Nat) := [(55, .invokevirtual 113, 3), (58, .ireturn, 1)]
theorem d_D_lay : wkk prog_1_method_3_code [t_D_lay_0, t_D_lay_1] prog_1_method_3_code.data.toList 0 = true := by decide +kernel
theorem d_D_lay_0 : ∀ q ∈ t_D_lay_0, decode prog_1_method_3_code q.1 = .ok q.2 := wkd d_D_lay (j := 0) rfl
theorem d_D_lay_1 : ∀ q ∈ t_D_lay_1, decode prog_1_method_3_code q.1 = .ok q.2 := wkd d_D_lay (j := 1) rfl
theorem cm_D_lay : CM D_lay 3 := ⟨by decide +kernel, lw_inc (i := 258) (by decide +kernel) (by decide +kernel), in_D, by decide +kernel⟩
theorem cv_D_lay : CV D_lay 3 7 := ⟨cm_D_lay, lw_in (i := 256) (by decide +kernel) (by decide +kernel), lw_in (i := 257) (by decide +kernel) (by decide +kernel), ⟨_, rfl, rfl⟩, by decide⟩
abbrev D_placeFinding : pY := (⟨"DoorRounds", "placeFinding", "(LDoorRounds$Strip;I)I"⟩, prog_1_method_65_code, 2, (Option.some Jvm.ClassFile.FieldType.int), 1, 21)
def t_D_placeFinding_0 : List (Nat × Instr × Nat) := [(0, .aload_n 0, 1), (1, .invokevirtual 117, 3), (4, .ifCond .ne 5, 3), (7, .iconst 1, 1), (8, .ireturn, 1), (9, .aload_n 0, 1), (10, .iload_n 1, 1), (11, .invokevirtual 341, 3), (14, .ifCond .eq 7, 3), (17, .iconst 0, 1), (18, .goto 4, 3), (21, .iconst 2, 1), (22, .ireturn, 1)]
theorem d_D_placeFinding : wkk prog_1_method_65_code [t_D_placeFinding_0] prog_1_method_65_code.data.toList 0 = true := by decide +kernel
theorem d_D_placeFinding_0 : ∀ q ∈ t_D_placeFinding_0, decode prog_1_method_65_code q.1 = .ok q.2 := wkd d_D_placeFinding (j := 0) rfl
theorem cm_D_placeFinding : CM D_placeFinding 2 := ⟨by decide +kernel, lw_inc (i := 261) (by decide +kernel) (by decide +kernel), in_D, by decide +kernel⟩
theorem cs_D_placeFinding : CS D_placeFinding 2 := ⟨cm_D_placeFinding, lw_in (i := 260) (by decide +kernel) (by decide +kernel)⟩
abbrev Sp_isThere : pY := (⟨"DoorRounds$Strip", "isThere", "()Z"⟩, prog_8_method_2_code, 1, (Option.some Jvm.ClassFile.FieldType.boolean), 0, 0)
def t_Sp_isThere_0 : List (Nat × Instr × Nat) := [(0, .aload_n 0, 1), (1, .getfield 9, 3), (4, .ifCond .lt 7, 3), (7, .iconst 1, 1), (8, .goto 4, 3), (11, .iconst 0, 1), (12, .ireturn, 1)]
theorem d_Sp_isThere : wkk prog_8_method_2_code [t_Sp_isThere_0] prog_8_method_2_code.data.toList 0 = true := by decide +kernel
theorem d_Sp_isThere_0 : ∀ q ∈ t_Sp_isThere_0, decode prog_8_method_2_code q.1 = .ok q.2 := wkd d_Sp_isThere (j := 0) rfl
theorem cm_Sp_isThere : CM Sp_isThere 0 := ⟨by decide +kernel, lw_inc (i := 265) (by decide +kernel) (by decide +kernel), in_Sp, by decide +kernel⟩
theorem cv_Sp_isThere : CV Sp_isThere 0 6 := ⟨cm_Sp_isThere, lw_in (i := 263) (by decide +kernel) (by decide +kernel), lw_in (i := 264) (by decide +kernel) (by decide +kernel), ⟨_, rfl, rfl⟩, by decide⟩
abbrev Sp_has : pY := (⟨"DoorRounds$Strip", "has", "(I)Z"⟩, prog_8_method_3_code, 2, (Option.some Jvm.ClassFile.FieldType.boolean), 0, 0)
def t_Sp_has_0 : List (Nat × Instr × Nat) := [(0, .iload_n 1, 1), (1, .ifCond .lt 24, 3), (4, .iload_n 1, 1), (5, .aload_n 0, 1), (6, .getfield 9, 3), (9, .if_icmp .ge 16, 3), (12, .iload_n 1, 1), (13, .aload_n 0, 1), (14, .getfield 21, 3), (17, .arraylength, 1), (18, .if_icmp .ge 7, 3), (21, .iconst 1, 1), (22, .goto 4, 3), (25, .iconst 0, 1), (26, .ireturn, 1)]
theorem d_Sp_has : wkk prog_8_method_3_code [t_Sp_has_0] prog_8_method_3_code.data.toList 0 = true := by decide +kernel
theorem d_Sp_has_0 : ∀ q ∈ t_Sp_has_0, decode prog_8_method_3_code q.1 = .ok q.2 := wkd d_Sp_has (j := 0) rfl
theorem cm_Sp_has : CM Sp_has 1 := ⟨by decide +kernel, lw_inc (i := 269) (by decide +kernel) (by decide +kernel), in_Sp, by decide +kernel⟩
theorem cv_Sp_has : CV Sp_has 1 6 := ⟨cm_Sp_has, lw_in (i := 267) (by decide +kernel) (by decide +kernel), lw_in (i := 268) (by decide +kernel) (by decide +kernel), ⟨_, rfl, rfl⟩, by decide⟩
abbrev Sp_get : pY := (⟨"DoorRounds$Strip", "get", "(I)I"⟩, prog_8_method_5_code, 2, (Option.some Jvm.ClassFile.FieldType.int), 1, 21)
def t_Sp_get_0 : List (Nat × Instr × Nat) := [(0, .aload_n 0, 1), (1, .iload_n 1, 1), (2, .invokevirtual 25, 3), (5, .ifCond .eq 12, 3), (8, .aload_n 0, 1), (9, .getfield 21, 3), (12, .iload_n 1, 1), (13, .iaload, 1), (14, .goto 4, 3), (17, .iconst 0, 1), (18, .ireturn, 1)]
theorem d_Sp_get : wkk prog_8_method_5_code [t_Sp_get_0] prog_8_method_5_code.data.toList 0 = true := by decide +kernel
theorem d_Sp_get_0 : ∀ q ∈ t_Sp_get_0, decode prog_8_method_5_code q.1 = .ok q.2 := wkd d_Sp_get (j := 0) rfl
theorem cm_Sp_get : CM Sp_get 1 := ⟨by decide +kernel, lw_inc (i := 273) (by decide +kernel) (by decide +kernel), in_Sp, by decide +kernel⟩
theorem cv_Sp_get : CV Sp_get 1 6 := ⟨cm_Sp_get, lw_in (i := 271) (by decide +kernel) (by decide +kernel), lw_in (i := 272) (by decide +kernel) (by decide +kernel), ⟨_, rfl, rfl⟩, by decide⟩
abbrev Sp_set : pY := (⟨"DoorRounds$Strip", "set", "(II)V"⟩, prog_8_method_6_code, 3, (Option.none : Option Jvm.ClassFile.FieldType), 1, 21)
def t_Sp_set_0 : List (Nat × Instr × Nat) := [(0, .aload_n 0, 1), (1, .iload_n 1, 1), (2, .invokevirtual 25, 3), (5, .ifCond .eq 10, 3), (8, .aload_n 0, 1), (9, .getfield 21, 3), (12, .iload_n 1, 1), (13, .iload_n 2, 1), (14, .iastore, 1), (15, .return_, 1)]
theorem d_Sp_set : wkk prog_8_method_6_code [t_Sp_set_0] prog_8_method_6_code.data.toList 0 = true := by decide +kernel
theorem d_Sp_set_0 : ∀ q ∈ t_Sp_set_0, decode prog_8_method_6_code q.1 = .ok q.2 := wkd d_Sp_set (j := 0) rfl
theorem cm_Sp_set : CM Sp_set 2 := ⟨by decide +kernel, lw_inc (i := 278) (by decide +kernel) (by decide +kernel), in_Sp, by decide +kernel⟩
theorem cv_Sp_set : CV Sp_set 2 6 := ⟨cm_Sp_set, lw_in (i := 276) (by decide +kernel) (by decide +kernel), lw_in (i := 277) (by decide +kernel) (by decide +kernel), ⟨_, rfl, rfl⟩, by decide⟩
abbrev D_tell : pY := (⟨"DoorRounds", "tell", "(II)I"⟩, prog_1_method_55_code, 3, (Option.some Jvm.ClassFile.FieldType.int), 0, 0)
def t_D_tell_0 : List (Nat × Instr × Nat) := [(0, .aload_n 0, 1), (1, .iload_n 1, 1), (2, .putfield 70, 3), (5, .iload_n 2, 1), (6, .ireturn, 1)]
theorem d_D_tell : wkk prog_1_method_55_code [t_D_tell_0] prog_1_method_55_code.data.toList 0 = true := by decide +kernel
theorem d_D_tell_0 : ∀ q ∈ t_D_tell_0, decode prog_1_method_55_code q.1 = .ok q.2 := wkd d_D_tell (j := 0) rfl
theorem cm_D_tell : CM D_tell 2 := ⟨by decide +kernel, lw_inc (i := 282) (by decide +kernel) (by decide +kernel), in_D, by decide +kernel⟩
theorem cv_D_tell : CV D_tell 2 7 := ⟨cm_D_tell, lw_in (i := 281) (by decide +kernel) (by decide +kernel), lw_insel (q := (⟨"DoorRounds", "tell", "(II)I"⟩, 16)) (i := 2) (by decide +kernel) (by decide +kernel), ⟨_, rfl, rfl⟩, by decide⟩
abbrev D_at : pY := (⟨"DoorRounds", "at", "(II)I"⟩, prog_1_method_4_code, 5, (Option.some Jvm.ClassFile.FieldType.int), 2, 42)
def t_D_at_0 : List (Nat × Instr × Nat) := [(0, .iload_n 1, 1), (1, .invokestatic 87, 3), (4, .ifCond .ne 5, 3), (7, .iconst (-1), 1), (8, .ireturn, 1), (9, .aload_n 0, 1), (10, .iload_n 1, 1), (11, .invokevirtual 95, 3), (14, .astore_n 3, 1), (15, .aload_n 3, 1), (16, .iload_n 2, 1), (17, .invokestatic 103, 3), (20, .istore 4, 2), (22, .iload 4, 2), (24, .ifCond .eq 12, 3), (27, .aload_n 0, 1), (28, .iload 4, 2), (30, .invokevirtual 91, 3), (33, .goto 13, 3), (36, .aload_n 0, 1), (37, .aload_n 3, 1), (38, .iload_n 2, 1), (39, .invokevirtual 107, 3), (42, .iconst 1, 1), (43, .invokevirtual 113, 3), (46, .ireturn, 1)]
theorem d_D_at : wkk prog_1_method_4_code [t_D_at_0] prog_1_method_4_code.data.toList 0 = true := by decide +kernel
theorem d_D_at_0 : ∀ q ∈ t_D_at_0, decode prog_1_method_4_code q.1 = .ok q.2 := wkd d_D_at (j := 0) rfl
theorem cm_D_at : CM D_at 2 := ⟨by decide +kernel, lw_inc (i := 286) (by decide +kernel) (by decide +kernel), in_D, by decide +kernel⟩
theorem cv_D_at : CV D_at 2 7 := ⟨cm_D_at, lw_in (i := 284) (by decide +kernel) (by decide +kernel), lw_in (i := 285) (by decide +kernel) (by decide +kernel), ⟨_, rfl, rfl⟩, by decide⟩
abbrev D_tear : pY := (⟨"DoorRounds", "tear", "(I)I"⟩, prog_1_method_5_code, 3, (Option.some Jvm.ClassFile.FieldType.int), 2, 41)
def t_D_tear_0 : List (Nat × Instr × Nat) := [(0, .iload_n 1, 1), (1, .invokestatic 87, 3), (4, .ifCond .ne 5, 3), (7, .iconst (-1), 1), (8, .ireturn, 1), (9, .aload_n 0, 1), (10, .iload_n 1, 1), (11, .invokevirtual 95, 3), (14, .astore_n 2, 1), (15, .aload_n 2, 1), (16, .invokevirtual 117, 3), (19, .ifCond .ne 9, 3), (22, .aload_n 0, 1), (23, .iconst 1, 1), (24, .invokevirtual 91, 3), (27, .ireturn, 1), (28, .aload_n 2, 1), (29, .iconst (-1), 1), (30, .putfield 121, 3), (33, .iconst 1, 1), (34, .ireturn, 1)]
theorem d_D_tear : wkk prog_1_method_5_code [t_D_tear_0] prog_1_method_5_code.data.toList 0 = true := by decide +kernel
theorem d_D_tear_0 : ∀ q ∈ t_D_tear_0, decode prog_1_method_5_code q.1 = .ok q.2 := wkd d_D_tear (j := 0) rfl
theorem cm_D_tear : CM D_tear 1 := ⟨by decide +kernel, lw_inc (i := 290) (by decide +kernel) (by decide +kernel), in_D, by decide +kernel⟩
theorem cv_D_tear : CV D_tear 1 7 := ⟨cm_D_tear, lw_in (i := 288) (by decide +kernel) (by decide +kernel), lw_in (i := 289) (by decide +kernel) (by decide +kernel), ⟨_, rfl, rfl⟩, by decide⟩
abbrev D_copy : pY := (⟨"DoorRounds", "copy", "(IIIII)I"⟩, prog_1_method_6_code, 8, (Option.some Jvm.ClassFile.FieldType.int), 2, 41)
def t_D_copy_0 : List (Nat × Instr × Nat) := [(0, .iload_n 1, 1), (1, .invokestatic 87, 3), (4, .ifCond .eq 10, 3), (7, .iload_n 3, 1), (8, .invokestatic 87, 3), (11, .ifCond .ne 5, 3), (14, .iconst (-1), 1), (15, .ireturn, 1), (16, .iload 5, 2), (18, .ifCond .ge 9, 3), (21, .aload_n 0, 1), (22, .iconst 5, 1), (23, .invokevirtual 91, 3), (26, .ireturn, 1), (27, .aload_n 0, 1), (28, .iload_n 1, 1), (29, .invokevirtual 95, 3), (32, .astore 6, 2), (34, .aload_n 0, 1), (35, .iload_n 3, 1), (36, .invokevirtual 95, 3), (39, .astore 7, 2), (41, .aload 6, 2), (43, .invokevirtual 117, 3), (46, .ifCond .eq 11, 3), (49, .aload 7, 2), (51, .invokevirtual 117, 3), (54, .ifCond .ne 9, 3), (57, .aload_n 0, 1), (58, .iconst 1, 1)]
def t_D_copy_1 : List (Nat × Instr × Nat) := [(59, .invokevirtual 91, 3), (62, .ireturn, 1), (63, .aload 6, 2), (65, .iload_n 2, 1), (66, .iload 5, 2), (68, .invokevirtual 124, 3), (71, .ifCond .eq 15, 3), (74, .aload 7, 2), (76, .iload 4, 2), (78, .iload 5, 2), (80, .invokevirtual 124, 3), (83, .ifCond .ne 9, 3), (86, .aload_n 0, 1), (87, .iconst 2, 1), (88, .invokevirtual 91, 3), (91, .ireturn, 1), (92, .aload 6, 2), (94, .getfield 128, 3), (97, .iload_n 2, 1), (98, .aload 7, 2), (100, .getfield 128, 3), (103, .iload 4, 2), (105, .iload 5, 2), (107, .invokestatic 131, 3), (110, .iconst 1, 1), (111, .ireturn, 1)]
theorem d_D_copy : wkk prog_1_method_6_code [t_D_copy_0, t_D_copy_1] prog_1_method_6_code.data.toList 0 = true := by decide +kernel
theorem d_D_copy_0 : ∀ q ∈ t_D_copy_0, decode prog_1_method_6_code q.1 = .ok q.2 := wkd d_D_copy (j := 0) rfl
theorem d_D_copy_1 : ∀ q ∈ t_D_copy_1, decode prog_1_method_6_code q.1 = .ok q.2 := wkd d_D_copy (j := 1) rfl
theorem cm_D_copy : CM D_copy 5 := ⟨by decide +kernel, lw_inc (i := 294) (by decide +kernel) (by decide +kernel), in_D, by decide +kernel⟩
theorem cv_D_copy : CV D_copy 5 7 := ⟨cm_D_copy, lw_in (i := 292) (by decide +kernel) (by decide +kernel), lw_in (i := 293) (by decide +kernel) (by decide +kernel), ⟨_, rfl, rfl⟩, by decide⟩
abbrev Sp_holds : pY := (⟨"DoorRounds$Strip", "holds", "(II)Z"⟩, prog_8_method_4_code, 3, (Option.some Jvm.ClassFile.FieldType.boolean), 0, 0)
def t_Sp_holds_0 : List (Nat × Instr × Nat) := [(0, .iload_n 1, 1), (1, .ifCond .lt 21, 3), (4, .iload_n 2, 1), (5, .ifCond .lt 17, 3), (8, .iload_n 1, 1), (9, .aload_n 0, 1), (10, .getfield 9, 3), (13, .iload_n 2, 1), (14, .isub, 1), (15, .if_icmp .gt 7, 3), (18, .iconst 1, 1), (19, .goto 4, 3), (22, .iconst 0, 1), (23, .ireturn, 1)]
theorem d_Sp_holds : wkk prog_8_method_4_code [t_Sp_holds_0] prog_8_method_4_code.data.toList 0 = true := by decide +kernel
theorem d_Sp_holds_0 : ∀ q ∈ t_Sp_holds_0, decode prog_8_method_4_code q.1 = .ok q.2 := wkd d_Sp_holds (j := 0) rfl
theorem cm_Sp_holds : CM Sp_holds 2 := ⟨by decide +kernel, lw_inc (i := 298) (by decide +kernel) (by decide +kernel), in_Sp, by decide +kernel⟩
theorem cv_Sp_holds : CV Sp_holds 2 6 := ⟨cm_Sp_holds, lw_in (i := 296) (by decide +kernel) (by decide +kernel), lw_in (i := 297) (by decide +kernel) (by decide +kernel), ⟨_, rfl, rfl⟩, by decide⟩
abbrev D_mean : pY := (⟨"DoorRounds", "mean", "(I)I"⟩, prog_1_method_7_code, 4, (Option.some Jvm.ClassFile.FieldType.int), 3, 65)
def t_D_mean_0 : List (Nat × Instr × Nat) := [(0, .iload_n 1, 1), (1, .invokestatic 87, 3), (4, .ifCond .ne 5, 3), (7, .iconst (-1), 1), (8, .ireturn, 1), (9, .aload_n 0, 1), (10, .iload_n 1, 1), (11, .invokevirtual 95, 3), (14, .astore_n 2, 1), (15, .aload_n 2, 1), (16, .invokevirtual 117, 3), (19, .ifCond .ne 9, 3), (22, .aload_n 0, 1), (23, .iconst 1, 1), (24, .invokevirtual 91, 3), (27, .ireturn, 1), (28, .aload_n 2, 1), (29, .getfield 121, 3), (32, .istore_n 3, 1), (33, .iload_n 3, 1), (34, .ifCond .gt 9, 3), (37, .aload_n 0, 1), (38, .iconst 4, 1), (39, .invokevirtual 91, 3), (42, .ireturn, 1), (43, .aload_n 0, 1), (44, .aload_n 2, 1), (45, .invokevirtual 137, 3), (48, .iload_n 3, 1), (49, .i2l, 1)]
def t_D_mean_1 : List (Nat × Instr × Nat) := [(50, .ldiv, 1), (51, .l2i, 1), (52, .iconst 1, 1), (53, .invokevirtual 113, 3), (56, .ireturn, 1)]
theorem d_D_mean : wkk prog_1_method_7_code [t_D_mean_0, t_D_mean_1] prog_1_method_7_code.data.toList 0 = true := by decide +kernel
theorem d_D_mean_0 : ∀ q ∈ t_D_mean_0, decode prog_1_method_7_code q.1 = .ok q.2 := wkd d_D_mean (j := 0) rfl
theorem d_D_mean_1 : ∀ q ∈ t_D_mean_1, decode prog_1_method_7_code q.1 = .ok q.2 := wkd d_D_mean (j := 1) rfl
theorem cm_D_mean : CM D_mean 1 := ⟨by decide +kernel, lw_inc (i := 305) (by decide +kernel) (by decide +kernel), in_D, by decide +kernel⟩
theorem cv_D_mean : CV D_mean 1 7 := ⟨cm_D_mean, lw_in (i := 303) (by decide +kernel) (by decide +kernel), lw_in (i := 304) (by decide +kernel) (by decide +kernel), ⟨_, rfl, rfl⟩, by decide⟩
abbrev Sp_sum : pY := (⟨"DoorRounds$Strip", "sum", "()J"⟩, prog_8_method_8_code, 4, (Option.some Jvm.ClassFile.FieldType.long), 2, 42)
def t_Sp_sum_0 : List (Nat × Instr × Nat) := [(0, .lconst 0, 1), (1, .lstore_n 1, 1), (2, .iconst 0, 1), (3, .istore_n 3, 1), (4, .iload_n 3, 1), (5, .aload_n 0, 1), (6, .getfield 9, 3), (9, .if_icmp .ge 18, 3), (12, .lload_n 1, 1), (13, .aload_n 0, 1), (14, .iload_n 3, 1), (15, .invokevirtual 38, 3), (18, .i2l, 1), (19, .ladd, 1), (20, .lstore_n 1, 1), (21, .iinc 3 1, 3), (24, .goto (-20), 3), (27, .lload_n 1, 1), (28, .lreturn, 1)]
theorem d_Sp_sum : wkk prog_8_method_8_code [t_Sp_sum_0] prog_8_method_8_code.data.toList 0 = true := by decide +kernel
theorem d_Sp_sum_0 : ∀ q ∈ t_Sp_sum_0, decode prog_8_method_8_code q.1 = .ok q.2 := wkd d_Sp_sum (j := 0) rfl
theorem cm_Sp_sum : CM Sp_sum 0 := ⟨by decide +kernel, lw_inc (i := 309) (by decide +kernel) (by decide +kernel), in_Sp, by decide +kernel⟩
theorem cv_Sp_sum : CV Sp_sum 0 6 := ⟨cm_Sp_sum, lw_in (i := 307) (by decide +kernel) (by decide +kernel), lw_in (i := 308) (by decide +kernel) (by decide +kernel), ⟨_, rfl, rfl⟩, by decide⟩
abbrev D_text : pY := (⟨"DoorRounds", "text", "(II)I"⟩, prog_1_method_8_code, 3, (Option.some Jvm.ClassFile.FieldType.int), 2, 47)
def t_D_text_0 : List (Nat × Instr × Nat) := [(0, .iload_n 1, 1), (1, .invokestatic 141, 3), (4, .ifCond .eq 9, 3), (7, .iload_n 2, 1), (8, .bipush 100, 2), (10, .if_icmp .le 5, 3), (13, .iconst (-1), 1), (14, .ireturn, 1), (15, .iload_n 2, 1), (16, .ifCond .ge 9, 3), (19, .aload_n 0, 1), (20, .iconst 5, 1), (21, .invokevirtual 91, 3), (24, .ireturn, 1), (25, .aload_n 0, 1), (26, .iload_n 1, 1), (27, .invokevirtual 144, 3), (30, .iload_n 2, 1), (31, .bipush 32, 2), (33, .invokevirtual 99, 3), (36, .iload_n 2, 1), (37, .ireturn, 1)]
theorem d_D_text : wkk prog_1_method_8_code [t_D_text_0] prog_1_method_8_code.data.toList 0 = true := by decide +kernel
theorem d_D_text_0 : ∀ q ∈ t_D_text_0, decode prog_1_method_8_code q.1 = .ok q.2 := wkd d_D_text (j := 0) rfl
theorem cm_D_text : CM D_text 2 := ⟨by decide +kernel, lw_inc (i := 314) (by decide +kernel) (by decide +kernel), in_D, by decide +kernel⟩
theorem cv_D_text : CV D_text 2 7 := ⟨cm_D_text, lw_in (i := 312) (by decide +kernel) (by decide +kernel), lw_in (i := 313) (by decide +kernel) (by decide +kernel), ⟨_, rfl, rfl⟩, by decide⟩
abbrev D_isText : pY := (⟨"DoorRounds", "isText", "(I)Z"⟩, prog_1_method_58_code, 1, (Option.some Jvm.ClassFile.FieldType.boolean), 0, 0)
def t_D_isText_0 : List (Nat × Instr × Nat) := [(0, .iload_n 0, 1), (1, .ifCond .lt 12, 3), (4, .iload_n 0, 1), (5, .iconst 4, 1), (6, .if_icmp .ge 7, 3), (9, .iconst 1, 1), (10, .goto 4, 3), (13, .iconst 0, 1), (14, .ireturn, 1)]
theorem d_D_isText : wkk prog_1_method_58_code [t_D_isText_0] prog_1_method_58_code.data.toList 0 = true := by decide +kernel
theorem d_D_isText_0 : ∀ q ∈ t_D_isText_0, decode prog_1_method_58_code q.1 = .ok q.2 := wkd d_D_isText (j := 0) rfl
theorem cm_D_isText : CM D_isText 1 := ⟨by decide +kernel, lw_inc (i := 317) (by decide +kernel) (by decide +kernel), in_D, by decide +kernel⟩
theorem cs_D_isText : CS D_isText 1 := ⟨cm_D_isText, lw_in (i := 316) (by decide +kernel) (by decide +kernel)⟩
abbrev D_textOf : pY := (⟨"DoorRounds", "textOf", "(I)LDoorRounds$Strip;"⟩, prog_1_method_63_code, 2, (Option.some (Jvm.ClassFile.FieldType.object "DoorRounds$Strip")), 1, 20)
def t_D_textOf_0 : List (Nat × Instr × Nat) := [(0, .iload_n 1, 1), (1, .invokestatic 141, 3), (4, .ifCond .eq 12, 3), (7, .aload_n 0, 1), (8, .getfield 15, 3), (11, .iload_n 1, 1), (12, .aaload, 1), (13, .goto 7, 3), (16, .aload_n 0, 1), (17, .getfield 21, 3), (20, .areturn, 1)]
theorem d_D_textOf : wkk prog_1_method_63_code [t_D_textOf_0] prog_1_method_63_code.data.toList 0 = true := by decide +kernel
theorem d_D_textOf_0 : ∀ q ∈ t_D_textOf_0, decode prog_1_method_63_code q.1 = .ok q.2 := wkd d_D_textOf (j := 0) rfl
theorem cm_D_textOf : CM D_textOf 1 := ⟨by decide +kernel, lw_inc (i := 321) (by decide +kernel) (by decide +kernel), in_D, by decide +kernel⟩
theorem cv_D_textOf : CV D_textOf 1 7 := ⟨cm_D_textOf, lw_in (i := 320) (by decide +kernel) (by decide +kernel), lw_insel (q := (⟨"DoorRounds", "textOf", "(I)LDoorRounds$Strip;"⟩, 16)) (i := 3) (by decide +kernel) (by decide +kernel), ⟨_, rfl, rfl⟩, by decide⟩
abbrev D_put : pY := (⟨"DoorRounds", "put", "(III)I"⟩, prog_1_method_9_code, 7, (Option.some Jvm.ClassFile.FieldType.int), 2, 43)
def t_D_put_0 : List (Nat × Instr × Nat) := [(0, .iload_n 1, 1), (1, .invokestatic 141, 3), (4, .ifCond .ne 5, 3), (7, .iconst (-1), 1), (8, .ireturn, 1), (9, .aload_n 0, 1), (10, .iload_n 1, 1), (11, .invokevirtual 144, 3), (14, .astore 4, 2), (16, .aload 4, 2), (18, .iload_n 2, 1), (19, .invokestatic 103, 3), (22, .istore 5, 2), (24, .iload 5, 2), (26, .ifCond .eq 10, 3), (29, .aload_n 0, 1), (30, .iload 5, 2), (32, .invokevirtual 91, 3), (35, .ireturn, 1), (36, .aload 4, 2), (38, .iload_n 2, 1), (39, .invokevirtual 107, 3), (42, .istore 6, 2), (44, .aload 4, 2), (46, .iload_n 2, 1), (47, .iload_n 3, 1), (48, .i2b, 1), (49, .invokevirtual 110, 3), (52, .iload 6, 2), (54, .sipush 1000, 3)]
def t_D_put_1 : List (Nat × Instr × Nat) := [(57, .iadd, 1), (58, .ireturn, 1)]
theorem d_D_put : wkk prog_1_method_9_code [t_D_put_0, t_D_put_1] prog_1_method_9_code.data.toList 0 = true := by decide +kernel
theorem d_D_put_0 : ∀ q ∈ t_D_put_0, decode prog_1_method_9_code q.1 = .ok q.2 := wkd d_D_put (j := 0) rfl
theorem d_D_put_1 : ∀ q ∈ t_D_put_1, decode prog_1_method_9_code q.1 = .ok q.2 := wkd d_D_put (j := 1) rfl
theorem cm_D_put : CM D_put 3 := ⟨by decide +kernel, lw_inc (i := 325) (by decide +kernel) (by decide +kernel), in_D, by decide +kernel⟩
theorem cv_D_put : CV D_put 3 7 := ⟨cm_D_put, lw_in (i := 323) (by decide +kernel) (by decide +kernel), lw_in (i := 324) (by decide +kernel) (by decide +kernel), ⟨_, rfl, rfl⟩, by decide⟩
abbrev D_fault : pY := (⟨"DoorRounds", "fault", "(I)I"⟩, prog_1_method_10_code, 3, (Option.some Jvm.ClassFile.FieldType.int), 6, 131)
def t_D_fault_0 : List (Nat × Instr × Nat) := [(0, .iload_n 1, 1), (1, .invokestatic 141, 3), (4, .ifCond .ne 5, 3), (7, .iconst (-1), 1), (8, .ireturn, 1), (9, .aload_n 0, 1), (10, .iload_n 1, 1), (11, .invokevirtual 144, 3), (14, .astore_n 2, 1), (15, .aload_n 2, 1), (16, .invokevirtual 117, 3), (19, .ifCond .eq 14, 3), (22, .aload_n 0, 1), (23, .getfield 67, 3), (26, .aload_n 2, 1), (27, .invokevirtual 147, 3), (30, .goto 8, 3), (33, .aload_n 0, 1), (34, .iconst 1, 1), (35, .invokevirtual 91, 3), (38, .ireturn, 1)]
theorem d_D_fault : wkk prog_1_method_10_code [t_D_fault_0] prog_1_method_10_code.data.toList 0 = true := by decide +kernel
theorem d_D_fault_0 : ∀ q ∈ t_D_fault_0, decode prog_1_method_10_code q.1 = .ok q.2 := wkd d_D_fault (j := 0) rfl
theorem cm_D_fault : CM D_fault 1 := ⟨by decide +kernel, lw_inc (i := 329) (by decide +kernel) (by decide +kernel), in_D, by decide +kernel⟩
theorem cv_D_fault : CV D_fault 1 7 := ⟨cm_D_fault, lw_in (i := 327) (by decide +kernel) (by decide +kernel), lw_in (i := 328) (by decide +kernel) (by decide +kernel), ⟨_, rfl, rfl⟩, by decide⟩
abbrev Pl_read : pY := (⟨"DoorRounds$Plan", "read", "(LDoorRounds$Strip;)I"⟩, prog_4_method_14_code, 3, (Option.some Jvm.ClassFile.FieldType.int), 5, 109)
def t_Pl_read_0 : List (Nat × Instr × Nat) := [(0, .aload_n 0, 1), (1, .iconst 0, 1), (2, .putfield 9, 3), (5, .aload_n 0, 1), (6, .iconst 0, 1), (7, .putfield 15, 3), (10, .aload_n 0, 1), (11, .getfield 36, 3), (14, .aload_n 1, 1), (15, .invokevirtual 75, 3), (18, .aload_n 0, 1), (19, .getfield 36, 3), (22, .invokevirtual 79, 3), (25, .aload_n 0, 1), (26, .getfield 36, 3), (29, .bipush 100, 2), (31, .invokevirtual 82, 3), (34, .ifCond .eq 19, 3), (37, .aload_n 0, 1), (38, .getfield 36, 3), (41, .iconst 2, 1), (42, .iconst 2, 1), (43, .bipush 10, 2), (45, .bipush 30, 2), (47, .invokevirtual 85, 3), (50, .ifCond .ne 11, 3), (53, .aload_n 0, 1), (54, .getfield 36, 3), (57, .getfield 89, 3), (60, .ireturn, 1)]
def t_Pl_read_1 : List (Nat × Instr × Nat) := [(61, .aload_n 0, 1), (62, .aload_n 0, 1), (63, .getfield 36, 3), (66, .getfield 92, 3), (69, .putfield 9, 3), (72, .aload_n 0, 1), (73, .getfield 36, 3), (76, .invokevirtual 79, 3), (79, .iconst 0, 1), (80, .istore_n 2, 1), (81, .iload_n 2, 1), (82, .bipush 7, 2), (84, .if_icmp .ge 54, 3), (87, .aload_n 0, 1), (88, .getfield 36, 3), (91, .invokevirtual 95, 3), (94, .ifCond .ne 44, 3), (97, .aload_n 0, 1), (98, .aload_n 0, 1), (99, .getfield 20, 3), (102, .iload_n 2, 1), (103, .aaload, 1), (104, .invokevirtual 99, 3), (107, .ifCond .ne 11, 3), (110, .aload_n 0, 1), (111, .getfield 36, 3), (114, .getfield 89, 3), (117, .ireturn, 1), (118, .aload_n 0, 1), (119, .iload_n 2, 1)]
def t_Pl_read_2 : List (Nat × Instr × Nat) := [(120, .iconst 1, 1), (121, .iadd, 1), (122, .putfield 15, 3), (125, .aload_n 0, 1), (126, .getfield 36, 3), (129, .invokevirtual 79, 3), (132, .iinc 2 1, 3), (135, .goto (-54), 3), (138, .aload_n 0, 1), (139, .getfield 36, 3), (142, .invokevirtual 95, 3), (145, .ifCond .eq 8, 3), (148, .bipush (-9), 2), (150, .goto 10, 3), (153, .aload_n 0, 1), (154, .getfield 36, 3), (157, .getfield 89, 3), (160, .ireturn, 1)]
theorem d_Pl_read : wkk prog_4_method_14_code [t_Pl_read_0, t_Pl_read_1, t_Pl_read_2] prog_4_method_14_code.data.toList 0 = true := by decide +kernel
theorem d_Pl_read_0 : ∀ q ∈ t_Pl_read_0, decode prog_4_method_14_code q.1 = .ok q.2 := wkd d_Pl_read (j := 0) rfl
theorem d_Pl_read_1 : ∀ q ∈ t_Pl_read_1, decode prog_4_method_14_code q.1 = .ok q.2 := wkd d_Pl_read (j := 1) rfl
theorem d_Pl_read_2 : ∀ q ∈ t_Pl_read_2, decode prog_4_method_14_code q.1 = .ok q.2 := wkd d_Pl_read (j := 2) rfl
theorem cm_Pl_read : CM Pl_read 1 := ⟨by decide +kernel, lw_inc (i := 333) (by decide +kernel) (by decide +kernel), in_Pl, by decide +kernel⟩
theorem cv_Pl_read : CV Pl_read 1 2 := ⟨cm_Pl_read, lw_in (i := 331) (by decide +kernel) (by decide +kernel), lw_in (i := 332) (by decide +kernel) (by decide +kernel), ⟨_, rfl, rfl⟩, by decide⟩
abbrev Rd_begin : pY := (⟨"DoorRounds$Reader", "begin", "(LDoorRounds$Strip;)V"⟩, prog_5_method_2_code, 2, (Option.none : Option Jvm.ClassFile.FieldType), 0, 0)
def t_Rd_begin_0 : List (Nat × Instr × Nat) := [(0, .aload_n 0, 1), (1, .aload_n 1, 1), (2, .putfield 14, 3), (5, .aload_n 0, 1), (6, .iconst 0, 1), (7, .putfield 20, 3), (10, .return_, 1)]
theorem d_Rd_begin : wkk prog_5_method_2_code [t_Rd_begin_0] prog_5_method_2_code.data.toList 0 = true := by decide +kernel
theorem d_Rd_begin_0 : ∀ q ∈ t_Rd_begin_0, decode prog_5_method_2_code q.1 = .ok q.2 := wkd d_Rd_begin (j := 0) rfl
theorem cm_Rd_begin : CM Rd_begin 1 := ⟨by decide +kernel, lw_inc (i := 337) (by decide +kernel) (by decide +kernel), in_Rd, by decide +kernel⟩
theorem cv_Rd_begin : CV Rd_begin 1 3 := ⟨cm_Rd_begin, lw_in (i := 335) (by decide +kernel) (by decide +kernel), lw_in (i := 336) (by decide +kernel) (by decide +kernel), ⟨_, rfl, rfl⟩, by decide⟩
abbrev Rd_skipBlanks : pY := (⟨"DoorRounds$Reader", "skipBlanks", "()V"⟩, prog_5_method_4_code, 1, (Option.none : Option Jvm.ClassFile.FieldType), 2, 42)
def t_Rd_skipBlanks_0 : List (Nat × Instr × Nat) := [(0, .aload_n 0, 1), (1, .getfield 20, 3), (4, .aload_n 0, 1), (5, .getfield 14, 3), (8, .getfield 27, 3), (11, .if_icmp .ge 32, 3), (14, .aload_n 0, 1), (15, .getfield 14, 3), (18, .aload_n 0, 1), (19, .getfield 20, 3), (22, .invokevirtual 30, 3), (25, .bipush 32, 2), (27, .if_icmp .ne 16, 3), (30, .aload_n 0, 1), (31, .dup, 1), (32, .getfield 20, 3), (35, .iconst 1, 1), (36, .iadd, 1), (37, .putfield 20, 3), (40, .goto (-40), 3), (43, .return_, 1)]
theorem d_Rd_skipBlanks : wkk prog_5_method_4_code [t_Rd_skipBlanks_0] prog_5_method_4_code.data.toList 0 = true := by decide +kernel
theorem d_Rd_skipBlanks_0 : ∀ q ∈ t_Rd_skipBlanks_0, decode prog_5_method_4_code q.1 = .ok q.2 := wkd d_Rd_skipBlanks (j := 0) rfl
theorem cm_Rd_skipBlanks : CM Rd_skipBlanks 0 := ⟨by decide +kernel, lw_inc (i := 341) (by decide +kernel) (by decide +kernel), in_Rd, by decide +kernel⟩
theorem cv_Rd_skipBlanks : CV Rd_skipBlanks 0 3 := ⟨cm_Rd_skipBlanks, lw_in (i := 339) (by decide +kernel) (by decide +kernel), lw_in (i := 340) (by decide +kernel) (by decide +kernel), ⟨_, rfl, rfl⟩, by decide⟩
abbrev Rd_passes : pY := (⟨"DoorRounds$Reader", "passes", "(I)Z"⟩, prog_5_method_5_code, 2, (Option.some Jvm.ClassFile.FieldType.boolean), 2, 42)
def t_Rd_passes_0 : List (Nat × Instr × Nat) := [(0, .aload_n 0, 1), (1, .invokevirtual 34, 3), (4, .ifCond .ne 18, 3), (7, .aload_n 0, 1), (8, .getfield 14, 3), (11, .aload_n 0, 1), (12, .getfield 20, 3), (15, .invokevirtual 30, 3), (18, .iload_n 1, 1), (19, .if_icmp .eq 5, 3), (22, .iconst 0, 1), (23, .ireturn, 1), (24, .aload_n 0, 1), (25, .dup, 1), (26, .getfield 20, 3), (29, .iconst 1, 1), (30, .iadd, 1), (31, .putfield 20, 3), (34, .iconst 1, 1), (35, .ireturn, 1)]
theorem d_Rd_passes : wkk prog_5_method_5_code [t_Rd_passes_0] prog_5_method_5_code.data.toList 0 = true := by decide +kernel
theorem d_Rd_passes_0 : ∀ q ∈ t_Rd_passes_0, decode prog_5_method_5_code q.1 = .ok q.2 := wkd d_Rd_passes (j := 0) rfl
theorem cm_Rd_passes : CM Rd_passes 1 := ⟨by decide +kernel, lw_inc (i := 346) (by decide +kernel) (by decide +kernel), in_Rd, by decide +kernel⟩
theorem cv_Rd_passes : CV Rd_passes 1 3 := ⟨cm_Rd_passes, lw_in (i := 344) (by decide +kernel) (by decide +kernel), lw_in (i := 345) (by decide +kernel) (by decide +kernel), ⟨_, rfl, rfl⟩, by decide⟩
abbrev Rd_isAtEnd : pY := (⟨"DoorRounds$Reader", "isAtEnd", "()Z"⟩, prog_5_method_3_code, 1, (Option.some Jvm.ClassFile.FieldType.boolean), 0, 0)
def t_Rd_isAtEnd_0 : List (Nat × Instr × Nat) := [(0, .aload_n 0, 1), (1, .getfield 20, 3), (4, .aload_n 0, 1), (5, .getfield 14, 3), (8, .getfield 27, 3), (11, .if_icmp .lt 7, 3), (14, .iconst 1, 1), (15, .goto 4, 3), (18, .iconst 0, 1), (19, .ireturn, 1)]
theorem d_Rd_isAtEnd : wkk prog_5_method_3_code [t_Rd_isAtEnd_0] prog_5_method_3_code.data.toList 0 = true := by decide +kernel
theorem d_Rd_isAtEnd_0 : ∀ q ∈ t_Rd_isAtEnd_0, decode prog_5_method_3_code q.1 = .ok q.2 := wkd d_Rd_isAtEnd (j := 0) rfl
theorem cm_Rd_isAtEnd : CM Rd_isAtEnd 0 := ⟨by decide +kernel, lw_inc (i := 350) (by decide +kernel) (by decide +kernel), in_Rd, by decide +kernel⟩
theorem cv_Rd_isAtEnd : CV Rd_isAtEnd 0 3 := ⟨cm_Rd_isAtEnd, lw_in (i := 348) (by decide +kernel) (by decide +kernel), lw_in (i := 349) (by decide +kernel) (by decide +kernel), ⟨_, rfl, rfl⟩, by decide⟩
abbrev Rd_readNumber : pY := (⟨"DoorRounds$Reader", "readNumber", "(IIII)Z"⟩, prog_5_method_7_code, 6, (Option.some Jvm.ClassFile.FieldType.boolean), 2, 42)
def t_Rd_readNumber_0 : List (Nat × Instr × Nat) := [(0, .iconst 0, 1), (1, .istore 5, 2), (3, .aload_n 0, 1), (4, .iconst 0, 1), (5, .putfield 24, 3), (8, .iload 5, 2), (10, .iload_n 2, 1), (11, .if_icmp .ge 62, 3), (14, .aload_n 0, 1), (15, .getfield 14, 3), (18, .aload_n 0, 1), (19, .getfield 20, 3), (22, .invokevirtual 30, 3), (25, .invokestatic 38, 3), (28, .ifCond .eq 45, 3), (31, .aload_n 0, 1), (32, .bipush 10, 2), (34, .aload_n 0, 1), (35, .getfield 24, 3), (38, .imul, 1), (39, .aload_n 0, 1), (40, .getfield 14, 3), (43, .aload_n 0, 1), (44, .getfield 20, 3), (47, .invokevirtual 30, 3), (50, .iadd, 1), (51, .bipush 48, 2), (53, .isub, 1), (54, .putfield 24, 3), (57, .aload_n 0, 1)]
def t_Rd_readNumber_1 : List (Nat × Instr × Nat) := [(58, .dup, 1), (59, .getfield 20, 3), (62, .iconst 1, 1), (63, .iadd, 1), (64, .putfield 20, 3), (67, .iinc 5 1, 3), (70, .goto (-62), 3), (73, .iload 5, 2), (75, .iload_n 1, 1), (76, .if_icmp .lt 24, 3), (79, .aload_n 0, 1), (80, .getfield 24, 3), (83, .iload_n 3, 1), (84, .if_icmp .lt 16, 3), (87, .aload_n 0, 1), (88, .getfield 24, 3), (91, .iload 4, 2), (93, .if_icmp .gt 7, 3), (96, .iconst 1, 1), (97, .goto 4, 3), (100, .iconst 0, 1), (101, .ireturn, 1)]
theorem d_Rd_readNumber : wkk prog_5_method_7_code [t_Rd_readNumber_0, t_Rd_readNumber_1] prog_5_method_7_code.data.toList 0 = true := by decide +kernel
theorem d_Rd_readNumber_0 : ∀ q ∈ t_Rd_readNumber_0, decode prog_5_method_7_code q.1 = .ok q.2 := wkd d_Rd_readNumber (j := 0) rfl
theorem d_Rd_readNumber_1 : ∀ q ∈ t_Rd_readNumber_1, decode prog_5_method_7_code q.1 = .ok q.2 := wkd d_Rd_readNumber (j := 1) rfl
theorem cm_Rd_readNumber : CM Rd_readNumber 4 := ⟨by decide +kernel, lw_inc (i := 354) (by decide +kernel) (by decide +kernel), in_Rd, by decide +kernel⟩
theorem cv_Rd_readNumber : CV Rd_readNumber 4 3 := ⟨cm_Rd_readNumber, lw_in (i := 352) (by decide +kernel) (by decide +kernel), lw_in (i := 353) (by decide +kernel) (by decide +kernel), ⟨_, rfl, rfl⟩, by decide⟩
abbrev Rd_isFigure : pY := (⟨"DoorRounds$Reader", "isFigure", "(I)Z"⟩, prog_5_method_6_code, 1, (Option.some Jvm.ClassFile.FieldType.boolean), 0, 0)
def t_Rd_isFigure_0 : List (Nat × Instr × Nat) := [(0, .iload_n 0, 1), (1, .bipush 48, 2), (3, .if_icmp .lt 13, 3), (6, .iload_n 0, 1), (7, .bipush 57, 2), (9, .if_icmp .gt 7, 3), (12, .iconst 1, 1), (13, .goto 4, 3), (16, .iconst 0, 1), (17, .ireturn, 1)]
theorem d_Rd_isFigure : wkk prog_5_method_6_code [t_Rd_isFigure_0] prog_5_method_6_code.data.toList 0 = true := by decide +kernel
theorem d_Rd_isFigure_0 : ∀ q ∈ t_Rd_isFigure_0, decode prog_5_method_6_code q.1 = .ok q.2 := wkd d_Rd_isFigure (j := 0) rfl
theorem cm_Rd_isFigure : CM Rd_isFigure 1 := ⟨by decide +kernel, lw_inc (i := 357) (by decide +kernel) (by decide +kernel), in_Rd, by decide +kernel⟩
theorem cs_Rd_isFigure : CS Rd_isFigure 1 := ⟨cm_Rd_isFigure, lw_in (i := 356) (by decide +kernel) (by decide +kernel)⟩
abbrev Pl_readShop : pY := (⟨"DoorRounds$Plan", "readShop", "(LDoorRounds$Shop;)Z"⟩, prog_4_method_15_code, 2, (Option.some Jvm.ClassFile.FieldType.boolean), 4, 88)
def t_Pl_readShop_0 : List (Nat × Instr × Nat) := [(0, .aload_n 0, 1), (1, .getfield 36, 3), (4, .invokevirtual 103, 3), (7, .ifCond .ne 5, 3), (10, .iconst 0, 1), (11, .ireturn, 1), (12, .aload_n 1, 1), (13, .aload_n 0, 1), (14, .getfield 36, 3), (17, .getfield 92, 3), (20, .putfield 106, 3), (23, .aload_n 0, 1), (24, .getfield 36, 3), (27, .iconst 1, 1), (28, .iconst 2, 1), (29, .iconst 0, 1), (30, .aload_n 0, 1), (31, .getfield 9, 3), (34, .iconst 1, 1), (35, .isub, 1), (36, .invokevirtual 85, 3), (39, .ifCond .eq 17, 3), (42, .aload_n 0, 1), (43, .aload_n 0, 1), (44, .getfield 36, 3), (47, .getfield 92, 3), (50, .invokevirtual 109, 3), (53, .ifCond .eq 5, 3), (56, .iconst 0, 1), (57, .ireturn, 1)]
def t_Pl_readShop_1 : List (Nat × Instr × Nat) := [(58, .aload_n 1, 1), (59, .aload_n 0, 1), (60, .getfield 36, 3), (63, .getfield 92, 3), (66, .putfield 72, 3), (69, .aload_n 0, 1), (70, .getfield 36, 3), (73, .bipush 58, 2), (75, .invokevirtual 82, 3), (78, .ifCond .eq 13, 3), (81, .aload_n 0, 1), (82, .getfield 36, 3), (85, .invokevirtual 112, 3), (88, .ifCond .ne 5, 3), (91, .iconst 0, 1), (92, .ireturn, 1), (93, .aload_n 1, 1), (94, .aload_n 0, 1), (95, .getfield 36, 3), (98, .getfield 92, 3), (101, .putfield 115, 3), (104, .aload_n 0, 1), (105, .getfield 36, 3), (108, .bipush 58, 2), (110, .invokevirtual 82, 3), (113, .ifCond .eq 18, 3), (116, .aload_n 0, 1), (117, .getfield 36, 3), (120, .iconst 1, 1), (121, .iconst 2, 1)]
def t_Pl_readShop_2 : List (Nat × Instr × Nat) := [(122, .iconst 1, 1), (123, .bipush 99, 2), (125, .invokevirtual 85, 3), (128, .ifCond .ne 5, 3), (131, .iconst 0, 1), (132, .ireturn, 1), (133, .aload_n 1, 1), (134, .aload_n 0, 1), (135, .getfield 36, 3), (138, .getfield 92, 3), (141, .putfield 118, 3), (144, .aload_n 1, 1), (145, .iconst 0, 1), (146, .putfield 121, 3), (149, .aload_n 1, 1), (150, .getfield 106, 3), (153, .iconst 3, 1), (154, .if_icmp .lt 43, 3), (157, .aload_n 0, 1), (158, .getfield 36, 3), (161, .bipush 58, 2), (163, .invokevirtual 82, 3), (166, .ifCond .eq 18, 3), (169, .aload_n 0, 1), (170, .getfield 36, 3), (173, .iconst 1, 1), (174, .iconst 1, 1), (175, .iconst 2, 1), (176, .bipush 9, 2), (178, .invokevirtual 85, 3)]
def t_Pl_readShop_3 : List (Nat × Instr × Nat) := [(181, .ifCond .ne 5, 3), (184, .iconst 0, 1), (185, .ireturn, 1), (186, .aload_n 1, 1), (187, .aload_n 0, 1), (188, .getfield 36, 3), (191, .getfield 92, 3), (194, .putfield 121, 3), (197, .iconst 1, 1), (198, .ireturn, 1)]
theorem d_Pl_readShop : wkk prog_4_method_15_code [t_Pl_readShop_0, t_Pl_readShop_1, t_Pl_readShop_2, t_Pl_readShop_3] prog_4_method_15_code.data.toList 0 = true := by decide +kernel
theorem d_Pl_readShop_0 : ∀ q ∈ t_Pl_readShop_0, decode prog_4_method_15_code q.1 = .ok q.2 := wkd d_Pl_readShop (j := 0) rfl
theorem d_Pl_readShop_1 : ∀ q ∈ t_Pl_readShop_1, decode prog_4_method_15_code q.1 = .ok q.2 := wkd d_Pl_readShop (j := 1) rfl
theorem d_Pl_readShop_2 : ∀ q ∈ t_Pl_readShop_2, decode prog_4_method_15_code q.1 = .ok q.2 := wkd d_Pl_readShop (j := 2) rfl
theorem d_Pl_readShop_3 : ∀ q ∈ t_Pl_readShop_3, decode prog_4_method_15_code q.1 = .ok q.2 := wkd d_Pl_readShop (j := 3) rfl
theorem cm_Pl_readShop : CM Pl_readShop 1 := ⟨by decide +kernel, lw_inc (i := 362) (by decide +kernel) (by decide +kernel), in_Pl, by decide +kernel⟩
theorem cv_Pl_readShop : CV Pl_readShop 1 2 := ⟨cm_Pl_readShop, lw_in (i := 361) (by decide +kernel) (by decide +kernel), lw_insel (q := (⟨"DoorRounds$Plan", "readShop", "(LDoorRounds$Shop;)Z"⟩, 6)) (i := 4) (by decide +kernel) (by decide +kernel), ⟨_, rfl, rfl⟩, by decide⟩
abbrev Rd_readKind : pY := (⟨"DoorRounds$Reader", "readKind", "()Z"⟩, prog_5_method_8_code, 2, (Option.some Jvm.ClassFile.FieldType.boolean), 3, 63)
def t_Rd_readKind_0 : List (Nat × Instr × Nat) := [(0, .iconst 0, 1), (1, .istore_n 1, 1), (2, .iload_n 1, 1), (3, .getstatic 42, 3), (6, .arraylength, 1), (7, .if_icmp .ge 28, 3), (10, .aload_n 0, 1), (11, .getstatic 42, 3), (14, .iload_n 1, 1), (15, .iaload, 1), (16, .invokevirtual 46, 3), (19, .ifCond .eq 10, 3), (22, .aload_n 0, 1), (23, .iload_n 1, 1), (24, .putfield 24, 3), (27, .iconst 1, 1), (28, .ireturn, 1), (29, .iinc 1 1, 3), (32, .goto (-30), 3), (35, .iconst 0, 1), (36, .ireturn, 1)]
theorem d_Rd_readKind : wkk prog_5_method_8_code [t_Rd_readKind_0] prog_5_method_8_code.data.toList 0 = true := by decide +kernel
theorem d_Rd_readKind_0 : ∀ q ∈ t_Rd_readKind_0, decode prog_5_method_8_code q.1 = .ok q.2 := wkd d_Rd_readKind (j := 0) rfl
theorem cm_Rd_readKind : CM Rd_readKind 0 := ⟨by decide +kernel, lw_inc (i := 366) (by decide +kernel) (by decide +kernel), in_Rd, by decide +kernel⟩
theorem cv_Rd_readKind : CV Rd_readKind 0 3 := ⟨cm_Rd_readKind, lw_in (i := 364) (by decide +kernel) (by decide +kernel), lw_in (i := 365) (by decide +kernel) (by decide +kernel), ⟨_, rfl, rfl⟩, by decide⟩
abbrev Pl_isFirstDoor : pY := (⟨"DoorRounds$Plan", "isFirstDoor", "(I)Z"⟩, prog_4_method_13_code, 3, (Option.some Jvm.ClassFile.FieldType.boolean), 2, 42)
def t_Pl_isFirstDoor_0 : List (Nat × Instr × Nat) := [(0, .iconst 0, 1), (1, .istore_n 2, 1), (2, .iload_n 2, 1), (3, .aload_n 0, 1), (4, .getfield 15, 3), (7, .if_icmp .ge 23, 3), (10, .aload_n 0, 1), (11, .iload_n 2, 1), (12, .invokevirtual 44, 3), (15, .getfield 72, 3), (18, .iload_n 1, 1), (19, .if_icmp .ne 5, 3), (22, .iconst 1, 1), (23, .ireturn, 1), (24, .iinc 2 1, 3), (27, .goto (-25), 3), (30, .iconst 0, 1), (31, .ireturn, 1)]
theorem d_Pl_isFirstDoor : wkk prog_4_method_13_code [t_Pl_isFirstDoor_0] prog_4_method_13_code.data.toList 0 = true := by decide +kernel
theorem d_Pl_isFirstDoor_0 : ∀ q ∈ t_Pl_isFirstDoor_0, decode prog_4_method_13_code q.1 = .ok q.2 := wkd d_Pl_isFirstDoor (j := 0) rfl
theorem cm_Pl_isFirstDoor : CM Pl_isFirstDoor 1 := ⟨by decide +kernel, lw_inc (i := 373) (by decide +kernel) (by decide +kernel), in_Pl, by decide +kernel⟩
theorem cv_Pl_isFirstDoor : CV Pl_isFirstDoor 1 2 := ⟨cm_Pl_isFirstDoor, lw_in (i := 371) (by decide +kernel) (by decide +kernel), lw_in (i := 372) (by decide +kernel) (by decide +kernel), ⟨_, rfl, rfl⟩, by decide⟩
abbrev Pl_shopOf : pY := (⟨"DoorRounds$Plan", "shopOf", "(I)LDoorRounds$Shop;"⟩, prog_4_method_7_code, 2, (Option.some (Jvm.ClassFile.FieldType.object "DoorRounds$Shop")), 1, 21)
def t_Pl_shopOf_0 : List (Nat × Instr × Nat) := [(0, .aload_n 0, 1), (1, .iload_n 1, 1), (2, .invokevirtual 40, 3), (5, .ifCond .eq 12, 3), (8, .aload_n 0, 1), (9, .getfield 20, 3), (12, .iload_n 1, 1), (13, .aaload, 1), (14, .goto 7, 3), (17, .aload_n 0, 1), (18, .getfield 25, 3), (21, .areturn, 1)]
theorem d_Pl_shopOf : wkk prog_4_method_7_code [t_Pl_shopOf_0] prog_4_method_7_code.data.toList 0 = true := by decide +kernel
theorem d_Pl_shopOf_0 : ∀ q ∈ t_Pl_shopOf_0, decode prog_4_method_7_code q.1 = .ok q.2 := wkd d_Pl_shopOf (j := 0) rfl
theorem cm_Pl_shopOf : CM Pl_shopOf 1 := ⟨by decide +kernel, lw_inc (i := 377) (by decide +kernel) (by decide +kernel), in_Pl, by decide +kernel⟩
theorem cv_Pl_shopOf : CV Pl_shopOf 1 2 := ⟨cm_Pl_shopOf, lw_in (i := 375) (by decide +kernel) (by decide +kernel), lw_in (i := 376) (by decide +kernel) (by decide +kernel), ⟨_, rfl, rfl⟩, by decide⟩
abbrev Pl_hasShop : pY := (⟨"DoorRounds$Plan", "hasShop", "(I)Z"⟩, prog_4_method_5_code, 2, (Option.some Jvm.ClassFile.FieldType.boolean), 0, 0)
def t_Pl_hasShop_0 : List (Nat × Instr × Nat) := [(0, .iload_n 1, 1), (1, .ifCond .lt 21, 3), (4, .iload_n 1, 1), (5, .aload_n 0, 1), (6, .getfield 15, 3), (9, .if_icmp .ge 13, 3), (12, .iload_n 1, 1), (13, .bipush 7, 2), (15, .if_icmp .ge 7, 3), (18, .iconst 1, 1), (19, .goto 4, 3), (22, .iconst 0, 1), (23, .ireturn, 1)]
theorem d_Pl_hasShop : wkk prog_4_method_5_code [t_Pl_hasShop_0] prog_4_method_5_code.data.toList 0 = true := by decide +kernel
theorem d_Pl_hasShop_0 : ∀ q ∈ t_Pl_hasShop_0, decode prog_4_method_5_code q.1 = .ok q.2 := wkd d_Pl_hasShop (j := 0) rfl
theorem cm_Pl_hasShop : CM Pl_hasShop 1 := ⟨by decide +kernel, lw_inc (i := 381) (by decide +kernel) (by decide +kernel), in_Pl, by decide +kernel⟩
theorem cv_Pl_hasShop : CV Pl_hasShop 1 2 := ⟨cm_Pl_hasShop, lw_in (i := 379) (by decide +kernel) (by decide +kernel), lw_in (i := 380) (by decide +kernel) (by decide +kernel), ⟨_, rfl, rfl⟩, by decide⟩
