abbrev Pl_init : pY := (⟨"DoorRounds$Plan", "<init>", "()V"⟩, prog_4_method_1_code, 2, (Option.none : Option Jvm.ClassFile.FieldType), 3, 66)
