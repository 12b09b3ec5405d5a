abbrev Sp_init : pY := (⟨"DoorRounds$Strip", "<init>", "(I)V"⟩, prog_8_method_1_code, 2, (Option.none : Option Jvm.ClassFile.FieldType), 1, 25)
