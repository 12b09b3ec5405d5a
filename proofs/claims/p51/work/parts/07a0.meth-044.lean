abbrev Er_init : pY := (⟨"DoorRounds$Errands", "<init>", "()V"⟩, prog_3_method_1_code, 1, (Option.none : Option Jvm.ClassFile.FieldType), 1, 20)
