abbrev D_init : pY := (⟨"DoorRounds", "<init>", "()V"⟩, prog_1_method_1_code, 2, (Option.none : Option Jvm.ClassFile.FieldType), 4, 87)
