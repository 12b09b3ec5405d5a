abbrev Sh_init : pY := (⟨"DoorRounds$Shop", "<init>", "()V"⟩, prog_6_method_1_code, 1, (Option.none : Option Jvm.ClassFile.FieldType), 1, 20)
