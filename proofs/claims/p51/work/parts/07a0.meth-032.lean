abbrev Sn_init : pY := (⟨"DoorRounds$Standing", "<init>", "()V"⟩, prog_7_method_1_code, 1, (Option.none : Option Jvm.ClassFile.FieldType), 1, 20)
