abbrev Di_init : pY := (⟨"DoorRounds$Diary", "<init>", "()V"⟩, prog_2_method_1_code, 1, (Option.none : Option Jvm.ClassFile.FieldType), 1, 20)
