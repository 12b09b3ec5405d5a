def fm_x : MethodName := ⟨"java/lang/Math", "floorMod", "(JJ)J"⟩
abbrev fm_c : ByteArray := prog_12_method_52_code
def fm (a b : Int64) : Int64 := if (a ^^^ b) < 0 ∧ ¬ (a - a / b * b) = 0 then (a - a / b * b) + b else a - a / b * b
theorem fm_0 : decode fm_c 0 = .ok (.lload_n 0, 1) := by decide +kernel
theorem fm_1 : decode fm_c 1 = .ok (.lload_n 2, 1) := by decide +kernel
theorem fm_2 : decode fm_c 2 = .ok (.lrem, 1) := by decide +kernel
theorem fm_3 : decode fm_c 3 = .ok (.lstore 4, 2) := by decide +kernel
theorem fm_5 : decode fm_c 5 = .ok (.lload_n 0, 1) := by decide +kernel
theorem fm_6 : decode fm_c 6 = .ok (.lload_n 2, 1) := by decide +kernel
theorem fm_7 : decode fm_c 7 = .ok (.lxor, 1) := by decide +kernel
