theorem fm_8 : decode fm_c 8 = .ok (.lconst 0, 1) := by decide +kernel
