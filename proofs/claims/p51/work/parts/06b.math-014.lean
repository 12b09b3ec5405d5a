theorem fm_15 : decode fm_c 15 = .ok (.lconst 0, 1) := by decide +kernel
