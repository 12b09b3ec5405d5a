theorem fm_1 : decode fm_c 1 = .ok (.lload_n 2, 1) := by decide +kernel
