theorem fm_22 : decode fm_c 22 = .ok (.lload_n 2, 1) := by decide +kernel
