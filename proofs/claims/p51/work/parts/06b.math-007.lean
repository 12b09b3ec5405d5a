theorem fm_5 : decode fm_c 5 = .ok (.lload_n 0, 1) := by decide +kernel
