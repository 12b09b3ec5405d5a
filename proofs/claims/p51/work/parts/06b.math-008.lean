theorem fm_6 : decode fm_c 6 = .ok (.lload_n 2, 1) := by decide +kernel
