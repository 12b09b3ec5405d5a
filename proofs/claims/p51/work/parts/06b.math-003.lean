theorem fm_0 : decode fm_c 0 = .ok (.lload_n 0, 1) := by decide +kernel
