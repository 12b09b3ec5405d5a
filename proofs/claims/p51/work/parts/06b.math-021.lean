theorem fm_25 : decode fm_c 25 = .ok (.lload 4, 2) := by decide +kernel
