theorem fm_20 : decode fm_c 20 = .ok (.lload 4, 2) := by decide +kernel
