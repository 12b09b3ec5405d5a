theorem fm_13 : decode fm_c 13 = .ok (.lload 4, 2) := by decide +kernel
