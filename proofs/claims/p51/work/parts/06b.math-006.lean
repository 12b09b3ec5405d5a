theorem fm_3 : decode fm_c 3 = .ok (.lstore 4, 2) := by decide +kernel
