theorem fm_16 : decode fm_c 16 = .ok (.lcmp, 1) := by decide +kernel
