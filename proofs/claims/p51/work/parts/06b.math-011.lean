theorem fm_9 : decode fm_c 9 = .ok (.lcmp, 1) := by decide +kernel
