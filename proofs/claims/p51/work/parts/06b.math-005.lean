theorem fm_2 : decode fm_c 2 = .ok (.lrem, 1) := by decide +kernel
