theorem fm_24 : decode fm_c 24 = .ok (.lreturn, 1) := by decide +kernel
