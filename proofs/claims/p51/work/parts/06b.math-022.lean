theorem fm_27 : decode fm_c 27 = .ok (.lreturn, 1) := by decide +kernel
