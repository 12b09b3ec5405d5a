theorem fm_7 : decode fm_c 7 = .ok (.lxor, 1) := by decide +kernel
