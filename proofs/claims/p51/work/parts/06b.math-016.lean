theorem fm_17 : decode fm_c 17 = .ok (.ifCond .eq 8, 3) := by decide +kernel
