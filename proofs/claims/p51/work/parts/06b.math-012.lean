theorem fm_10 : decode fm_c 10 = .ok (.ifCond .ge 15, 3) := by decide +kernel
