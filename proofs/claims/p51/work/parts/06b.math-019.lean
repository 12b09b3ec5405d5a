theorem fm_23 : decode fm_c 23 = .ok (.ladd, 1) := by decide +kernel
