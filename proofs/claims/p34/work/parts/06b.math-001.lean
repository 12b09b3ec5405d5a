theorem fm_8 : decode fm_c 8 = .ok (.lconst 0, 1) := by decide +kernel
theorem fm_9 : decode fm_c 9 = .ok (.lcmp, 1) := by decide +kernel
theorem fm_10 : decode fm_c 10 = .ok (.ifCond .ge 15, 3) := by decide +kernel
theorem fm_13 : decode fm_c 13 = .ok (.lload 4, 2) := by decide +kernel
theorem fm_15 : decode fm_c 15 = .ok (.lconst 0, 1) := by decide +kernel
theorem fm_16 : decode fm_c 16 = .ok (.lcmp, 1) := by decide +kernel
theorem fm_17 : decode fm_c 17 = .ok (.ifCond .eq 8, 3) := by decide +kernel
theorem fm_20 : decode fm_c 20 = .ok (.lload 4, 2) := by decide +kernel
theorem fm_22 : decode fm_c 22 = .ok (.lload_n 2, 1) := by decide +kernel
theorem fm_23 : decode fm_c 23 = .ok (.ladd, 1) := by decide +kernel
