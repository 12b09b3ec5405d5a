theorem lw_B5 : tb_wk lw_BL5 tables_1 = true := by decide +kernel
theorem lw_p0 : lw_okq (⟨"DoorRounds", "found", "(I)I"⟩, 16) := ⟨lw_ne0, tb_bt lw_B0 (j := 0) rfl, tb_bt lw_B0 (j := 4) rfl, tb_bt lw_B0 (j := 5) rfl⟩
theorem lw_p1 : lw_okq (⟨"DoorRounds", "rowOf", "(I)LDoorRounds$Strip;"⟩, 16) := ⟨lw_ne0, tb_bt lw_B0 (j := 0) rfl, tb_bt lw_B0 (j := 6) rfl, tb_bt lw_B0 (j := 7) rfl⟩
theorem lw_p2 : lw_okq (⟨"DoorRounds", "tell", "(II)I"⟩, 16) := ⟨lw_ne0, tb_bt lw_B0 (j := 0) rfl, tb_bt lw_B0 (j := 8) rfl, tb_bt lw_B0 (j := 9) rfl⟩
