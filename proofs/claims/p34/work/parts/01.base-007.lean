theorem lw_p7 : lw_okq (⟨"DoorRounds", "trait", "(II)I"⟩, 16) := ⟨lw_ne0, tb_bt lw_B0 (j := 0) rfl, tb_bt lw_B0 (j := 18) rfl, tb_bt lw_B0 (j := 19) rfl⟩
theorem lw_p8 : lw_okq (⟨"DoorRounds", "neighbours", "(I)I"⟩, 16) := ⟨lw_ne0, tb_bt lw_B0 (j := 0) rfl, tb_bt lw_B0 (j := 20) rfl, tb_bt lw_B0 (j := 21) rfl⟩
theorem lw_p9 : lw_okq (⟨"DoorRounds", "rivals", "(I)I"⟩, 16) := ⟨lw_ne0, tb_bt lw_B0 (j := 0) rfl, tb_bt lw_B0 (j := 22) rfl, tb_bt lw_B0 (j := 23) rfl⟩
theorem lw_p10 : lw_okq (⟨"DoorRounds$Standing", "passOne", "(LDoorRounds$Plan;)V"⟩, 3) := ⟨lw_ne2, tb_bt lw_B0 (j := 1) rfl, tb_bt lw_B1 (j := 0) rfl, tb_bt lw_B1 (j := 1) rfl⟩
