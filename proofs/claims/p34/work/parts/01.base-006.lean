theorem lw_p3 : lw_okq (⟨"DoorRounds", "textOf", "(I)LDoorRounds$Strip;"⟩, 16) := ⟨lw_ne0, tb_bt lw_B0 (j := 0) rfl, tb_bt lw_B0 (j := 10) rfl, tb_bt lw_B0 (j := 11) rfl⟩
theorem lw_p4 : lw_okq (⟨"DoorRounds$Plan", "readShop", "(LDoorRounds$Shop;)Z"⟩, 6) := ⟨lw_ne1, tb_bt lw_B0 (j := 3) rfl, tb_bt lw_B0 (j := 12) rfl, tb_bt lw_B0 (j := 13) rfl⟩
theorem lw_p5 : lw_okq (⟨"DoorRounds$Plan", "isAhead", "(II)Z"⟩, 6) := ⟨lw_ne1, tb_bt lw_B0 (j := 3) rfl, tb_bt lw_B0 (j := 14) rfl, tb_bt lw_B0 (j := 15) rfl⟩
theorem lw_p6 : lw_okq (⟨"DoorRounds", "keptOf", "(I)LDoorRounds$Standing;"⟩, 16) := ⟨lw_ne0, tb_bt lw_B0 (j := 0) rfl, tb_bt lw_B0 (j := 16) rfl, tb_bt lw_B0 (j := 17) rfl⟩
