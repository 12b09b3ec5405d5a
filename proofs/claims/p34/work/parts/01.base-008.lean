theorem lw_p11 : lw_okq (⟨"DoorRounds", "areTwo", "(II)Z"⟩, 16) := ⟨lw_ne0, tb_bt lw_B0 (j := 0) rfl, tb_bt lw_B1 (j := 2) rfl, tb_bt lw_B1 (j := 3) rfl⟩
theorem lw_p12 : lw_okq (⟨"DoorRounds$Errands", "leastOf", "(I)J"⟩, 2) := ⟨lw_ne3, tb_bt lw_B0 (j := 2) rfl, tb_bt lw_B1 (j := 4) rfl, tb_bt lw_B1 (j := 5) rfl⟩
theorem lw_p13 : lw_okq (⟨"DoorRounds", "metBy", "(II)I"⟩, 16) := ⟨lw_ne0, tb_bt lw_B0 (j := 0) rfl, tb_bt lw_B1 (j := 6) rfl, tb_bt lw_B1 (j := 7) rfl⟩
theorem lw_p14 : lw_okq (⟨"DoorRounds", "passersFinding", "(LDoorRounds$Strip;)I"⟩, 16) := ⟨lw_ne0, tb_bt lw_B0 (j := 0) rfl, tb_bt lw_B1 (j := 8) rfl, tb_bt lw_B1 (j := 9) rfl⟩
