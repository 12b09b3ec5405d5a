theorem lw_p25 : lw_okq (⟨"DoorRoundsModel", "goesOn", "(I)I"⟩, 33) := ⟨lw_ne4, tb_bt lw_B1 (j := 18) rfl, tb_bt lw_B2 (j := 7) rfl, tb_bt lw_B2 (j := 8) rfl⟩
theorem lw_p26 : lw_okq (⟨"DoorRoundsModel", "here", "(I)I"⟩, 33) := ⟨lw_ne4, tb_bt lw_B1 (j := 18) rfl, tb_bt lw_B2 (j := 9) rfl, tb_bt lw_B2 (j := 10) rfl⟩
theorem lw_p27 : lw_okq (⟨"DoorRoundsModel", "readsDoors", "(I)Z"⟩, 33) := ⟨lw_ne4, tb_bt lw_B1 (j := 18) rfl, tb_bt lw_B2 (j := 11) rfl, tb_bt lw_B2 (j := 12) rfl⟩
theorem lw_p28 : lw_okq (⟨"DoorRoundsModel", "sees", "(II)Z"⟩, 33) := ⟨lw_ne4, tb_bt lw_B1 (j := 18) rfl, tb_bt lw_B2 (j := 13) rfl, tb_bt lw_B2 (j := 14) rfl⟩
