theorem lw_p49 : lw_okq (⟨"DoorRoundsModel", "isSet", "(I)Z"⟩, 33) := ⟨lw_ne4, tb_bt lw_B1 (j := 18) rfl, tb_bt lw_B4 (j := 7) rfl, tb_bt lw_B4 (j := 8) rfl⟩
theorem lw_p50 : lw_okq (⟨"DoorRoundsModel", "roundOf", "(II)I"⟩, 33) := ⟨lw_ne4, tb_bt lw_B1 (j := 18) rfl, tb_bt lw_B4 (j := 9) rfl, tb_bt lw_B4 (j := 10) rfl⟩
theorem lw_p51 : lw_okq (⟨"DoorRoundsModel", "leastFor", "(II)I"⟩, 33) := ⟨lw_ne4, tb_bt lw_B1 (j := 18) rfl, tb_bt lw_B4 (j := 11) rfl, tb_bt lw_B4 (j := 12) rfl⟩
theorem lw_p52 : lw_okq (⟨"DoorRoundsModel", "mayIn", "(II)Z"⟩, 33) := ⟨lw_ne4, tb_bt lw_B1 (j := 18) rfl, tb_bt lw_B4 (j := 13) rfl, tb_bt lw_B4 (j := 14) rfl⟩
