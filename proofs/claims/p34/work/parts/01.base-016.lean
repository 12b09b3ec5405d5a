theorem lw_p39 : lw_okq (⟨"DoorRoundsModel", "going", "(II)I"⟩, 33) := ⟨lw_ne4, tb_bt lw_B1 (j := 18) rfl, tb_bt lw_B3 (j := 11) rfl, tb_bt lw_B3 (j := 12) rfl⟩
theorem lw_p40 : lw_okq (⟨"DoorRoundsModel", "isDoor", "(I)Z"⟩, 33) := ⟨lw_ne4, tb_bt lw_B1 (j := 18) rfl, tb_bt lw_B3 (j := 13) rfl, tb_bt lw_B3 (j := 14) rfl⟩
theorem lw_p41 : lw_okq (⟨"DoorRoundsModel", "shutMany", "()I"⟩, 33) := ⟨lw_ne4, tb_bt lw_B1 (j := 18) rfl, tb_bt lw_B3 (j := 15) rfl, tb_bt lw_B3 (j := 16) rfl⟩
theorem lw_p42 : lw_okq (⟨"DoorRoundsModel", "fromNow", "()V"⟩, 33) := ⟨lw_ne4, tb_bt lw_B1 (j := 18) rfl, tb_bt lw_B3 (j := 17) rfl, tb_bt lw_B3 (j := 18) rfl⟩
