theorem lw_p43 : lw_okq (⟨"DoorRoundsModel", "passOne", "(II)V"⟩, 33) := ⟨lw_ne4, tb_bt lw_B1 (j := 18) rfl, tb_bt lw_B3 (j := 19) rfl, tb_bt lw_B3 (j := 20) rfl⟩
theorem lw_p44 : lw_okq (⟨"DoorRoundsModel", "taker", "(I)I"⟩, 33) := ⟨lw_ne4, tb_bt lw_B1 (j := 18) rfl, tb_bt lw_B3 (j := 21) rfl, tb_bt lw_B3 (j := 22) rfl⟩
theorem lw_p45 : lw_okq (⟨"DoorRoundsModel", "plainBy", "(IIIIJJ)I"⟩, 33) := ⟨lw_ne4, tb_bt lw_B1 (j := 18) rfl, tb_bt lw_B3 (j := 23) rfl, tb_bt lw_B4 (j := 0) rfl⟩
theorem lw_p46 : lw_okq (⟨"DoorRoundsModel", "isPair", "(III)Z"⟩, 33) := ⟨lw_ne4, tb_bt lw_B1 (j := 18) rfl, tb_bt lw_B4 (j := 1) rfl, tb_bt lw_B4 (j := 2) rfl⟩
