theorem lw_p57 : lw_okq (⟨"DoorRoundsModel", "part", "(JJI)I"⟩, 33) := ⟨lw_ne4, tb_bt lw_B1 (j := 18) rfl, tb_bt lw_B4 (j := 23) rfl, tb_bt lw_B5 (j := 0) rfl⟩
theorem lw_p58 : lw_okq (⟨"DoorRoundsModel", "setPlans", "(I)V"⟩, 33) := ⟨lw_ne4, tb_bt lw_B1 (j := 18) rfl, tb_bt lw_B5 (j := 1) rfl, tb_bt lw_B5 (j := 2) rfl⟩
theorem lw_p59 : lw_okq (⟨"DoorRoundsModel", "othersBy", "(II)I"⟩, 33) := ⟨lw_ne4, tb_bt lw_B1 (j := 18) rfl, tb_bt lw_B5 (j := 3) rfl, tb_bt lw_B5 (j := 4) rfl⟩
theorem lw_p60 : lw_okq (⟨"DoorRoundsModel", "isImage", "(I)Z"⟩, 33) := ⟨lw_ne4, tb_bt lw_B1 (j := 18) rfl, tb_bt lw_B5 (j := 5) rfl, tb_bt lw_B5 (j := 6) rfl⟩
