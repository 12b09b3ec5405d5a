theorem lw_p53 : lw_okq (⟨"DoorRoundsModel", "joinsOf", "(II)I"⟩, 33) := ⟨lw_ne4, tb_bt lw_B1 (j := 18) rfl, tb_bt lw_B4 (j := 15) rfl, tb_bt lw_B4 (j := 16) rfl⟩
theorem lw_p54 : lw_okq (⟨"DoorRoundsModel", "fits", "(IIII)Z"⟩, 33) := ⟨lw_ne4, tb_bt lw_B1 (j := 18) rfl, tb_bt lw_B4 (j := 17) rfl, tb_bt lw_B4 (j := 18) rfl⟩
theorem lw_p55 : lw_okq (⟨"DoorRoundsModel", "askedRents", "(I)I"⟩, 33) := ⟨lw_ne4, tb_bt lw_B1 (j := 18) rfl, tb_bt lw_B4 (j := 19) rfl, tb_bt lw_B4 (j := 20) rfl⟩
theorem lw_p56 : lw_okq (⟨"DoorRoundsModel", "setRents", "(II)V"⟩, 33) := ⟨lw_ne4, tb_bt lw_B1 (j := 18) rfl, tb_bt lw_B4 (j := 21) rfl, tb_bt lw_B4 (j := 22) rfl⟩
