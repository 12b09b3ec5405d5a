theorem lw_p35 : lw_okq (⟨"DoorRoundsModel", "aboutOf", "(II)I"⟩, 33) := ⟨lw_ne4, tb_bt lw_B1 (j := 18) rfl, tb_bt lw_B3 (j := 3) rfl, tb_bt lw_B3 (j := 4) rfl⟩
theorem lw_p36 : lw_okq (⟨"DoorRoundsModel", "isSleeper", "(I)Z"⟩, 33) := ⟨lw_ne4, tb_bt lw_B1 (j := 18) rfl, tb_bt lw_B3 (j := 5) rfl, tb_bt lw_B3 (j := 6) rfl⟩
theorem lw_p37 : lw_okq (⟨"DoorRoundsModel", "areBeside", "(II)Z"⟩, 33) := ⟨lw_ne4, tb_bt lw_B1 (j := 18) rfl, tb_bt lw_B3 (j := 7) rfl, tb_bt lw_B3 (j := 8) rfl⟩
theorem lw_p38 : lw_okq (⟨"DoorRoundsModel", "doorAt", "(J)I"⟩, 33) := ⟨lw_ne4, tb_bt lw_B1 (j := 18) rfl, tb_bt lw_B3 (j := 9) rfl, tb_bt lw_B3 (j := 10) rfl⟩
