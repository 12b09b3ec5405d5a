theorem lw_p17 : lw_okq (⟨"DoorRounds", "imageFinding", "(LDoorRounds$Strip;)I"⟩, 16) := ⟨lw_ne0, tb_bt lw_B0 (j := 0) rfl, tb_bt lw_B1 (j := 14) rfl, tb_bt lw_B1 (j := 15) rfl⟩
theorem lw_p18 : lw_okq (⟨"DoorRounds", "countOf", "(I)I"⟩, 16) := ⟨lw_ne0, tb_bt lw_B0 (j := 0) rfl, tb_bt lw_B1 (j := 16) rfl, tb_bt lw_B1 (j := 17) rfl⟩
theorem lw_p19 : lw_okq (⟨"DoorRoundsModel", "meet", "(I)I"⟩, 33) := ⟨lw_ne4, tb_bt lw_B1 (j := 18) rfl, tb_bt lw_B1 (j := 19) rfl, tb_bt lw_B1 (j := 20) rfl⟩
theorem lw_p20 : lw_okq (⟨"DoorRoundsModel", "setRow", "(III)V"⟩, 33) := ⟨lw_ne4, tb_bt lw_B1 (j := 18) rfl, tb_bt lw_B1 (j := 21) rfl, tb_bt lw_B1 (j := 22) rfl⟩
