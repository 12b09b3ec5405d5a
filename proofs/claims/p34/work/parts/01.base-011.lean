theorem lw_p21 : lw_okq (⟨"DoorRoundsModel", "askedRow", "(I)I"⟩, 33) := ⟨lw_ne4, tb_bt lw_B1 (j := 18) rfl, tb_bt lw_B1 (j := 23) rfl, tb_bt lw_B2 (j := 0) rfl⟩
theorem lw_p22 : lw_okq (⟨"DoorRoundsModel", "rowAt", "(II)I"⟩, 33) := ⟨lw_ne4, tb_bt lw_B1 (j := 18) rfl, tb_bt lw_B2 (j := 1) rfl, tb_bt lw_B2 (j := 2) rfl⟩
theorem lw_p23 : lw_okq (⟨"DoorRoundsModel", "ask", "(II)I"⟩, 33) := ⟨lw_ne4, tb_bt lw_B1 (j := 18) rfl, tb_bt lw_B2 (j := 3) rfl, tb_bt lw_B2 (j := 4) rfl⟩
theorem lw_p24 : lw_okq (⟨"DoorRoundsModel", "askedText", "(I)I"⟩, 33) := ⟨lw_ne4, tb_bt lw_B1 (j := 18) rfl, tb_bt lw_B2 (j := 5) rfl, tb_bt lw_B2 (j := 6) rfl⟩
