theorem nf_0_1 : ∀ r ty, clOK 0 r ty → ((r.2.1 1).2.2.2 = true ∧ r.1 = "DoorRounds$Diary") := fun r ty h => by have e := h.1; cases e; exact ⟨rfl, rfl⟩
theorem nf_0_2 : ∀ r ty, clOK 0 r ty → ((r.2.1 2).2.2.2 = true ∧ r.1 = "DoorRounds$Diary") := fun r ty h => by have e := h.1; cases e; exact ⟨rfl, rfl⟩
theorem nf_0_3 : ∀ r ty, clOK 0 r ty → ((r.2.1 3).2.2.2 = true ∧ r.1 = "DoorRounds$Diary") := fun r ty h => by have e := h.1; cases e; exact ⟨rfl, rfl⟩
theorem n_1 : Cond.instantiable "DoorRounds$Errands" 2 ∈ lw_g := lw_in (i := 83) (by decide +kernel) (by decide +kernel)
theorem nf_1_0 : ∀ r ty, clOK 1 r ty → ((r.2.1 0).2.2.2 = true ∧ r.1 = "DoorRounds$Errands") := fun r ty h => by have e := h.1; cases e; exact ⟨rfl, rfl⟩
theorem nf_1_1 : ∀ r ty, clOK 1 r ty → ((r.2.1 1).2.2.2 = true ∧ r.1 = "DoorRounds$Errands") := fun r ty h => by have e := h.1; cases e; exact ⟨rfl, rfl⟩
theorem n_2 : Cond.instantiable "DoorRounds$Plan" 6 ∈ lw_g := lw_in (i := 97) (by decide +kernel) (by decide +kernel)
theorem nf_2_0 : ∀ r ty, clOK 2 r ty → (r.2.1 0).2.2.2 = false := fun r ty h => by have e := h.1; cases e; exact rfl
theorem nf_2_1 : ∀ r ty, clOK 2 r ty → (r.2.1 1).2.2.2 = false := fun r ty h => by have e := h.1; cases e; exact rfl
theorem nf_2_2 : ∀ r ty, clOK 2 r ty → ((r.2.1 2).2.2.2 = true ∧ r.1 = "DoorRounds$Plan") := fun r ty h => by have e := h.1; cases e; exact ⟨rfl, rfl⟩
theorem nf_2_3 : ∀ r ty, clOK 2 r ty → ((r.2.1 3).2.2.2 = true ∧ r.1 = "DoorRounds$Plan") := fun r ty h => by have e := h.1; cases e; exact ⟨rfl, rfl⟩
theorem nf_2_4 : ∀ r ty, clOK 2 r ty → ((r.2.1 4).2.2.2 = true ∧ r.1 = "DoorRounds$Plan") := fun r ty h => by have e := h.1; cases e; exact ⟨rfl, rfl⟩
theorem nf_2_5 : ∀ r ty, clOK 2 r ty → ((r.2.1 5).2.2.2 = true ∧ r.1 = "DoorRounds$Plan") := fun r ty h => by have e := h.1; cases e; exact ⟨rfl, rfl⟩
theorem n_3 : Cond.instantiable "DoorRounds$Reader" 3 ∈ lw_g := lw_in (i := 138) (by decide +kernel) (by decide +kernel)
theorem nf_3_0 : ∀ r ty, clOK 3 r ty → (r.2.1 0).2.2.2 = false := fun r ty h => by have e := h.1; cases e; exact rfl
theorem nf_3_1 : ∀ r ty, clOK 3 r ty → (r.2.1 1).2.2.2 = false := fun r ty h => by have e := h.1; cases e; exact rfl
theorem nf_3_2 : ∀ r ty, clOK 3 r ty → (r.2.1 2).2.2.2 = false := fun r ty h => by have e := h.1; cases e; exact rfl
theorem n_4 : Cond.instantiable "DoorRounds$Shop" 5 ∈ lw_g := lw_in (i := 104) (by decide +kernel) (by decide +kernel)
theorem nf_4_0 : ∀ r ty, clOK 4 r ty → (r.2.1 0).2.2.2 = false := fun r ty h => by have e := h.1; cases e; exact rfl
theorem nf_4_1 : ∀ r ty, clOK 4 r ty → (r.2.1 1).2.2.2 = false := fun r ty h => by have e := h.1; cases e; exact rfl
theorem nf_4_2 : ∀ r ty, clOK 4 r ty → (r.2.1 2).2.2.2 = false := fun r ty h => by have e := h.1; cases e; exact rfl
theorem nf_4_3 : ∀ r ty, clOK 4 r ty → (r.2.1 3).2.2.2 = false := fun r ty h => by have e := h.1; cases e; exact rfl
theorem nf_4_4 : ∀ r ty, clOK 4 r ty → (r.2.1 4).2.2.2 = false := fun r ty h => by have e := h.1; cases e; exact rfl
theorem n_5 : Cond.instantiable "DoorRounds$Standing" 3 ∈ lw_g := lw_in (i := 44) (by decide +kernel) (by decide +kernel)
theorem nf_5_0 : ∀ r ty, clOK 5 r ty → (r.2.1 0).2.2.2 = false := fun r ty h => by have e := h.1; cases e; exact rfl
theorem nf_5_1 : ∀ r ty, clOK 5 r ty → (r.2.1 1).2.2.2 = false := fun r ty h => by have e := h.1; cases e; exact rfl
theorem nf_5_2 : ∀ r ty, clOK 5 r ty → ((r.2.1 2).2.2.2 = true ∧ r.1 = "DoorRounds$Standing") := fun r ty h => by have e := h.1; cases e; exact ⟨rfl, rfl⟩
theorem n_6 : Cond.instantiable "DoorRounds$Strip" 2 ∈ lw_g := lw_in (i := 24) (by decide +kernel) (by decide +kernel)
theorem nf_6_0 : ∀ r ty, clOK 6 r ty → ((r.2.1 0).2.2.2 = true ∧ r.1 = "DoorRounds$Strip") := fun r ty h => by have e := h.1; cases e; exact ⟨rfl, rfl⟩
theorem nf_6_1 : ∀ r ty, clOK 6 r ty → (r.2.1 1).2.2.2 = false := fun r ty h => by have e := h.1; cases e; exact rfl
theorem n_7 : Cond.instantiable "DoorRounds" 16 ∈ lw_g := lw_in (i := 15) (by decide +kernel) (by decide +kernel)
theorem nf_7_0 : ∀ r ty, clOK 7 r ty → ((r.2.1 0).2.2.2 = true ∧ r.1 = "DoorRounds") := fun r ty h => by have e := h.1; cases e; exact ⟨rfl, rfl⟩
theorem nf_7_1 : ∀ r ty, clOK 7 r ty → ((r.2.1 1).2.2.2 = true ∧ r.1 = "DoorRounds") := fun r ty h => by have e := h.1; cases e; exact ⟨rfl, rfl⟩
theorem nf_7_2 : ∀ r ty, clOK 7 r ty → ((r.2.1 2).2.2.2 = true ∧ r.1 = "DoorRounds") := fun r ty h => by have e := h.1; cases e; exact ⟨rfl, rfl⟩
theorem nf_7_3 : ∀ r ty, clOK 7 r ty → ((r.2.1 3).2.2.2 = true ∧ r.1 = "DoorRounds") := fun r ty h => by have e := h.1; cases e; exact ⟨rfl, rfl⟩
theorem nf_7_4 : ∀ r ty, clOK 7 r ty → ((r.2.1 4).2.2.2 = true ∧ r.1 = "DoorRounds") := fun r ty h => by have e := h.1; cases e; exact ⟨rfl, rfl⟩
theorem nf_7_5 : ∀ r ty, clOK 7 r ty → ((r.2.1 5).2.2.2 = true ∧ r.1 = "DoorRounds") := fun r ty h => by have e := h.1; cases e; exact ⟨rfl, rfl⟩
theorem nf_7_6 : ∀ r ty, clOK 7 r ty → ((r.2.1 6).2.2.2 = true ∧ r.1 = "DoorRounds") := fun r ty h => by have e := h.1; cases e; exact ⟨rfl, rfl⟩
theorem nf_7_7 : ∀ r ty, clOK 7 r ty → ((r.2.1 7).2.2.2 = true ∧ r.1 = "DoorRounds") := fun r ty h => by have e := h.1; cases e; exact ⟨rfl, rfl⟩
theorem nf_7_8 : ∀ r ty, clOK 7 r ty → ((r.2.1 8).2.2.2 = true ∧ r.1 = "DoorRounds") := fun r ty h => by have e := h.1; cases e; exact ⟨rfl, rfl⟩
