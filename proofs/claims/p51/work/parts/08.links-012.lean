theorem nf_7_9 : ∀ r ty, clOK 7 r ty → ((r.2.1 9).2.2.2 = true ∧ r.1 = "DoorRounds") := fun r ty h => by have e := h.1; cases e; exact ⟨rfl, rfl⟩
theorem nf_7_10 : ∀ r ty, clOK 7 r ty → (r.2.1 10).2.2.2 = false := fun r ty h => by have e := h.1; cases e; exact rfl
theorem nf_7_11 : ∀ r ty, clOK 7 r ty → (r.2.1 11).2.2.2 = false := fun r ty h => by have e := h.1; cases e; exact rfl
theorem nf_7_12 : ∀ r ty, clOK 7 r ty → (r.2.1 12).2.2.2 = false := fun r ty h => by have e := h.1; cases e; exact rfl
theorem nf_7_13 : ∀ r ty, clOK 7 r ty → (r.2.1 13).2.2.2 = false := fun r ty h => by have e := h.1; cases e; exact rfl
theorem nf_7_14 : ∀ r ty, clOK 7 r ty → (r.2.1 14).2.2.2 = false := fun r ty h => by have e := h.1; cases e; exact rfl
theorem nf_7_15 : ∀ r ty, clOK 7 r ty → (r.2.1 15).2.2.2 = false := fun r ty h => by have e := h.1; cases e; exact rfl
theorem n_8 : Cond.instantiable "DoorRoundsModel" 33 ∈ lw_g := lw_in (i := 828) (by decide +kernel) (by decide +kernel)
theorem nf_8_0 : ∀ r ty, clOK 8 r ty → (r.2.1 0).2.2.2 = false := fun r ty h => by have e := h.1; cases e; exact rfl
theorem nf_8_1 : ∀ r ty, clOK 8 r ty → ((r.2.1 1).2.2.2 = true ∧ r.1 = "DoorRoundsModel") := fun r ty h => by have e := h.1; cases e; exact ⟨rfl, rfl⟩
theorem nf_8_2 : ∀ r ty, clOK 8 r ty → (r.2.1 2).2.2.2 = false := fun r ty h => by have e := h.1; cases e; exact rfl
theorem nf_8_3 : ∀ r ty, clOK 8 r ty → (r.2.1 3).2.2.2 = false := fun r ty h => by have e := h.1; cases e; exact rfl
theorem nf_8_4 : ∀ r ty, clOK 8 r ty → (r.2.1 4).2.2.2 = false := fun r ty h => by have e := h.1; cases e; exact rfl
theorem nf_8_5 : ∀ r ty, clOK 8 r ty → ((r.2.1 5).2.2.2 = true ∧ r.1 = "DoorRoundsModel") := fun r ty h => by have e := h.1; cases e; exact ⟨rfl, rfl⟩
theorem nf_8_6 : ∀ r ty, clOK 8 r ty → ((r.2.1 6).2.2.2 = true ∧ r.1 = "DoorRoundsModel") := fun r ty h => by have e := h.1; cases e; exact ⟨rfl, rfl⟩
theorem nf_8_7 : ∀ r ty, clOK 8 r ty → ((r.2.1 7).2.2.2 = true ∧ r.1 = "DoorRoundsModel") := fun r ty h => by have e := h.1; cases e; exact ⟨rfl, rfl⟩
theorem nf_8_8 : ∀ r ty, clOK 8 r ty → ((r.2.1 8).2.2.2 = true ∧ r.1 = "DoorRoundsModel") := fun r ty h => by have e := h.1; cases e; exact ⟨rfl, rfl⟩
theorem nf_8_9 : ∀ r ty, clOK 8 r ty → ((r.2.1 9).2.2.2 = true ∧ r.1 = "DoorRoundsModel") := fun r ty h => by have e := h.1; cases e; exact ⟨rfl, rfl⟩
theorem nf_8_10 : ∀ r ty, clOK 8 r ty → (r.2.1 10).2.2.2 = false := fun r ty h => by have e := h.1; cases e; exact rfl
theorem nf_8_11 : ∀ r ty, clOK 8 r ty → (r.2.1 11).2.2.2 = false := fun r ty h => by have e := h.1; cases e; exact rfl
theorem nf_8_12 : ∀ r ty, clOK 8 r ty → ((r.2.1 12).2.2.2 = true ∧ r.1 = "DoorRoundsModel") := fun r ty h => by have e := h.1; cases e; exact ⟨rfl, rfl⟩
theorem nf_8_13 : ∀ r ty, clOK 8 r ty → (r.2.1 13).2.2.2 = false := fun r ty h => by have e := h.1; cases e; exact rfl
theorem nf_8_14 : ∀ r ty, clOK 8 r ty → (r.2.1 14).2.2.2 = false := fun r ty h => by have e := h.1; cases e; exact rfl
theorem nf_8_15 : ∀ r ty, clOK 8 r ty → (r.2.1 15).2.2.2 = false := fun r ty h => by have e := h.1; cases e; exact rfl
theorem nf_8_16 : ∀ r ty, clOK 8 r ty → (r.2.1 16).2.2.2 = false := fun r ty h => by have e := h.1; cases e; exact rfl
theorem nf_8_17 : ∀ r ty, clOK 8 r ty → ((r.2.1 17).2.2.2 = true ∧ r.1 = "DoorRoundsModel") := fun r ty h => by have e := h.1; cases e; exact ⟨rfl, rfl⟩
theorem nf_8_18 : ∀ r ty, clOK 8 r ty → (r.2.1 18).2.2.2 = false := fun r ty h => by have e := h.1; cases e; exact rfl
theorem nf_8_19 : ∀ r ty, clOK 8 r ty → (r.2.1 19).2.2.2 = false := fun r ty h => by have e := h.1; cases e; exact rfl
theorem nf_8_20 : ∀ r ty, clOK 8 r ty → ((r.2.1 20).2.2.2 = true ∧ r.1 = "DoorRoundsModel") := fun r ty h => by have e := h.1; cases e; exact ⟨rfl, rfl⟩
theorem nf_8_21 : ∀ r ty, clOK 8 r ty → ((r.2.1 21).2.2.2 = true ∧ r.1 = "DoorRoundsModel") := fun r ty h => by have e := h.1; cases e; exact ⟨rfl, rfl⟩
theorem nf_8_22 : ∀ r ty, clOK 8 r ty → ((r.2.1 22).2.2.2 = true ∧ r.1 = "DoorRoundsModel") := fun r ty h => by have e := h.1; cases e; exact ⟨rfl, rfl⟩
theorem nf_8_23 : ∀ r ty, clOK 8 r ty → ((r.2.1 23).2.2.2 = true ∧ r.1 = "DoorRoundsModel") := fun r ty h => by have e := h.1; cases e; exact ⟨rfl, rfl⟩
theorem nf_8_24 : ∀ r ty, clOK 8 r ty → ((r.2.1 24).2.2.2 = true ∧ r.1 = "DoorRoundsModel") := fun r ty h => by have e := h.1; cases e; exact ⟨rfl, rfl⟩
theorem nf_8_25 : ∀ r ty, clOK 8 r ty → ((r.2.1 25).2.2.2 = true ∧ r.1 = "DoorRoundsModel") := fun r ty h => by have e := h.1; cases e; exact ⟨rfl, rfl⟩
theorem nf_8_26 : ∀ r ty, clOK 8 r ty → ((r.2.1 26).2.2.2 = true ∧ r.1 = "DoorRoundsModel") := fun r ty h => by have e := h.1; cases e; exact ⟨rfl, rfl⟩
theorem nf_8_27 : ∀ r ty, clOK 8 r ty → ((r.2.1 27).2.2.2 = true ∧ r.1 = "DoorRoundsModel") := fun r ty h => by have e := h.1; cases e; exact ⟨rfl, rfl⟩
theorem nf_8_28 : ∀ r ty, clOK 8 r ty → (r.2.1 28).2.2.2 = false := fun r ty h => by have e := h.1; cases e; exact rfl
theorem nf_8_29 : ∀ r ty, clOK 8 r ty → ((r.2.1 29).2.2.2 = true ∧ r.1 = "DoorRoundsModel") := fun r ty h => by have e := h.1; cases e; exact ⟨rfl, rfl⟩
theorem nf_8_30 : ∀ r ty, clOK 8 r ty → ((r.2.1 30).2.2.2 = true ∧ r.1 = "DoorRoundsModel") := fun r ty h => by have e := h.1; cases e; exact ⟨rfl, rfl⟩
theorem nf_8_31 : ∀ r ty, clOK 8 r ty → (r.2.1 31).2.2.2 = false := fun r ty h => by have e := h.1; cases e; exact rfl
