theorem lw_ne0 : "DoorRounds" ≠ "java/lang/invoke/MethodHandle" ∧ "DoorRounds" ≠ "java/lang/invoke/VarHandle" := ⟨by decide +kernel, by decide +kernel⟩
theorem lw_ne1 : "DoorRounds$Plan" ≠ "java/lang/invoke/MethodHandle" ∧ "DoorRounds$Plan" ≠ "java/lang/invoke/VarHandle" := ⟨by decide +kernel, by decide +kernel⟩
theorem lw_ne2 : "DoorRounds$Standing" ≠ "java/lang/invoke/MethodHandle" ∧ "DoorRounds$Standing" ≠ "java/lang/invoke/VarHandle" := ⟨by decide +kernel, by decide +kernel⟩
theorem lw_ne3 : "DoorRounds$Errands" ≠ "java/lang/invoke/MethodHandle" ∧ "DoorRounds$Errands" ≠ "java/lang/invoke/VarHandle" := ⟨by decide +kernel, by decide +kernel⟩
