def fm_x : MethodName := ⟨"java/lang/Math", "floorMod", "(JJ)J"⟩
