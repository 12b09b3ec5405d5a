/-! ===== lists that name what is told ===== -/
theorem Cq.upA {u v : pM} (h : Cq qB u v) : Cq (qB ++ qA) u v := ⟨h.1, h.2.1, fun n k c => h.2.2 n k (fun z => c (List.mem_append_left _ z))⟩
theorem Mq.upA {u v : pM} (h : Mq mB u v) : Mq (mB ++ mA) u v := ⟨h.1, h.2.1, fun n k c => h.2.2.1 n k (fun z => c (List.mem_append_left _ z)), h.2.2.2⟩
