section
-- ===== PART A: goes FIRST, ahead of the names: the tables' words, and 'selects' of the private methods out of them =====
/-- a private method of a class that the tables say can be made, by its rows of tables_1 -/
def lw_okq (q : MethodName × Nat) : Prop := (q.1.cls ≠ "java/lang/invoke/MethodHandle" ∧ q.1.cls ≠ "java/lang/invoke/VarHandle") ∧ Cond.instantiable q.1.cls q.2 ∈ tables_1 ∧ Cond.privateMethod q.1 ∈ tables_1 ∧ Cond.instanceMethod q.1 ∈ tables_1
theorem lw_p0 : lw_okq (⟨"DoorRounds", "found", "(I)I"⟩, 16) := ⟨⟨by decide +kernel, by decide +kernel⟩, List.mem_of_getElem? (i := 15) (by decide +kernel), List.mem_of_getElem? (i := 238) (by decide +kernel), List.mem_of_getElem? (i := 239) (by decide +kernel)⟩
theorem lw_p1 : lw_okq (⟨"DoorRounds", "rowOf", "(I)LDoorRounds$Strip;"⟩, 16) := ⟨⟨by decide +kernel, by decide +kernel⟩, List.mem_of_getElem? (i := 15) (by decide +kernel), List.mem_of_getElem? (i := 242) (by decide +kernel), List.mem_of_getElem? (i := 243) (by decide +kernel)⟩
theorem lw_p2 : lw_okq (⟨"DoorRounds", "tell", "(II)I"⟩, 16) := ⟨⟨by decide +kernel, by decide +kernel⟩, List.mem_of_getElem? (i := 15) (by decide +kernel), List.mem_of_getElem? (i := 280) (by decide +kernel), List.mem_of_getElem? (i := 281) (by decide +kernel)⟩
theorem lw_p3 : lw_okq (⟨"DoorRounds", "textOf", "(I)LDoorRounds$Strip;"⟩, 16) := ⟨⟨by decide +kernel, by decide +kernel⟩, List.mem_of_getElem? (i := 15) (by decide +kernel), List.mem_of_getElem? (i := 319) (by decide +kernel), List.mem_of_getElem? (i := 320) (by decide +kernel)⟩
theorem lw_p4 : lw_okq (⟨"DoorRounds$Plan", "readShop", "(LDoorRounds$Shop;)Z"⟩, 6) := ⟨⟨by decide +kernel, by decide +kernel⟩, List.mem_of_getElem? (i := 97) (by decide +kernel), List.mem_of_getElem? (i := 360) (by decide +kernel), List.mem_of_getElem? (i := 361) (by decide +kernel)⟩
theorem lw_p5 : lw_okq (⟨"DoorRounds$Plan", "isAhead", "(II)Z"⟩, 6) := ⟨⟨by decide +kernel, by decide +kernel⟩, List.mem_of_getElem? (i := 97) (by decide +kernel), List.mem_of_getElem? (i := 396) (by decide +kernel), List.mem_of_getElem? (i := 397) (by decide +kernel)⟩
theorem lw_p6 : lw_okq (⟨"DoorRounds", "keptOf", "(I)LDoorRounds$Standing;"⟩, 16) := ⟨⟨by decide +kernel, by decide +kernel⟩, List.mem_of_getElem? (i := 15) (by decide +kernel), List.mem_of_getElem? (i := 409) (by decide +kernel), List.mem_of_getElem? (i := 410) (by decide +kernel)⟩
theorem lw_p7 : lw_okq (⟨"DoorRounds", "trait", "(II)I"⟩, 16) := ⟨⟨by decide +kernel, by decide +kernel⟩, List.mem_of_getElem? (i := 15) (by decide +kernel), List.mem_of_getElem? (i := 421) (by decide +kernel), List.mem_of_getElem? (i := 422) (by decide +kernel)⟩
theorem lw_p8 : lw_okq (⟨"DoorRounds", "neighbours", "(I)I"⟩, 16) := ⟨⟨by decide +kernel, by decide +kernel⟩, List.mem_of_getElem? (i := 15) (by decide +kernel), List.mem_of_getElem? (i := 438) (by decide +kernel), List.mem_of_getElem? (i := 439) (by decide +kernel)⟩
theorem lw_p9 : lw_okq (⟨"DoorRounds", "rivals", "(I)I"⟩, 16) := ⟨⟨by decide +kernel, by decide +kernel⟩, List.mem_of_getElem? (i := 15) (by decide +kernel), List.mem_of_getElem? (i := 454) (by decide +kernel), List.mem_of_getElem? (i := 455) (by decide +kernel)⟩
theorem lw_p10 : lw_okq (⟨"DoorRounds$Standing", "passOne", "(LDoorRounds$Plan;)V"⟩, 3) := ⟨⟨by decide +kernel, by decide +kernel⟩, List.mem_of_getElem? (i := 44) (by decide +kernel), List.mem_of_getElem? (i := 528) (by decide +kernel), List.mem_of_getElem? (i := 529) (by decide +kernel)⟩
theorem lw_p11 : lw_okq (⟨"DoorRounds", "areTwo", "(II)Z"⟩, 16) := ⟨⟨by decide +kernel, by decide +kernel⟩, List.mem_of_getElem? (i := 15) (by decide +kernel), List.mem_of_getElem? (i := 579) (by decide +kernel), List.mem_of_getElem? (i := 580) (by decide +kernel)⟩
theorem lw_p12 : lw_okq (⟨"DoorRounds$Errands", "leastOf", "(I)J"⟩, 2) := ⟨⟨by decide +kernel, by decide +kernel⟩, List.mem_of_getElem? (i := 83) (by decide +kernel), List.mem_of_getElem? (i := 663) (by decide +kernel), List.mem_of_getElem? (i := 664) (by decide +kernel)⟩
theorem lw_p13 : lw_okq (⟨"DoorRounds", "metBy", "(II)I"⟩, 16) := ⟨⟨by decide +kernel, by decide +kernel⟩, List.mem_of_getElem? (i := 15) (by decide +kernel), List.mem_of_getElem? (i := 685) (by decide +kernel), List.mem_of_getElem? (i := 686) (by decide +kernel)⟩
theorem lw_p14 : lw_okq (⟨"DoorRounds", "passersFinding", "(LDoorRounds$Strip;)I"⟩, 16) := ⟨⟨by decide +kernel, by decide +kernel⟩, List.mem_of_getElem? (i := 15) (by decide +kernel), List.mem_of_getElem? (i := 734) (by decide +kernel), List.mem_of_getElem? (i := 735) (by decide +kernel)⟩
theorem lw_p15 : lw_okq (⟨"DoorRounds", "rentOf", "(LDoorRounds$Strip;II)I"⟩, 16) := ⟨⟨by decide +kernel, by decide +kernel⟩, List.mem_of_getElem? (i := 15) (by decide +kernel), List.mem_of_getElem? (i := 738) (by decide +kernel), List.mem_of_getElem? (i := 739) (by decide +kernel)⟩
def lw_privs_1 : List (MethodName × Nat) := [(⟨"DoorRounds", "found", "(I)I"⟩, 16), (⟨"DoorRounds", "rowOf", "(I)LDoorRounds$Strip;"⟩, 16), (⟨"DoorRounds", "tell", "(II)I"⟩, 16), (⟨"DoorRounds", "textOf", "(I)LDoorRounds$Strip;"⟩, 16), (⟨"DoorRounds$Plan", "readShop", "(LDoorRounds$Shop;)Z"⟩, 6), (⟨"DoorRounds$Plan", "isAhead", "(II)Z"⟩, 6), (⟨"DoorRounds", "keptOf", "(I)LDoorRounds$Standing;"⟩, 16), (⟨"DoorRounds", "trait", "(II)I"⟩, 16), (⟨"DoorRounds", "neighbours", "(I)I"⟩, 16), (⟨"DoorRounds", "rivals", "(I)I"⟩, 16), (⟨"DoorRounds$Standing", "passOne", "(LDoorRounds$Plan;)V"⟩, 3), (⟨"DoorRounds", "areTwo", "(II)Z"⟩, 16), (⟨"DoorRounds$Errands", "leastOf", "(I)J"⟩, 2), (⟨"DoorRounds", "metBy", "(II)I"⟩, 16), (⟨"DoorRounds", "passersFinding", "(LDoorRounds$Strip;)I"⟩, 16), (⟨"DoorRounds", "rentOf", "(LDoorRounds$Strip;II)I"⟩, 16)]
theorem lw_r1 : ∀ q ∈ lw_privs_1, lw_okq q := List.forall_mem_cons.mpr ⟨lw_p0, List.forall_mem_cons.mpr ⟨lw_p1, List.forall_mem_cons.mpr ⟨lw_p2, List.forall_mem_cons.mpr ⟨lw_p3, List.forall_mem_cons.mpr ⟨lw_p4, List.forall_mem_cons.mpr ⟨lw_p5, List.forall_mem_cons.mpr ⟨lw_p6, List.forall_mem_cons.mpr ⟨lw_p7, List.forall_mem_cons.mpr ⟨lw_p8, List.forall_mem_cons.mpr ⟨lw_p9, List.forall_mem_cons.mpr ⟨lw_p10, List.forall_mem_cons.mpr ⟨lw_p11, List.forall_mem_cons.mpr ⟨lw_p12, List.forall_mem_cons.mpr ⟨lw_p13, List.forall_mem_cons.mpr ⟨lw_p14, List.forall_mem_cons.mpr ⟨lw_p15, fun _ h => absurd h List.not_mem_nil⟩⟩⟩⟩⟩⟩⟩⟩⟩⟩⟩⟩⟩⟩⟩⟩
theorem lw_p16 : lw_okq (⟨"DoorRounds", "tellFraction", "(JJ)V"⟩, 16) := ⟨⟨by decide +kernel, by decide +kernel⟩, List.mem_of_getElem? (i := 15) (by decide +kernel), List.mem_of_getElem? (i := 746) (by decide +kernel), List.mem_of_getElem? (i := 747) (by decide +kernel)⟩
theorem lw_p17 : lw_okq (⟨"DoorRounds", "imageFinding", "(LDoorRounds$Strip;)I"⟩, 16) := ⟨⟨by decide +kernel, by decide +kernel⟩, List.mem_of_getElem? (i := 15) (by decide +kernel), List.mem_of_getElem? (i := 767) (by decide +kernel), List.mem_of_getElem? (i := 768) (by decide +kernel)⟩
theorem lw_p18 : lw_okq (⟨"DoorRounds", "countOf", "(I)I"⟩, 16) := ⟨⟨by decide +kernel, by decide +kernel⟩, List.mem_of_getElem? (i := 15) (by decide +kernel), List.mem_of_getElem? (i := 792) (by decide +kernel), List.mem_of_getElem? (i := 793) (by decide +kernel)⟩
theorem lw_p19 : lw_okq (⟨"DoorRoundsModel", "meet", "(I)I"⟩, 33) := ⟨⟨by decide +kernel, by decide +kernel⟩, List.mem_of_getElem? (i := 828) (by decide +kernel), List.mem_of_getElem? (i := 944) (by decide +kernel), List.mem_of_getElem? (i := 945) (by decide +kernel)⟩
theorem lw_p20 : lw_okq (⟨"DoorRoundsModel", "setRow", "(III)V"⟩, 33) := ⟨⟨by decide +kernel, by decide +kernel⟩, List.mem_of_getElem? (i := 828) (by decide +kernel), List.mem_of_getElem? (i := 948) (by decide +kernel), List.mem_of_getElem? (i := 949) (by decide +kernel)⟩
theorem lw_p21 : lw_okq (⟨"DoorRoundsModel", "askedRow", "(I)I"⟩, 33) := ⟨⟨by decide +kernel, by decide +kernel⟩, List.mem_of_getElem? (i := 828) (by decide +kernel), List.mem_of_getElem? (i := 956) (by decide +kernel), List.mem_of_getElem? (i := 957) (by decide +kernel)⟩
theorem lw_p22 : lw_okq (⟨"DoorRoundsModel", "rowAt", "(II)I"⟩, 33) := ⟨⟨by decide +kernel, by decide +kernel⟩, List.mem_of_getElem? (i := 828) (by decide +kernel), List.mem_of_getElem? (i := 960) (by decide +kernel), List.mem_of_getElem? (i := 961) (by decide +kernel)⟩
theorem lw_p23 : lw_okq (⟨"DoorRoundsModel", "ask", "(II)I"⟩, 33) := ⟨⟨by decide +kernel, by decide +kernel⟩, List.mem_of_getElem? (i := 828) (by decide +kernel), List.mem_of_getElem? (i := 964) (by decide +kernel), List.mem_of_getElem? (i := 965) (by decide +kernel)⟩
theorem lw_p24 : lw_okq (⟨"DoorRoundsModel", "askedText", "(I)I"⟩, 33) := ⟨⟨by decide +kernel, by decide +kernel⟩, List.mem_of_getElem? (i := 828) (by decide +kernel), List.mem_of_getElem? (i := 996) (by decide +kernel), List.mem_of_getElem? (i := 997) (by decide +kernel)⟩
theorem lw_p25 : lw_okq (⟨"DoorRoundsModel", "goesOn", "(I)I"⟩, 33) := ⟨⟨by decide +kernel, by decide +kernel⟩, List.mem_of_getElem? (i := 828) (by decide +kernel), List.mem_of_getElem? (i := 1004) (by decide +kernel), List.mem_of_getElem? (i := 1005) (by decide +kernel)⟩
theorem lw_p26 : lw_okq (⟨"DoorRoundsModel", "here", "(I)I"⟩, 33) := ⟨⟨by decide +kernel, by decide +kernel⟩, List.mem_of_getElem? (i := 828) (by decide +kernel), List.mem_of_getElem? (i := 1008) (by decide +kernel), List.mem_of_getElem? (i := 1009) (by decide +kernel)⟩
theorem lw_p27 : lw_okq (⟨"DoorRoundsModel", "readsDoors", "(I)Z"⟩, 33) := ⟨⟨by decide +kernel, by decide +kernel⟩, List.mem_of_getElem? (i := 828) (by decide +kernel), List.mem_of_getElem? (i := 1012) (by decide +kernel), List.mem_of_getElem? (i := 1013) (by decide +kernel)⟩
theorem lw_p28 : lw_okq (⟨"DoorRoundsModel", "sees", "(II)Z"⟩, 33) := ⟨⟨by decide +kernel, by decide +kernel⟩, List.mem_of_getElem? (i := 828) (by decide +kernel), List.mem_of_getElem? (i := 1016) (by decide +kernel), List.mem_of_getElem? (i := 1017) (by decide +kernel)⟩
theorem lw_p29 : lw_okq (⟨"DoorRoundsModel", "readsNumber", "(III)Z"⟩, 33) := ⟨⟨by decide +kernel, by decide +kernel⟩, List.mem_of_getElem? (i := 828) (by decide +kernel), List.mem_of_getElem? (i := 1020) (by decide +kernel), List.mem_of_getElem? (i := 1021) (by decide +kernel)⟩
theorem lw_p30 : lw_okq (⟨"DoorRoundsModel", "readsShop", "(I)Z"⟩, 33) := ⟨⟨by decide +kernel, by decide +kernel⟩, List.mem_of_getElem? (i := 828) (by decide +kernel), List.mem_of_getElem? (i := 1024) (by decide +kernel), List.mem_of_getElem? (i := 1025) (by decide +kernel)⟩
theorem lw_p31 : lw_okq (⟨"DoorRoundsModel", "isTold", "(I)Z"⟩, 33) := ⟨⟨by decide +kernel, by decide +kernel⟩, List.mem_of_getElem? (i := 828) (by decide +kernel), List.mem_of_getElem? (i := 1031) (by decide +kernel), List.mem_of_getElem? (i := 1032) (by decide +kernel)⟩
def lw_privs_2 : List (MethodName × Nat) := [(⟨"DoorRounds", "tellFraction", "(JJ)V"⟩, 16), (⟨"DoorRounds", "imageFinding", "(LDoorRounds$Strip;)I"⟩, 16), (⟨"DoorRounds", "countOf", "(I)I"⟩, 16), (⟨"DoorRoundsModel", "meet", "(I)I"⟩, 33), (⟨"DoorRoundsModel", "setRow", "(III)V"⟩, 33), (⟨"DoorRoundsModel", "askedRow", "(I)I"⟩, 33), (⟨"DoorRoundsModel", "rowAt", "(II)I"⟩, 33), (⟨"DoorRoundsModel", "ask", "(II)I"⟩, 33), (⟨"DoorRoundsModel", "askedText", "(I)I"⟩, 33), (⟨"DoorRoundsModel", "goesOn", "(I)I"⟩, 33), (⟨"DoorRoundsModel", "here", "(I)I"⟩, 33), (⟨"DoorRoundsModel", "readsDoors", "(I)Z"⟩, 33), (⟨"DoorRoundsModel", "sees", "(II)Z"⟩, 33), (⟨"DoorRoundsModel", "readsNumber", "(III)Z"⟩, 33), (⟨"DoorRoundsModel", "readsShop", "(I)Z"⟩, 33), (⟨"DoorRoundsModel", "isTold", "(I)Z"⟩, 33)]
theorem lw_r2 : ∀ q ∈ lw_privs_2, lw_okq q := List.forall_mem_cons.mpr ⟨lw_p16, List.forall_mem_cons.mpr ⟨lw_p17, List.forall_mem_cons.mpr ⟨lw_p18, List.forall_mem_cons.mpr ⟨lw_p19, List.forall_mem_cons.mpr ⟨lw_p20, List.forall_mem_cons.mpr ⟨lw_p21, List.forall_mem_cons.mpr ⟨lw_p22, List.forall_mem_cons.mpr ⟨lw_p23, List.forall_mem_cons.mpr ⟨lw_p24, List.forall_mem_cons.mpr ⟨lw_p25, List.forall_mem_cons.mpr ⟨lw_p26, List.forall_mem_cons.mpr ⟨lw_p27, List.forall_mem_cons.mpr ⟨lw_p28, List.forall_mem_cons.mpr ⟨lw_p29, List.forall_mem_cons.mpr ⟨lw_p30, List.forall_mem_cons.mpr ⟨lw_p31, fun _ h => absurd h List.not_mem_nil⟩⟩⟩⟩⟩⟩⟩⟩⟩⟩⟩⟩⟩⟩⟩⟩
theorem lw_p32 : lw_okq (⟨"DoorRoundsModel", "readsFigure", "(II)Z"⟩, 33) := ⟨⟨by decide +kernel, by decide +kernel⟩, List.mem_of_getElem? (i := 828) (by decide +kernel), List.mem_of_getElem? (i := 1035) (by decide +kernel), List.mem_of_getElem? (i := 1036) (by decide +kernel)⟩
theorem lw_p33 : lw_okq (⟨"DoorRoundsModel", "tell", "(II)I"⟩, 33) := ⟨⟨by decide +kernel, by decide +kernel⟩, List.mem_of_getElem? (i := 828) (by decide +kernel), List.mem_of_getElem? (i := 1043) (by decide +kernel), List.mem_of_getElem? (i := 1044) (by decide +kernel)⟩
theorem lw_p34 : lw_okq (⟨"DoorRoundsModel", "isShop", "(I)Z"⟩, 33) := ⟨⟨by decide +kernel, by decide +kernel⟩, List.mem_of_getElem? (i := 828) (by decide +kernel), List.mem_of_getElem? (i := 1051) (by decide +kernel), List.mem_of_getElem? (i := 1052) (by decide +kernel)⟩
theorem lw_p35 : lw_okq (⟨"DoorRoundsModel", "aboutOf", "(II)I"⟩, 33) := ⟨⟨by decide +kernel, by decide +kernel⟩, List.mem_of_getElem? (i := 828) (by decide +kernel), List.mem_of_getElem? (i := 1055) (by decide +kernel), List.mem_of_getElem? (i := 1056) (by decide +kernel)⟩
theorem lw_p36 : lw_okq (⟨"DoorRoundsModel", "isSleeper", "(I)Z"⟩, 33) := ⟨⟨by decide +kernel, by decide +kernel⟩, List.mem_of_getElem? (i := 828) (by decide +kernel), List.mem_of_getElem? (i := 1063) (by decide +kernel), List.mem_of_getElem? (i := 1064) (by decide +kernel)⟩
theorem lw_p37 : lw_okq (⟨"DoorRoundsModel", "areBeside", "(II)Z"⟩, 33) := ⟨⟨by decide +kernel, by decide +kernel⟩, List.mem_of_getElem? (i := 828) (by decide +kernel), List.mem_of_getElem? (i := 1067) (by decide +kernel), List.mem_of_getElem? (i := 1068) (by decide +kernel)⟩
theorem lw_p38 : lw_okq (⟨"DoorRoundsModel", "doorAt", "(J)I"⟩, 33) := ⟨⟨by decide +kernel, by decide +kernel⟩, List.mem_of_getElem? (i := 828) (by decide +kernel), List.mem_of_getElem? (i := 1071) (by decide +kernel), List.mem_of_getElem? (i := 1072) (by decide +kernel)⟩
theorem lw_p39 : lw_okq (⟨"DoorRoundsModel", "going", "(II)I"⟩, 33) := ⟨⟨by decide +kernel, by decide +kernel⟩, List.mem_of_getElem? (i := 828) (by decide +kernel), List.mem_of_getElem? (i := 1075) (by decide +kernel), List.mem_of_getElem? (i := 1076) (by decide +kernel)⟩
theorem lw_p40 : lw_okq (⟨"DoorRoundsModel", "isDoor", "(I)Z"⟩, 33) := ⟨⟨by decide +kernel, by decide +kernel⟩, List.mem_of_getElem? (i := 828) (by decide +kernel), List.mem_of_getElem? (i := 1086) (by decide +kernel), List.mem_of_getElem? (i := 1087) (by decide +kernel)⟩
theorem lw_p41 : lw_okq (⟨"DoorRoundsModel", "shutMany", "()I"⟩, 33) := ⟨⟨by decide +kernel, by decide +kernel⟩, List.mem_of_getElem? (i := 828) (by decide +kernel), List.mem_of_getElem? (i := 1090) (by decide +kernel), List.mem_of_getElem? (i := 1091) (by decide +kernel)⟩
theorem lw_p42 : lw_okq (⟨"DoorRoundsModel", "fromNow", "()V"⟩, 33) := ⟨⟨by decide +kernel, by decide +kernel⟩, List.mem_of_getElem? (i := 828) (by decide +kernel), List.mem_of_getElem? (i := 1103) (by decide +kernel), List.mem_of_getElem? (i := 1104) (by decide +kernel)⟩
theorem lw_p43 : lw_okq (⟨"DoorRoundsModel", "passOne", "(II)V"⟩, 33) := ⟨⟨by decide +kernel, by decide +kernel⟩, List.mem_of_getElem? (i := 828) (by decide +kernel), List.mem_of_getElem? (i := 1107) (by decide +kernel), List.mem_of_getElem? (i := 1108) (by decide +kernel)⟩
theorem lw_p44 : lw_okq (⟨"DoorRoundsModel", "taker", "(I)I"⟩, 33) := ⟨⟨by decide +kernel, by decide +kernel⟩, List.mem_of_getElem? (i := 828) (by decide +kernel), List.mem_of_getElem? (i := 1111) (by decide +kernel), List.mem_of_getElem? (i := 1112) (by decide +kernel)⟩
theorem lw_p45 : lw_okq (⟨"DoorRoundsModel", "plainBy", "(IIIIJJ)I"⟩, 33) := ⟨⟨by decide +kernel, by decide +kernel⟩, List.mem_of_getElem? (i := 828) (by decide +kernel), List.mem_of_getElem? (i := 1137) (by decide +kernel), List.mem_of_getElem? (i := 1138) (by decide +kernel)⟩
theorem lw_p46 : lw_okq (⟨"DoorRoundsModel", "isPair", "(III)Z"⟩, 33) := ⟨⟨by decide +kernel, by decide +kernel⟩, List.mem_of_getElem? (i := 828) (by decide +kernel), List.mem_of_getElem? (i := 1169) (by decide +kernel), List.mem_of_getElem? (i := 1170) (by decide +kernel)⟩
theorem lw_p47 : lw_okq (⟨"DoorRoundsModel", "divisor", "(I)I"⟩, 33) := ⟨⟨by decide +kernel, by decide +kernel⟩, List.mem_of_getElem? (i := 828) (by decide +kernel), List.mem_of_getElem? (i := 1173) (by decide +kernel), List.mem_of_getElem? (i := 1174) (by decide +kernel)⟩
def lw_privs_3 : List (MethodName × Nat) := [(⟨"DoorRoundsModel", "readsFigure", "(II)Z"⟩, 33), (⟨"DoorRoundsModel", "tell", "(II)I"⟩, 33), (⟨"DoorRoundsModel", "isShop", "(I)Z"⟩, 33), (⟨"DoorRoundsModel", "aboutOf", "(II)I"⟩, 33), (⟨"DoorRoundsModel", "isSleeper", "(I)Z"⟩, 33), (⟨"DoorRoundsModel", "areBeside", "(II)Z"⟩, 33), (⟨"DoorRoundsModel", "doorAt", "(J)I"⟩, 33), (⟨"DoorRoundsModel", "going", "(II)I"⟩, 33), (⟨"DoorRoundsModel", "isDoor", "(I)Z"⟩, 33), (⟨"DoorRoundsModel", "shutMany", "()I"⟩, 33), (⟨"DoorRoundsModel", "fromNow", "()V"⟩, 33), (⟨"DoorRoundsModel", "passOne", "(II)V"⟩, 33), (⟨"DoorRoundsModel", "taker", "(I)I"⟩, 33), (⟨"DoorRoundsModel", "plainBy", "(IIIIJJ)I"⟩, 33), (⟨"DoorRoundsModel", "isPair", "(III)Z"⟩, 33), (⟨"DoorRoundsModel", "divisor", "(I)I"⟩, 33)]
theorem lw_r3 : ∀ q ∈ lw_privs_3, lw_okq q := List.forall_mem_cons.mpr ⟨lw_p32, List.forall_mem_cons.mpr ⟨lw_p33, List.forall_mem_cons.mpr ⟨lw_p34, List.forall_mem_cons.mpr ⟨lw_p35, List.forall_mem_cons.mpr ⟨lw_p36, List.forall_mem_cons.mpr ⟨lw_p37, List.forall_mem_cons.mpr ⟨lw_p38, List.forall_mem_cons.mpr ⟨lw_p39, List.forall_mem_cons.mpr ⟨lw_p40, List.forall_mem_cons.mpr ⟨lw_p41, List.forall_mem_cons.mpr ⟨lw_p42, List.forall_mem_cons.mpr ⟨lw_p43, List.forall_mem_cons.mpr ⟨lw_p44, List.forall_mem_cons.mpr ⟨lw_p45, List.forall_mem_cons.mpr ⟨lw_p46, List.forall_mem_cons.mpr ⟨lw_p47, fun _ h => absurd h List.not_mem_nil⟩⟩⟩⟩⟩⟩⟩⟩⟩⟩⟩⟩⟩⟩⟩⟩
theorem lw_p48 : lw_okq (⟨"DoorRoundsModel", "walkOf", "(II)I"⟩, 33) := ⟨⟨by decide +kernel, by decide +kernel⟩, List.mem_of_getElem? (i := 828) (by decide +kernel), List.mem_of_getElem? (i := 1185) (by decide +kernel), List.mem_of_getElem? (i := 1186) (by decide +kernel)⟩
theorem lw_p49 : lw_okq (⟨"DoorRoundsModel", "isSet", "(I)Z"⟩, 33) := ⟨⟨by decide +kernel, by decide +kernel⟩, List.mem_of_getElem? (i := 828) (by decide +kernel), List.mem_of_getElem? (i := 1193) (by decide +kernel), List.mem_of_getElem? (i := 1194) (by decide +kernel)⟩
theorem lw_p50 : lw_okq (⟨"DoorRoundsModel", "roundOf", "(II)I"⟩, 33) := ⟨⟨by decide +kernel, by decide +kernel⟩, List.mem_of_getElem? (i := 828) (by decide +kernel), List.mem_of_getElem? (i := 1197) (by decide +kernel), List.mem_of_getElem? (i := 1198) (by decide +kernel)⟩
theorem lw_p51 : lw_okq (⟨"DoorRoundsModel", "leastFor", "(II)I"⟩, 33) := ⟨⟨by decide +kernel, by decide +kernel⟩, List.mem_of_getElem? (i := 828) (by decide +kernel), List.mem_of_getElem? (i := 1210) (by decide +kernel), List.mem_of_getElem? (i := 1211) (by decide +kernel)⟩
theorem lw_p52 : lw_okq (⟨"DoorRoundsModel", "mayIn", "(II)Z"⟩, 33) := ⟨⟨by decide +kernel, by decide +kernel⟩, List.mem_of_getElem? (i := 828) (by decide +kernel), List.mem_of_getElem? (i := 1214) (by decide +kernel), List.mem_of_getElem? (i := 1215) (by decide +kernel)⟩
theorem lw_p53 : lw_okq (⟨"DoorRoundsModel", "joinsOf", "(II)I"⟩, 33) := ⟨⟨by decide +kernel, by decide +kernel⟩, List.mem_of_getElem? (i := 828) (by decide +kernel), List.mem_of_getElem? (i := 1226) (by decide +kernel), List.mem_of_getElem? (i := 1227) (by decide +kernel)⟩
theorem lw_p54 : lw_okq (⟨"DoorRoundsModel", "fits", "(IIII)Z"⟩, 33) := ⟨⟨by decide +kernel, by decide +kernel⟩, List.mem_of_getElem? (i := 828) (by decide +kernel), List.mem_of_getElem? (i := 1253) (by decide +kernel), List.mem_of_getElem? (i := 1254) (by decide +kernel)⟩
theorem lw_p55 : lw_okq (⟨"DoorRoundsModel", "askedRents", "(I)I"⟩, 33) := ⟨⟨by decide +kernel, by decide +kernel⟩, List.mem_of_getElem? (i := 828) (by decide +kernel), List.mem_of_getElem? (i := 1265) (by decide +kernel), List.mem_of_getElem? (i := 1266) (by decide +kernel)⟩
theorem lw_p56 : lw_okq (⟨"DoorRoundsModel", "setRents", "(II)V"⟩, 33) := ⟨⟨by decide +kernel, by decide +kernel⟩, List.mem_of_getElem? (i := 828) (by decide +kernel), List.mem_of_getElem? (i := 1269) (by decide +kernel), List.mem_of_getElem? (i := 1270) (by decide +kernel)⟩
theorem lw_p57 : lw_okq (⟨"DoorRoundsModel", "part", "(JJI)I"⟩, 33) := ⟨⟨by decide +kernel, by decide +kernel⟩, List.mem_of_getElem? (i := 828) (by decide +kernel), List.mem_of_getElem? (i := 1277) (by decide +kernel), List.mem_of_getElem? (i := 1278) (by decide +kernel)⟩
theorem lw_p58 : lw_okq (⟨"DoorRoundsModel", "setPlans", "(I)V"⟩, 33) := ⟨⟨by decide +kernel, by decide +kernel⟩, List.mem_of_getElem? (i := 828) (by decide +kernel), List.mem_of_getElem? (i := 1285) (by decide +kernel), List.mem_of_getElem? (i := 1286) (by decide +kernel)⟩
theorem lw_p59 : lw_okq (⟨"DoorRoundsModel", "othersBy", "(II)I"⟩, 33) := ⟨⟨by decide +kernel, by decide +kernel⟩, List.mem_of_getElem? (i := 828) (by decide +kernel), List.mem_of_getElem? (i := 1289) (by decide +kernel), List.mem_of_getElem? (i := 1290) (by decide +kernel)⟩
theorem lw_p60 : lw_okq (⟨"DoorRoundsModel", "isImage", "(I)Z"⟩, 33) := ⟨⟨by decide +kernel, by decide +kernel⟩, List.mem_of_getElem? (i := 828) (by decide +kernel), List.mem_of_getElem? (i := 1305) (by decide +kernel), List.mem_of_getElem? (i := 1306) (by decide +kernel)⟩
theorem lw_p61 : lw_okq (⟨"DoorRoundsModel", "counts", "(I)I"⟩, 33) := ⟨⟨by decide +kernel, by decide +kernel⟩, List.mem_of_getElem? (i := 828) (by decide +kernel), List.mem_of_getElem? (i := 1325) (by decide +kernel), List.mem_of_getElem? (i := 1326) (by decide +kernel)⟩
theorem lw_p62 : lw_okq (⟨"DoorRoundsModel", "mix", "(I)V"⟩, 33) := ⟨⟨by decide +kernel, by decide +kernel⟩, List.mem_of_getElem? (i := 828) (by decide +kernel), List.mem_of_getElem? (i := 1342) (by decide +kernel), List.mem_of_getElem? (i := 1343) (by decide +kernel)⟩
theorem lw_p63 : lw_okq (⟨"DoorRoundsModel", "mixSquare", "()V"⟩, 33) := ⟨⟨by decide +kernel, by decide +kernel⟩, List.mem_of_getElem? (i := 828) (by decide +kernel), List.mem_of_getElem? (i := 1347) (by decide +kernel), List.mem_of_getElem? (i := 1348) (by decide +kernel)⟩
def lw_privs_4 : List (MethodName × Nat) := [(⟨"DoorRoundsModel", "walkOf", "(II)I"⟩, 33), (⟨"DoorRoundsModel", "isSet", "(I)Z"⟩, 33), (⟨"DoorRoundsModel", "roundOf", "(II)I"⟩, 33), (⟨"DoorRoundsModel", "leastFor", "(II)I"⟩, 33), (⟨"DoorRoundsModel", "mayIn", "(II)Z"⟩, 33), (⟨"DoorRoundsModel", "joinsOf", "(II)I"⟩, 33), (⟨"DoorRoundsModel", "fits", "(IIII)Z"⟩, 33), (⟨"DoorRoundsModel", "askedRents", "(I)I"⟩, 33), (⟨"DoorRoundsModel", "setRents", "(II)V"⟩, 33), (⟨"DoorRoundsModel", "part", "(JJI)I"⟩, 33), (⟨"DoorRoundsModel", "setPlans", "(I)V"⟩, 33), (⟨"DoorRoundsModel", "othersBy", "(II)I"⟩, 33), (⟨"DoorRoundsModel", "isImage", "(I)Z"⟩, 33), (⟨"DoorRoundsModel", "counts", "(I)I"⟩, 33), (⟨"DoorRoundsModel", "mix", "(I)V"⟩, 33), (⟨"DoorRoundsModel", "mixSquare", "()V"⟩, 33)]
theorem lw_r4 : ∀ q ∈ lw_privs_4, lw_okq q := List.forall_mem_cons.mpr ⟨lw_p48, List.forall_mem_cons.mpr ⟨lw_p49, List.forall_mem_cons.mpr ⟨lw_p50, List.forall_mem_cons.mpr ⟨lw_p51, List.forall_mem_cons.mpr ⟨lw_p52, List.forall_mem_cons.mpr ⟨lw_p53, List.forall_mem_cons.mpr ⟨lw_p54, List.forall_mem_cons.mpr ⟨lw_p55, List.forall_mem_cons.mpr ⟨lw_p56, List.forall_mem_cons.mpr ⟨lw_p57, List.forall_mem_cons.mpr ⟨lw_p58, List.forall_mem_cons.mpr ⟨lw_p59, List.forall_mem_cons.mpr ⟨lw_p60, List.forall_mem_cons.mpr ⟨lw_p61, List.forall_mem_cons.mpr ⟨lw_p62, List.forall_mem_cons.mpr ⟨lw_p63, fun _ h => absurd h List.not_mem_nil⟩⟩⟩⟩⟩⟩⟩⟩⟩⟩⟩⟩⟩⟩⟩⟩
def lw_privs : List (MethodName × Nat) := lw_privs_1 ++ (lw_privs_2 ++ (lw_privs_3 ++ (lw_privs_4)))
def lw_tbl : List Cond := k2_sels lw_privs ++ tables_1
theorem lw_privs_ok : ∀ q ∈ lw_privs, lw_okq q := by
  show ∀ q ∈ lw_privs_1 ++ (lw_privs_2 ++ (lw_privs_3 ++ (lw_privs_4))), lw_okq q
  exact List.forall_mem_append.mpr ⟨lw_r1, List.forall_mem_append.mpr ⟨lw_r2, List.forall_mem_append.mpr ⟨lw_r3, lw_r4⟩⟩⟩
def lw_g : List Cond := lw_tbl.filter goodWord
theorem lw_in {w : Cond} {i : Nat} (h : tables_1[i]? = some w) (hg : goodWord w = true) : w ∈ lw_g := List.mem_filter.mpr ⟨List.mem_append_right _ (List.mem_of_getElem? h), hg⟩
theorem lw_ins (ws : List Cond) (ps : List Nat) (hp : ws = ps.filterMap (fun i => tables_1[i]?)) (hg : ws.all goodWord = true) : ∀ w ∈ ws, w ∈ lw_g := by
  intro w hw
  have h1 := List.all_eq_true.mp hg w hw
  rw [hp] at hw
  obtain ⟨i, -, hi⟩ := List.mem_filterMap.mp hw
  exact lw_in hi h1
theorem lw_insel {q : MethodName × Nat} {i : Nat} (h : lw_privs[i]? = some q) (hg : goodWord (Cond.selects q.1.cls q.1 q.1) = true) : Cond.selects q.1.cls q.1 q.1 ∈ lw_g := List.mem_filter.mpr ⟨List.mem_append_left _ (List.mem_map.mpr ⟨q, List.mem_of_getElem? h, rfl⟩), hg⟩
def TX0 : u_T := fun k => match k with
  | 0 => ("DoorRounds$Diary", "size", "I", false)
  | 1 => ("DoorRounds$Diary", "weeks", "[I", true)
  | 2 => ("DoorRounds$Diary", "shops", "[I", true)
  | _ => ("DoorRounds$Diary", "doors", "[I", true)
def tyX0 : Nat → FieldType := fun k => match k with
  | 0 => .int
  | 1 => .array .int
  | 2 => .array .int
  | _ => .array .int
def TX1 : u_T := fun k => match k with
  | 0 => ("DoorRounds$Errands", "together", "[J", true)
  | _ => ("DoorRounds$Errands", "shared", "[J", true)
def tyX1 : Nat → FieldType := fun k => match k with
  | 0 => .array .long
  | _ => .array .long
def TX2 : u_T := fun k => match k with
  | 0 => ("DoorRounds$Plan", "doors", "I", false)
  | 1 => ("DoorRounds$Plan", "size", "I", false)
  | 2 => ("DoorRounds$Plan", "shops", "[LDoorRounds$Shop;", true)
  | 3 => ("DoorRounds$Plan", "noShop", "LDoorRounds$Shop;", true)
  | 4 => ("DoorRounds$Plan", "order", "[I", true)
  | _ => ("DoorRounds$Plan", "reader", "LDoorRounds$Reader;", true)
def tyX2 : Nat → FieldType := fun k => match k with
  | 0 => .int
  | 1 => .int
  | 2 => .array (.object "DoorRounds$Shop")
  | 3 => .object "DoorRounds$Shop"
  | 4 => .array .int
  | _ => .object "DoorRounds$Reader"
def TX3 : u_T := fun k => match k with
  | 0 => ("DoorRounds$Reader", "text", "LDoorRounds$Strip;", false)
  | 1 => ("DoorRounds$Reader", "place", "I", false)
  | _ => ("DoorRounds$Reader", "number", "I", false)
def tyX3 : Nat → FieldType := fun k => match k with
  | 0 => .object "DoorRounds$Strip"
  | 1 => .int
  | _ => .int
def TX4 : u_T := fun k => match k with
  | 0 => ("DoorRounds$Shop", "kind", "I", false)
  | 1 => ("DoorRounds$Shop", "firstDoor", "I", false)
  | 2 => ("DoorRounds$Shop", "step", "I", false)
  | 3 => ("DoorRounds$Shop", "age", "I", false)
  | _ => ("DoorRounds$Shop", "k", "I", false)
def tyX4 : Nat → FieldType := fun k => match k with
  | 0 => .int
  | 1 => .int
  | 2 => .int
  | 3 => .int
  | _ => .int
def TX5 : u_T := fun k => match k with
  | 0 => ("DoorRounds$Standing", "week", "I", false)
  | 1 => ("DoorRounds$Standing", "shut", "I", false)
  | _ => ("DoorRounds$Standing", "doors", "[I", true)
def tyX5 : Nat → FieldType := fun k => match k with
  | 0 => .int
  | 1 => .int
  | _ => .array .int
def TX6 : u_T := fun k => match k with
  | 0 => ("DoorRounds$Strip", "places", "[I", true)
  | _ => ("DoorRounds$Strip", "size", "I", false)
def tyX6 : Nat → FieldType := fun k => match k with
  | 0 => .array .int
  | _ => .int
def TX7 : u_T := fun k => match k with
  | 0 => ("DoorRounds", "rows", "[LDoorRounds$Strip;", true)
  | 1 => ("DoorRounds", "texts", "[LDoorRounds$Strip;", true)
  | 2 => ("DoorRounds", "noStrip", "LDoorRounds$Strip;", true)
  | 3 => ("DoorRounds", "now", "LDoorRounds$Standing;", true)
  | 4 => ("DoorRounds", "kept", "[LDoorRounds$Standing;", true)
  | 5 => ("DoorRounds", "ahead", "LDoorRounds$Standing;", true)
  | 6 => ("DoorRounds", "mended", "LDoorRounds$Standing;", true)
  | 7 => ("DoorRounds", "diary", "LDoorRounds$Diary;", true)
  | 8 => ("DoorRounds", "trips", "LDoorRounds$Errands;", true)
  | 9 => ("DoorRounds", "findingCounts", "[I", true)
  | 10 => ("DoorRounds", "plan", "LDoorRounds$Plan;", false)
  | 11 => ("DoorRounds", "draft", "LDoorRounds$Plan;", false)
  | 12 => ("DoorRounds", "asked", "I", false)
  | 13 => ("DoorRounds", "upper", "J", false)
  | 14 => ("DoorRounds", "lower", "J", false)
  | _ => ("DoorRounds", "finding", "I", false)
def tyX7 : Nat → FieldType := fun k => match k with
  | 0 => .array (.object "DoorRounds$Strip")
  | 1 => .array (.object "DoorRounds$Strip")
  | 2 => .object "DoorRounds$Strip"
  | 3 => .object "DoorRounds$Standing"
  | 4 => .array (.object "DoorRounds$Standing")
  | 5 => .object "DoorRounds$Standing"
  | 6 => .object "DoorRounds$Standing"
  | 7 => .object "DoorRounds$Diary"
  | 8 => .object "DoorRounds$Errands"
  | 9 => .array .int
  | 10 => .object "DoorRounds$Plan"
  | 11 => .object "DoorRounds$Plan"
  | 12 => .int
  | 13 => .long
  | 14 => .long
  | _ => .int
def TX8 : u_T := fun k => match k with
  | 0 => ("DoorRoundsModel", "finding", "I", false)
  | 1 => ("DoorRoundsModel", "findings", "[I", true)
  | 2 => ("DoorRoundsModel", "asked", "I", false)
  | 3 => ("DoorRoundsModel", "upper", "J", false)
  | 4 => ("DoorRoundsModel", "lower", "J", false)
  | 5 => ("DoorRoundsModel", "sizes", "[I", true)
  | 6 => ("DoorRoundsModel", "rows", "[I", true)
  | 7 => ("DoorRoundsModel", "moving", "[I", true)
  | 8 => ("DoorRoundsModel", "lengths", "[I", true)
  | 9 => ("DoorRoundsModel", "texts", "[I", true)
  | 10 => ("DoorRoundsModel", "n", "I", false)
  | 11 => ("DoorRoundsModel", "many", "I", false)
  | 12 => ("DoorRoundsModel", "shops", "[I", true)
  | 13 => ("DoorRoundsModel", "readAt", "I", false)
  | 14 => ("DoorRoundsModel", "readNumber", "I", false)
  | 15 => ("DoorRoundsModel", "readDoors", "I", false)
  | 16 => ("DoorRoundsModel", "readMany", "I", false)
  | 17 => ("DoorRoundsModel", "doors", "[I", true)
  | 18 => ("DoorRoundsModel", "week", "I", false)
  | 19 => ("DoorRoundsModel", "shut", "I", false)
  | 20 => ("DoorRoundsModel", "went", "[I", true)
  | 21 => ("DoorRoundsModel", "before", "[I", true)
  | 22 => ("DoorRoundsModel", "kept", "[I", true)
  | 23 => ("DoorRoundsModel", "rounds", "[I", true)
  | 24 => ("DoorRoundsModel", "leasts", "[I", true)
  | 25 => ("DoorRoundsModel", "next", "[I", true)
  | 26 => ("DoorRoundsModel", "fixedWeeks", "[I", true)
  | 27 => ("DoorRoundsModel", "notes", "[I", true)
  | 28 => ("DoorRoundsModel", "noteMany", "I", false)
  | 29 => ("DoorRoundsModel", "rents", "[I", true)
  | 30 => ("DoorRoundsModel", "plans", "[I", true)
  | 31 => ("DoorRoundsModel", "firstOther", "I", false)
  | _ => ("DoorRoundsModel", "h0", "J", false)
def tyX8 : Nat → FieldType := fun k => match k with
  | 0 => .int
  | 1 => .array .int
  | 2 => .int
  | 3 => .long
  | 4 => .long
  | 5 => .array .int
  | 6 => .array .int
  | 7 => .array .int
  | 8 => .array .int
  | 9 => .array .int
  | 10 => .int
  | 11 => .int
  | 12 => .array .int
  | 13 => .int
  | 14 => .int
  | 15 => .int
  | 16 => .int
  | 17 => .array .int
  | 18 => .int
  | 19 => .int
  | 20 => .array .int
  | 21 => .array .int
  | 22 => .array .int
  | 23 => .array .int
  | 24 => .array .int
  | 25 => .array .int
  | 26 => .array .int
  | 27 => .array .int
  | 28 => .int
  | 29 => .array .int
  | 30 => .array .int
  | 31 => .int
  | _ => .long
abbrev cls9 : List vw_C := [("DoorRounds$Diary", TX0, 4), ("DoorRounds$Errands", TX1, 2), ("DoorRounds$Plan", TX2, 6), ("DoorRounds$Reader", TX3, 3), ("DoorRounds$Shop", TX4, 5), ("DoorRounds$Standing", TX5, 3), ("DoorRounds$Strip", TX6, 2), ("DoorRounds", TX7, 16), ("DoorRoundsModel", TX8, 33)]
def ftys : List (List Nat) := [[0, 2, 2, 2], [2, 2], [0, 0, 2, 2, 2, 2], [2, 0, 0], [0, 0, 0, 0, 0], [0, 0, 2], [2, 0], [2, 2, 2, 2, 2, 2, 2, 2, 2, 2, 2, 2, 0, 1, 1, 0], [0, 2, 0, 1, 1, 2, 2, 2, 2, 2, 0, 0, 2, 0, 0, 0, 0, 2, 0, 0, 2, 2, 2, 2, 2, 2, 2, 2, 0, 2, 2, 0, 1]]
def tyc (t : FieldType) : Nat := match t with
  | .int => 0
  | .long => 1
  | .object _ => 2
  | .array _ => 2
  | _ => 3
def fty (ci k : Nat) : Nat := (ftys.getD ci []).getD k 3
def clOK (ci : Nat) (r : vw_C) (ty : Nat → FieldType) : Prop := cls9[ci]? = some r ∧ (∀ w ∈ u_ws r.1 r.2.1 r.2.2, w ∈ lw_g) ∧ (∀ k, k < r.2.2 → parseFieldDescriptor (r.2.1 k).2.2.1 = some (ty k)) ∧ (∀ a, a < r.2.2 → ∀ b, b < r.2.2 → a ≠ b → (r.2.1 a).2.1 ≠ (r.2.1 b).2.1) ∧ r.2.2 = (ftys.getD ci []).length ∧ (∀ k, k < r.2.2 → tyc (ty k) = fty ci k) ∧ (∀ k, k < r.2.2 → (r.2.1 k).1 = r.1)
theorem cl_0 : clOK 0 ("DoorRounds$Diary", TX0, 4) tyX0 := ⟨rfl, lw_ins _ [73, 75, 77, 79] (by decide +kernel) (by decide +kernel), by decide +kernel, by decide +kernel, by decide +kernel, by decide +kernel, by decide +kernel⟩
theorem cl_1 : clOK 1 ("DoorRounds$Errands", TX1, 2) tyX1 := ⟨rfl, lw_ins _ [90, 92] (by decide +kernel) (by decide +kernel), by decide +kernel, by decide +kernel, by decide +kernel, by decide +kernel, by decide +kernel⟩
theorem cl_2 : clOK 2 ("DoorRounds$Plan", TX2, 6) tyX2 := ⟨rfl, lw_ins _ [168, 170, 172, 174, 176, 178] (by decide +kernel) (by decide +kernel), by decide +kernel, by decide +kernel, by decide +kernel, by decide +kernel, by decide +kernel⟩
theorem cl_3 : clOK 3 ("DoorRounds$Reader", TX3, 3) tyX3 := ⟨rfl, lw_ins _ [150, 152, 154] (by decide +kernel) (by decide +kernel), by decide +kernel, by decide +kernel, by decide +kernel, by decide +kernel, by decide +kernel⟩
theorem cl_4 : clOK 4 ("DoorRounds$Shop", TX4, 5) tyX4 := ⟨rfl, lw_ins _ [126, 128, 130, 132, 134] (by decide +kernel) (by decide +kernel), by decide +kernel, by decide +kernel, by decide +kernel, by decide +kernel, by decide +kernel⟩
theorem cl_5 : clOK 5 ("DoorRounds$Standing", TX5, 3) tyX5 := ⟨rfl, lw_ins _ [54, 56, 58] (by decide +kernel) (by decide +kernel), by decide +kernel, by decide +kernel, by decide +kernel, by decide +kernel, by decide +kernel⟩
theorem cl_6 : clOK 6 ("DoorRounds$Strip", TX6, 2) tyX6 := ⟨rfl, lw_ins _ [37, 39] (by decide +kernel) (by decide +kernel), by decide +kernel, by decide +kernel, by decide +kernel, by decide +kernel, by decide +kernel⟩
theorem cl_7 : clOK 7 ("DoorRounds", TX7, 16) tyX7 := ⟨rfl, lw_ins _ [197, 199, 201, 203, 205, 207, 209, 211, 213, 215, 217, 219, 221, 223, 225, 227] (by decide +kernel) (by decide +kernel), by decide +kernel, by decide +kernel, by decide +kernel, by decide +kernel, by decide +kernel⟩
theorem cl_8 : clOK 8 ("DoorRoundsModel", TX8, 33) tyX8 := ⟨rfl, lw_ins _ [866, 868, 870, 872, 874, 876, 878, 880, 882, 884, 886, 888, 890, 892, 894, 896, 898, 900, 902, 904, 906, 908, 910, 912, 914, 916, 918, 920, 922, 924, 926, 928, 930] (by decide +kernel) (by decide +kernel), by decide +kernel, by decide +kernel, by decide +kernel, by decide +kernel, by decide +kernel⟩
def nbM0 : List (String × Nat × MethodName × String) := [("DoorRounds", 27, ⟨"DoorRounds$Standing", "<init>", "()V"⟩, "DoorRounds"), ("DoorRounds", 44, ⟨"DoorRounds$Diary", "<init>", "()V"⟩, "DoorRounds"), ("DoorRounds", 51, ⟨"DoorRounds$Errands", "<init>", "()V"⟩, "DoorRounds"), ("DoorRounds$Plan", 24, ⟨"DoorRounds$Shop", "<init>", "()V"⟩, "DoorRounds"), ("DoorRounds$Plan", 35, ⟨"DoorRounds$Reader", "<init>", "()V"⟩, "DoorRounds"), ("DoorRounds$Standing", 46, ⟨"DoorRounds", "isIn", "(II)Z"⟩, "DoorRounds"), ("DoorRounds$Plan", 65, ⟨"DoorRounds", "greatestCommon", "(JJ)J"⟩, "DoorRounds"), ("DoorRounds$Errands", 42, ⟨"DoorRounds", "isIn", "(II)Z"⟩, "DoorRounds")]
end
section
/-! ===== the pure picture: cells by names (0 the script, 1 LETTERS, 2 and on those that are made, in order) ===== -/
abbrev pM : Type := (Nat → Nat → Int32) × (Nat → Nat → Int64) × (Nat → Nat → Nat) × (Nat → Nat × Nat) × Nat
def mI (u : pM) : Nat → Nat → Int32 := u.1
def mL (u : pM) : Nat → Nat → Int64 := u.2.1
def mR (u : pM) : Nat → Nat → Nat := u.2.2.1
def mS (u : pM) : Nat → Nat × Nat := u.2.2.2.1
def mX (u : pM) : Nat := u.2.2.2.2
def up2 {α : Type} (f : Nat → Nat → α) (n k : Nat) (v : α) : Nat → Nat → α := fun a b => if a = n ∧ b = k then v else f a b
def pI (u : pM) (n k : Nat) (v : Int32) : pM := (up2 (mI u) n k v, mL u, mR u, mS u, mX u)
def pL (u : pM) (n k : Nat) (v : Int64) : pM := (mI u, up2 (mL u) n k v, mR u, mS u, mX u)
def pR (u : pM) (n k : Nat) (v : Nat) : pM := (mI u, mL u, up2 (mR u) n k v, mS u, mX u)
/-- a new cell of the kind sh, all nought -/
def pN (u : pM) (sh : Nat × Nat) : pM := (fun a b => if a = mX u + 2 then 0 else mI u a b, fun a b => if a = mX u + 2 then 0 else mL u a b, fun a b => if a = mX u + 2 then 0 else mR u a b, fun a => if a = mX u + 2 then sh else mS u a, mX u + 1)
/-- launch, class numbers, slots, first address of ours, script, LETTERS, script's length and contents, array classes -/
abbrev pG : Type := Launch × (Nat → ClassId) × (Nat → Nat → Nat) × Nat × Nat × Nat × Nat × (Nat → Int32) × (Nat → ClassId)
abbrev gl (G : pG) : Launch := G.1
abbrev gC (G : pG) : Nat → ClassId := G.2.1
abbrev gI (G : pG) : Nat → Nat → Nat := G.2.2.1
abbrev gB (G : pG) : Nat := G.2.2.2.1
abbrev gb (G : pG) : Nat := G.2.2.2.2.1
abbrev gt (G : pG) : Nat := G.2.2.2.2.2.1
abbrev gn (G : pG) : Nat := G.2.2.2.2.2.2.1
abbrev gx (G : pG) : Nat → Int32 := G.2.2.2.2.2.2.2.1
abbrev gA (G : pG) : Nat → ClassId := G.2.2.2.2.2.2.2.2
def ad (G : pG) (n : Nat) : Nat := match n with
  | 0 => gb G
  | 1 => gt G
  | i + 2 => gB G + i
def tv (G : pG) (v : Value) : Value := match v with
  | .ref n => .ref (ad G n)
  | w => w
def rf (G : pG) (r : Nat) : Option Nat := if r = 0 then none else some (ad G r)
def fv (G : pG) (u : pM) (n k t : Nat) : Value := if t = 0 then .int (mI u n k) else if t = 1 then .long (mL u n k) else va_rf (rf G (mR u n k))
def fvs (G : pG) (u : pM) (n ci : Nat) : List Value := (ftys.getD ci []).mapIdx (fun k t => fv G u n k t)
def ce (G : pG) (u : pM) (n : Nat) : va_E := if (mS u n).1 < 9 then .inr ((mS u n).1, fvs G u n (mS u n).1) else if (mS u n).1 = 100 then .inl (gA G 0, (mS u n).2, .inl (mI u n)) else if (mS u n).1 = 101 then .inl (gA G 1, (mS u n).2, .inr (.inl (mL u n))) else .inl (gA G ((mS u n).1 - 100), (mS u n).2, .inr (.inr (.inr (.inr (fun j => rf G (mR u n j))))))
def wl (G : pG) (u : pM) : va_W := (List.range (mX u)).map (fun i => (gB G + i, ce G u (i + 2)))
def gty (G : pG) : List (ClassId × FieldType) := [(gA G 0, .int), (gA G 1, .long), (gA G 2, .object "DoorRounds$Strip"), (gA G 3, .object "DoorRounds$Standing"), (gA G 4, .object "DoorRounds$Shop")]
abbrev Ag (G : pG) : Nat → Prop := fun q => gB G ≤ q
def lets : Nat → Int32 := fun j => match j with
  | 0 => 115
  | 1 => 102
  | 2 => 121
  | 3 => 110
  | 4 => 111
  | _ => 112
def Rl (G : pG) (s : State) (H : Heap) (u : pM) : Prop := va_P (gC G, gI G) cls9 (wl G u) H ∧ va_D (Ag G) (wl G u) ∧ va_K (gC G, gI G) cls9 (gty G) s ∧ H.size = gB G + mX u
/-- words that move by rules of their own -/
def nbM : List (String × Nat × MethodName × String) := nbM0
def Stt (G : pG) (s : State) : Prop := va_X (gb G) (gn G) (gx G) s s.heap ∧ gb G < gB G ∧ va_X (gt G) 6 lets s s.heap ∧ gt G < gB G ∧ va_Z "DoorRounds" "LETTERS" "[I" (.ref (gt G)) (Ag G) s s.heap ∧ gB G ≤ s.heap.size ∧ (∀ q ∈ nbM, va_Nw (.methodLinkNest q.1 q.2.1 q.2.2.1 q.2.2.2) s) ∧ va_Nw (.fieldLinkNest "DoorRounds$Reader" 42 "DoorRounds" "LETTERS" "[I" "DoorRounds") s ∧ va_AO "DoorRounds$Strip" s ∧ va_AO "DoorRounds$Standing" s ∧ va_AO "DoorRounds$Shop" s
/-- a method: name, bytes, locals, answer, frames and locals' words that its calls need -/
abbrev pY : Type := MethodName × ByteArray × Nat × Option FieldType × Nat × Nat
def Cx (G : pG) (M : pY) (p : Program) (R : Room) (s : State) (m : MethodId) (args : Array Value) (meth : Method) (c : Code) : Prop := p.tables.exec = Jvm.exec ∧ c.code = M.2.1 ∧ meth.sig.returnType = M.2.2.2.1 ∧ c.maxLocals = M.2.2.1 ∧ s.vm.findClass M.1.cls = some m.cls ∧ (∀ w ∈ lw_g, w.before args s = true) ∧ meth.locks = false ∧ meth.name = M.1.name ∧ M.2.2.2.2.1 ≤ R.frames ∧ M.2.2.2.2.2 ≤ R.locals ∧ Stt G s
abbrev pLo : Type := List (Nat × Value)
def lm (G : pG) (l : pLo) : List (Nat × Value) := l.map (fun q => (q.1, tv G q.2))
/-- a return at pc that gives r -/
def isRet (M : pY) (pc : Nat) (r : Option Value) : Prop := match r with
  | none => decode M.2.1 pc = .ok (.return_, 1) ∧ M.2.2.2.1 = none
  | some (.int v) => decode M.2.1 pc = .ok (.ireturn, 1) ∧ ∃ ty, M.2.2.2.1 = some ty ∧ narrow ty (.int v) = .int v
  | some (.long _) => decode M.2.1 pc = .ok (.lreturn, 1) ∧ M.2.2.2.1 = some .long
  | some (.ref _) => decode M.2.1 pc = .ok (.areturn, 1) ∧ ∃ rt, M.2.2.2.1 = some rt ∧ ((∃ n, rt = .object n) ∨ ∃ t, rt = .array t)
  | _ => False
/-- from here, with the picture u, the method comes to its end, and Q of its answer and the picture then; kc cells of ks slots at most are made -/
def Wp (G : pG) (M : pY) (kc ks pc : Nat) (l : pLo) (st : List Value) (u : pM) (Q : Option Value → pM → Prop) : Prop :=
  ∀ (p : Program) (e : Env) (R : Room) (s : State) (m : MethodId) (args : Array Value) (below : List Frame) (meth : Method) (c : Code), Cx G M p R s m args meth c →
  ∀ (H : Heap) (ls : Array Slot) (locs : List Loc) (cells slots : Nat) (Qf : State → Prop) (mc ms : Nat), Rl G s H u → va_S (Ag G) s.heap H locs → lv_has ls M.2.2.1 (lm G l) → H.size = s.heap.size + cells → cells + kc = mc → slots + ks ≤ ms → mc ≤ R.cells → ms ≤ R.slots →
  (∀ (r : Option Value) (u' : pM) (H' : Heap) (ls' : Array Slot) (locs' : List Loc) (pc' : Nat), Q r u' → Rl G s H' u' → va_S (Ag G) s.heap H' locs' → H'.size = s.heap.size + mc → isRet M pc' r → W p (gl G) e R s m args below meth c H' locs' mc ms Qf (F0 m pc' ls' (r.toList.map (tv G)))) →
  W p (gl G) e R s m args below meth c H locs cells slots Qf (F0 m pc ls (st.map (tv G)))
abbrev RI (K : Int32 → pM → Prop) : Option Value → pM → Prop := fun r u => ∃ x : Int32, r = some (.int x) ∧ K x u
abbrev RJ (K : Int64 → pM → Prop) : Option Value → pM → Prop := fun r u => ∃ x : Int64, r = some (.long x) ∧ K x u
abbrev RR (K : Nat → pM → Prop) : Option Value → pM → Prop := fun r u => ∃ x : Nat, r = some (.ref x) ∧ K x u
abbrev RV (K : pM → Prop) : Option Value → pM → Prop := fun r u => r = none ∧ K u
/-! the rows of it -/
section CORE
variable {G : pG} {M : pY} {kc ks pc : Nat} {l : pLo} {st : List Value} {u : pM} {Q : Option Value → pM → Prop}
theorem Wp.mono {Q' : Option Value → pM → Prop} (h : Wp G M kc ks pc l st u Q') (hQ : ∀ r u, Q' r u → Q r u) : Wp G M kc ks pc l st u Q := fun p e R s m args below meth c C H ls locs cells slots Qf mc ms a1 a2 a3 a4 a5 a6 a7 a8 k => h p e R s m args below meth c C H ls locs cells slots Qf mc ms a1 a2 a3 a4 a5 a6 a7 a8 (fun r u' H' ls' locs' pc' q => k r u' H' ls' locs' pc' (hQ r u' q))
theorem Wp.more {ks' : Nat} (h : Wp G M kc ks pc l st u Q) (h2 : ks ≤ ks') : Wp G M kc ks' pc l st u Q := fun p e R s m args below meth c C H ls locs cells slots Qf mc ms a1 a2 a3 a4 a5 a6 a7 a8 k => h p e R s m args below meth c C H ls locs cells slots Qf mc ms a1 a2 a3 a4 a5 (by omega) a7 a8 k
theorem lm_get {l : pLo} {k i : Nat} {v : Value} (hk : l[k]? = some (i, v)) : (lm G l)[k]? = some (i, tv G v) := by simp [lm, hk]
theorem tv_cat (v : Value) : (tv G v).category = v.category := by cases v <;> rfl
theorem lm_filter (l : pLo) (f : Nat → Nat → Bool) : (lm G l).filter (fun q => f q.1 q.2.category) = lm G (l.filter (fun q => f q.1 q.2.category)) := by
  induction l with
  | nil => rfl
  | cons a t ih =>
    simp only [lm, List.map_cons, List.filter_cons, tv_cat] at ih ⊢
    by_cases h : f a.1 a.2.category = true
    · rw [if_pos h, if_pos h, List.map_cons, ← ih]
    · rw [if_neg h, if_neg h, ← ih]
def ls1 (l : pLo) (i : Nat) (v : Value) : pLo := (i, v) :: l.filter (fun q => !(q.1 == i) && !(q.1 + 1 == i && q.2.category == 2))
def ls2 (l : pLo) (i : Nat) (v : Value) : pLo := (i, v) :: l.filter (fun q => !(q.1 == i) && (!(q.1 == i + 1) && !(q.1 + 1 == i && q.2.category == 2)))
theorem lm_ls1 (l : pLo) (i : Nat) (v : Value) : (i, tv G v) :: (lm G l).filter (fun q => !(q.1 == i) && !(q.1 + 1 == i && q.2.category == 2)) = lm G (ls1 l i v) := by
  rw [lm_filter (G := G) l (fun a b => !(a == i) && !(a + 1 == i && b == 2))]
  rfl
theorem lm_ls2 (l : pLo) (i : Nat) (v : Value) : (i, tv G v) :: (lm G l).filter (fun q => !(q.1 == i) && (!(q.1 == i + 1) && !(q.1 + 1 == i && q.2.category == 2))) = lm G (ls2 l i v) := by
  rw [lm_filter (G := G) l (fun a b => !(a == i) && (!(a == i + 1) && !(a + 1 == i && b == 2)))]
  rfl
/-- fewer locals, or in another order -/
theorem wp_loc {l' : pLo} (ks' : List Nat) (hl : lv_pick l ks' = l') (h : Wp G M kc ks pc l' st u Q) : Wp G M kc ks pc l st u Q := by
  intro p e R s m args below meth c C H ls locs cells slots Qf mc ms a1 a2 a3 a4 a5 a6 a7 a8 k
  refine h p e R s m args below meth c C H ls locs cells slots Qf mc ms a1 a2 (lv_sub a3 ks' ?_) a4 a5 a6 a7 a8 k
  subst hl
  simp only [lv_pick, lm, List.getElem?_map, List.map_filterMap]
/-- one step of the machine that leaves the heap -/
theorem wp_go {pc' : Nat} {l' : pLo} {st' : List Value} (hW : ∀ (p : Program) (e : Env) (R : Room) (s : State) (m : MethodId) (args : Array Value) (below : List Frame) (meth : Method) (c : Code) (H : Heap) (locs : List Loc) (cells slots : Nat) (Qf : State → Prop) (ls : Array Slot), Cx G M p R s m args meth c → lv_has ls M.2.2.1 (lm G l) → (∀ ls', lv_has ls' M.2.2.1 (lm G l') → W p (gl G) e R s m args below meth c H locs cells slots Qf (F0 m pc' ls' (st'.map (tv G)))) → W p (gl G) e R s m args below meth c H locs cells slots Qf (F0 m pc ls (st.map (tv G)))) (h : Wp G M kc ks pc' l' st' u Q) : Wp G M kc ks pc l st u Q := by
  intro p e R s m args below meth c C H ls locs cells slots Qf mc ms a1 a2 a3 a4 a5 a6 a7 a8 k
  exact hW p e R s m args below meth c H locs cells slots Qf ls C a3 (fun ls' hl' => h p e R s m args below meth c C H ls' locs cells slots Qf mc ms a1 a2 hl' a4 a5 a6 a7 a8 k)
theorem wp_iconst {n : Int} {v : Int32} (hd : decode M.2.1 pc = .ok (.iconst n, 1)) (hv : Int32.ofInt n = v) (h : Wp G M kc ks (pc + 1) l (.int v :: st) u Q) : Wp G M kc ks pc l st u Q := wp_go (fun _ _ _ _ _ _ _ _ _ _ _ _ _ _ ls C hl k => lv_iconst C.1 C.2.1 hd hv (k ls hl)) h
theorem wp_bipush {n : Int} {v : Int32} (hd : decode M.2.1 pc = .ok (.bipush n, 2)) (hv : (Int8.ofInt n).toInt32 = v) (h : Wp G M kc ks (pc + 2) l (.int v :: st) u Q) : Wp G M kc ks pc l st u Q := wp_go (fun _ _ _ _ _ _ _ _ _ _ _ _ _ _ ls C hl k => lv_bipush C.1 C.2.1 hd hv (k ls hl)) h
theorem wp_sipush {n : Int} {v : Int32} (hd : decode M.2.1 pc = .ok (.sipush n, 3)) (hv : (Int16.ofInt n).toInt32 = v) (h : Wp G M kc ks (pc + 3) l (.int v :: st) u Q) : Wp G M kc ks pc l st u Q := wp_go (fun _ _ _ _ _ _ _ _ _ _ _ _ _ _ ls C hl k => lv_sipush C.1 C.2.1 hd hv (k ls hl)) h
theorem wp_lconst {n : Fin 2} {v : Int64} (hd : decode M.2.1 pc = .ok (.lconst n, 1)) (hv : Int64.ofNat (n : Nat) = v) (h : Wp G M kc ks (pc + 1) l (.long v :: st) u Q) : Wp G M kc ks pc l st u Q := wp_go (fun _ _ _ _ _ _ _ _ _ _ _ _ _ _ ls C hl k => lv_lconst C.1 C.2.1 hd hv (k ls hl)) h
theorem wp_ldc {i : Nat} {v : Int32} (hd : decode M.2.1 pc = .ok (.ldc i, 2)) (hw : Cond.constant M.1.cls i v ∈ lw_g) (h : Wp G M kc ks (pc + 2) l (.int v :: st) u Q) : Wp G M kc ks pc l st u Q := wp_go (fun _ _ _ _ _ _ _ _ _ _ _ _ _ _ ls C hl k => lv_ldc C.1 C.2.1 C.2.2.2.2.1 (C.2.2.2.2.2.1 _ hw) hd (k ls hl)) h
theorem wp_ldcw {i : Nat} {v : Int32} (hd : decode M.2.1 pc = .ok (.ldc_w i, 3)) (hw : Cond.constant M.1.cls i v ∈ lw_g) (h : Wp G M kc ks (pc + 3) l (.int v :: st) u Q) : Wp G M kc ks pc l st u Q := wp_go (fun _ _ _ _ _ _ _ _ _ _ _ _ _ _ ls C hl k => lv_ldcw C.1 C.2.1 C.2.2.2.2.1 (C.2.2.2.2.2.1 _ hw) hd (k ls hl)) h
theorem wp_ldc2 {i : Nat} {v : Int64} (hd : decode M.2.1 pc = .ok (.ldc2_w i, 3)) (hw : Cond.constantLong M.1.cls i v ∈ lw_g) (h : Wp G M kc ks (pc + 3) l (.long v :: st) u Q) : Wp G M kc ks pc l st u Q := wp_go (fun _ _ _ _ _ _ _ _ _ _ _ _ _ _ ls C hl k => lv_ldc2 C.1 C.2.1 C.2.2.2.2.1 (C.2.2.2.2.2.1 _ hw) hd (k ls hl)) h
theorem wp_iload_n {k0 : Fin 4} {x : Int32} (j : Nat) (hd : decode M.2.1 pc = .ok (.iload_n k0, 1)) (hl : l[j]? = some ((k0 : Nat), .int x)) (h : Wp G M kc ks (pc + 1) l (.int x :: st) u Q) : Wp G M kc ks pc l st u Q := wp_go (fun _ _ _ _ _ _ _ _ _ _ _ _ _ _ ls C hl' k => lv_iload_n C.1 C.2.1 hd rfl (lv_at hl' j (lm_get hl)) (k ls hl')) h
theorem wp_iload {i : Nat} {x : Int32} (j : Nat) (hd : decode M.2.1 pc = .ok (.iload i, 2)) (hl : l[j]? = some (i, .int x)) (h : Wp G M kc ks (pc + 2) l (.int x :: st) u Q) : Wp G M kc ks pc l st u Q := wp_go (fun _ _ _ _ _ _ _ _ _ _ _ _ _ _ ls C hl' k => lv_iload C.1 C.2.1 hd (lv_at hl' j (lm_get hl)) (k ls hl')) h
theorem wp_lload_n {k0 : Fin 4} {x : Int64} (j : Nat) (hd : decode M.2.1 pc = .ok (.lload_n k0, 1)) (hl : l[j]? = some ((k0 : Nat), .long x)) (h : Wp G M kc ks (pc + 1) l (.long x :: st) u Q) : Wp G M kc ks pc l st u Q := wp_go (fun _ _ _ _ _ _ _ _ _ _ _ _ _ _ ls C hl' k => lv_lload_n C.1 C.2.1 hd rfl (lv_at hl' j (lm_get hl)) (k ls hl')) h
theorem wp_lload {i : Nat} {x : Int64} (j : Nat) (hd : decode M.2.1 pc = .ok (.lload i, 2)) (hl : l[j]? = some (i, .long x)) (h : Wp G M kc ks (pc + 2) l (.long x :: st) u Q) : Wp G M kc ks pc l st u Q := wp_go (fun _ _ _ _ _ _ _ _ _ _ _ _ _ _ ls C hl' k => lv_lload C.1 C.2.1 hd (lv_at hl' j (lm_get hl)) (k ls hl')) h
theorem wp_aload_n {k0 : Fin 4} {x : Nat} (j : Nat) (hd : decode M.2.1 pc = .ok (.aload_n k0, 1)) (hl : l[j]? = some ((k0 : Nat), .ref x)) (h : Wp G M kc ks (pc + 1) l (.ref x :: st) u Q) : Wp G M kc ks pc l st u Q := wp_go (fun _ _ _ _ _ _ _ _ _ _ _ _ _ _ ls C hl' k => lv_aload_n C.1 C.2.1 hd rfl (lv_at hl' j (lm_get hl)) (k ls hl')) h
theorem wp_aload {i x : Nat} (j : Nat) (hd : decode M.2.1 pc = .ok (.aload i, 2)) (hl : l[j]? = some (i, .ref x)) (h : Wp G M kc ks (pc + 2) l (.ref x :: st) u Q) : Wp G M kc ks pc l st u Q := wp_go (fun _ _ _ _ _ _ _ _ _ _ _ _ _ _ ls C hl' k => lv_aload C.1 C.2.1 hd (lv_at hl' j (lm_get hl)) (k ls hl')) h
theorem wp_istore_n {k0 : Fin 4} {x : Int32} {l' : pLo} (hd : decode M.2.1 pc = .ok (.istore_n k0, 1)) (hn : (k0 : Nat) < M.2.2.1) (hl : ls1 l k0 (.int x) = l') (h : Wp G M kc ks (pc + 1) l' st u Q) : Wp G M kc ks pc l (.int x :: st) u Q := wp_go (fun _ _ _ _ _ _ _ _ _ _ _ _ _ _ ls C hl' k => lv_istore_n C.1 C.2.1 hd rfl hl' hn (by rw [← hl]; exact lm_ls1 (G := G) l k0 (.int x)) k) h
theorem wp_istore {i : Nat} {x : Int32} {l' : pLo} (hd : decode M.2.1 pc = .ok (.istore i, 2)) (hn : i < M.2.2.1) (hl : ls1 l i (.int x) = l') (h : Wp G M kc ks (pc + 2) l' st u Q) : Wp G M kc ks pc l (.int x :: st) u Q := wp_go (fun _ _ _ _ _ _ _ _ _ _ _ _ _ _ ls C hl' k => lv_istore C.1 C.2.1 hd hl' hn (by rw [← hl]; exact lm_ls1 (G := G) l i (.int x)) k) h
theorem wp_lstore_n {k0 : Fin 4} {x : Int64} {l' : pLo} (hd : decode M.2.1 pc = .ok (.lstore_n k0, 1)) (hn : (k0 : Nat) + 1 < M.2.2.1) (hl : ls2 l k0 (.long x) = l') (h : Wp G M kc ks (pc + 1) l' st u Q) : Wp G M kc ks pc l (.long x :: st) u Q := wp_go (fun _ _ _ _ _ _ _ _ _ _ _ _ _ _ ls C hl' k => lv_lstore_n C.1 C.2.1 hd rfl hl' hn (by rw [← hl]; exact lm_ls2 (G := G) l k0 (.long x)) k) h
theorem wp_lstore {i : Nat} {x : Int64} {l' : pLo} (hd : decode M.2.1 pc = .ok (.lstore i, 2)) (hn : i + 1 < M.2.2.1) (hl : ls2 l i (.long x) = l') (h : Wp G M kc ks (pc + 2) l' st u Q) : Wp G M kc ks pc l (.long x :: st) u Q := wp_go (fun _ _ _ _ _ _ _ _ _ _ _ _ _ _ ls C hl' k => lv_lstore C.1 C.2.1 hd hl' hn (by rw [← hl]; exact lm_ls2 (G := G) l i (.long x)) k) h
theorem wp_astore_n {k0 : Fin 4} {x : Nat} {l' : pLo} (hd : decode M.2.1 pc = .ok (.astore_n k0, 1)) (hn : (k0 : Nat) < M.2.2.1) (hl : ls1 l k0 (.ref x) = l') (h : Wp G M kc ks (pc + 1) l' st u Q) : Wp G M kc ks pc l (.ref x :: st) u Q := wp_go (fun _ _ _ _ _ _ _ _ _ _ _ _ _ _ ls C hl' k => lv_astore_n C.1 C.2.1 hd rfl hl' hn (by rw [← hl]; exact lm_ls1 (G := G) l k0 (.ref x)) k) h
theorem wp_astore {i x : Nat} {l' : pLo} (hd : decode M.2.1 pc = .ok (.astore i, 2)) (hn : i < M.2.2.1) (hl : ls1 l i (.ref x) = l') (h : Wp G M kc ks (pc + 2) l' st u Q) : Wp G M kc ks pc l (.ref x :: st) u Q := wp_go (fun _ _ _ _ _ _ _ _ _ _ _ _ _ _ ls C hl' k => lv_astore C.1 C.2.1 hd hl' hn (by rw [← hl]; exact lm_ls1 (G := G) l i (.ref x)) k) h
theorem wp_iinc {i : Nat} {n : Int} {x v : Int32} {l' : pLo} (j : Nat) (hd : decode M.2.1 pc = .ok (.iinc i n, 3)) (hj : l[j]? = some (i, .int x)) (hv : Int32.ofInt n = v) (hn : i < M.2.2.1) (hl : ls1 l i (.int (x + v)) = l') (h : Wp G M kc ks (pc + 3) l' st u Q) : Wp G M kc ks pc l st u Q := wp_go (fun _ _ _ _ _ _ _ _ _ _ _ _ _ _ ls C hl' k => lv_iinc C.1 C.2.1 hd hl' (lm_get hj) (by rw [hv]) hn (by rw [← hl]; exact lm_ls1 (G := G) l i (.int (x + v))) k) h
theorem wp_iadd {x y : Int32} (hd : decode M.2.1 pc = .ok (.iadd, 1)) (h : Wp G M kc ks (pc + 1) l (.int (x + y) :: st) u Q) : Wp G M kc ks pc l (.int y :: .int x :: st) u Q := wp_go (fun _ _ _ _ _ _ _ _ _ _ _ _ _ _ ls C hl k => lv_iadd C.1 C.2.1 hd (k ls hl)) h
theorem wp_isub {x y : Int32} (hd : decode M.2.1 pc = .ok (.isub, 1)) (h : Wp G M kc ks (pc + 1) l (.int (x - y) :: st) u Q) : Wp G M kc ks pc l (.int y :: .int x :: st) u Q := wp_go (fun _ _ _ _ _ _ _ _ _ _ _ _ _ _ ls C hl k => lv_isub C.1 C.2.1 hd (k ls hl)) h
theorem wp_imul {x y : Int32} (hd : decode M.2.1 pc = .ok (.imul, 1)) (h : Wp G M kc ks (pc + 1) l (.int (x * y) :: st) u Q) : Wp G M kc ks pc l (.int y :: .int x :: st) u Q := wp_go (fun _ _ _ _ _ _ _ _ _ _ _ _ _ _ ls C hl k => lv_imul C.1 C.2.1 hd (k ls hl)) h
theorem wp_iand {x y : Int32} (hd : decode M.2.1 pc = .ok (.iand, 1)) (h : Wp G M kc ks (pc + 1) l (.int (x &&& y) :: st) u Q) : Wp G M kc ks pc l (.int y :: .int x :: st) u Q := wp_go (fun _ _ _ _ _ _ _ _ _ _ _ _ _ _ ls C hl k => lv_iand C.1 C.2.1 hd (k ls hl)) h
theorem wp_ior {x y : Int32} (hd : decode M.2.1 pc = .ok (.ior, 1)) (h : Wp G M kc ks (pc + 1) l (.int (x ||| y) :: st) u Q) : Wp G M kc ks pc l (.int y :: .int x :: st) u Q := wp_go (fun _ _ _ _ _ _ _ _ _ _ _ _ _ _ ls C hl k => lv_ior C.1 C.2.1 hd (k ls hl)) h
theorem wp_ixor {x y : Int32} (hd : decode M.2.1 pc = .ok (.ixor, 1)) (h : Wp G M kc ks (pc + 1) l (.int (x ^^^ y) :: st) u Q) : Wp G M kc ks pc l (.int y :: .int x :: st) u Q := wp_go (fun _ _ _ _ _ _ _ _ _ _ _ _ _ _ ls C hl k => lv_ixor C.1 C.2.1 hd (k ls hl)) h
theorem wp_idiv {x y : Int32} (hd : decode M.2.1 pc = .ok (.idiv, 1)) (hne : ¬ y = 0) (h : Wp G M kc ks (pc + 1) l (.int (x / y) :: st) u Q) : Wp G M kc ks pc l (.int y :: .int x :: st) u Q := wp_go (fun _ _ _ _ _ _ _ _ _ _ _ _ _ _ ls C hl k => lv_idiv C.1 C.2.1 hd hne (k ls hl)) h
theorem wp_irem {x y : Int32} (hd : decode M.2.1 pc = .ok (.irem, 1)) (hne : ¬ y = 0) (h : Wp G M kc ks (pc + 1) l (.int (x - x / y * y) :: st) u Q) : Wp G M kc ks pc l (.int y :: .int x :: st) u Q := wp_go (fun _ _ _ _ _ _ _ _ _ _ _ _ _ _ ls C hl k => lv_irem C.1 C.2.1 hd hne (k ls hl)) h
theorem wp_ineg {x : Int32} (hd : decode M.2.1 pc = .ok (.ineg, 1)) (h : Wp G M kc ks (pc + 1) l (.int (-x) :: st) u Q) : Wp G M kc ks pc l (.int x :: st) u Q := wp_go (fun _ _ _ _ _ _ _ _ _ _ _ _ _ _ ls C hl k => lv_ineg C.1 C.2.1 hd (k ls hl)) h
theorem wp_ishl {x y : Int32} (hd : decode M.2.1 pc = .ok (.ishl, 1)) (h : Wp G M kc ks (pc + 1) l (.int (x <<< (y &&& 31)) :: st) u Q) : Wp G M kc ks pc l (.int y :: .int x :: st) u Q := wp_go (fun _ _ _ _ _ _ _ _ _ _ _ _ _ _ ls C hl k => lv_ishl C.1 C.2.1 hd (k ls hl)) h
theorem wp_ishr {x y : Int32} (hd : decode M.2.1 pc = .ok (.ishr, 1)) (h : Wp G M kc ks (pc + 1) l (.int (x >>> (y &&& 31)) :: st) u Q) : Wp G M kc ks pc l (.int y :: .int x :: st) u Q := wp_go (fun _ _ _ _ _ _ _ _ _ _ _ _ _ _ ls C hl k => lv_ishr C.1 C.2.1 hd (k ls hl)) h
theorem wp_iushr {x y : Int32} (hd : decode M.2.1 pc = .ok (.iushr, 1)) (h : Wp G M kc ks (pc + 1) l (.int (x.toUInt32 >>> (y.toUInt32 &&& Int32.toUInt32 31)).toInt32 :: st) u Q) : Wp G M kc ks pc l (.int y :: .int x :: st) u Q := wp_go (fun _ _ _ _ _ _ _ _ _ _ _ _ _ _ ls C hl k => lv_iushr C.1 C.2.1 hd rfl (k ls hl)) h
theorem wp_ladd {x y : Int64} (hd : decode M.2.1 pc = .ok (.ladd, 1)) (h : Wp G M kc ks (pc + 1) l (.long (x + y) :: st) u Q) : Wp G M kc ks pc l (.long y :: .long x :: st) u Q := wp_go (fun _ _ _ _ _ _ _ _ _ _ _ _ _ _ ls C hl k => lv_ladd C.1 C.2.1 hd (k ls hl)) h
theorem wp_lsub {x y : Int64} (hd : decode M.2.1 pc = .ok (.lsub, 1)) (h : Wp G M kc ks (pc + 1) l (.long (x - y) :: st) u Q) : Wp G M kc ks pc l (.long y :: .long x :: st) u Q := wp_go (fun _ _ _ _ _ _ _ _ _ _ _ _ _ _ ls C hl k => lv_lsub C.1 C.2.1 hd (k ls hl)) h
theorem wp_lmul {x y : Int64} (hd : decode M.2.1 pc = .ok (.lmul, 1)) (h : Wp G M kc ks (pc + 1) l (.long (x * y) :: st) u Q) : Wp G M kc ks pc l (.long y :: .long x :: st) u Q := wp_go (fun _ _ _ _ _ _ _ _ _ _ _ _ _ _ ls C hl k => lv_lmul C.1 C.2.1 hd (k ls hl)) h
theorem wp_lxor {x y : Int64} (hd : decode M.2.1 pc = .ok (.lxor, 1)) (h : Wp G M kc ks (pc + 1) l (.long (x ^^^ y) :: st) u Q) : Wp G M kc ks pc l (.long y :: .long x :: st) u Q := wp_go (fun _ _ _ _ _ _ _ _ _ _ _ _ _ _ ls C hl k => lv_lxor C.1 C.2.1 hd (k ls hl)) h
theorem wp_ldiv {x y : Int64} (hd : decode M.2.1 pc = .ok (.ldiv, 1)) (hne : ¬ y = 0) (h : Wp G M kc ks (pc + 1) l (.long (x / y) :: st) u Q) : Wp G M kc ks pc l (.long y :: .long x :: st) u Q := wp_go (fun _ _ _ _ _ _ _ _ _ _ _ _ _ _ ls C hl k => lv_ldiv C.1 C.2.1 hd hne (k ls hl)) h
theorem wp_lrem {x y : Int64} (hd : decode M.2.1 pc = .ok (.lrem, 1)) (hne : ¬ y = 0) (h : Wp G M kc ks (pc + 1) l (.long (x - x / y * y) :: st) u Q) : Wp G M kc ks pc l (.long y :: .long x :: st) u Q := wp_go (fun _ _ _ _ _ _ _ _ _ _ _ _ _ _ ls C hl k => lv_lrem C.1 C.2.1 hd hne (k ls hl)) h
theorem wp_lneg {x : Int64} (hd : decode M.2.1 pc = .ok (.lneg, 1)) (h : Wp G M kc ks (pc + 1) l (.long (-x) :: st) u Q) : Wp G M kc ks pc l (.long x :: st) u Q := wp_go (fun _ _ _ _ _ _ _ _ _ _ _ _ _ _ ls C hl k => lv_lneg C.1 C.2.1 hd (k ls hl)) h
theorem wp_lshl {x : Int64} {y : Int32} (hd : decode M.2.1 pc = .ok (.lshl, 1)) (h : Wp G M kc ks (pc + 1) l (.long (x <<< (y.toInt64 &&& 63)) :: st) u Q) : Wp G M kc ks pc l (.int y :: .long x :: st) u Q := wp_go (fun _ _ _ _ _ _ _ _ _ _ _ _ _ _ ls C hl k => lv_lshl C.1 C.2.1 hd rfl (k ls hl)) h
theorem wp_lshr {x : Int64} {y : Int32} (hd : decode M.2.1 pc = .ok (.lshr, 1)) (h : Wp G M kc ks (pc + 1) l (.long (x >>> (y.toInt64 &&& 63)) :: st) u Q) : Wp G M kc ks pc l (.int y :: .long x :: st) u Q := wp_go (fun _ _ _ _ _ _ _ _ _ _ _ _ _ _ ls C hl k => lv_lshr C.1 C.2.1 hd rfl (k ls hl)) h
theorem wp_i2l {x : Int32} (hd : decode M.2.1 pc = .ok (.i2l, 1)) (h : Wp G M kc ks (pc + 1) l (.long x.toInt64 :: st) u Q) : Wp G M kc ks pc l (.int x :: st) u Q := wp_go (fun _ _ _ _ _ _ _ _ _ _ _ _ _ _ ls C hl k => lv_i2l C.1 C.2.1 hd rfl (k ls hl)) h
theorem wp_l2i {x : Int64} (hd : decode M.2.1 pc = .ok (.l2i, 1)) (h : Wp G M kc ks (pc + 1) l (.int x.toInt32 :: st) u Q) : Wp G M kc ks pc l (.long x :: st) u Q := wp_go (fun _ _ _ _ _ _ _ _ _ _ _ _ _ _ ls C hl k => lv_l2i C.1 C.2.1 hd rfl (k ls hl)) h
theorem wp_i2b {x : Int32} (hd : decode M.2.1 pc = .ok (.i2b, 1)) (h : Wp G M kc ks (pc + 1) l (.int x.toInt8.toInt32 :: st) u Q) : Wp G M kc ks pc l (.int x :: st) u Q := wp_go (fun _ _ _ _ _ _ _ _ _ _ _ _ _ _ ls C hl k => lv_i2b C.1 C.2.1 hd rfl (k ls hl)) h
theorem wp_dup {v : Value} (hd : decode M.2.1 pc = .ok (.dup, 1)) (hv : v.category = 1) (h : Wp G M kc ks (pc + 1) l (v :: v :: st) u Q) : Wp G M kc ks pc l (v :: st) u Q := wp_go (fun _ _ _ _ _ _ _ _ _ _ _ _ _ _ ls C hl k => lv_dup C.1 C.2.1 hd ((tv_cat v).trans hv) (k ls hl)) h
theorem wp_pop {v : Value} (hd : decode M.2.1 pc = .ok (.pop, 1)) (hv : v.category = 1) (h : Wp G M kc ks (pc + 1) l st u Q) : Wp G M kc ks pc l (v :: st) u Q := wp_go (fun _ _ _ _ _ _ _ _ _ _ _ _ _ _ ls C hl k => lv_pop C.1 C.2.1 hd ((tv_cat v).trans hv) (k ls hl)) h
theorem wp_dup2 {v w : Value} (hd : decode M.2.1 pc = .ok (.dup2, 1)) (hv : v.category = 1) (hw : w.category = 1) (h : Wp G M kc ks (pc + 1) l (v :: w :: v :: w :: st) u Q) : Wp G M kc ks pc l (v :: w :: st) u Q := wp_go (fun _ _ _ _ _ _ _ _ _ _ _ _ _ _ ls C hl k => lv_dup2_11 C.1 C.2.1 hd ((tv_cat v).trans hv) ((tv_cat w).trans hw) (k ls hl)) h
theorem wp_dup_x1 {v w : Value} (hd : decode M.2.1 pc = .ok (.dup_x1, 1)) (hv : v.category = 1) (hw : w.category = 1) (h : Wp G M kc ks (pc + 1) l (v :: w :: v :: st) u Q) : Wp G M kc ks pc l (v :: w :: st) u Q := wp_go (fun _ _ _ _ _ _ _ _ _ _ _ _ _ _ ls C hl k => lv_dup_x1 C.1 C.2.1 hd ((tv_cat v).trans hv) ((tv_cat w).trans hw) (k ls hl)) h
theorem wp_pop2 {v : Value} (hd : decode M.2.1 pc = .ok (.pop2, 1)) (hv : v.category = 2) (h : Wp G M kc ks (pc + 1) l st u Q) : Wp G M kc ks pc l (v :: st) u Q := wp_go (fun _ _ _ _ _ _ _ _ _ _ _ _ _ _ ls C hl k => lv_pop2_2 C.1 C.2.1 hd ((tv_cat v).trans hv) (k ls hl)) h
theorem wp_goto {off : Int} {tgt : Nat} (hd : decode M.2.1 pc = .ok (.goto off, 3)) (ht : (pc : Int) + off = (tgt : Int)) (h : Wp G M kc ks tgt l st u Q) : Wp G M kc ks pc l st u Q := wp_go (fun _ _ _ _ _ _ _ _ _ _ _ _ _ _ ls C hl k => lv_goto C.1 C.2.1 hd ht (k ls hl)) h
theorem wp_ifnull {x : Nat} {off : Int} (hd : decode M.2.1 pc = .ok (.ifnull off, 3)) (h : Wp G M kc ks (pc + 3) l st u Q) : Wp G M kc ks pc l (.ref x :: st) u Q := wp_go (fun _ _ _ _ _ _ _ _ _ _ _ _ _ _ ls C hl k => lv_ifnull C.1 C.2.1 hd (k ls hl)) h
theorem wp_lcmp {x y : Int64} (hd : decode M.2.1 pc = .ok (.lcmp, 1)) (h : Wp G M kc ks (pc + 1) l (.int (lg_cmp x y) :: st) u Q) : Wp G M kc ks pc l (.long y :: .long x :: st) u Q := wp_go (fun _ _ _ _ _ _ _ _ _ _ _ _ _ _ ls C hl k => W.lcmp C.1 C.2.1 hd (k ls hl)) h
end CORE
end
section
section MEM
variable {G : pG} {M : pY} {kc ks pc : Nat} {l : pLo} {st : List Value} {u : pM} {Q : Option Value → pM → Prop}
theorem wp_if_eq {x : Int32} {off : Int} {tgt : Nat} (hd : decode M.2.1 pc = .ok (.ifCond .eq off, 3)) (ht : (pc : Int) + off = (tgt : Int)) (kt : x = 0 → Wp G M kc ks tgt l st u Q) (kf : ¬ (x = 0) → Wp G M kc ks (pc + 3) l st u Q) : Wp G M kc ks pc l (.int x :: st) u Q := fun p e R s m args below meth c C H ls locs cells slots Qf mc ms a1 a2 a3 a4 a5 a6 a7 a8 k => lv_if_eq C.1 C.2.1 hd ht (fun q => kt q p e R s m args below meth c C H ls locs cells slots Qf mc ms a1 a2 a3 a4 a5 a6 a7 a8 k) (fun q => kf q p e R s m args below meth c C H ls locs cells slots Qf mc ms a1 a2 a3 a4 a5 a6 a7 a8 k)
theorem wp_icmp_eq {x y : Int32} {off : Int} {tgt : Nat} (hd : decode M.2.1 pc = .ok (.if_icmp .eq off, 3)) (ht : (pc : Int) + off = (tgt : Int)) (kt : x = y → Wp G M kc ks tgt l st u Q) (kf : ¬ (x = y) → Wp G M kc ks (pc + 3) l st u Q) : Wp G M kc ks pc l (.int y :: .int x :: st) u Q := fun p e R s m args below meth c C H ls locs cells slots Qf mc ms a1 a2 a3 a4 a5 a6 a7 a8 k => lv_icmp_eq C.1 C.2.1 hd ht (fun q => kt q p e R s m args below meth c C H ls locs cells slots Qf mc ms a1 a2 a3 a4 a5 a6 a7 a8 k) (fun q => kf q p e R s m args below meth c C H ls locs cells slots Qf mc ms a1 a2 a3 a4 a5 a6 a7 a8 k)
theorem wp_if_ne {x : Int32} {off : Int} {tgt : Nat} (hd : decode M.2.1 pc = .ok (.ifCond .ne off, 3)) (ht : (pc : Int) + off = (tgt : Int)) (kt : ¬ x = 0 → Wp G M kc ks tgt l st u Q) (kf : x = 0 → Wp G M kc ks (pc + 3) l st u Q) : Wp G M kc ks pc l (.int x :: st) u Q := fun p e R s m args below meth c C H ls locs cells slots Qf mc ms a1 a2 a3 a4 a5 a6 a7 a8 k => lv_if_ne C.1 C.2.1 hd ht (fun q => kt q p e R s m args below meth c C H ls locs cells slots Qf mc ms a1 a2 a3 a4 a5 a6 a7 a8 k) (fun q => kf q p e R s m args below meth c C H ls locs cells slots Qf mc ms a1 a2 a3 a4 a5 a6 a7 a8 k)
theorem wp_icmp_ne {x y : Int32} {off : Int} {tgt : Nat} (hd : decode M.2.1 pc = .ok (.if_icmp .ne off, 3)) (ht : (pc : Int) + off = (tgt : Int)) (kt : ¬ x = y → Wp G M kc ks tgt l st u Q) (kf : x = y → Wp G M kc ks (pc + 3) l st u Q) : Wp G M kc ks pc l (.int y :: .int x :: st) u Q := fun p e R s m args below meth c C H ls locs cells slots Qf mc ms a1 a2 a3 a4 a5 a6 a7 a8 k => lv_icmp_ne C.1 C.2.1 hd ht (fun q => kt q p e R s m args below meth c C H ls locs cells slots Qf mc ms a1 a2 a3 a4 a5 a6 a7 a8 k) (fun q => kf q p e R s m args below meth c C H ls locs cells slots Qf mc ms a1 a2 a3 a4 a5 a6 a7 a8 k)
theorem wp_if_lt {x : Int32} {off : Int} {tgt : Nat} (hd : decode M.2.1 pc = .ok (.ifCond .lt off, 3)) (ht : (pc : Int) + off = (tgt : Int)) (kt : x < 0 → Wp G M kc ks tgt l st u Q) (kf : ¬ (x < 0) → Wp G M kc ks (pc + 3) l st u Q) : Wp G M kc ks pc l (.int x :: st) u Q := fun p e R s m args below meth c C H ls locs cells slots Qf mc ms a1 a2 a3 a4 a5 a6 a7 a8 k => lv_if_lt C.1 C.2.1 hd ht (fun q => kt q p e R s m args below meth c C H ls locs cells slots Qf mc ms a1 a2 a3 a4 a5 a6 a7 a8 k) (fun q => kf q p e R s m args below meth c C H ls locs cells slots Qf mc ms a1 a2 a3 a4 a5 a6 a7 a8 k)
theorem wp_icmp_lt {x y : Int32} {off : Int} {tgt : Nat} (hd : decode M.2.1 pc = .ok (.if_icmp .lt off, 3)) (ht : (pc : Int) + off = (tgt : Int)) (kt : x < y → Wp G M kc ks tgt l st u Q) (kf : ¬ (x < y) → Wp G M kc ks (pc + 3) l st u Q) : Wp G M kc ks pc l (.int y :: .int x :: st) u Q := fun p e R s m args below meth c C H ls locs cells slots Qf mc ms a1 a2 a3 a4 a5 a6 a7 a8 k => lv_icmp_lt C.1 C.2.1 hd ht (fun q => kt q p e R s m args below meth c C H ls locs cells slots Qf mc ms a1 a2 a3 a4 a5 a6 a7 a8 k) (fun q => kf q p e R s m args below meth c C H ls locs cells slots Qf mc ms a1 a2 a3 a4 a5 a6 a7 a8 k)
theorem wp_if_ge {x : Int32} {off : Int} {tgt : Nat} (hd : decode M.2.1 pc = .ok (.ifCond .ge off, 3)) (ht : (pc : Int) + off = (tgt : Int)) (kt : 0 ≤ x → Wp G M kc ks tgt l st u Q) (kf : ¬ (0 ≤ x) → Wp G M kc ks (pc + 3) l st u Q) : Wp G M kc ks pc l (.int x :: st) u Q := fun p e R s m args below meth c C H ls locs cells slots Qf mc ms a1 a2 a3 a4 a5 a6 a7 a8 k => lv_if_ge C.1 C.2.1 hd ht (fun q => kt q p e R s m args below meth c C H ls locs cells slots Qf mc ms a1 a2 a3 a4 a5 a6 a7 a8 k) (fun q => kf q p e R s m args below meth c C H ls locs cells slots Qf mc ms a1 a2 a3 a4 a5 a6 a7 a8 k)
theorem wp_icmp_ge {x y : Int32} {off : Int} {tgt : Nat} (hd : decode M.2.1 pc = .ok (.if_icmp .ge off, 3)) (ht : (pc : Int) + off = (tgt : Int)) (kt : y ≤ x → Wp G M kc ks tgt l st u Q) (kf : ¬ (y ≤ x) → Wp G M kc ks (pc + 3) l st u Q) : Wp G M kc ks pc l (.int y :: .int x :: st) u Q := fun p e R s m args below meth c C H ls locs cells slots Qf mc ms a1 a2 a3 a4 a5 a6 a7 a8 k => lv_icmp_ge C.1 C.2.1 hd ht (fun q => kt q p e R s m args below meth c C H ls locs cells slots Qf mc ms a1 a2 a3 a4 a5 a6 a7 a8 k) (fun q => kf q p e R s m args below meth c C H ls locs cells slots Qf mc ms a1 a2 a3 a4 a5 a6 a7 a8 k)
theorem wp_if_gt {x : Int32} {off : Int} {tgt : Nat} (hd : decode M.2.1 pc = .ok (.ifCond .gt off, 3)) (ht : (pc : Int) + off = (tgt : Int)) (kt : 0 < x → Wp G M kc ks tgt l st u Q) (kf : ¬ (0 < x) → Wp G M kc ks (pc + 3) l st u Q) : Wp G M kc ks pc l (.int x :: st) u Q := fun p e R s m args below meth c C H ls locs cells slots Qf mc ms a1 a2 a3 a4 a5 a6 a7 a8 k => lv_if_gt C.1 C.2.1 hd ht (fun q => kt q p e R s m args below meth c C H ls locs cells slots Qf mc ms a1 a2 a3 a4 a5 a6 a7 a8 k) (fun q => kf q p e R s m args below meth c C H ls locs cells slots Qf mc ms a1 a2 a3 a4 a5 a6 a7 a8 k)
theorem wp_icmp_gt {x y : Int32} {off : Int} {tgt : Nat} (hd : decode M.2.1 pc = .ok (.if_icmp .gt off, 3)) (ht : (pc : Int) + off = (tgt : Int)) (kt : y < x → Wp G M kc ks tgt l st u Q) (kf : ¬ (y < x) → Wp G M kc ks (pc + 3) l st u Q) : Wp G M kc ks pc l (.int y :: .int x :: st) u Q := fun p e R s m args below meth c C H ls locs cells slots Qf mc ms a1 a2 a3 a4 a5 a6 a7 a8 k => lv_icmp_gt C.1 C.2.1 hd ht (fun q => kt q p e R s m args below meth c C H ls locs cells slots Qf mc ms a1 a2 a3 a4 a5 a6 a7 a8 k) (fun q => kf q p e R s m args below meth c C H ls locs cells slots Qf mc ms a1 a2 a3 a4 a5 a6 a7 a8 k)
theorem wp_if_le {x : Int32} {off : Int} {tgt : Nat} (hd : decode M.2.1 pc = .ok (.ifCond .le off, 3)) (ht : (pc : Int) + off = (tgt : Int)) (kt : x ≤ 0 → Wp G M kc ks tgt l st u Q) (kf : ¬ (x ≤ 0) → Wp G M kc ks (pc + 3) l st u Q) : Wp G M kc ks pc l (.int x :: st) u Q := fun p e R s m args below meth c C H ls locs cells slots Qf mc ms a1 a2 a3 a4 a5 a6 a7 a8 k => lv_if_le C.1 C.2.1 hd ht (fun q => kt q p e R s m args below meth c C H ls locs cells slots Qf mc ms a1 a2 a3 a4 a5 a6 a7 a8 k) (fun q => kf q p e R s m args below meth c C H ls locs cells slots Qf mc ms a1 a2 a3 a4 a5 a6 a7 a8 k)
theorem wp_icmp_le {x y : Int32} {off : Int} {tgt : Nat} (hd : decode M.2.1 pc = .ok (.if_icmp .le off, 3)) (ht : (pc : Int) + off = (tgt : Int)) (kt : x ≤ y → Wp G M kc ks tgt l st u Q) (kf : ¬ (x ≤ y) → Wp G M kc ks (pc + 3) l st u Q) : Wp G M kc ks pc l (.int y :: .int x :: st) u Q := fun p e R s m args below meth c C H ls locs cells slots Qf mc ms a1 a2 a3 a4 a5 a6 a7 a8 k => lv_icmp_le C.1 C.2.1 hd ht (fun q => kt q p e R s m args below meth c C H ls locs cells slots Qf mc ms a1 a2 a3 a4 a5 a6 a7 a8 k) (fun q => kf q p e R s m args below meth c C H ls locs cells slots Qf mc ms a1 a2 a3 a4 a5 a6 a7 a8 k)
theorem wp_tableIn {x : Int32} {dflt lo hi : Int} {offs : Array Int} {len : Nat} {off : Int} {tgt : Nat} (j : Nat) (hd : decode M.2.1 pc = .ok (.tableswitch dflt lo hi offs, len)) (hx : x.toInt = lo + j) (hj : lo + j ≤ hi) (ho : offs[j]? = some off) (ht : (pc : Int) + off = (tgt : Int)) (h : Wp G M kc ks tgt l st u Q) : Wp G M kc ks pc l (.int x :: st) u Q :=
  wp_go (fun _ _ _ _ _ _ _ _ _ _ _ _ _ _ ls C hl k => lv_tableIn C.1 C.2.1 hd (by omega) (by omega) (by rw [hx, show (lo + (j : Int) - lo).toNat = j by omega]; exact ho) ht (k ls hl)) h
theorem wp_tableOut {x : Int32} {dflt lo hi : Int} {offs : Array Int} {len tgt : Nat} (hd : decode M.2.1 pc = .ok (.tableswitch dflt lo hi offs, len)) (hx : x.toInt < lo ∨ hi < x.toInt) (ht : (pc : Int) + dflt = (tgt : Int)) (h : Wp G M kc ks tgt l st u Q) : Wp G M kc ks pc l (.int x :: st) u Q :=
  wp_go (fun _ _ _ _ _ _ _ _ _ _ _ _ _ _ ls C hl k => lv_tableOut C.1 C.2.1 hd hx ht (k ls hl)) h
/-! the heap -/
theorem W_sz {p : Program} {l : Launch} {e : Env} {R : Room} {s : State} {m : MethodId} {args : Array Value} {below : List Frame} {meth : Method} {c : Code} {H : Heap} {locs : List Loc} {cells slots : Nat} {Q : State → Prop} {g : JFrame} (k : H.size ≤ s.heap.size + cells → W p l e R s m args below meth c H locs cells slots Q g) : W p l e R s m args below meth c H locs cells slots Q g := fun T hT X => k (by have h := X.same.2.2.1; rw [← hT]; exact h) T hT X
theorem va_S_sub {A : Nat → Prop} {H0 H : Heap} {locs : List Loc} (h : va_S A H0 H locs) : va_S A H H locs := ⟨Nat.le_refl _, fun _ _ _ => rfl, h.2.2⟩
theorem va_S_tr {A : Nat → Prop} {H0 H H1 : Heap} {locs locs1 : List Loc} (h : va_S A H0 H locs) (h1 : va_S A H H1 locs1) : va_S A H0 H1 locs1 := ⟨Nat.le_trans h.1 h1.1, fun q a b => (h1.2.1 q (Nat.lt_of_lt_of_le a h.1) b).trans (h.2.1 q a b), h1.2.2⟩
def ok (u : pM) (n ci : Nat) : Prop := 2 ≤ n ∧ n < mX u + 2 ∧ (mS u n).1 = ci
def oka (u : pM) (n kd : Nat) (i : Int32) : Prop := ok u n kd ∧ vp_in i (mS u n).2
theorem wl_get {n : Nat} (h1 : 2 ≤ n) (h2 : n < mX u + 2) : (wl G u)[n - 2]? = some (ad G n, ce G u n) := by
  obtain ⟨i, rfl⟩ : ∃ i, n = i + 2 := ⟨n - 2, by omega⟩
  have hi : i < mX u := by omega
  simp [wl, List.getElem?_map, List.getElem?_range hi, ad]
theorem ce_congr {u' : pM} {a : Nat} (hS : mS u' a = mS u a) (hI : ∀ k, mI u' a k = mI u a k) (hL : ∀ k, mL u' a k = mL u a k) (hR : ∀ k, mR u' a k = mR u a k) : ce G u' a = ce G u a := by
  have e1 : mI u' a = mI u a := funext hI
  have e2 : mL u' a = mL u a := funext hL
  have e3 : mR u' a = mR u a := funext hR
  simp only [ce, fvs, fv, hS, e1, e2, e3]
theorem wl_set {u' : pM} {n : Nat} (h1 : 2 ≤ n) (h2 : n < mX u + 2) (hX : mX u' = mX u) (ho : ∀ a, a ≠ n → ce G u' a = ce G u a) {e : va_E} (he : e = ce G u' n) : (wl G u).set (n - 2) (ad G n, e) = wl G u' := by
  obtain ⟨i, rfl⟩ : ∃ i, n = i + 2 := ⟨n - 2, by omega⟩
  have hi : i < mX u := by omega
  subst he
  apply List.ext_getElem?
  intro j
  simp only [wl, hX, Nat.add_sub_cancel]
  by_cases hj : j = i
  · subst hj
    rw [List.getElem?_set_self (by simpa using hi)]
    simp [List.getElem?_range hi, ad]
  · rw [List.getElem?_set_ne (Ne.symm hj)]
    by_cases hlt : j < mX u
    · simp only [List.getElem?_map, List.getElem?_range hlt, Option.map_some]
      rw [ho (j + 2) (by omega)]
    · simp [List.getElem?_map, List.getElem?_eq_none (l := List.range (mX u)) (by simpa using Nat.le_of_not_lt hlt)]
theorem ce_obj {n ci : Nat} (h : (mS u n).1 = ci) (hc : ci < 9) : ce G u n = .inr (ci, fvs G u n ci) := by simp [ce, h, hc]
theorem ce_int {n : Nat} (h : (mS u n).1 = 100) : ce G u n = .inl (gA G 0, (mS u n).2, .inl (mI u n)) := by simp [ce, h]
theorem ce_long {n : Nat} (h : (mS u n).1 = 101) : ce G u n = .inl (gA G 1, (mS u n).2, .inr (.inl (mL u n))) := by simp [ce, h]
theorem ce_ref {n kd : Nat} (h : (mS u n).1 = kd) (hk : 102 ≤ kd) : ce G u n = .inl (gA G (kd - 100), (mS u n).2, .inr (.inr (.inr (.inr (fun j => rf G (mR u n j)))))) := by
  have h1 : ¬ kd < 9 := by omega
  have h2 : ¬ kd = 100 := by omega
  have h3 : ¬ kd = 101 := by omega
  simp [ce, h, h1, h2, h3]
theorem fvs_get {n ci k : Nat} (hk : k < (ftys.getD ci []).length) : (fvs G u n ci)[k]? = some (fv G u n k (fty ci k)) := by
  simp only [fvs, List.getElem?_mapIdx, fty]
  rw [List.getD_eq_getElem?_getD (l := ftys.getD ci []), List.getElem?_eq_getElem hk]
  rfl
theorem fvs_len {n ci : Nat} : (fvs G u n ci).length = (ftys.getD ci []).length := by simp [fvs]
theorem fvs_set {u' : pM} {n ci k : Nat} (hk : k < (ftys.getD ci []).length) (ho : ∀ j t, j ≠ k → fv G u' n j t = fv G u n j t) {v : Value} (hv : v = fv G u' n k (fty ci k)) : (fvs G u n ci).set k v = fvs G u' n ci := by
  subst hv
  apply List.ext_getElem?
  intro j
  by_cases hj : j = k
  · subst hj
    rw [List.getElem?_set_self (by rw [fvs_len]; exact hk), fvs_get hk]
  · rw [List.getElem?_set_ne (Ne.symm hj)]
    by_cases hlt : j < (ftys.getD ci []).length
    · rw [fvs_get hlt, fvs_get hlt, ho _ _ hj]
    · rw [List.getElem?_eq_none (by rw [fvs_len]; omega), List.getElem?_eq_none (by rw [fvs_len]; omega)]
/-- a field's link: own class, entry, class's number, slot -/
def FL (own : String) (idx ci k : Nat) : Prop := ∃ (r : vw_C) (ty : Nat → FieldType), clOK ci r ty ∧ k < r.2.2 ∧ ci < 9 ∧ Cond.fieldLink own idx (r.2.1 k).1 (r.2.1 k).2.1 (r.2.1 k).2.2.1 ∈ lw_g
theorem wp_getX {idx ci k o t : Nat} {v : Value} (hf : FL M.1.cls idx ci k) (ht : fty ci k = t) (hd : decode M.2.1 pc = .ok (.getfield idx, 3)) (ho : ok u o ci) (hv : fv G u o k t = tv G v) (h : Wp G M kc ks (pc + 3) l (v :: st) u Q) : Wp G M kc ks pc l (.ref o :: st) u Q := by
  intro p e R s m args below meth c C H ls locs cells slots Qf mc ms a1 a2 a3 a4 a5 a6 a7 a8 k'
  obtain ⟨⟨C0, T0, N0⟩, ty, ⟨hc, hin, hty, hnm, hN, htc, hdecl⟩, hk, hci, hlink⟩ := hf
  obtain ⟨o1, o2, o3⟩ := ho
  obtain ⟨hP, hD, hK, hz⟩ := id a1
  have hw := wl_get (G := G) o1 o2
  rw [ce_obj o3 hci] at hw
  subst ht
  refine va_get (D := (gC G, gI G)) (ws := wl G u) C.1 C.2.1 C.2.2.2.2.2.1 hin C.2.2.2.2.1 hK hP (o - 2) hw hc k hk (C.2.2.2.2.2.1 _ hlink) (fun _ z => z) (fvs_get (by rw [← hN]; exact hk)) hd ?_
  rw [hv]
  exact h p e R s m args below meth c C H ls locs cells slots Qf mc ms a1 a2 a3 a4 a5 a6 a7 a8 k'
theorem wp_getI {idx ci k o : Nat} (hf : FL M.1.cls idx ci k) (ht : fty ci k = 0) (hd : decode M.2.1 pc = .ok (.getfield idx, 3)) (ho : ok u o ci) (h : Wp G M kc ks (pc + 3) l (.int (mI u o k) :: st) u Q) : Wp G M kc ks pc l (.ref o :: st) u Q := wp_getX hf ht hd ho (v := .int (mI u o k)) (by simp [fv, tv]) h
theorem wp_getL {idx ci k o : Nat} (hf : FL M.1.cls idx ci k) (ht : fty ci k = 1) (hd : decode M.2.1 pc = .ok (.getfield idx, 3)) (ho : ok u o ci) (h : Wp G M kc ks (pc + 3) l (.long (mL u o k) :: st) u Q) : Wp G M kc ks pc l (.ref o :: st) u Q := wp_getX hf ht hd ho (v := .long (mL u o k)) (by simp [fv, tv]) h
theorem wp_getR {idx ci k o : Nat} (hf : FL M.1.cls idx ci k) (ht : fty ci k = 2) (hd : decode M.2.1 pc = .ok (.getfield idx, 3)) (ho : ok u o ci) (hn : mR u o k ≠ 0) (h : Wp G M kc ks (pc + 3) l (.ref (mR u o k) :: st) u Q) : Wp G M kc ks pc l (.ref o :: st) u Q := wp_getX hf ht hd ho (v := .ref (mR u o k)) (by simp [fv, tv, rf, hn, va_rf]) h
/-- behind a store -/
theorem rl_st {s : State} {H H1 : Heap} {u' : pM} {n cells : Nat} {e : va_E} {locs1 : List Loc} (a1 : Rl G s H u) (h1 : 2 ≤ n) (h2 : n < mX u + 2) (hX : mX u' = mX u) (ho : ∀ a, a ≠ n → ce G u' a = ce G u a) (he : e = ce G u' n) (hP : va_P (gC G, gI G) cls9 ((wl G u).set (n - 2) (ad G n, e)) H1) (hD : va_D (Ag G) ((wl G u).set (n - 2) (ad G n, e))) (hS : va_S (Ag G) H H1 locs1) (hz : H.size = s.heap.size + cells) (hz1 : H1.size ≤ s.heap.size + cells) : Rl G s H1 u' ∧ H1.size = s.heap.size + cells := by
  rw [wl_set h1 h2 hX ho he] at hP hD
  have e1 : H1.size = H.size := by have := hS.1; omega
  exact ⟨⟨hP, hD, a1.2.2.1, by rw [e1, hX]; exact a1.2.2.2⟩, by rw [e1]; exact hz⟩
theorem ce_pI {n k a : Nat} {v : Int32} (h : a ≠ n) : ce G (pI u n k v) a = ce G u a := ce_congr rfl (fun j => by show (up2 (mI u) n k v) a j = _; simp [up2, h]) (fun _ => rfl) (fun _ => rfl)
theorem ce_pL {n k a : Nat} {v : Int64} (h : a ≠ n) : ce G (pL u n k v) a = ce G u a := ce_congr rfl (fun _ => rfl) (fun j => by show (up2 (mL u) n k v) a j = _; simp [up2, h]) (fun _ => rfl)
theorem ce_pR {n k a v : Nat} (h : a ≠ n) : ce G (pR u n k v) a = ce G u a := ce_congr rfl (fun _ => rfl) (fun _ => rfl) (fun j => by show (up2 (mR u) n k v) a j = _; simp [up2, h])
theorem wp_putX {idx ci k o t : Nat} {v : Value} {u' : pM} (hf : FL M.1.cls idx ci k) (ht : fty ci k = t) (hnf : ∀ r ty, clOK ci r ty → (r.2.1 k).2.2.2 = false) (hd : decode M.2.1 pc = .ok (.putfield idx, 3)) (ho : ok u o ci) (hty : ∀ ty, tyc ty = t → narrow ty (tv G v) = tv G v ∧ fits ty (tv G v) = true) (hX : mX u' = mX u) (hS' : mS u' o = mS u o) (hoth : ∀ a, a ≠ o → ce G u' a = ce G u a) (hof : ∀ j t, j ≠ k → fv G u' o j t = fv G u o j t) (hv : tv G v = fv G u' o k t) (h : Wp G M kc ks (pc + 3) l st u' Q) : Wp G M kc ks pc l (v :: .ref o :: st) u Q := by
  intro p e R s m args below meth c C H ls locs cells slots Qf mc ms a1 a2 a3 a4 a5 a6 a7 a8 k'
  obtain ⟨⟨C0, T0, N0⟩, ty, hcl, hk, hci, hlink⟩ := hf
  have hfin := hnf _ _ hcl
  obtain ⟨hc, hin, hty0, hnm, hN, htc, hdecl⟩ := hcl
  obtain ⟨o1, o2, o3⟩ := id ho
  obtain ⟨hP, hD, hK, hz⟩ := id a1
  have hw := wl_get (G := G) o1 o2
  rw [ce_obj o3 hci] at hw
  subst ht
  obtain ⟨hn1, hn2⟩ := hty (ty k) (htc k hk)
  refine va_put (D := (gC G, gI G)) (ws := wl G u) C.1 C.2.1 C.2.2.2.2.2.1 hin ty hty0 hnm C.2.2.2.2.1 hK hP hD (va_S_sub a2) (o - 2) hw hc k hk (C.2.2.2.2.2.1 _ hlink) (fun _ z => z) hfin (hty0 k hk) hn1 hn2 (by rw [fvs_len, ← hN]; exact hk) hd (fun H1 locs1 hP1 hD1 hS1 => W_sz fun hz1 => ?_)
  have he : (Sum.inr (ci, (fvs G u o ci).set k (tv G v)) : va_E) = ce G u' o := by
    rw [ce_obj (hS'.symm ▸ o3) hci, fvs_set (by rw [← hN]; exact hk) hof hv]
  obtain ⟨r1, r2⟩ := rl_st a1 o1 o2 hX hoth he hP1 hD1 hS1 a4 hz1
  exact h p e R s m args below meth c C H1 ls locs1 cells slots Qf mc ms r1 (va_S_tr a2 hS1) a3 r2 a5 a6 a7 a8 k'
theorem wp_putI {idx ci k o : Nat} {v : Int32} (hf : FL M.1.cls idx ci k) (ht : fty ci k = 0) (hnf : ∀ r ty, clOK ci r ty → (r.2.1 k).2.2.2 = false) (hd : decode M.2.1 pc = .ok (.putfield idx, 3)) (ho : ok u o ci) (h : Wp G M kc ks (pc + 3) l st (pI u o k v) Q) : Wp G M kc ks pc l (.int v :: .ref o :: st) u Q := by
  refine wp_putX (u' := pI u o k v) (v := .int v) hf ht hnf hd ho (fun ty hq => by cases ty <;> first | exact ⟨rfl, rfl⟩ | cases hq) rfl rfl (fun a ha => ce_pI ha) (fun j t hj => ?_) ?_ h
  · have e : mI (pI u o k v) o j = mI u o j := by show up2 (mI u) o k v o j = _; simp [up2, hj]
    simp only [fv, e]; rfl
  · show Value.int v = _
    have e : mI (pI u o k v) o k = v := by show up2 (mI u) o k v o k = _; simp [up2]
    simp [fv, e]
theorem wp_putL {idx ci k o : Nat} {v : Int64} (hf : FL M.1.cls idx ci k) (ht : fty ci k = 1) (hnf : ∀ r ty, clOK ci r ty → (r.2.1 k).2.2.2 = false) (hd : decode M.2.1 pc = .ok (.putfield idx, 3)) (ho : ok u o ci) (h : Wp G M kc ks (pc + 3) l st (pL u o k v) Q) : Wp G M kc ks pc l (.long v :: .ref o :: st) u Q := by
  refine wp_putX (u' := pL u o k v) (v := .long v) hf ht hnf hd ho (fun ty hq => by cases ty <;> first | exact ⟨rfl, rfl⟩ | cases hq) rfl rfl (fun a ha => ce_pL ha) (fun j t hj => ?_) ?_ h
  · have e : mL (pL u o k v) o j = mL u o j := by show up2 (mL u) o k v o j = _; simp [up2, hj]
    simp only [fv, e]; rfl
  · show Value.long v = _
    have e : mL (pL u o k v) o k = v := by show up2 (mL u) o k v o k = _; simp [up2]
    simp [fv, e]
theorem fv_pR {o k j t v : Nat} (hj : j ≠ k) : fv G (pR u o k v) o j t = fv G u o j t := by
  have e : mR (pR u o k v) o j = mR u o j := by show up2 (mR u) o k v o j = _; simp [up2, hj]
  simp only [fv, e]; rfl
theorem fv_pR' {o k v : Nat} (hn : v ≠ 0) : Value.ref (ad G v) = fv G (pR u o k v) o k 2 := by
  have e : mR (pR u o k v) o k = v := by show up2 (mR u) o k v o k = _; simp [up2]
  simp [fv, e, rf, hn, va_rf]
theorem wp_putR {idx ci k o v : Nat} (hf : FL M.1.cls idx ci k) (ht : fty ci k = 2) (hnf : ∀ r ty, clOK ci r ty → (r.2.1 k).2.2.2 = false) (hd : decode M.2.1 pc = .ok (.putfield idx, 3)) (ho : ok u o ci) (hn : v ≠ 0) (h : Wp G M kc ks (pc + 3) l st (pR u o k v) Q) : Wp G M kc ks pc l (.ref v :: .ref o :: st) u Q :=
  wp_putX (u' := pR u o k v) (v := .ref v) hf ht hnf hd ho (fun ty hq => by cases ty <;> first | exact ⟨rfl, rfl⟩ | cases hq) rfl rfl (fun a ha => ce_pR ha) (fun j t hj => fv_pR hj) (fv_pR' hn) h
/-- a final field in its constructor -/
theorem wp_putRF {idx ci k o v : Nat} (hf : FL M.1.cls idx ci k) (ht : fty ci k = 2) (hnf : ∀ r ty, clOK ci r ty → (r.2.1 k).2.2.2 = true ∧ r.1 = M.1.cls) (hin2 : M.1.name = "<init>") (hd : decode M.2.1 pc = .ok (.putfield idx, 3)) (ho : ok u o ci) (hn : v ≠ 0) (h : Wp G M kc ks (pc + 3) l st (pR u o k v) Q) : Wp G M kc ks pc l (.ref v :: .ref o :: st) u Q := by
  intro p e R s m args below meth c C H ls locs cells slots Qf mc ms a1 a2 a3 a4 a5 a6 a7 a8 k'
  obtain ⟨⟨C0, T0, N0⟩, ty, hcl, hk, hci, hlink⟩ := hf
  obtain ⟨hfin, hCo⟩ := hnf _ _ hcl
  obtain ⟨hc, hin, hty0, hnm, hN, htc, hdecl⟩ := hcl
  obtain ⟨o1, o2, o3⟩ := id ho
  obtain ⟨hP, hD, hK, hz⟩ := id a1
  have hw := wl_get (G := G) o1 o2
  rw [ce_obj o3 hci] at hw
  have ht2 : tyc (ty k) = 2 := (htc k hk).trans ht
  have hn1 : narrow (ty k) (.ref (ad G v)) = .ref (ad G v) := by cases hq : ty k <;> rw [hq] at ht2 <;> first | rfl | cases ht2
  have hn2 : fits (ty k) (.ref (ad G v)) = true := by cases hq : ty k <;> rw [hq] at ht2 <;> first | rfl | cases ht2
  refine va_putF (D := (gC G, gI G)) (ws := wl G u) C.1 C.2.1 C.2.2.2.2.2.1 hin ty hty0 hnm C.2.2.2.2.1 hK hP hD (va_S_sub a2) (o - 2) hw hc k hk (C.2.2.2.2.2.1 _ hlink) (fun _ z => z) hfin (C.2.2.2.2.2.2.2.1.trans hin2) ((hdecl k hk).trans hCo) (hty0 k hk) hn1 hn2 (by rw [fvs_len, ← hN]; exact hk) hd (fun H1 locs1 hP1 hD1 hS1 => W_sz fun hz1 => ?_)
  have he : (Sum.inr (ci, (fvs G u o ci).set k (.ref (ad G v))) : va_E) = ce G (pR u o k v) o := by
    rw [ce_obj (u := pR u o k v) o3 hci, fvs_set (by rw [← hN]; exact hk) (fun j t hj => fv_pR hj) (by rw [ht]; exact fv_pR' hn)]
  obtain ⟨r1, r2⟩ := rl_st (u' := pR u o k v) a1 o1 o2 rfl (fun a ha => ce_pR ha) he hP1 hD1 hS1 a4 hz1
  exact h p e R s m args below meth c C H1 ls locs1 cells slots Qf mc ms r1 (va_S_tr a2 hS1) a3 r2 a5 a6 a7 a8 k'
end MEM
end
section
section ARR
variable {G : pG} {M : pY} {kc ks pc : Nat} {l : pLo} {st : List Value} {u : pM} {Q : Option Value → pM → Prop}
theorem wp_iald {n : Nat} {i : Int32} (hd : decode M.2.1 pc = .ok (.iaload, 1)) (ha : oka u n 100 i) (h : Wp G M kc ks (pc + 1) l (.int (mI u n i.toNatClampNeg) :: st) u Q) : Wp G M kc ks pc l (.int i :: .ref n :: st) u Q := by
  intro p e R s m args below meth c C H ls locs cells slots Qf mc ms a1 a2 a3 a4 a5 a6 a7 a8 k'
  obtain ⟨⟨o1, o2, o3⟩, hi⟩ := ha
  have hw := wl_get (G := G) o1 o2
  rw [ce_int o3] at hw
  exact va_iald C.1 C.2.1 a1.2.2.1 a1.1 (n - 2) 0 hw rfl hi hd (h p e R s m args below meth c C H ls locs cells slots Qf mc ms a1 a2 a3 a4 a5 a6 a7 a8 k')
theorem wp_lald {n : Nat} {i : Int32} (hd : decode M.2.1 pc = .ok (.laload, 1)) (ha : oka u n 101 i) (h : Wp G M kc ks (pc + 1) l (.long (mL u n i.toNatClampNeg) :: st) u Q) : Wp G M kc ks pc l (.int i :: .ref n :: st) u Q := by
  intro p e R s m args below meth c C H ls locs cells slots Qf mc ms a1 a2 a3 a4 a5 a6 a7 a8 k'
  obtain ⟨⟨o1, o2, o3⟩, hi⟩ := ha
  have hw := wl_get (G := G) o1 o2
  rw [ce_long o3] at hw
  exact va_lald C.1 C.2.1 a1.2.2.1 a1.1 (n - 2) 1 hw rfl hi hd (h p e R s m args below meth c C H ls locs cells slots Qf mc ms a1 a2 a3 a4 a5 a6 a7 a8 k')
def rk (kd : Nat) : String := if kd = 102 then "DoorRounds$Strip" else if kd = 103 then "DoorRounds$Standing" else "DoorRounds$Shop"
theorem gty_ref {kd : Nat} (h1 : 102 ≤ kd) (h2 : kd ≤ 104) : (gty G)[kd - 100]? = some (gA G (kd - 100), .object (rk kd)) := by
  rcases (show kd = 102 ∨ kd = 103 ∨ kd = 104 by omega) with rfl | rfl | rfl <;> rfl
theorem wp_aald {n kd : Nat} {i : Int32} (hd : decode M.2.1 pc = .ok (.aaload, 1)) (ha : oka u n kd i) (hk : 102 ≤ kd ∧ kd ≤ 104) (hn : mR u n i.toNatClampNeg ≠ 0) (h : Wp G M kc ks (pc + 1) l (.ref (mR u n i.toNatClampNeg) :: st) u Q) : Wp G M kc ks pc l (.int i :: .ref n :: st) u Q := by
  intro p e R s m args below meth c C H ls locs cells slots Qf mc ms a1 a2 a3 a4 a5 a6 a7 a8 k'
  obtain ⟨⟨o1, o2, o3⟩, hi⟩ := ha
  have hw := wl_get (G := G) o1 o2
  rw [ce_ref o3 hk.1] at hw
  refine va_aldq C.1 C.2.1 a1.2.2.1 a1.1 (n - 2) (kd - 100) hw (gty_ref hk.1 hk.2) hi hd ?_
  have e1 : va_rf (rf G (mR u n i.toNatClampNeg)) = .ref (ad G (mR u n i.toNatClampNeg)) := by simp [rf, hn, va_rf]
  rw [e1]
  exact h p e R s m args below meth c C H ls locs cells slots Qf mc ms a1 a2 a3 a4 a5 a6 a7 a8 k'
theorem wp_iast {n : Nat} {i x : Int32} (hd : decode M.2.1 pc = .ok (.iastore, 1)) (ha : oka u n 100 i) (h : Wp G M kc ks (pc + 1) l st (pI u n i.toNatClampNeg x) Q) : Wp G M kc ks pc l (.int x :: .int i :: .ref n :: st) u Q := by
  intro p e R s m args below meth c C H ls locs cells slots Qf mc ms a1 a2 a3 a4 a5 a6 a7 a8 k'
  obtain ⟨⟨o1, o2, o3⟩, hi⟩ := ha
  have hw := wl_get (G := G) o1 o2
  rw [ce_int o3] at hw
  refine va_iast C.1 C.2.1 a1.2.2.1 a1.1 a1.2.1 (va_S_sub a2) (n - 2) 0 hw rfl hi hd (fun H1 locs1 hP1 hD1 hS1 => W_sz fun hz1 => ?_)
  have he : (Sum.inl (gA G 0, (mS u n).2, .inl (upd (mI u n) i.toNatClampNeg x)) : va_E) = ce G (pI u n i.toNatClampNeg x) n := by
    rw [ce_int (u := pI u n i.toNatClampNeg x) o3]
    have e : upd (mI u n) i.toNatClampNeg x = mI (pI u n i.toNatClampNeg x) n := funext fun j => by show _ = up2 (mI u) n i.toNatClampNeg x n j; simp [upd, up2]
    rw [e]; rfl
  obtain ⟨r1, r2⟩ := rl_st (u' := pI u n i.toNatClampNeg x) a1 o1 o2 rfl (fun a ha => ce_pI ha) he hP1 hD1 hS1 a4 hz1
  exact h p e R s m args below meth c C H1 ls locs1 cells slots Qf mc ms r1 (va_S_tr a2 hS1) a3 r2 a5 a6 a7 a8 k'
theorem wp_last {n : Nat} {i : Int32} {x : Int64} (hd : decode M.2.1 pc = .ok (.lastore, 1)) (ha : oka u n 101 i) (h : Wp G M kc ks (pc + 1) l st (pL u n i.toNatClampNeg x) Q) : Wp G M kc ks pc l (.long x :: .int i :: .ref n :: st) u Q := by
  intro p e R s m args below meth c C H ls locs cells slots Qf mc ms a1 a2 a3 a4 a5 a6 a7 a8 k'
  obtain ⟨⟨o1, o2, o3⟩, hi⟩ := ha
  have hw := wl_get (G := G) o1 o2
  rw [ce_long o3] at hw
  refine va_last C.1 C.2.1 a1.2.2.1 a1.1 a1.2.1 (va_S_sub a2) (n - 2) 1 hw rfl hi hd (fun H1 locs1 hP1 hD1 hS1 => W_sz fun hz1 => ?_)
  have he : (Sum.inl (gA G 1, (mS u n).2, .inr (.inl (vp_updL (mL u n) i.toNatClampNeg x))) : va_E) = ce G (pL u n i.toNatClampNeg x) n := by
    rw [ce_long (u := pL u n i.toNatClampNeg x) o3]
    have e : vp_updL (mL u n) i.toNatClampNeg x = mL (pL u n i.toNatClampNeg x) n := funext fun j => by show _ = up2 (mL u) n i.toNatClampNeg x n j; simp [vp_updL, up2]
    rw [e]; rfl
  obtain ⟨r1, r2⟩ := rl_st (u' := pL u n i.toNatClampNeg x) a1 o1 o2 rfl (fun a ha => ce_pL ha) he hP1 hD1 hS1 a4 hz1
  exact h p e R s m args below meth c C H1 ls locs1 cells slots Qf mc ms r1 (va_S_tr a2 hS1) a3 r2 a5 a6 a7 a8 k'
theorem wp_aast {n kd v ci : Nat} {i : Int32} {r : vw_C} (hd : decode M.2.1 pc = .ok (.aastore, 1)) (ha : oka u n kd i) (hk : 102 ≤ kd ∧ kd ≤ 104) (hv : ok u v ci) (hc : cls9[ci]? = some r) (hr : rk kd = r.1) (hci : ci < 9) (h : Wp G M kc ks (pc + 1) l st (pR u n i.toNatClampNeg v) Q) : Wp G M kc ks pc l (.ref v :: .int i :: .ref n :: st) u Q := by
  intro p e R s m args below meth c C H ls locs cells slots Qf mc ms a1 a2 a3 a4 a5 a6 a7 a8 k'
  obtain ⟨⟨o1, o2, o3⟩, hi⟩ := ha
  obtain ⟨v1, v2, v3⟩ := hv
  have hw := wl_get (G := G) o1 o2
  rw [ce_ref o3 hk.1] at hw
  have hw2 := wl_get (G := G) v1 v2
  rw [ce_obj v3 hci] at hw2
  have hg := gty_ref (G := G) hk.1 hk.2
  rw [hr] at hg
  refine va_astq C.1 C.2.1 a1.2.2.1 a1.1 a1.2.1 (va_S_sub a2) (n - 2) (kd - 100) (v - 2) ci hw hg hw2 hc hi hd (fun H1 locs1 hP1 hD1 hS1 => W_sz fun hz1 => ?_)
  have hv0 : v ≠ 0 := by omega
  have he : (Sum.inl (gA G (kd - 100), (mS u n).2, .inr (.inr (.inr (.inr (va_up (fun j => rf G (mR u n j)) i.toNatClampNeg (some (ad G v))))))) : va_E) = ce G (pR u n i.toNatClampNeg v) n := by
    rw [ce_ref (u := pR u n i.toNatClampNeg v) o3 hk.1]
    have e : va_up (fun j => rf G (mR u n j)) i.toNatClampNeg (some (ad G v)) = fun j => rf G (mR (pR u n i.toNatClampNeg v) n j) := funext fun j => by
      show _ = rf G (up2 (mR u) n i.toNatClampNeg v n j)
      by_cases hj : j = i.toNatClampNeg
      · subst hj; simp [va_up, up2, rf, hv0]
      · simp [va_up, up2, hj]
    rw [e]; rfl
  obtain ⟨r1, r2⟩ := rl_st (u' := pR u n i.toNatClampNeg v) a1 o1 o2 rfl (fun a ha => ce_pR ha) he hP1 hD1 hS1 a4 hz1
  exact h p e R s m args below meth c C H1 ls locs1 cells slots Qf mc ms r1 (va_S_tr a2 hS1) a3 r2 a5 a6 a7 a8 k'
theorem wp_alen {n kd : Nat} (hd : decode M.2.1 pc = .ok (.arraylength, 1)) (ha : ok u n kd) (hk : 100 ≤ kd ∧ kd ≤ 104) (h : Wp G M kc ks (pc + 1) l (.int (Int32.ofNat (mS u n).2) :: st) u Q) : Wp G M kc ks pc l (.ref n :: st) u Q := by
  intro p e R s m args below meth c C H ls locs cells slots Qf mc ms a1 a2 a3 a4 a5 a6 a7 a8 k'
  obtain ⟨o1, o2, o3⟩ := ha
  have hw := wl_get (G := G) o1 o2
  have hh := h p e R s m args below meth c C H ls locs cells slots Qf mc ms a1 a2 a3 a4 a5 a6 a7 a8 k'
  rcases (show kd = 100 ∨ kd = 101 ∨ 102 ≤ kd by omega) with h0 | h0 | h0
  · subst h0
    rw [ce_int o3] at hw
    exact va_alen C.1 C.2.1 a1.2.2.1 a1.1 (n - 2) 0 hw rfl rfl hd hh
  · subst h0
    rw [ce_long o3] at hw
    exact va_alen C.1 C.2.1 a1.2.2.1 a1.1 (n - 2) 1 hw rfl rfl hd hh
  · rw [ce_ref o3 h0] at hw
    exact va_alen C.1 C.2.1 a1.2.2.1 a1.1 (n - 2) (kd - 100) hw (gty_ref h0 hk.2) rfl hd hh
/-! the script and LETTERS -/
theorem wp_sld {i : Int32} (hd : decode M.2.1 pc = .ok (.iaload, 1)) (hi : vp_in i (gn G)) (h : Wp G M kc ks (pc + 1) l (.int (gx G i.toNatClampNeg) :: st) u Q) : Wp G M kc ks pc l (.int i :: .ref 0 :: st) u Q := by
  intro p e R s m args below meth c C H ls locs cells slots Qf mc ms a1 a2 a3 a4 a5 a6 a7 a8 k'
  obtain ⟨s1, s2, s3, s4, s5, s6, -⟩ := C.2.2.2.2.2.2.2.2.2.2
  exact va_sld C.1 C.2.1 s1 (Nat.lt_of_lt_of_le s2 s6) (Nat.not_le.mpr s2) a2 hi hd (h p e R s m args below meth c C H ls locs cells slots Qf mc ms a1 a2 a3 a4 a5 a6 a7 a8 k')
theorem wp_slen (hd : decode M.2.1 pc = .ok (.arraylength, 1)) (h : Wp G M kc ks (pc + 1) l (.int (Int32.ofNat (gn G)) :: st) u Q) : Wp G M kc ks pc l (.ref 0 :: st) u Q := by
  intro p e R s m args below meth c C H ls locs cells slots Qf mc ms a1 a2 a3 a4 a5 a6 a7 a8 k'
  obtain ⟨s1, s2, s3, s4, s5, s6, -⟩ := C.2.2.2.2.2.2.2.2.2.2
  exact va_slen C.1 C.2.1 s1 (Nat.lt_of_lt_of_le s2 s6) (Nat.not_le.mpr s2) a2 hd (h p e R s m args below meth c C H ls locs cells slots Qf mc ms a1 a2 a3 a4 a5 a6 a7 a8 k')
theorem wp_tld {i : Int32} (hd : decode M.2.1 pc = .ok (.iaload, 1)) (hi : vp_in i 6) (h : Wp G M kc ks (pc + 1) l (.int (lets i.toNatClampNeg) :: st) u Q) : Wp G M kc ks pc l (.int i :: .ref 1 :: st) u Q := by
  intro p e R s m args below meth c C H ls locs cells slots Qf mc ms a1 a2 a3 a4 a5 a6 a7 a8 k'
  obtain ⟨s1, s2, s3, s4, s5, s6, -⟩ := C.2.2.2.2.2.2.2.2.2.2
  exact va_sld C.1 C.2.1 s3 (Nat.lt_of_lt_of_le s4 s6) (Nat.not_le.mpr s4) a2 hi hd (h p e R s m args below meth c C H ls locs cells slots Qf mc ms a1 a2 a3 a4 a5 a6 a7 a8 k')
theorem wp_tlen (hd : decode M.2.1 pc = .ok (.arraylength, 1)) (h : Wp G M kc ks (pc + 1) l (.int 6 :: st) u Q) : Wp G M kc ks pc l (.ref 1 :: st) u Q := by
  intro p e R s m args below meth c C H ls locs cells slots Qf mc ms a1 a2 a3 a4 a5 a6 a7 a8 k'
  obtain ⟨s1, s2, s3, s4, s5, s6, -⟩ := C.2.2.2.2.2.2.2.2.2.2
  exact va_slen C.1 C.2.1 s3 (Nat.lt_of_lt_of_le s4 s6) (Nat.not_le.mpr s4) a2 hd (h p e R s m args below meth c C H ls locs cells slots Qf mc ms a1 a2 a3 a4 a5 a6 a7 a8 k')
theorem wp_gets (hcls : M.1.cls = "DoorRounds$Reader") (hd : decode M.2.1 pc = .ok (.getstatic 42, 3)) (h : Wp G M kc ks (pc + 3) l (.ref 1 :: st) u Q) : Wp G M kc ks pc l st u Q := by
  intro p e R s m args below meth c C H ls locs cells slots Qf mc ms a1 a2 a3 a4 a5 a6 a7 a8 k'
  obtain ⟨s1, s2, s3, s4, s5, s6, s7, s8, -⟩ := C.2.2.2.2.2.2.2.2.2.2
  have ho := C.2.2.2.2.1
  rw [hcls] at ho
  exact va_getsN C.1 C.2.1 s5 a2 ho (va_Nw.use rfl s8) (fun _ z => z) hd (h p e R s m args below meth c C H ls locs cells slots Qf mc ms a1 a2 a3 a4 a5 a6 a7 a8 k')
/-! new cells -/
theorem ce_pN {sh : Nat × Nat} {a : Nat} (h : a ≠ mX u + 2) : ce G (pN u sh) a = ce G u a := ce_congr (by simp [pN, mS, h]) (fun j => by simp [pN, mI, h]) (fun j => by simp [pN, mL, h]) (fun j => by simp [pN, mR, h])
theorem wl_pN {sh : Nat × Nat} {e : va_E} (he : e = ce G (pN u sh) (mX u + 2)) : wl G u ++ [(gB G + mX u, e)] = wl G (pN u sh) := by
  subst he
  show _ = (List.range (mX u + 1)).map _
  rw [List.range_succ, List.map_append]
  congr 1
  apply List.map_congr_left
  intro i hi
  rw [ce_pN (by have := List.mem_range.mp hi; omega)]
theorem new_ad {s : State} {H H1 : Heap} {q : Nat} {e : va_E} (a1 : Rl G s H u) (hP : va_P (gC G, gI G) cls9 (wl G u ++ [(q, e)]) H1) (hD : va_D (Ag G) (wl G u ++ [(q, e)])) (hz : H1.size ≤ H.size + 1) : q = gB G + mX u ∧ H1.size = H.size + 1 := by
  have hlen : (wl G u).length = mX u := by simp [wl]
  have hlast : (wl G u ++ [(q, e)])[mX u]? = some (q, e) := by rw [List.getElem?_append_right (by omega), hlen, Nat.sub_self]; rfl
  have h1 : q < H1.size := (hP _ _ hlast).lt
  have h2 : gB G ≤ q := hD.2 _ _ hlast
  have h3 := a1.2.2.2
  have h4 : ¬ q < gB G + mX u := fun hq => by
    have hi : q - gB G < mX u := by omega
    have hg : (wl G u ++ [(q, e)])[q - gB G]? = some (gB G + (q - gB G), ce G u (q - gB G + 2)) := by
      rw [List.getElem?_append_left (by omega)]
      simp [wl, List.getElem?_map, List.getElem?_range hi]
    have := hD.1 _ _ _ _ hg hlast (by show gB G + (q - gB G) = q; omega)
    omega
  omega
theorem rl_new {s : State} {H H1 : Heap} {q cells : Nat} {e : va_E} {sh : Nat × Nat} (a1 : Rl G s H u) (he : e = ce G (pN u sh) (mX u + 2)) (hP : va_P (gC G, gI G) cls9 (wl G u ++ [(q, e)]) H1) (hD : va_D (Ag G) (wl G u ++ [(q, e)])) (hz0 : H.size = s.heap.size + cells) (hz : H1.size ≤ s.heap.size + (cells + 1)) : q = ad G (mX u + 2) ∧ Rl G s H1 (pN u sh) ∧ H1.size = s.heap.size + (cells + 1) := by
  obtain ⟨rfl, e2⟩ := new_ad a1 hP hD (by omega)
  rw [wl_pN he] at hP hD
  have h3 := a1.2.2.2
  exact ⟨rfl, ⟨hP, hD, a1.2.2.1, by rw [e2, h3]; show gB G + mX u + 1 = gB G + (mX u + 1); omega⟩, by omega⟩
def NW (own : String) (idx ci N : Nat) : Prop := ∃ (r : vw_C) (ty : Nat → FieldType), clOK ci r ty ∧ r.2.2 = N ∧ ci < 9 ∧ Cond.classLink own idx r.1 ∈ lw_g ∧ Cond.instantiable r.1 r.2.2 ∈ lw_g ∧ Cond.initialized r.1 ∈ lw_g
theorem fty_lt : ∀ ci, ci < 9 → ∀ j, j < (ftys.getD ci []).length → fty ci j < 3 := by decide
theorem wp_new {idx ci N : Nat} (hw : NW M.1.cls idx ci N) (hd : decode M.2.1 pc = .ok (.new idx, 3)) (h : Wp G M kc ks (pc + 3) l (.ref (mX u + 2) :: st) (pN u (ci, 0)) Q) : Wp G M (kc + 1) (ks + N) pc l st u Q := by
  intro p e R s m args below meth c C H ls locs cells slots Qf mc ms a1 a2 a3 a4 a5 a6 a7 a8 k'
  obtain ⟨⟨C0, T0, N0⟩, ty, ⟨hc, hin, hty0, hnm, hN, htc, hdecl⟩, hNe, hci, w1, w2, w3⟩ := hw
  dsimp only at hNe
  subst hNe
  have hts := C.2.2.2.2.2.1
  have hS9 : (mS (pN u (ci, 0)) (mX u + 2)).1 = ci := by simp [pN, mS]
  have hA : ∀ q : Nat, H.size ≤ q → Ag G q := fun q hq => by show gB G ≤ q; have := a1.2.2.2; omega
  have hc1 : cells + 1 ≤ R.cells := by omega
  have hc2 : slots + N0 ≤ R.slots := by omega
  have hdef : ∀ j, j < N0 → defaultValue (ty j) = vp_V (fvs G (pN u (ci, 0)) (mX u + 2) ci) j := fun j hj => by
    have ht := htc j hj
    have h3 := fty_lt ci hci j (by rw [← hN]; exact hj)
    rw [vp_V, List.getD_eq_getElem?_getD, fvs_get (by rw [← hN]; exact hj), ← ht]
    rw [← ht] at h3
    have e1 : mI (pN u (ci, 0)) (mX u + 2) j = 0 := by simp [pN, mI]
    have e2 : mL (pN u (ci, 0)) (mX u + 2) j = 0 := by simp [pN, mL]
    have e3 : mR (pN u (ci, 0)) (mX u + 2) j = 0 := by simp [pN, mR]
    cases hq : ty j <;> rw [hq] at h3 <;> first | (simp [tyc] at h3; done) | simp [fv, tyc, defaultValue, e1, e2, e3, rf, va_rf]
  refine va_new (c0 := c) (ci := ci) (fs := fvs G (pN u (ci, 0)) (mX u + 2) ci) C.1 C.2.1 hts hin ty hty0 C.2.2.2.2.1 (hts _ w1) (hts _ w2) (hts _ w3) a1.2.2.1 a1.1 a1.2.1 (va_S_sub a2) hA hc hdef hc1 hc2 hd (fun q H1 hP1 hD1 hS1 => W_sz fun hz1 => ?_)
  obtain ⟨q1, r1, r2⟩ := rl_new (sh := (ci, 0)) a1 (ce_obj hS9 hci).symm hP1 hD1 a4 hz1
  rw [q1]
  exact h p e R s m args below meth c C H1 ls locs (cells + 1) (slots + N0) Qf mc ms r1 (va_S_tr a2 hS1) a3 r2 (by omega) (by omega) a7 a8 k'
/-- the array classes -/
theorem K_arr {s : State} {cA : ClassId} {t0 : Nat} {ty : FieldType} (hK : va_K (gC G, gI G) cls9 (gty G ++ [(cA, ty)]) s) (h0 : (gty G)[t0]? = some (gA G t0, ty)) : cA = gA G t0 := by
  have h1 := (hK.2 5 (cA, ty) rfl).2
  have h2 := (hK.2 t0 (gA G t0, ty) (by rw [List.getElem?_append_left (List.getElem?_eq_some_iff.mp h0).1]; exact h0)).2
  have key : ∀ t : FieldType, va_RA s cA t → va_RA s (gA G t0) t → cA = gA G t0 := by
    intro t q1 q2
    cases t with
    | object C =>
      obtain ⟨_, _, _, _, _, x1⟩ := q1
      obtain ⟨_, _, _, _, _, x2⟩ := q2
      exact Option.some.inj (x1.symm.trans x2)
    | _ => exact Option.some.inj (q1.symm.trans q2)
  exact key ty h1 h2
theorem wp_newI {n : Int32} {N : Nat} (hw : Cond.arrayClass .int ∈ lw_g) (hd : decode M.2.1 pc = .ok (.newarray .int, 2)) (hn : ¬ n < 0) (hN : n.toNatClampNeg = N) (hb : N * 4 ≤ 536870912) (h : Wp G M kc ks (pc + 2) l (.ref (mX u + 2) :: st) (pN u (100, N)) Q) : Wp G M (kc + 1) (ks + N) pc l (.int n :: st) u Q := by
  intro p e R s m args below meth c C H ls locs cells slots Qf mc ms a1 a2 a3 a4 a5 a6 a7 a8 k'
  have hA : ∀ q : Nat, H.size ≤ q → Ag G q := fun q hq => by show gB G ≤ q; have := a1.2.2.2; omega
  have hc1 : cells + 1 ≤ R.cells := by omega
  have hc2 : slots + N ≤ R.slots := by omega
  have hS9 : (mS (pN u (100, N)) (mX u + 2)) = (100, N) := by simp [pN, mS]
  refine va_newa (atype := .int) (a0 := (N, .inl (mI (pN u (100, N)) (mX u + 2)))) C.1 C.2.1 (C.2.2.2.2.2.1 _ hw) rfl a1.2.2.1 a1.1 a1.2.1 (va_S_sub a2) hA (fun cA => ?_) hn hN hb hc1 hc2 hd (fun q cA H1 hK1 hP1 hD1 hS1 => W_sz fun hz1 => ?_)
  · rw [vp_cell_i]
    congr 1
    funext j
    simp [pN, mI, newarray.typeOf, defaultValue]
  · have hcA : cA = gA G 0 := K_arr (t0 := 0) hK1 rfl
    subst hcA
    have he : (Sum.inl (gA G 0, N, .inl (mI (pN u (100, N)) (mX u + 2))) : va_E) = ce G (pN u (100, N)) (mX u + 2) := by rw [ce_int (by rw [hS9]), hS9]
    obtain ⟨q1, r1, r2⟩ := rl_new (sh := (100, N)) a1 he hP1 hD1 a4 hz1
    rw [q1]
    exact h p e R s m args below meth c C H1 ls locs (cells + 1) (slots + N) Qf mc ms r1 (va_S_tr a2 hS1) a3 r2 (by omega) (by omega) a7 a8 k'
theorem wp_newJ {n : Int32} {N : Nat} (hw : Cond.arrayClass .long ∈ lw_g) (hd : decode M.2.1 pc = .ok (.newarray .long, 2)) (hn : ¬ n < 0) (hN : n.toNatClampNeg = N) (hb : N * 8 ≤ 536870912) (h : Wp G M kc ks (pc + 2) l (.ref (mX u + 2) :: st) (pN u (101, N)) Q) : Wp G M (kc + 1) (ks + N) pc l (.int n :: st) u Q := by
  intro p e R s m args below meth c C H ls locs cells slots Qf mc ms a1 a2 a3 a4 a5 a6 a7 a8 k'
  have hA : ∀ q : Nat, H.size ≤ q → Ag G q := fun q hq => by show gB G ≤ q; have := a1.2.2.2; omega
  have hc1 : cells + 1 ≤ R.cells := by omega
  have hc2 : slots + N ≤ R.slots := by omega
  have hS9 : (mS (pN u (101, N)) (mX u + 2)) = (101, N) := by simp [pN, mS]
  refine va_newa (atype := .long) (a0 := (N, .inr (.inl (mL (pN u (101, N)) (mX u + 2))))) C.1 C.2.1 (C.2.2.2.2.2.1 _ hw) rfl a1.2.2.1 a1.1 a1.2.1 (va_S_sub a2) hA (fun cA => ?_) hn hN hb hc1 hc2 hd (fun q cA H1 hK1 hP1 hD1 hS1 => W_sz fun hz1 => ?_)
  · rw [vp_cell_l]
    congr 1
    funext j
    simp [pN, mL, newarray.typeOf, defaultValue]
  · have hcA : cA = gA G 1 := K_arr (t0 := 1) hK1 rfl
    subst hcA
    have he : (Sum.inl (gA G 1, N, .inr (.inl (mL (pN u (101, N)) (mX u + 2)))) : va_E) = ce G (pN u (101, N)) (mX u + 2) := by rw [ce_long (by rw [hS9]), hS9]
    obtain ⟨q1, r1, r2⟩ := rl_new (sh := (101, N)) a1 he hP1 hD1 a4 hz1
    rw [q1]
    exact h p e R s m args below meth c C H1 ls locs (cells + 1) (slots + N) Qf mc ms r1 (va_S_tr a2 hS1) a3 r2 (by omega) (by omega) a7 a8 k'
theorem wp_newA {n : Int32} {N idx kd : Nat} (hk : 102 ≤ kd ∧ kd ≤ 104) (hw : Cond.classLink M.1.cls idx (rk kd) ∈ lw_g) (hd : decode M.2.1 pc = .ok (.anewarray idx, 3)) (hn : ¬ n < 0) (hN : n.toNatClampNeg = N) (hb : N * 4 ≤ 536870912) (h : Wp G M kc ks (pc + 3) l (.ref (mX u + 2) :: st) (pN u (kd, N)) Q) : Wp G M (kc + 1) (ks + N) pc l (.int n :: st) u Q := by
  intro p e R s m args below meth c C H ls locs cells slots Qf mc ms a1 a2 a3 a4 a5 a6 a7 a8 k'
  have hA : ∀ q : Nat, H.size ≤ q → Ag G q := fun q hq => by show gB G ≤ q; have := a1.2.2.2; omega
  have hc1 : cells + 1 ≤ R.cells := by omega
  have hc2 : slots + N ≤ R.slots := by omega
  have hS9 : (mS (pN u (kd, N)) (mX u + 2)) = (kd, N) := by simp [pN, mS]
  obtain ⟨s1, s2, s3, s4, s5, s6, s7, s8, s9, s10, s11⟩ := C.2.2.2.2.2.2.2.2.2.2
  have hAO : va_AO (rk kd) s := by rcases (show kd = 102 ∨ kd = 103 ∨ kd = 104 by omega) with rfl | rfl | rfl <;> assumption
  refine va_newq C.1 C.2.1 C.2.2.2.2.1 (C.2.2.2.2.2.1 _ hw) hAO a1.2.2.1 a1.1 a1.2.1 (va_S_sub a2) hA hn hN hb hc1 hc2 hd (fun q cA H1 hK1 hP1 hD1 hS1 => W_sz fun hz1 => ?_)
  have hcA : cA = gA G (kd - 100) := K_arr (t0 := kd - 100) hK1 (gty_ref hk.1 hk.2)
  subst hcA
  have he : (Sum.inl (gA G (kd - 100), N, .inr (.inr (.inr (.inr (fun _ => none))))) : va_E) = ce G (pN u (kd, N)) (mX u + 2) := by
    rw [ce_ref (kd := kd) (by rw [hS9]) hk.1, hS9]
    congr 7
    funext j
    simp [pN, mR, rf]
  obtain ⟨q1, r1, r2⟩ := rl_new (sh := (kd, N)) a1 he hP1 hD1 a4 hz1
  rw [q1]
  exact h p e R s m args below meth c C H1 ls locs (cells + 1) (slots + N) Qf mc ms r1 (va_S_tr a2 hS1) a3 r2 (by omega) (by omega) a7 a8 k'
/-! the end -/
theorem wp_iret {v : Int32} (hd : decode M.2.1 pc = .ok (.ireturn, 1)) (ht : ∃ ty, M.2.2.2.1 = some ty ∧ narrow ty (.int v) = .int v) (hQ : Q (some (.int v)) u) : Wp G M 0 ks pc l [.int v] u Q := by
  intro p e R s m args below meth c C H ls locs cells slots Qf mc ms a1 a2 a3 a4 a5 a6 a7 a8 k'
  exact W.widen (by omega) (by omega) (k' (some (.int v)) u H ls locs pc hQ a1 a2 (by omega) ⟨hd, ht⟩)
theorem wp_lret {v : Int64} (hd : decode M.2.1 pc = .ok (.lreturn, 1)) (ht : M.2.2.2.1 = some .long) (hQ : Q (some (.long v)) u) : Wp G M 0 ks pc l [.long v] u Q := by
  intro p e R s m args below meth c C H ls locs cells slots Qf mc ms a1 a2 a3 a4 a5 a6 a7 a8 k'
  exact W.widen (by omega) (by omega) (k' (some (.long v)) u H ls locs pc hQ a1 a2 (by omega) ⟨hd, ht⟩)
theorem wp_aret {v : Nat} (hd : decode M.2.1 pc = .ok (.areturn, 1)) (ht : ∃ n, M.2.2.2.1 = some (.object n)) (hQ : Q (some (.ref v)) u) : Wp G M 0 ks pc l [.ref v] u Q := by
  intro p e R s m args below meth c C H ls locs cells slots Qf mc ms a1 a2 a3 a4 a5 a6 a7 a8 k'
  obtain ⟨n, ht⟩ := ht
  exact W.widen (by omega) (by omega) (k' (some (.ref v)) u H ls locs pc hQ a1 a2 (by omega) ⟨hd, _, ht, Or.inl ⟨n, rfl⟩⟩)
theorem wp_vret (hd : decode M.2.1 pc = .ok (.return_, 1)) (ht : M.2.2.2.1 = none) (hQ : Q none u) : Wp G M 0 ks pc l [] u Q := by
  intro p e R s m args below meth c C H ls locs cells slots Qf mc ms a1 a2 a3 a4 a5 a6 a7 a8 k'
  exact W.widen (by omega) (by omega) (k' none u H ls locs pc hQ a1 a2 (by omega) ⟨hd, ht⟩)
end ARR
end
section
section CALL
variable {G : pG} {M M' : pY} {kc ks kc' ks' pc : Nat} {l : pLo} {st : List Value} {u : pM} {Q Q' : Option Value → pM → Prop}
theorem Rl.moved {s U : State} {H : Heap} (h : Rl G s H u) (ha : s.vm.Alike U.vm) : Rl G U H u := ⟨h.1, h.2.1, h.2.2.1.moved ha, h.2.2.2⟩
theorem Stt.to {s U : State} {H : Heap} {locs : List Loc} (h : Stt G s) (hS : va_S (Ag G) s.heap H locs) (hU : U.heap = H) (hW : s.WarmedH U.vm) : Stt G U := by
  obtain ⟨s1, s2, s3, s4, s5, s6, s7, s8, s9, s10, s11⟩ := h
  have ha := hW.alike
  have kb : ∀ a : Nat, a < s.heap.size → ¬ Ag G a → U.heap[a]? = s.heap[a]? := fun a h1 h2 => by rw [hU]; exact hS.2.1 a h1 h2
  refine ⟨(s1.kept (kb _ (Nat.lt_of_lt_of_le s2 s6) (Nat.not_le.mpr s2))).moved ha, s2, (s3.kept (kb _ (Nat.lt_of_lt_of_le s4 s6) (Nat.not_le.mpr s4))).moved ha, s4, (s5.kept kb).moved ha, by rw [hU]; exact Nat.le_trans s6 hS.1, fun q hq => (s7 q hq).warmM hW, s8.warmF hW, s9.moved ha, s10.moved ha, s11.moved ha⟩
theorem Stt.same {s U : State} (h : Stt G s) (hU : U.heap = s.heap) (hv : s.vm = U.vm) : Stt G U := by
  refine h.to (H := s.heap) (locs := []) va_S.rf hU ?_
  rw [← hv]; exact State.WarmedH.refl s
theorem lm_args (vs : List Value) : ∀ i, lm G (lv_args i vs) = lv_args i (vs.map (tv G)) := by
  induction vs with
  | nil => intro i; rfl
  | cons v t ih =>
    intro i
    show (i, tv G v) :: lm G (lv_args _ t) = (i, tv G v) :: lv_args _ (t.map (tv G))
    rw [ih, tv_cat]
abbrev cwd (M : pY) : Cond := .code M.1 M.2.1 M.2.2.1 M.2.2.2.1
abbrev crm (M : pY) (kc ks : Nat) : Room := { frames := M.2.2.2.2.1, cells := kc, slots := ks, locals := M.2.2.2.2.2 }
def pPc (G : pG) (vs : List Value) (u : pM) : Array Value → State → Prop := fun a s => a = (vs.map (tv G)).toArray ∧ Rl G s s.heap u ∧ Stt G s
def pQc (G : pG) (kc : Nat) (Q : Option Value → pM → Prop) : Array Value → State → Outcome → State → Prop := fun _ s o t => ∃ (r : Option Value) (u' : pM), o = .returned (r.map (tv G)) ∧ Q r u' ∧ Rl G t t.heap u' ∧ va_F (Ag G) s t ∧ t.heap.size = s.heap.size + kc
theorem pPc_blind {vs : List Value} : FrameBlind (pPc G vs u) := fun a U g mk q => ⟨q.1, Rl.moved (s := U) q.2.1 (Vm.Alike.refl U.vm), q.2.2.same rfl rfl⟩
theorem goodG : ∀ w ∈ lw_g, w ∈ lw_g ∧ ((w.onTables && w.keeps) = true ∨ ∃ ty, w = .arrayClass ty) := fun w h => ⟨h, good_of_word (List.mem_filter.mp h).2⟩
theorem goodC (hc : cwd M ∈ lw_g) : GoodIn lw_g (cwd M :: lw_g) := fun w h => by
  rcases List.mem_cons.mp h with rfl | h
  · exact goodG _ hc
  · exact goodG w h
theorem wp_met {vs : List Value} (hpl : plainName M.1.cls = true) (hlen : (lg_sl (vs.map (tv G))).length ≤ M.2.2.1) (h : Wp G M kc ks 0 (lv_args 0 vs) [] u Q) : Met (gl G) M.1 (cwd M :: lw_g) (crm M kc ks) (pPc G vs u) (pQc G kc Q) kc ks (Ag G) := by
  refine Met.ofW (cc := M.2.1) (maxL := M.2.2.1) (ret := M.2.2.2.1) hpl rfl ?_
  intro p e s m args below meth c s₁ B hml hv
  obtain ⟨rfl, hR, hSt⟩ := hv
  have hts0 := atoms_spec (ws := cwd M :: lw_g) B.pre
  have hts : ∀ w ∈ lw_g, w.before (vs.map (tv G)).toArray s = true := fun w hw => hts0 w (List.mem_cons_of_mem _ hw)
  have hl := lv_entry (vs.map (tv G)) (n := M.2.2.1) hlen
  rw [← lm_args vs 0] at hl
  rw [lg_entry_eq]
  have C : Cx G M p (headSpec (cwd M :: lw_g) (crm M kc ks)).room s m (vs.map (tv G)).toArray meth c := ⟨B.exec, B.bytes, B.returns, hml, findClass_of_methodNamed B.named, hts, B.notSynchronized, (name_of_methodNamed B.named B.method).1, Nat.le_refl _, Nat.le_refl _, hSt⟩
  refine h p e _ s m _ below meth c C s.heap _ [] 0 0 _ kc ks hR va_S.rf hl rfl (by omega) (by omega) (Nat.le_refl _) (Nat.le_refl _) ?_
  intro r u' H' ls' locs' pc' hQ hR' hS' hz' hret
  have hq : ∀ t : State, t.heap = H' → s.WarmedH t.vm → pQc G kc Q (vs.map (tv G)).toArray s (.returned (r.map (tv G))) t := fun t ht hW => ⟨r, u', rfl, hQ, by rw [ht]; exact hR'.moved hW.alike, hS'.F ht, by rw [ht]; exact hz'⟩
  have hlocks := B.notSynchronized
  cases r with
  | none => exact W.vret C.1 C.2.1 (C.2.2.1.trans hret.2) hq hS'.2.2 hret.1 hlocks
  | some v =>
    cases v with
    | int x =>
      obtain ⟨hd, ty, e1, e2⟩ := hret
      exact W.zret C.1 C.2.1 (C.2.2.1.trans e1) e2 hq hS'.2.2 hd hlocks
    | long x => exact W.lret C.1 C.2.1 (C.2.2.1.trans hret.2) hq hS'.2.2 hret.1 hlocks
    | ref x =>
      obtain ⟨hd, rt, e1, e2⟩ := hret
      exact W.aret C.1 C.2.1 (C.2.2.1.trans e1) e2 (Or.inr ⟨_, rfl⟩) hq hS'.2.2 hd hlocks
    | _ => exact hret.elim
theorem run_back {p : Program} {e : Env} {R : Room} {s : State} {m : MethodId} {args : Array Value} {below : List Frame} {meth : Method} {c : Code} {H : Heap} {locs : List Loc} {cells slots : Nat} {Qf : State → Prop} {ls : Array Slot} {st0 rest : List Value} {a : Array Value} (hr : va_Run p (gl G) e R s m args below meth c H locs cells slots kc' ks' (F0 m pc ls st0) rest (pQc G kc' Q' a) (Ag G)) (hS : va_S (Ag G) s.heap H locs)
    (kk : ∀ (r : Option Value) (u' : pM) (H1 : Heap) (locs1 : List Loc), Q' r u' → Rl G s H1 u' → va_S (Ag G) s.heap H1 locs1 → H1.size = H.size + kc' → W p (gl G) e R s m args below meth c H1 locs1 (cells + kc') (slots + ks') Qf (F0 m (pc + 3) ls ((r.map (tv G)).toList ++ rest))) : W p (gl G) e R s m args below meth c H locs cells slots Qf (F0 m pc ls st0) := by
  intro T hT X
  obtain ⟨v, st₀, t, T', L, h0, X', hL, e1, e2, ⟨r, u', hv, hq, hR, hF, hz⟩, go⟩ := hr T hT X
  cases hv
  have hR1 : Rl G s T'.heap u' := by
    rw [e1]
    exact hR.moved (by rw [← e2]; exact X'.warmed.alike.symm)
  obtain ⟨f1, f2⟩ := hF
  rw [h0] at f1 f2 hz
  have hS1 : va_S (Ag G) s.heap T'.heap (locs ++ L) := ⟨by rw [e1]; exact Nat.le_trans hS.1 f1, fun q h1 h2 => by rw [e1, f2 q (Nat.lt_of_lt_of_le h1 hS.1) h2]; exact hS.2.1 q h1 h2, fun q hq => by
    rcases List.mem_append.mp hq with h | h
    · exact hS.2.2 q h
    · exact hL q h⟩
  obtain ⟨t2, b1, b2⟩ := kk r u' T'.heap (locs ++ L) hq hR1 hS1 (by rw [e1]; exact hz) T' rfl X'
  exact ⟨t2, go t2 b1, b2⟩
/-- what a callee is, whoever calls -/
def CM (M : pY) (n : Nat) : Prop := plainName M.1.cls = true ∧ cwd M ∈ lw_g ∧ Cond.initialized M.1.cls ∈ lw_g ∧ (M.1.cls ≠ "java/lang/invoke/MethodHandle" ∧ M.1.cls ≠ "java/lang/invoke/VarHandle" ∧ (parseMethodDescriptor M.1.desc).map (fun d => d.parameters.length) = some n)
/-- by which link: 0 a plain one, 1 a nest mate's -/
def LK (own : String) (idx : Nat) (M : pY) : Prop := Cond.methodLink own idx M.1 ∈ lw_g ∨ ∃ host, (own, idx, M.1, host) ∈ nbM
abbrev RoomOK (M M' : pY) : Prop := M'.2.2.2.2.1 + 1 ≤ M.2.2.2.2.1 ∧ 8 + (M'.2.2.1 + 11) + M'.2.2.2.2.2 ≤ M.2.2.2.2.2
theorem pre_of {p : Program} {R : Room} {s : State} {m : MethodId} {args : Array Value} {meth : Method} {c : Code} {H : Heap} {locs : List Loc} (vs : List Value) (C : Cx G M p R s m args meth c) (a1 : Rl G s H u) (a2 : va_S (Ag G) s.heap H locs) : ∀ U : State, U.heap = H → s.WarmedH U.vm → pPc G vs u (vs.map (tv G)).toArray U := fun U hU hW => ⟨rfl, by rw [hU]; exact a1.moved hW.alike, Stt.to C.2.2.2.2.2.2.2.2.2.2 a2 hU hW⟩
theorem wp_callV {idx n o ci : Nat} {r : vw_C} {As : List Value} (hd : decode M.2.1 pc = .ok (.invokevirtual idx, 3)) (hM : CM M' n) (hL : LK M.1.cls idx M') (hI : Cond.instanceMethod M'.1 ∈ lw_g) (hSe : Cond.selects M'.1.cls M'.1 M'.1 ∈ lw_g) (hrm : RoomOK M M') (ho : ok u o ci) (hc : cls9[ci]? = some r) (hr : r.1 = M'.1.cls) (hci : ci < 9) (hn : As.length = n) (hlen : (lg_sl ((.ref o :: As).map (tv G))).length ≤ M'.2.2.1) (hst : ((st.map (tv G)).map fun v => v.category).sum ≤ 8) (h : Wp G M' kc' ks' 0 (lv_args 0 (.ref o :: As)) [] u Q') (k : ∀ r u', Q' r u' → Wp G M kc ks (pc + 3) l (r.toList ++ st) u' Q) : Wp G M (kc' + kc) (ks' + ks) pc l (As.reverse ++ .ref o :: st) u Q := by
  intro p e R s m args below meth c C H ls locs cells slots Qf mc ms a1 a2 a3 a4 a5 a6 a7 a8 k'
  obtain ⟨hpl, hcd, hin, hdd⟩ := hM
  obtain ⟨o1, o2, o3⟩ := id ho
  have hw := wl_get (G := G) o1 o2
  rw [ce_obj o3 hci] at hw
  have hts := C.2.2.2.2.2.1
  have hMet := wp_met hpl hlen h
  have hrecv := va_recv (q0 := o - 2) a1.2.2.1 a1.1 hc hw
  rw [hr] at hrecv
  have hR1 : (crm M' kc' ks').frames + 1 ≤ R.frames := Nat.le_trans hrm.1 C.2.2.2.2.2.2.2.2.1
  have hR2 : 8 + (M'.2.2.1 + 11) + (crm M' kc' ks').locals ≤ R.locals := Nat.le_trans hrm.2 C.2.2.2.2.2.2.2.2.2.1
  have hp : PreV s H M'.1.cls (ad G o) (pPc G (.ref o :: As) u) (As.map (tv G)) := ⟨pPc_blind, hrecv, pre_of (.ref o :: As) C a1 a2⟩
  have hstk : (As.reverse ++ Value.ref o :: st).map (tv G) = (As.map (tv G)).reverse ++ .ref (ad G o) :: st.map (tv G) := by simp [tv]
  rw [hstk]
  have hf : cells + kc' ≤ R.cells ∧ slots + ks' ≤ R.slots := ⟨by omega, by omega⟩
  have run : va_Run p (gl G) e R s m args below meth c H locs cells slots kc' ks' (F0 m pc ls ((As.map (tv G)).reverse ++ .ref (ad G o) :: st.map (tv G))) (st.map (tv G)) (pQc G kc' Q' (Value.ref (ad G o) :: As.map (tv G)).toArray) (Ag G) := by
    rcases hL with hL | ⟨host, hL⟩
    · exact va_runV (Ts := lw_g) ⟨C.1, C.2.1, C.2.2.2.1, C.2.2.2.2.1, hts⟩ hMet (C := M'.1.cls) (n := n) (cwV n hts (fun w hw => by
        rcases List.mem_append.mp hw with hw | hw
        · rcases List.mem_cons.mp hw with rfl | hw
          · exact goodG _ hL
          · rcases List.mem_cons.mp hw with rfl | hw
            · exact goodG _ hI
            · rcases List.mem_cons.mp hw with rfl | hw
              · exact goodG _ hSe
              · rcases List.mem_cons.mp hw with rfl | hw
                · exact goodG _ hin
                · cases hw
        · exact goodC hcd w hw) rfl rfl rfl ⟨rfl, hdd⟩ ⟨hR1, hR2⟩) hp rfl (by rw [List.length_map]; exact hn) a3.1 rfl (lv_room hst) hd hf
    · exact va_runVN (Ts := lw_g) ⟨C.1, C.2.1, C.2.2.2.1, C.2.2.2.2.1, hts⟩ hMet (C := M'.1.cls) (n := n) ⟨va_cnB n hts (goodC hcd) rfl rfl rfl (C.2.2.2.2.2.2.2.2.2.2.2.2.2.2.2.2.1 _ hL) (hts _ hin) hdd ⟨hR1, hR2⟩, hts _ hI, hts _ hSe⟩ hp rfl (by rw [List.length_map]; exact hn) a3.1 rfl (lv_room hst) hd hf
  refine run_back run a2 (fun r u' H1 locs1 hq hR' hS' hz' => ?_)
  have e9 : (r.map (tv G)).toList ++ st.map (tv G) = (r.toList ++ st).map (tv G) := by cases r <;> simp
  rw [e9]
  exact k r u' hq p e R s m args below meth c C H1 ls locs1 (cells + kc') (slots + ks') Qf mc ms hR' hS' a3 (by omega) (by omega) (by omega) a7 a8 k'
theorem wp_callS {idx n : Nat} {As : List Value} (hd : decode M.2.1 pc = .ok (.invokestatic idx, 3)) (hM : CM M' n) (hL : LK M.1.cls idx M') (hI : Cond.static M'.1 ∈ lw_g) (hrm : RoomOK M M') (hn : As.length = n) (hlen : (lg_sl (As.map (tv G))).length ≤ M'.2.2.1) (hst : ((st.map (tv G)).map fun v => v.category).sum ≤ 8) (h : Wp G M' kc' ks' 0 (lv_args 0 As) [] u Q') (k : ∀ r u', Q' r u' → Wp G M kc ks (pc + 3) l (r.toList ++ st) u' Q) : Wp G M (kc' + kc) (ks' + ks) pc l (As.reverse ++ st) u Q := by
  intro p e R s m args below meth c C H ls locs cells slots Qf mc ms a1 a2 a3 a4 a5 a6 a7 a8 k'
  obtain ⟨hpl, hcd, hin, hdd⟩ := hM
  have hts := C.2.2.2.2.2.1
  have hMet := wp_met hpl hlen h
  have hR1 : (crm M' kc' ks').frames + 1 ≤ R.frames := Nat.le_trans hrm.1 C.2.2.2.2.2.2.2.2.1
  have hR2 : 8 + (M'.2.2.1 + 11) + (crm M' kc' ks').locals ≤ R.locals := Nat.le_trans hrm.2 C.2.2.2.2.2.2.2.2.2.1
  have hp : PreS s H (pPc G As u) (As.map (tv G)) := ⟨pPc_blind, pre_of As C a1 a2⟩
  have hstk : (As.reverse ++ st).map (tv G) = (As.map (tv G)).reverse ++ st.map (tv G) := by simp
  rw [hstk]
  have hf : cells + kc' ≤ R.cells ∧ slots + ks' ≤ R.slots := ⟨by omega, by omega⟩
  have run : va_Run p (gl G) e R s m args below meth c H locs cells slots kc' ks' (F0 m pc ls ((As.map (tv G)).reverse ++ st.map (tv G))) (st.map (tv G)) (pQc G kc' Q' (As.map (tv G)).toArray) (Ag G) := by
    rcases hL with hL | ⟨host, hL⟩
    · exact va_runS (Ts := lw_g) ⟨C.1, C.2.1, C.2.2.2.1, C.2.2.2.2.1, hts⟩ hMet (n := n) (va_cwS n hts (fun w hw => by
        rcases List.mem_append.mp hw with hw | hw
        · rcases List.mem_cons.mp hw with rfl | hw
          · exact goodG _ hL
          · rcases List.mem_cons.mp hw with rfl | hw
            · exact goodG _ hI
            · rcases List.mem_cons.mp hw with rfl | hw
              · exact goodG _ hin
              · cases hw
        · exact goodC hcd w hw) rfl rfl rfl hdd ⟨hR1, hR2⟩) hp rfl (by rw [List.length_map]; exact hn) a3.1 rfl (lv_room hst) hd hf
    · exact va_runSN (Ts := lw_g) ⟨C.1, C.2.1, C.2.2.2.1, C.2.2.2.2.1, hts⟩ hMet (n := n) ⟨va_cnB n hts (goodC hcd) rfl rfl rfl (C.2.2.2.2.2.2.2.2.2.2.2.2.2.2.2.2.1 _ hL) (hts _ hin) hdd ⟨hR1, hR2⟩, hts _ hI, trivial⟩ hp rfl (by rw [List.length_map]; exact hn) a3.1 rfl (lv_room hst) hd hf
  refine run_back run a2 (fun r u' H1 locs1 hq hR' hS' hz' => ?_)
  have e9 : (r.map (tv G)).toList ++ st.map (tv G) = (r.toList ++ st).map (tv G) := by cases r <;> simp
  rw [e9]
  exact k r u' hq p e R s m args below meth c C H1 ls locs1 (cells + kc') (slots + ks') Qf mc ms hR' hS' a3 (by omega) (by omega) (by omega) a7 a8 k'
theorem wp_callI {idx n o : Nat} {As : List Value} (hd : decode M.2.1 pc = .ok (.invokespecial idx, 3)) (hM : CM M' n) (hL : LK M.1.cls idx M') (hI : Cond.instanceMethod M'.1 ∈ lw_g) (hi1 : M'.1.name = "<init>") (hi2 : M'.2.2.2.1 = none) (hrm : RoomOK M M') (hn : As.length = n) (hlen : (lg_sl ((.ref o :: As).map (tv G))).length ≤ M'.2.2.1) (hst : ((st.map (tv G)).map fun v => v.category).sum ≤ 8) (h : Wp G M' kc' ks' 0 (lv_args 0 (.ref o :: As)) [] u Q') (k : ∀ r u', Q' r u' → Wp G M kc ks (pc + 3) l (r.toList ++ st) u' Q) : Wp G M (kc' + kc) (ks' + ks) pc l (As.reverse ++ .ref o :: st) u Q := by
  intro p e R s m args below meth c C H ls locs cells slots Qf mc ms a1 a2 a3 a4 a5 a6 a7 a8 k'
  obtain ⟨hpl, hcd, hin, hdd⟩ := hM
  have hts := C.2.2.2.2.2.1
  have hMet := wp_met hpl hlen h
  have hR1 : (crm M' kc' ks').frames + 1 ≤ R.frames := Nat.le_trans hrm.1 C.2.2.2.2.2.2.2.2.1
  have hR2 : 8 + (M'.2.2.1 + 11) + (crm M' kc' ks').locals ≤ R.locals := Nat.le_trans hrm.2 C.2.2.2.2.2.2.2.2.2.1
  have hp : PreS s H (pPc G (.ref o :: As) u) (.ref (ad G o) :: As.map (tv G)) := ⟨pPc_blind, pre_of (.ref o :: As) C a1 a2⟩
  have hstk : (As.reverse ++ Value.ref o :: st).map (tv G) = (As.map (tv G)).reverse ++ .ref (ad G o) :: st.map (tv G) := by simp [tv]
  rw [hstk]
  have hf : cells + kc' ≤ R.cells ∧ slots + ks' ≤ R.slots := ⟨by omega, by omega⟩
  have hw0 : cwd M' = Cond.code M'.1 M'.2.1 M'.2.2.1 none := by rw [cwd, hi2]
  have run : va_Run p (gl G) e R s m args below meth c H locs cells slots kc' ks' (F0 m pc ls ((As.map (tv G)).reverse ++ .ref (ad G o) :: st.map (tv G))) (st.map (tv G)) (pQc G kc' Q' (Value.ref (ad G o) :: As.map (tv G)).toArray) (Ag G) := by
    rcases hL with hL | ⟨host, hL⟩
    · exact va_runI (Ts := lw_g) ⟨C.1, C.2.1, C.2.2.2.1, C.2.2.2.2.1, hts⟩ hMet (n := n) (cwI n hts (goodC hcd) (by rw [hw0]) rfl rfl (hts _ hin) (hts _ hL) (hts _ hI) hi1 hdd ⟨hR1, hR2⟩) hp rfl (by rw [List.length_map]; exact hn) a3.1 rfl (lv_room hst) hd hf
    · exact va_runIN (Ts := lw_g) ⟨C.1, C.2.1, C.2.2.2.1, C.2.2.2.2.1, hts⟩ hMet (n := n) ⟨va_cnB n hts (goodC hcd) (by rw [hw0]) rfl rfl (C.2.2.2.2.2.2.2.2.2.2.2.2.2.2.2.2.1 _ hL) (hts _ hin) hdd ⟨hR1, hR2⟩, hi1, hts _ hI⟩ hp rfl (by rw [List.length_map]; exact hn) a3.1 rfl (lv_room hst) hd hf
  refine run_back run a2 (fun r u' H1 locs1 hq hR' hS' hz' => ?_)
  have e9 : (r.map (tv G)).toList ++ st.map (tv G) = (r.toList ++ st).map (tv G) := by cases r <;> simp
  rw [e9]
  exact k r u' hq p e R s m args below meth c C H1 ls locs1 (cells + kc') (slots + ks') Qf mc ms hR' hS' a3 (by omega) (by omega) (by omega) a7 a8 k'
theorem wp_oinit {idx o : Nat} (hd : decode M.2.1 pc = .ok (.invokespecial idx, 3)) (hL : Cond.methodLink M.1.cls idx Lib.objectInit ∈ lw_g) (hI : Cond.instanceMethod Lib.objectInit ∈ lw_g) (hC : Cond.code Lib.objectInit ⟨#[0xb1]⟩ 1 none ∈ lw_g) (hf : 1 ≤ M.2.2.2.2.1) (hlo : ((st.map (tv G)).map fun v => v.category).sum + 12 ≤ M.2.2.2.2.2) (h : Wp G M kc ks (pc + 3) l st u Q) : Wp G M kc ks pc l (.ref o :: st) u Q := by
  refine wp_go (fun p e R s m args below meth c H locs cells slots Qf ls C hl k => ?_) h
  have hts := C.2.2.2.2.2.1
  refine W.objInit (rest := st.map (tv G)) (a := ad G o) C.1 C.2.1 C.2.2.2.2.1 (hts _ hL) (hts _ hI) (hts _ hC) rfl (by rw [C.2.2.2.1]; exact hl.1) rfl hd (Nat.le_trans hf C.2.2.2.2.2.2.2.2.1) ?_ (k ls hl)
  exact Nat.le_trans (by show 2 * 0 + _ + 12 ≤ _; omega) C.2.2.2.2.2.2.2.2.2.1
/-- System.arraycopy of ints -/
def cpI (u : pM) (a b : Nat) (sp dp n : Nat) : pM := (fun x y => if x = b then va_cpy (mI u a) (mI u b) sp dp n y else mI u x y, mL u, mR u, mS u, mX u)
theorem wp_copy {idx a b : Nat} {sp dp n : Int32} (hd : decode M.2.1 pc = .ok (.invokestatic idx, 3)) (hL : Cond.methodLink M.1.cls idx arraycopyName ∈ lw_g) (hN : Cond.native arraycopyName ∈ lw_g) (hS0 : Cond.static arraycopyName ∈ lw_g) (hI : Cond.initialized "java/lang/System" ∈ lw_g) (hf : 1 ≤ M.2.2.2.2.1) (hlo : ((st.map (tv G)).map fun v => v.category).sum + 18 ≤ M.2.2.2.2.2) (ha : ok u a 100) (hb : ok u b 100) (h1 : ¬ sp < 0) (h2 : ¬ dp < 0) (h3 : ¬ n < 0) (h4 : sp.toNatClampNeg + n.toNatClampNeg ≤ (mS u a).2) (h5 : dp.toNatClampNeg + n.toNatClampNeg ≤ (mS u b).2) (h : Wp G M kc ks (pc + 3) l st (cpI u a b sp.toNatClampNeg dp.toNatClampNeg n.toNatClampNeg) Q) : Wp G M kc ks pc l (.int n :: .int dp :: .ref b :: .int sp :: .ref a :: st) u Q := by
  intro p e R s m args below meth c C H ls locs cells slots Qf mc ms a1 a2 a3 a4 a5 a6 a7 a8 k'
  obtain ⟨o1, o2, o3⟩ := ha
  obtain ⟨p1, p2, p3⟩ := hb
  have hw := wl_get (G := G) o1 o2
  rw [ce_int o3] at hw
  have hw2 := wl_get (G := G) p1 p2
  rw [ce_int p3] at hw2
  have hts := C.2.2.2.2.2.1
  refine va_copyi (rest := st.map (tv G)) C.1 C.2.1 (C.2.2.2.1.trans a3.1.symm) C.2.2.2.2.1 (hts _ hL) (hts _ hN) (hts _ hS0) (hts _ hI) a1.2.2.1 a1.1 a1.2.1 (va_S_sub a2) (a - 2) (b - 2) 0 0 hw hw2 rfl rfl rfl h1 h2 h3 h4 h5 (fun _ _ => rfl) (Nat.le_trans hf C.2.2.2.2.2.2.2.2.1) (Nat.le_trans hlo C.2.2.2.2.2.2.2.2.2.1) hd (fun H1 locs1 hP1 hD1 hS1 => W_sz fun hz1 => ?_)
  have he : (Sum.inl (gA G 0, (mS u b).2, .inl (va_cpy (mI u a) (mI u b) sp.toNatClampNeg dp.toNatClampNeg n.toNatClampNeg)) : va_E) = ce G (cpI u a b sp.toNatClampNeg dp.toNatClampNeg n.toNatClampNeg) b := by
    rw [ce_int (u := cpI u a b sp.toNatClampNeg dp.toNatClampNeg n.toNatClampNeg) p3]
    have e : va_cpy (mI u a) (mI u b) sp.toNatClampNeg dp.toNatClampNeg n.toNatClampNeg = mI (cpI u a b sp.toNatClampNeg dp.toNatClampNeg n.toNatClampNeg) b := funext fun j => by simp [cpI, mI]
    rw [e]; rfl
  obtain ⟨r1, r2⟩ := rl_st (u' := cpI u a b sp.toNatClampNeg dp.toNatClampNeg n.toNatClampNeg) a1 p1 p2 rfl (fun x hx => ce_congr rfl (fun j => by simp [cpI, mI, hx]) (fun _ => rfl) (fun _ => rfl)) he hP1 hD1 hS1 a4 hz1
  exact h p e R s m args below meth c C H1 ls locs1 cells slots Qf mc ms r1 (va_S_tr a2 hS1) a3 r2 a5 a6 a7 a8 k'
end CALL
end
section
def S0t : List (Nat × Nat) := [(0, 0), (0, 0), (7, 0), (102, 6), (102, 4), (6, 0), (100, 0), (5, 0), (100, 7), (103, 3), (5, 0), (100, 7), (5, 0), (100, 7), (0, 0), (100, 12), (100, 12), (100, 12), (1, 0), (101, 128), (101, 128), (100, 6), (2, 0), (104, 7), (4, 0), (100, 7), (3, 0), (6, 0), (100, 0), (4, 0), (4, 0), (4, 0), (4, 0), (4, 0), (4, 0), (4, 0), (2, 0), (104, 7), (4, 0), (100, 7), (3, 0), (6, 0), (100, 0), (4, 0), (4, 0), (4, 0), (4, 0), (4, 0), (4, 0), (4, 0), (6, 0), (100, 40), (6, 0), (100, 40), (6, 0), (100, 40), (6, 0), (100, 40), (6, 0), (100, 40), (6, 0), (100, 40), (6, 0), (100, 100), (6, 0), (100, 100), (6, 0), (100, 100), (6, 0), (100, 100), (5, 0), (100, 7), (5, 0), (100, 7), (5, 0), (100, 7), (8, 0), (100, 6), (100, 6), (100, 240), (100, 40), (100, 4), (100, 400), (100, 70), (100, 7), (100, 7), (100, 7), (100, 30), (100, 3968), (100, 128), (100, 128), (100, 7), (100, 36), (100, 7), (100, 427)]
def R0t : List (List Nat) := [[], [], [3, 4, 5, 7, 9, 10, 12, 14, 18, 21], [50, 52, 54, 56, 58, 60], [62, 64, 66, 68], [6], [], [0, 0, 8], [], [70, 72, 74], [0, 0, 11], [], [0, 0, 13], [], [0, 15, 16, 17], [], [], [], [19, 20], [], [], [], [0, 0, 23, 24, 25, 26], [29, 30, 31, 32, 33, 34, 35], [], [], [], [28], [], [], [], [], [], [], [], [], [0, 0, 37, 38, 39, 40], [43, 44, 45, 46, 47, 48, 49], [], [], [], [42], [], [], [], [], [], [], [], [], [51], [], [53], [], [55], [], [57], [], [59], [], [61], [], [63], [], [65], [], [67], [], [69], [], [0, 0, 71], [], [0, 0, 73], [], [0, 0, 75], [], [0, 77, 0, 0, 0, 78, 79, 80, 81, 82, 0, 0, 83, 0, 0, 0, 0, 84, 0, 0, 85, 86, 87, 88, 89, 90, 91, 92, 0, 93, 94], [], [], [], [], [], [], [], [], [], [], [], [], [], [], [], [], [], []]
def S0 (n : Nat) : Nat × Nat := S0t.getD n (0, 0)
def R0 (n k : Nat) : Nat := (R0t.getD n []).getD k 0
abbrev okS (n kd : Nat) : Prop := 2 ≤ n ∧ n < 95 ∧ (S0 n).1 = kd
abbrev pl (n : Nat) : Prop := n = 22 ∨ n = 36
def Str (u : pM) : Prop := mX u = 93 ∧ (∀ n, 2 ≤ n → n < 95 → mS u n = S0 n) ∧ (∀ n k, R0 n k ≠ 0 → mR u n k = R0 n k) ∧ pl (mR u 2 10) ∧ pl (mR u 2 11) ∧ okS (mR u 26 0) 6 ∧ okS (mR u 40 0) 6
/-- in the world behind the constructors -/
def Ws (G : pG) (M : pY) (pc : Nat) (l : pLo) (st : List Value) (u : pM) (Q : Option Value → pM → Prop) : Prop := Str u → Wp G M 0 0 pc l st u (fun r u' => Str u' ∧ Q r u')
theorem pl_ok {n : Nat} (h : pl n) : okS n 2 := by rcases h with rfl | rfl <;> decide
theorem ok_of {u : pM} {n kd : Nat} (hs : Str u) (h : okS n kd) : ok u n kd := ⟨h.1, by rw [hs.1]; exact h.2.1, by rw [hs.2.1 n h.1 h.2.1]; exact h.2.2⟩
theorem len_of {u : pM} {n kd : Nat} (hs : Str u) (h : okS n kd) : (mS u n).2 = (S0 n).2 := by rw [hs.2.1 n h.1 h.2.1]
theorem oka_of {u : pM} {n kd L : Nat} {i : Int32} (hs : Str u) (h : okS n kd) (hL : (S0 n).2 = L) (hi : vp_in i L) : oka u n kd i := ⟨ok_of hs h, by rw [len_of hs h, hL]; exact hi⟩
theorem ix_lt {i : Int32} {n : Nat} (h : vp_in i n) : i.toNatClampNeg < n := Nat.not_le.mp fun q => h (Or.inr q)
theorem of_0_1 : ∀ n, okS n 0 → R0 n 1 = n + 1 := fun n h => (show ∀ n, n < 95 → (2 ≤ n → (S0 n).1 = 0 → R0 n 1 = n + 1) from by decide +kernel) n h.2.1 h.1 h.2.2
theorem os_0_1 {n : Nat} (h : okS n 0) : okS (n + 1) 100 := (show ∀ n, n < 95 → (2 ≤ n → (S0 n).1 = 0 → okS (n + 1) 100) from by decide +kernel) n h.2.1 h.1 h.2.2
theorem ol_0_1 {n : Nat} (h : okS n 0) : (S0 (n + 1)).2 = 12 := (show ∀ n, n < 95 → (2 ≤ n → (S0 n).1 = 0 → (S0 (n + 1)).2 = 12) from by decide +kernel) n h.2.1 h.1 h.2.2
theorem of_0_2 : ∀ n, okS n 0 → R0 n 2 = n + 2 := fun n h => (show ∀ n, n < 95 → (2 ≤ n → (S0 n).1 = 0 → R0 n 2 = n + 2) from by decide +kernel) n h.2.1 h.1 h.2.2
theorem os_0_2 {n : Nat} (h : okS n 0) : okS (n + 2) 100 := (show ∀ n, n < 95 → (2 ≤ n → (S0 n).1 = 0 → okS (n + 2) 100) from by decide +kernel) n h.2.1 h.1 h.2.2
theorem ol_0_2 {n : Nat} (h : okS n 0) : (S0 (n + 2)).2 = 12 := (show ∀ n, n < 95 → (2 ≤ n → (S0 n).1 = 0 → (S0 (n + 2)).2 = 12) from by decide +kernel) n h.2.1 h.1 h.2.2
theorem of_0_3 : ∀ n, okS n 0 → R0 n 3 = n + 3 := fun n h => (show ∀ n, n < 95 → (2 ≤ n → (S0 n).1 = 0 → R0 n 3 = n + 3) from by decide +kernel) n h.2.1 h.1 h.2.2
theorem os_0_3 {n : Nat} (h : okS n 0) : okS (n + 3) 100 := (show ∀ n, n < 95 → (2 ≤ n → (S0 n).1 = 0 → okS (n + 3) 100) from by decide +kernel) n h.2.1 h.1 h.2.2
theorem ol_0_3 {n : Nat} (h : okS n 0) : (S0 (n + 3)).2 = 12 := (show ∀ n, n < 95 → (2 ≤ n → (S0 n).1 = 0 → (S0 (n + 3)).2 = 12) from by decide +kernel) n h.2.1 h.1 h.2.2
theorem of_1_0 : ∀ n, okS n 1 → R0 n 0 = n + 1 := fun n h => (show ∀ n, n < 95 → (2 ≤ n → (S0 n).1 = 1 → R0 n 0 = n + 1) from by decide +kernel) n h.2.1 h.1 h.2.2
theorem os_1_0 {n : Nat} (h : okS n 1) : okS (n + 1) 101 := (show ∀ n, n < 95 → (2 ≤ n → (S0 n).1 = 1 → okS (n + 1) 101) from by decide +kernel) n h.2.1 h.1 h.2.2
theorem ol_1_0 {n : Nat} (h : okS n 1) : (S0 (n + 1)).2 = 128 := (show ∀ n, n < 95 → (2 ≤ n → (S0 n).1 = 1 → (S0 (n + 1)).2 = 128) from by decide +kernel) n h.2.1 h.1 h.2.2
theorem of_1_1 : ∀ n, okS n 1 → R0 n 1 = n + 2 := fun n h => (show ∀ n, n < 95 → (2 ≤ n → (S0 n).1 = 1 → R0 n 1 = n + 2) from by decide +kernel) n h.2.1 h.1 h.2.2
theorem os_1_1 {n : Nat} (h : okS n 1) : okS (n + 2) 101 := (show ∀ n, n < 95 → (2 ≤ n → (S0 n).1 = 1 → okS (n + 2) 101) from by decide +kernel) n h.2.1 h.1 h.2.2
theorem ol_1_1 {n : Nat} (h : okS n 1) : (S0 (n + 2)).2 = 128 := (show ∀ n, n < 95 → (2 ≤ n → (S0 n).1 = 1 → (S0 (n + 2)).2 = 128) from by decide +kernel) n h.2.1 h.1 h.2.2
theorem of_2_2 : ∀ n, okS n 2 → R0 n 2 = n + 1 := fun n h => (show ∀ n, n < 95 → (2 ≤ n → (S0 n).1 = 2 → R0 n 2 = n + 1) from by decide +kernel) n h.2.1 h.1 h.2.2
theorem os_2_2 {n : Nat} (h : okS n 2) : okS (n + 1) 104 := (show ∀ n, n < 95 → (2 ≤ n → (S0 n).1 = 2 → okS (n + 1) 104) from by decide +kernel) n h.2.1 h.1 h.2.2
theorem ol_2_2 {n : Nat} (h : okS n 2) : (S0 (n + 1)).2 = 7 := (show ∀ n, n < 95 → (2 ≤ n → (S0 n).1 = 2 → (S0 (n + 1)).2 = 7) from by decide +kernel) n h.2.1 h.1 h.2.2
theorem of_2_3 : ∀ n, okS n 2 → R0 n 3 = n + 2 := fun n h => (show ∀ n, n < 95 → (2 ≤ n → (S0 n).1 = 2 → R0 n 3 = n + 2) from by decide +kernel) n h.2.1 h.1 h.2.2
theorem os_2_3 {n : Nat} (h : okS n 2) : okS (n + 2) 4 := (show ∀ n, n < 95 → (2 ≤ n → (S0 n).1 = 2 → okS (n + 2) 4) from by decide +kernel) n h.2.1 h.1 h.2.2
theorem ol_2_3 {n : Nat} (h : okS n 2) : (S0 (n + 2)).2 = 0 := (show ∀ n, n < 95 → (2 ≤ n → (S0 n).1 = 2 → (S0 (n + 2)).2 = 0) from by decide +kernel) n h.2.1 h.1 h.2.2
theorem of_2_4 : ∀ n, okS n 2 → R0 n 4 = n + 3 := fun n h => (show ∀ n, n < 95 → (2 ≤ n → (S0 n).1 = 2 → R0 n 4 = n + 3) from by decide +kernel) n h.2.1 h.1 h.2.2
theorem os_2_4 {n : Nat} (h : okS n 2) : okS (n + 3) 100 := (show ∀ n, n < 95 → (2 ≤ n → (S0 n).1 = 2 → okS (n + 3) 100) from by decide +kernel) n h.2.1 h.1 h.2.2
theorem ol_2_4 {n : Nat} (h : okS n 2) : (S0 (n + 3)).2 = 7 := (show ∀ n, n < 95 → (2 ≤ n → (S0 n).1 = 2 → (S0 (n + 3)).2 = 7) from by decide +kernel) n h.2.1 h.1 h.2.2
theorem of_2_5 : ∀ n, okS n 2 → R0 n 5 = n + 4 := fun n h => (show ∀ n, n < 95 → (2 ≤ n → (S0 n).1 = 2 → R0 n 5 = n + 4) from by decide +kernel) n h.2.1 h.1 h.2.2
theorem os_2_5 {n : Nat} (h : okS n 2) : okS (n + 4) 3 := (show ∀ n, n < 95 → (2 ≤ n → (S0 n).1 = 2 → okS (n + 4) 3) from by decide +kernel) n h.2.1 h.1 h.2.2
theorem ol_2_5 {n : Nat} (h : okS n 2) : (S0 (n + 4)).2 = 0 := (show ∀ n, n < 95 → (2 ≤ n → (S0 n).1 = 2 → (S0 (n + 4)).2 = 0) from by decide +kernel) n h.2.1 h.1 h.2.2
theorem of_5_2 : ∀ n, okS n 5 → R0 n 2 = n + 1 := fun n h => (show ∀ n, n < 95 → (2 ≤ n → (S0 n).1 = 5 → R0 n 2 = n + 1) from by decide +kernel) n h.2.1 h.1 h.2.2
theorem os_5_2 {n : Nat} (h : okS n 5) : okS (n + 1) 100 := (show ∀ n, n < 95 → (2 ≤ n → (S0 n).1 = 5 → okS (n + 1) 100) from by decide +kernel) n h.2.1 h.1 h.2.2
theorem ol_5_2 {n : Nat} (h : okS n 5) : (S0 (n + 1)).2 = 7 := (show ∀ n, n < 95 → (2 ≤ n → (S0 n).1 = 5 → (S0 (n + 1)).2 = 7) from by decide +kernel) n h.2.1 h.1 h.2.2
theorem of_6_0 : ∀ n, okS n 6 → R0 n 0 = n + 1 := fun n h => (show ∀ n, n < 95 → (2 ≤ n → (S0 n).1 = 6 → R0 n 0 = n + 1) from by decide +kernel) n h.2.1 h.1 h.2.2
theorem os_6_0 {n : Nat} (h : okS n 6) : okS (n + 1) 100 := (show ∀ n, n < 95 → (2 ≤ n → (S0 n).1 = 6 → okS (n + 1) 100) from by decide +kernel) n h.2.1 h.1 h.2.2
theorem of_7_0 : ∀ n, okS n 7 → R0 n 0 = n + 1 := fun n h => (show ∀ n, n < 95 → (2 ≤ n → (S0 n).1 = 7 → R0 n 0 = n + 1) from by decide +kernel) n h.2.1 h.1 h.2.2
theorem os_7_0 {n : Nat} (h : okS n 7) : okS (n + 1) 102 := (show ∀ n, n < 95 → (2 ≤ n → (S0 n).1 = 7 → okS (n + 1) 102) from by decide +kernel) n h.2.1 h.1 h.2.2
theorem ol_7_0 {n : Nat} (h : okS n 7) : (S0 (n + 1)).2 = 6 := (show ∀ n, n < 95 → (2 ≤ n → (S0 n).1 = 7 → (S0 (n + 1)).2 = 6) from by decide +kernel) n h.2.1 h.1 h.2.2
theorem of_7_1 : ∀ n, okS n 7 → R0 n 1 = n + 2 := fun n h => (show ∀ n, n < 95 → (2 ≤ n → (S0 n).1 = 7 → R0 n 1 = n + 2) from by decide +kernel) n h.2.1 h.1 h.2.2
theorem os_7_1 {n : Nat} (h : okS n 7) : okS (n + 2) 102 := (show ∀ n, n < 95 → (2 ≤ n → (S0 n).1 = 7 → okS (n + 2) 102) from by decide +kernel) n h.2.1 h.1 h.2.2
theorem ol_7_1 {n : Nat} (h : okS n 7) : (S0 (n + 2)).2 = 4 := (show ∀ n, n < 95 → (2 ≤ n → (S0 n).1 = 7 → (S0 (n + 2)).2 = 4) from by decide +kernel) n h.2.1 h.1 h.2.2
theorem of_7_2 : ∀ n, okS n 7 → R0 n 2 = n + 3 := fun n h => (show ∀ n, n < 95 → (2 ≤ n → (S0 n).1 = 7 → R0 n 2 = n + 3) from by decide +kernel) n h.2.1 h.1 h.2.2
theorem os_7_2 {n : Nat} (h : okS n 7) : okS (n + 3) 6 := (show ∀ n, n < 95 → (2 ≤ n → (S0 n).1 = 7 → okS (n + 3) 6) from by decide +kernel) n h.2.1 h.1 h.2.2
theorem ol_7_2 {n : Nat} (h : okS n 7) : (S0 (n + 3)).2 = 0 := (show ∀ n, n < 95 → (2 ≤ n → (S0 n).1 = 7 → (S0 (n + 3)).2 = 0) from by decide +kernel) n h.2.1 h.1 h.2.2
theorem of_7_3 : ∀ n, okS n 7 → R0 n 3 = n + 5 := fun n h => (show ∀ n, n < 95 → (2 ≤ n → (S0 n).1 = 7 → R0 n 3 = n + 5) from by decide +kernel) n h.2.1 h.1 h.2.2
theorem os_7_3 {n : Nat} (h : okS n 7) : okS (n + 5) 5 := (show ∀ n, n < 95 → (2 ≤ n → (S0 n).1 = 7 → okS (n + 5) 5) from by decide +kernel) n h.2.1 h.1 h.2.2
theorem ol_7_3 {n : Nat} (h : okS n 7) : (S0 (n + 5)).2 = 0 := (show ∀ n, n < 95 → (2 ≤ n → (S0 n).1 = 7 → (S0 (n + 5)).2 = 0) from by decide +kernel) n h.2.1 h.1 h.2.2
theorem of_7_4 : ∀ n, okS n 7 → R0 n 4 = n + 7 := fun n h => (show ∀ n, n < 95 → (2 ≤ n → (S0 n).1 = 7 → R0 n 4 = n + 7) from by decide +kernel) n h.2.1 h.1 h.2.2
theorem os_7_4 {n : Nat} (h : okS n 7) : okS (n + 7) 103 := (show ∀ n, n < 95 → (2 ≤ n → (S0 n).1 = 7 → okS (n + 7) 103) from by decide +kernel) n h.2.1 h.1 h.2.2
theorem ol_7_4 {n : Nat} (h : okS n 7) : (S0 (n + 7)).2 = 3 := (show ∀ n, n < 95 → (2 ≤ n → (S0 n).1 = 7 → (S0 (n + 7)).2 = 3) from by decide +kernel) n h.2.1 h.1 h.2.2
theorem of_7_5 : ∀ n, okS n 7 → R0 n 5 = n + 8 := fun n h => (show ∀ n, n < 95 → (2 ≤ n → (S0 n).1 = 7 → R0 n 5 = n + 8) from by decide +kernel) n h.2.1 h.1 h.2.2
theorem os_7_5 {n : Nat} (h : okS n 7) : okS (n + 8) 5 := (show ∀ n, n < 95 → (2 ≤ n → (S0 n).1 = 7 → okS (n + 8) 5) from by decide +kernel) n h.2.1 h.1 h.2.2
theorem ol_7_5 {n : Nat} (h : okS n 7) : (S0 (n + 8)).2 = 0 := (show ∀ n, n < 95 → (2 ≤ n → (S0 n).1 = 7 → (S0 (n + 8)).2 = 0) from by decide +kernel) n h.2.1 h.1 h.2.2
theorem of_7_6 : ∀ n, okS n 7 → R0 n 6 = n + 10 := fun n h => (show ∀ n, n < 95 → (2 ≤ n → (S0 n).1 = 7 → R0 n 6 = n + 10) from by decide +kernel) n h.2.1 h.1 h.2.2
theorem os_7_6 {n : Nat} (h : okS n 7) : okS (n + 10) 5 := (show ∀ n, n < 95 → (2 ≤ n → (S0 n).1 = 7 → okS (n + 10) 5) from by decide +kernel) n h.2.1 h.1 h.2.2
theorem ol_7_6 {n : Nat} (h : okS n 7) : (S0 (n + 10)).2 = 0 := (show ∀ n, n < 95 → (2 ≤ n → (S0 n).1 = 7 → (S0 (n + 10)).2 = 0) from by decide +kernel) n h.2.1 h.1 h.2.2
theorem of_7_7 : ∀ n, okS n 7 → R0 n 7 = n + 12 := fun n h => (show ∀ n, n < 95 → (2 ≤ n → (S0 n).1 = 7 → R0 n 7 = n + 12) from by decide +kernel) n h.2.1 h.1 h.2.2
theorem os_7_7 {n : Nat} (h : okS n 7) : okS (n + 12) 0 := (show ∀ n, n < 95 → (2 ≤ n → (S0 n).1 = 7 → okS (n + 12) 0) from by decide +kernel) n h.2.1 h.1 h.2.2
theorem ol_7_7 {n : Nat} (h : okS n 7) : (S0 (n + 12)).2 = 0 := (show ∀ n, n < 95 → (2 ≤ n → (S0 n).1 = 7 → (S0 (n + 12)).2 = 0) from by decide +kernel) n h.2.1 h.1 h.2.2
theorem of_7_8 : ∀ n, okS n 7 → R0 n 8 = n + 16 := fun n h => (show ∀ n, n < 95 → (2 ≤ n → (S0 n).1 = 7 → R0 n 8 = n + 16) from by decide +kernel) n h.2.1 h.1 h.2.2
theorem os_7_8 {n : Nat} (h : okS n 7) : okS (n + 16) 1 := (show ∀ n, n < 95 → (2 ≤ n → (S0 n).1 = 7 → okS (n + 16) 1) from by decide +kernel) n h.2.1 h.1 h.2.2
theorem ol_7_8 {n : Nat} (h : okS n 7) : (S0 (n + 16)).2 = 0 := (show ∀ n, n < 95 → (2 ≤ n → (S0 n).1 = 7 → (S0 (n + 16)).2 = 0) from by decide +kernel) n h.2.1 h.1 h.2.2
theorem of_7_9 : ∀ n, okS n 7 → R0 n 9 = n + 19 := fun n h => (show ∀ n, n < 95 → (2 ≤ n → (S0 n).1 = 7 → R0 n 9 = n + 19) from by decide +kernel) n h.2.1 h.1 h.2.2
theorem os_7_9 {n : Nat} (h : okS n 7) : okS (n + 19) 100 := (show ∀ n, n < 95 → (2 ≤ n → (S0 n).1 = 7 → okS (n + 19) 100) from by decide +kernel) n h.2.1 h.1 h.2.2
theorem ol_7_9 {n : Nat} (h : okS n 7) : (S0 (n + 19)).2 = 6 := (show ∀ n, n < 95 → (2 ≤ n → (S0 n).1 = 7 → (S0 (n + 19)).2 = 6) from by decide +kernel) n h.2.1 h.1 h.2.2
theorem of_8_1 : ∀ n, okS n 8 → R0 n 1 = n + 1 := fun n h => (show ∀ n, n < 95 → (2 ≤ n → (S0 n).1 = 8 → R0 n 1 = n + 1) from by decide +kernel) n h.2.1 h.1 h.2.2
theorem os_8_1 {n : Nat} (h : okS n 8) : okS (n + 1) 100 := (show ∀ n, n < 95 → (2 ≤ n → (S0 n).1 = 8 → okS (n + 1) 100) from by decide +kernel) n h.2.1 h.1 h.2.2
theorem ol_8_1 {n : Nat} (h : okS n 8) : (S0 (n + 1)).2 = 6 := (show ∀ n, n < 95 → (2 ≤ n → (S0 n).1 = 8 → (S0 (n + 1)).2 = 6) from by decide +kernel) n h.2.1 h.1 h.2.2
theorem of_8_5 : ∀ n, okS n 8 → R0 n 5 = n + 2 := fun n h => (show ∀ n, n < 95 → (2 ≤ n → (S0 n).1 = 8 → R0 n 5 = n + 2) from by decide +kernel) n h.2.1 h.1 h.2.2
theorem os_8_5 {n : Nat} (h : okS n 8) : okS (n + 2) 100 := (show ∀ n, n < 95 → (2 ≤ n → (S0 n).1 = 8 → okS (n + 2) 100) from by decide +kernel) n h.2.1 h.1 h.2.2
theorem ol_8_5 {n : Nat} (h : okS n 8) : (S0 (n + 2)).2 = 6 := (show ∀ n, n < 95 → (2 ≤ n → (S0 n).1 = 8 → (S0 (n + 2)).2 = 6) from by decide +kernel) n h.2.1 h.1 h.2.2
theorem of_8_6 : ∀ n, okS n 8 → R0 n 6 = n + 3 := fun n h => (show ∀ n, n < 95 → (2 ≤ n → (S0 n).1 = 8 → R0 n 6 = n + 3) from by decide +kernel) n h.2.1 h.1 h.2.2
theorem os_8_6 {n : Nat} (h : okS n 8) : okS (n + 3) 100 := (show ∀ n, n < 95 → (2 ≤ n → (S0 n).1 = 8 → okS (n + 3) 100) from by decide +kernel) n h.2.1 h.1 h.2.2
theorem ol_8_6 {n : Nat} (h : okS n 8) : (S0 (n + 3)).2 = 240 := (show ∀ n, n < 95 → (2 ≤ n → (S0 n).1 = 8 → (S0 (n + 3)).2 = 240) from by decide +kernel) n h.2.1 h.1 h.2.2
theorem of_8_7 : ∀ n, okS n 8 → R0 n 7 = n + 4 := fun n h => (show ∀ n, n < 95 → (2 ≤ n → (S0 n).1 = 8 → R0 n 7 = n + 4) from by decide +kernel) n h.2.1 h.1 h.2.2
theorem os_8_7 {n : Nat} (h : okS n 8) : okS (n + 4) 100 := (show ∀ n, n < 95 → (2 ≤ n → (S0 n).1 = 8 → okS (n + 4) 100) from by decide +kernel) n h.2.1 h.1 h.2.2
theorem ol_8_7 {n : Nat} (h : okS n 8) : (S0 (n + 4)).2 = 40 := (show ∀ n, n < 95 → (2 ≤ n → (S0 n).1 = 8 → (S0 (n + 4)).2 = 40) from by decide +kernel) n h.2.1 h.1 h.2.2
theorem of_8_8 : ∀ n, okS n 8 → R0 n 8 = n + 5 := fun n h => (show ∀ n, n < 95 → (2 ≤ n → (S0 n).1 = 8 → R0 n 8 = n + 5) from by decide +kernel) n h.2.1 h.1 h.2.2
theorem os_8_8 {n : Nat} (h : okS n 8) : okS (n + 5) 100 := (show ∀ n, n < 95 → (2 ≤ n → (S0 n).1 = 8 → okS (n + 5) 100) from by decide +kernel) n h.2.1 h.1 h.2.2
theorem ol_8_8 {n : Nat} (h : okS n 8) : (S0 (n + 5)).2 = 4 := (show ∀ n, n < 95 → (2 ≤ n → (S0 n).1 = 8 → (S0 (n + 5)).2 = 4) from by decide +kernel) n h.2.1 h.1 h.2.2
theorem of_8_9 : ∀ n, okS n 8 → R0 n 9 = n + 6 := fun n h => (show ∀ n, n < 95 → (2 ≤ n → (S0 n).1 = 8 → R0 n 9 = n + 6) from by decide +kernel) n h.2.1 h.1 h.2.2
theorem os_8_9 {n : Nat} (h : okS n 8) : okS (n + 6) 100 := (show ∀ n, n < 95 → (2 ≤ n → (S0 n).1 = 8 → okS (n + 6) 100) from by decide +kernel) n h.2.1 h.1 h.2.2
theorem ol_8_9 {n : Nat} (h : okS n 8) : (S0 (n + 6)).2 = 400 := (show ∀ n, n < 95 → (2 ≤ n → (S0 n).1 = 8 → (S0 (n + 6)).2 = 400) from by decide +kernel) n h.2.1 h.1 h.2.2
theorem of_8_12 : ∀ n, okS n 8 → R0 n 12 = n + 7 := fun n h => (show ∀ n, n < 95 → (2 ≤ n → (S0 n).1 = 8 → R0 n 12 = n + 7) from by decide +kernel) n h.2.1 h.1 h.2.2
theorem os_8_12 {n : Nat} (h : okS n 8) : okS (n + 7) 100 := (show ∀ n, n < 95 → (2 ≤ n → (S0 n).1 = 8 → okS (n + 7) 100) from by decide +kernel) n h.2.1 h.1 h.2.2
theorem ol_8_12 {n : Nat} (h : okS n 8) : (S0 (n + 7)).2 = 70 := (show ∀ n, n < 95 → (2 ≤ n → (S0 n).1 = 8 → (S0 (n + 7)).2 = 70) from by decide +kernel) n h.2.1 h.1 h.2.2
theorem of_8_17 : ∀ n, okS n 8 → R0 n 17 = n + 8 := fun n h => (show ∀ n, n < 95 → (2 ≤ n → (S0 n).1 = 8 → R0 n 17 = n + 8) from by decide +kernel) n h.2.1 h.1 h.2.2
theorem os_8_17 {n : Nat} (h : okS n 8) : okS (n + 8) 100 := (show ∀ n, n < 95 → (2 ≤ n → (S0 n).1 = 8 → okS (n + 8) 100) from by decide +kernel) n h.2.1 h.1 h.2.2
theorem ol_8_17 {n : Nat} (h : okS n 8) : (S0 (n + 8)).2 = 7 := (show ∀ n, n < 95 → (2 ≤ n → (S0 n).1 = 8 → (S0 (n + 8)).2 = 7) from by decide +kernel) n h.2.1 h.1 h.2.2
theorem of_8_20 : ∀ n, okS n 8 → R0 n 20 = n + 9 := fun n h => (show ∀ n, n < 95 → (2 ≤ n → (S0 n).1 = 8 → R0 n 20 = n + 9) from by decide +kernel) n h.2.1 h.1 h.2.2
theorem os_8_20 {n : Nat} (h : okS n 8) : okS (n + 9) 100 := (show ∀ n, n < 95 → (2 ≤ n → (S0 n).1 = 8 → okS (n + 9) 100) from by decide +kernel) n h.2.1 h.1 h.2.2
theorem ol_8_20 {n : Nat} (h : okS n 8) : (S0 (n + 9)).2 = 7 := (show ∀ n, n < 95 → (2 ≤ n → (S0 n).1 = 8 → (S0 (n + 9)).2 = 7) from by decide +kernel) n h.2.1 h.1 h.2.2
theorem of_8_21 : ∀ n, okS n 8 → R0 n 21 = n + 10 := fun n h => (show ∀ n, n < 95 → (2 ≤ n → (S0 n).1 = 8 → R0 n 21 = n + 10) from by decide +kernel) n h.2.1 h.1 h.2.2
theorem os_8_21 {n : Nat} (h : okS n 8) : okS (n + 10) 100 := (show ∀ n, n < 95 → (2 ≤ n → (S0 n).1 = 8 → okS (n + 10) 100) from by decide +kernel) n h.2.1 h.1 h.2.2
theorem ol_8_21 {n : Nat} (h : okS n 8) : (S0 (n + 10)).2 = 7 := (show ∀ n, n < 95 → (2 ≤ n → (S0 n).1 = 8 → (S0 (n + 10)).2 = 7) from by decide +kernel) n h.2.1 h.1 h.2.2
theorem of_8_22 : ∀ n, okS n 8 → R0 n 22 = n + 11 := fun n h => (show ∀ n, n < 95 → (2 ≤ n → (S0 n).1 = 8 → R0 n 22 = n + 11) from by decide +kernel) n h.2.1 h.1 h.2.2
theorem os_8_22 {n : Nat} (h : okS n 8) : okS (n + 11) 100 := (show ∀ n, n < 95 → (2 ≤ n → (S0 n).1 = 8 → okS (n + 11) 100) from by decide +kernel) n h.2.1 h.1 h.2.2
theorem ol_8_22 {n : Nat} (h : okS n 8) : (S0 (n + 11)).2 = 30 := (show ∀ n, n < 95 → (2 ≤ n → (S0 n).1 = 8 → (S0 (n + 11)).2 = 30) from by decide +kernel) n h.2.1 h.1 h.2.2
theorem of_8_23 : ∀ n, okS n 8 → R0 n 23 = n + 12 := fun n h => (show ∀ n, n < 95 → (2 ≤ n → (S0 n).1 = 8 → R0 n 23 = n + 12) from by decide +kernel) n h.2.1 h.1 h.2.2
theorem os_8_23 {n : Nat} (h : okS n 8) : okS (n + 12) 100 := (show ∀ n, n < 95 → (2 ≤ n → (S0 n).1 = 8 → okS (n + 12) 100) from by decide +kernel) n h.2.1 h.1 h.2.2
theorem ol_8_23 {n : Nat} (h : okS n 8) : (S0 (n + 12)).2 = 3968 := (show ∀ n, n < 95 → (2 ≤ n → (S0 n).1 = 8 → (S0 (n + 12)).2 = 3968) from by decide +kernel) n h.2.1 h.1 h.2.2
theorem of_8_24 : ∀ n, okS n 8 → R0 n 24 = n + 13 := fun n h => (show ∀ n, n < 95 → (2 ≤ n → (S0 n).1 = 8 → R0 n 24 = n + 13) from by decide +kernel) n h.2.1 h.1 h.2.2
theorem os_8_24 {n : Nat} (h : okS n 8) : okS (n + 13) 100 := (show ∀ n, n < 95 → (2 ≤ n → (S0 n).1 = 8 → okS (n + 13) 100) from by decide +kernel) n h.2.1 h.1 h.2.2
theorem ol_8_24 {n : Nat} (h : okS n 8) : (S0 (n + 13)).2 = 128 := (show ∀ n, n < 95 → (2 ≤ n → (S0 n).1 = 8 → (S0 (n + 13)).2 = 128) from by decide +kernel) n h.2.1 h.1 h.2.2
theorem of_8_25 : ∀ n, okS n 8 → R0 n 25 = n + 14 := fun n h => (show ∀ n, n < 95 → (2 ≤ n → (S0 n).1 = 8 → R0 n 25 = n + 14) from by decide +kernel) n h.2.1 h.1 h.2.2
theorem os_8_25 {n : Nat} (h : okS n 8) : okS (n + 14) 100 := (show ∀ n, n < 95 → (2 ≤ n → (S0 n).1 = 8 → okS (n + 14) 100) from by decide +kernel) n h.2.1 h.1 h.2.2
theorem ol_8_25 {n : Nat} (h : okS n 8) : (S0 (n + 14)).2 = 128 := (show ∀ n, n < 95 → (2 ≤ n → (S0 n).1 = 8 → (S0 (n + 14)).2 = 128) from by decide +kernel) n h.2.1 h.1 h.2.2
theorem of_8_26 : ∀ n, okS n 8 → R0 n 26 = n + 15 := fun n h => (show ∀ n, n < 95 → (2 ≤ n → (S0 n).1 = 8 → R0 n 26 = n + 15) from by decide +kernel) n h.2.1 h.1 h.2.2
theorem os_8_26 {n : Nat} (h : okS n 8) : okS (n + 15) 100 := (show ∀ n, n < 95 → (2 ≤ n → (S0 n).1 = 8 → okS (n + 15) 100) from by decide +kernel) n h.2.1 h.1 h.2.2
theorem ol_8_26 {n : Nat} (h : okS n 8) : (S0 (n + 15)).2 = 7 := (show ∀ n, n < 95 → (2 ≤ n → (S0 n).1 = 8 → (S0 (n + 15)).2 = 7) from by decide +kernel) n h.2.1 h.1 h.2.2
theorem of_8_27 : ∀ n, okS n 8 → R0 n 27 = n + 16 := fun n h => (show ∀ n, n < 95 → (2 ≤ n → (S0 n).1 = 8 → R0 n 27 = n + 16) from by decide +kernel) n h.2.1 h.1 h.2.2
theorem os_8_27 {n : Nat} (h : okS n 8) : okS (n + 16) 100 := (show ∀ n, n < 95 → (2 ≤ n → (S0 n).1 = 8 → okS (n + 16) 100) from by decide +kernel) n h.2.1 h.1 h.2.2
theorem ol_8_27 {n : Nat} (h : okS n 8) : (S0 (n + 16)).2 = 36 := (show ∀ n, n < 95 → (2 ≤ n → (S0 n).1 = 8 → (S0 (n + 16)).2 = 36) from by decide +kernel) n h.2.1 h.1 h.2.2
theorem of_8_29 : ∀ n, okS n 8 → R0 n 29 = n + 17 := fun n h => (show ∀ n, n < 95 → (2 ≤ n → (S0 n).1 = 8 → R0 n 29 = n + 17) from by decide +kernel) n h.2.1 h.1 h.2.2
theorem os_8_29 {n : Nat} (h : okS n 8) : okS (n + 17) 100 := (show ∀ n, n < 95 → (2 ≤ n → (S0 n).1 = 8 → okS (n + 17) 100) from by decide +kernel) n h.2.1 h.1 h.2.2
theorem ol_8_29 {n : Nat} (h : okS n 8) : (S0 (n + 17)).2 = 7 := (show ∀ n, n < 95 → (2 ≤ n → (S0 n).1 = 8 → (S0 (n + 17)).2 = 7) from by decide +kernel) n h.2.1 h.1 h.2.2
theorem of_8_30 : ∀ n, okS n 8 → R0 n 30 = n + 18 := fun n h => (show ∀ n, n < 95 → (2 ≤ n → (S0 n).1 = 8 → R0 n 30 = n + 18) from by decide +kernel) n h.2.1 h.1 h.2.2
theorem os_8_30 {n : Nat} (h : okS n 8) : okS (n + 18) 100 := (show ∀ n, n < 95 → (2 ≤ n → (S0 n).1 = 8 → okS (n + 18) 100) from by decide +kernel) n h.2.1 h.1 h.2.2
theorem ol_8_30 {n : Nat} (h : okS n 8) : (S0 (n + 18)).2 = 427 := (show ∀ n, n < 95 → (2 ≤ n → (S0 n).1 = 8 → (S0 (n + 18)).2 = 427) from by decide +kernel) n h.2.1 h.1 h.2.2
def ek (kd : Nat) : Nat := if kd = 102 then 6 else if kd = 103 then 5 else 4
theorem ra_tab : ∀ n, n < 95 → (102 ≤ (S0 n).1 → n = 3 ∨ n = 4 ∨ n = 9 ∨ n = 23 ∨ n = 37) := by decide +kernel
theorem ra_ok {n kd j : Nat} (h : okS n kd) (hk : 102 ≤ kd) (hj : j < (S0 n).2) : R0 n j ≠ 0 ∧ okS (R0 n j) (ek kd) := by
  obtain ⟨h1, h2, h3⟩ := h
  subst h3
  rcases ra_tab n h2 hk with rfl | rfl | rfl | rfl | rfl
  · exact (show ∀ j, j < 6 → R0 3 j ≠ 0 ∧ okS (R0 3 j) 6 from by decide +kernel) j hj
  · exact (show ∀ j, j < 4 → R0 4 j ≠ 0 ∧ okS (R0 4 j) 6 from by decide +kernel) j hj
  · exact (show ∀ j, j < 3 → R0 9 j ≠ 0 ∧ okS (R0 9 j) 5 from by decide +kernel) j hj
  · exact (show ∀ j, j < 7 → R0 23 j ≠ 0 ∧ okS (R0 23 j) 4 from by decide +kernel) j hj
  · exact (show ∀ j, j < 7 → R0 37 j ≠ 0 ∧ okS (R0 37 j) 4 from by decide +kernel) j hj
section STR
variable {G : pG} {M : pY} {pc : Nat} {l : pLo} {st : List Value} {u : pM} {Q : Option Value → pM → Prop}
theorem ws_iconst {n : Int} {v : Int32} (hd : decode M.2.1 pc = .ok (.iconst n, 1)) (hv : Int32.ofInt n = v) (h : Ws G M (pc + 1) l (.int v :: st) u Q) : Ws G M pc l st u Q := fun hs => wp_iconst hd hv (h hs)
theorem ws_bipush {n : Int} {v : Int32} (hd : decode M.2.1 pc = .ok (.bipush n, 2)) (hv : (Int8.ofInt n).toInt32 = v) (h : Ws G M (pc + 2) l (.int v :: st) u Q) : Ws G M pc l st u Q := fun hs => wp_bipush hd hv (h hs)
theorem ws_sipush {n : Int} {v : Int32} (hd : decode M.2.1 pc = .ok (.sipush n, 3)) (hv : (Int16.ofInt n).toInt32 = v) (h : Ws G M (pc + 3) l (.int v :: st) u Q) : Ws G M pc l st u Q := fun hs => wp_sipush hd hv (h hs)
theorem ws_lconst {n : Fin 2} {v : Int64} (hd : decode M.2.1 pc = .ok (.lconst n, 1)) (hv : Int64.ofNat (n : Nat) = v) (h : Ws G M (pc + 1) l (.long v :: st) u Q) : Ws G M pc l st u Q := fun hs => wp_lconst hd hv (h hs)
theorem ws_ldc {i : Nat} {v : Int32} (hd : decode M.2.1 pc = .ok (.ldc i, 2)) (hw : Cond.constant M.1.cls i v ∈ lw_g) (h : Ws G M (pc + 2) l (.int v :: st) u Q) : Ws G M pc l st u Q := fun hs => wp_ldc hd hw (h hs)
theorem ws_ldcw {i : Nat} {v : Int32} (hd : decode M.2.1 pc = .ok (.ldc_w i, 3)) (hw : Cond.constant M.1.cls i v ∈ lw_g) (h : Ws G M (pc + 3) l (.int v :: st) u Q) : Ws G M pc l st u Q := fun hs => wp_ldcw hd hw (h hs)
theorem ws_ldc2 {i : Nat} {v : Int64} (hd : decode M.2.1 pc = .ok (.ldc2_w i, 3)) (hw : Cond.constantLong M.1.cls i v ∈ lw_g) (h : Ws G M (pc + 3) l (.long v :: st) u Q) : Ws G M pc l st u Q := fun hs => wp_ldc2 hd hw (h hs)
theorem ws_iload_n {k0 : Fin 4} {x : Int32} (j : Nat) (hd : decode M.2.1 pc = .ok (.iload_n k0, 1)) (hl : l[j]? = some ((k0 : Nat), .int x)) (h : Ws G M (pc + 1) l (.int x :: st) u Q) : Ws G M pc l st u Q := fun hs => wp_iload_n j hd hl (h hs)
theorem ws_iload {i : Nat} {x : Int32} (j : Nat) (hd : decode M.2.1 pc = .ok (.iload i, 2)) (hl : l[j]? = some (i, .int x)) (h : Ws G M (pc + 2) l (.int x :: st) u Q) : Ws G M pc l st u Q := fun hs => wp_iload j hd hl (h hs)
theorem ws_lload_n {k0 : Fin 4} {x : Int64} (j : Nat) (hd : decode M.2.1 pc = .ok (.lload_n k0, 1)) (hl : l[j]? = some ((k0 : Nat), .long x)) (h : Ws G M (pc + 1) l (.long x :: st) u Q) : Ws G M pc l st u Q := fun hs => wp_lload_n j hd hl (h hs)
theorem ws_lload {i : Nat} {x : Int64} (j : Nat) (hd : decode M.2.1 pc = .ok (.lload i, 2)) (hl : l[j]? = some (i, .long x)) (h : Ws G M (pc + 2) l (.long x :: st) u Q) : Ws G M pc l st u Q := fun hs => wp_lload j hd hl (h hs)
theorem ws_aload_n {k0 : Fin 4} {x : Nat} (j : Nat) (hd : decode M.2.1 pc = .ok (.aload_n k0, 1)) (hl : l[j]? = some ((k0 : Nat), .ref x)) (h : Ws G M (pc + 1) l (.ref x :: st) u Q) : Ws G M pc l st u Q := fun hs => wp_aload_n j hd hl (h hs)
theorem ws_aload {i x : Nat} (j : Nat) (hd : decode M.2.1 pc = .ok (.aload i, 2)) (hl : l[j]? = some (i, .ref x)) (h : Ws G M (pc + 2) l (.ref x :: st) u Q) : Ws G M pc l st u Q := fun hs => wp_aload j hd hl (h hs)
theorem ws_istore_n {k0 : Fin 4} {x : Int32} {l' : pLo} (hd : decode M.2.1 pc = .ok (.istore_n k0, 1)) (hn : (k0 : Nat) < M.2.2.1) (hl : ls1 l k0 (.int x) = l') (h : Ws G M (pc + 1) l' st u Q) : Ws G M pc l (.int x :: st) u Q := fun hs => wp_istore_n hd hn hl (h hs)
theorem ws_istore {i : Nat} {x : Int32} {l' : pLo} (hd : decode M.2.1 pc = .ok (.istore i, 2)) (hn : i < M.2.2.1) (hl : ls1 l i (.int x) = l') (h : Ws G M (pc + 2) l' st u Q) : Ws G M pc l (.int x :: st) u Q := fun hs => wp_istore hd hn hl (h hs)
theorem ws_lstore_n {k0 : Fin 4} {x : Int64} {l' : pLo} (hd : decode M.2.1 pc = .ok (.lstore_n k0, 1)) (hn : (k0 : Nat) + 1 < M.2.2.1) (hl : ls2 l k0 (.long x) = l') (h : Ws G M (pc + 1) l' st u Q) : Ws G M pc l (.long x :: st) u Q := fun hs => wp_lstore_n hd hn hl (h hs)
theorem ws_lstore {i : Nat} {x : Int64} {l' : pLo} (hd : decode M.2.1 pc = .ok (.lstore i, 2)) (hn : i + 1 < M.2.2.1) (hl : ls2 l i (.long x) = l') (h : Ws G M (pc + 2) l' st u Q) : Ws G M pc l (.long x :: st) u Q := fun hs => wp_lstore hd hn hl (h hs)
theorem ws_astore_n {k0 : Fin 4} {x : Nat} {l' : pLo} (hd : decode M.2.1 pc = .ok (.astore_n k0, 1)) (hn : (k0 : Nat) < M.2.2.1) (hl : ls1 l k0 (.ref x) = l') (h : Ws G M (pc + 1) l' st u Q) : Ws G M pc l (.ref x :: st) u Q := fun hs => wp_astore_n hd hn hl (h hs)
theorem ws_astore {i x : Nat} {l' : pLo} (hd : decode M.2.1 pc = .ok (.astore i, 2)) (hn : i < M.2.2.1) (hl : ls1 l i (.ref x) = l') (h : Ws G M (pc + 2) l' st u Q) : Ws G M pc l (.ref x :: st) u Q := fun hs => wp_astore hd hn hl (h hs)
theorem ws_iinc {i : Nat} {n : Int} {x v : Int32} {l' : pLo} (j : Nat) (hd : decode M.2.1 pc = .ok (.iinc i n, 3)) (hj : l[j]? = some (i, .int x)) (hv : Int32.ofInt n = v) (hn : i < M.2.2.1) (hl : ls1 l i (.int (x + v)) = l') (h : Ws G M (pc + 3) l' st u Q) : Ws G M pc l st u Q := fun hs => wp_iinc j hd hj hv hn hl (h hs)
theorem ws_iadd {x y : Int32} (hd : decode M.2.1 pc = .ok (.iadd, 1)) (h : Ws G M (pc + 1) l (.int (x + y) :: st) u Q) : Ws G M pc l (.int y :: .int x :: st) u Q := fun hs => wp_iadd hd (h hs)
theorem ws_isub {x y : Int32} (hd : decode M.2.1 pc = .ok (.isub, 1)) (h : Ws G M (pc + 1) l (.int (x - y) :: st) u Q) : Ws G M pc l (.int y :: .int x :: st) u Q := fun hs => wp_isub hd (h hs)
theorem ws_imul {x y : Int32} (hd : decode M.2.1 pc = .ok (.imul, 1)) (h : Ws G M (pc + 1) l (.int (x * y) :: st) u Q) : Ws G M pc l (.int y :: .int x :: st) u Q := fun hs => wp_imul hd (h hs)
theorem ws_iand {x y : Int32} (hd : decode M.2.1 pc = .ok (.iand, 1)) (h : Ws G M (pc + 1) l (.int (x &&& y) :: st) u Q) : Ws G M pc l (.int y :: .int x :: st) u Q := fun hs => wp_iand hd (h hs)
theorem ws_ior {x y : Int32} (hd : decode M.2.1 pc = .ok (.ior, 1)) (h : Ws G M (pc + 1) l (.int (x ||| y) :: st) u Q) : Ws G M pc l (.int y :: .int x :: st) u Q := fun hs => wp_ior hd (h hs)
theorem ws_ixor {x y : Int32} (hd : decode M.2.1 pc = .ok (.ixor, 1)) (h : Ws G M (pc + 1) l (.int (x ^^^ y) :: st) u Q) : Ws G M pc l (.int y :: .int x :: st) u Q := fun hs => wp_ixor hd (h hs)
theorem ws_idiv {x y : Int32} (hd : decode M.2.1 pc = .ok (.idiv, 1)) (hne : ¬ y = 0) (h : Ws G M (pc + 1) l (.int (x / y) :: st) u Q) : Ws G M pc l (.int y :: .int x :: st) u Q := fun hs => wp_idiv hd hne (h hs)
theorem ws_irem {x y : Int32} (hd : decode M.2.1 pc = .ok (.irem, 1)) (hne : ¬ y = 0) (h : Ws G M (pc + 1) l (.int (x - x / y * y) :: st) u Q) : Ws G M pc l (.int y :: .int x :: st) u Q := fun hs => wp_irem hd hne (h hs)
theorem ws_ineg {x : Int32} (hd : decode M.2.1 pc = .ok (.ineg, 1)) (h : Ws G M (pc + 1) l (.int (-x) :: st) u Q) : Ws G M pc l (.int x :: st) u Q := fun hs => wp_ineg hd (h hs)
theorem ws_ishl {x y : Int32} (hd : decode M.2.1 pc = .ok (.ishl, 1)) (h : Ws G M (pc + 1) l (.int (x <<< (y &&& 31)) :: st) u Q) : Ws G M pc l (.int y :: .int x :: st) u Q := fun hs => wp_ishl hd (h hs)
theorem ws_ishr {x y : Int32} (hd : decode M.2.1 pc = .ok (.ishr, 1)) (h : Ws G M (pc + 1) l (.int (x >>> (y &&& 31)) :: st) u Q) : Ws G M pc l (.int y :: .int x :: st) u Q := fun hs => wp_ishr hd (h hs)
theorem ws_iushr {x y : Int32} (hd : decode M.2.1 pc = .ok (.iushr, 1)) (h : Ws G M (pc + 1) l (.int (x.toUInt32 >>> (y.toUInt32 &&& Int32.toUInt32 31)).toInt32 :: st) u Q) : Ws G M pc l (.int y :: .int x :: st) u Q := fun hs => wp_iushr hd (h hs)
theorem ws_ladd {x y : Int64} (hd : decode M.2.1 pc = .ok (.ladd, 1)) (h : Ws G M (pc + 1) l (.long (x + y) :: st) u Q) : Ws G M pc l (.long y :: .long x :: st) u Q := fun hs => wp_ladd hd (h hs)
theorem ws_lsub {x y : Int64} (hd : decode M.2.1 pc = .ok (.lsub, 1)) (h : Ws G M (pc + 1) l (.long (x - y) :: st) u Q) : Ws G M pc l (.long y :: .long x :: st) u Q := fun hs => wp_lsub hd (h hs)
theorem ws_lmul {x y : Int64} (hd : decode M.2.1 pc = .ok (.lmul, 1)) (h : Ws G M (pc + 1) l (.long (x * y) :: st) u Q) : Ws G M pc l (.long y :: .long x :: st) u Q := fun hs => wp_lmul hd (h hs)
theorem ws_lxor {x y : Int64} (hd : decode M.2.1 pc = .ok (.lxor, 1)) (h : Ws G M (pc + 1) l (.long (x ^^^ y) :: st) u Q) : Ws G M pc l (.long y :: .long x :: st) u Q := fun hs => wp_lxor hd (h hs)
theorem ws_ldiv {x y : Int64} (hd : decode M.2.1 pc = .ok (.ldiv, 1)) (hne : ¬ y = 0) (h : Ws G M (pc + 1) l (.long (x / y) :: st) u Q) : Ws G M pc l (.long y :: .long x :: st) u Q := fun hs => wp_ldiv hd hne (h hs)
theorem ws_lrem {x y : Int64} (hd : decode M.2.1 pc = .ok (.lrem, 1)) (hne : ¬ y = 0) (h : Ws G M (pc + 1) l (.long (x - x / y * y) :: st) u Q) : Ws G M pc l (.long y :: .long x :: st) u Q := fun hs => wp_lrem hd hne (h hs)
theorem ws_lneg {x : Int64} (hd : decode M.2.1 pc = .ok (.lneg, 1)) (h : Ws G M (pc + 1) l (.long (-x) :: st) u Q) : Ws G M pc l (.long x :: st) u Q := fun hs => wp_lneg hd (h hs)
theorem ws_lshl {x : Int64} {y : Int32} (hd : decode M.2.1 pc = .ok (.lshl, 1)) (h : Ws G M (pc + 1) l (.long (x <<< (y.toInt64 &&& 63)) :: st) u Q) : Ws G M pc l (.int y :: .long x :: st) u Q := fun hs => wp_lshl hd (h hs)
theorem ws_lshr {x : Int64} {y : Int32} (hd : decode M.2.1 pc = .ok (.lshr, 1)) (h : Ws G M (pc + 1) l (.long (x >>> (y.toInt64 &&& 63)) :: st) u Q) : Ws G M pc l (.int y :: .long x :: st) u Q := fun hs => wp_lshr hd (h hs)
theorem ws_i2l {x : Int32} (hd : decode M.2.1 pc = .ok (.i2l, 1)) (h : Ws G M (pc + 1) l (.long x.toInt64 :: st) u Q) : Ws G M pc l (.int x :: st) u Q := fun hs => wp_i2l hd (h hs)
theorem ws_l2i {x : Int64} (hd : decode M.2.1 pc = .ok (.l2i, 1)) (h : Ws G M (pc + 1) l (.int x.toInt32 :: st) u Q) : Ws G M pc l (.long x :: st) u Q := fun hs => wp_l2i hd (h hs)
theorem ws_i2b {x : Int32} (hd : decode M.2.1 pc = .ok (.i2b, 1)) (h : Ws G M (pc + 1) l (.int x.toInt8.toInt32 :: st) u Q) : Ws G M pc l (.int x :: st) u Q := fun hs => wp_i2b hd (h hs)
theorem ws_dup {v : Value} (hd : decode M.2.1 pc = .ok (.dup, 1)) (hv : v.category = 1) (h : Ws G M (pc + 1) l (v :: v :: st) u Q) : Ws G M pc l (v :: st) u Q := fun hs => wp_dup hd hv (h hs)
theorem ws_pop {v : Value} (hd : decode M.2.1 pc = .ok (.pop, 1)) (hv : v.category = 1) (h : Ws G M (pc + 1) l st u Q) : Ws G M pc l (v :: st) u Q := fun hs => wp_pop hd hv (h hs)
theorem ws_dup2 {v w : Value} (hd : decode M.2.1 pc = .ok (.dup2, 1)) (hv : v.category = 1) (hw : w.category = 1) (h : Ws G M (pc + 1) l (v :: w :: v :: w :: st) u Q) : Ws G M pc l (v :: w :: st) u Q := fun hs => wp_dup2 hd hv hw (h hs)
theorem ws_dup_x1 {v w : Value} (hd : decode M.2.1 pc = .ok (.dup_x1, 1)) (hv : v.category = 1) (hw : w.category = 1) (h : Ws G M (pc + 1) l (v :: w :: v :: st) u Q) : Ws G M pc l (v :: w :: st) u Q := fun hs => wp_dup_x1 hd hv hw (h hs)
theorem ws_pop2 {v : Value} (hd : decode M.2.1 pc = .ok (.pop2, 1)) (hv : v.category = 2) (h : Ws G M (pc + 1) l st u Q) : Ws G M pc l (v :: st) u Q := fun hs => wp_pop2 hd hv (h hs)
theorem ws_goto {off : Int} {tgt : Nat} (hd : decode M.2.1 pc = .ok (.goto off, 3)) (ht : (pc : Int) + off = (tgt : Int)) (h : Ws G M tgt l st u Q) : Ws G M pc l st u Q := fun hs => wp_goto hd ht (h hs)
theorem ws_ifnull {x : Nat} {off : Int} (hd : decode M.2.1 pc = .ok (.ifnull off, 3)) (h : Ws G M (pc + 3) l st u Q) : Ws G M pc l (.ref x :: st) u Q := fun hs => wp_ifnull hd (h hs)
theorem ws_lcmp {x y : Int64} (hd : decode M.2.1 pc = .ok (.lcmp, 1)) (h : Ws G M (pc + 1) l (.int (lg_cmp x y) :: st) u Q) : Ws G M pc l (.long y :: .long x :: st) u Q := fun hs => wp_lcmp hd (h hs)
theorem ws_if_eq {x : Int32} {off : Int} {tgt : Nat} (hd : decode M.2.1 pc = .ok (.ifCond .eq off, 3)) (ht : (pc : Int) + off = (tgt : Int)) (kt : x = 0 → Ws G M tgt l st u Q) (kf : ¬ (x = 0) → Ws G M (pc + 3) l st u Q) : Ws G M pc l (.int x :: st) u Q := fun hs => wp_if_eq hd ht (fun q => kt q hs) (fun q => kf q hs)
theorem ws_icmp_eq {x y : Int32} {off : Int} {tgt : Nat} (hd : decode M.2.1 pc = .ok (.if_icmp .eq off, 3)) (ht : (pc : Int) + off = (tgt : Int)) (kt : x = y → Ws G M tgt l st u Q) (kf : ¬ (x = y) → Ws G M (pc + 3) l st u Q) : Ws G M pc l (.int y :: .int x :: st) u Q := fun hs => wp_icmp_eq hd ht (fun q => kt q hs) (fun q => kf q hs)
theorem ws_if_ne {x : Int32} {off : Int} {tgt : Nat} (hd : decode M.2.1 pc = .ok (.ifCond .ne off, 3)) (ht : (pc : Int) + off = (tgt : Int)) (kt : ¬ x = 0 → Ws G M tgt l st u Q) (kf : x = 0 → Ws G M (pc + 3) l st u Q) : Ws G M pc l (.int x :: st) u Q := fun hs => wp_if_ne hd ht (fun q => kt q hs) (fun q => kf q hs)
theorem ws_icmp_ne {x y : Int32} {off : Int} {tgt : Nat} (hd : decode M.2.1 pc = .ok (.if_icmp .ne off, 3)) (ht : (pc : Int) + off = (tgt : Int)) (kt : ¬ x = y → Ws G M tgt l st u Q) (kf : x = y → Ws G M (pc + 3) l st u Q) : Ws G M pc l (.int y :: .int x :: st) u Q := fun hs => wp_icmp_ne hd ht (fun q => kt q hs) (fun q => kf q hs)
theorem ws_if_lt {x : Int32} {off : Int} {tgt : Nat} (hd : decode M.2.1 pc = .ok (.ifCond .lt off, 3)) (ht : (pc : Int) + off = (tgt : Int)) (kt : x < 0 → Ws G M tgt l st u Q) (kf : ¬ (x < 0) → Ws G M (pc + 3) l st u Q) : Ws G M pc l (.int x :: st) u Q := fun hs => wp_if_lt hd ht (fun q => kt q hs) (fun q => kf q hs)
theorem ws_icmp_lt {x y : Int32} {off : Int} {tgt : Nat} (hd : decode M.2.1 pc = .ok (.if_icmp .lt off, 3)) (ht : (pc : Int) + off = (tgt : Int)) (kt : x < y → Ws G M tgt l st u Q) (kf : ¬ (x < y) → Ws G M (pc + 3) l st u Q) : Ws G M pc l (.int y :: .int x :: st) u Q := fun hs => wp_icmp_lt hd ht (fun q => kt q hs) (fun q => kf q hs)
theorem ws_if_ge {x : Int32} {off : Int} {tgt : Nat} (hd : decode M.2.1 pc = .ok (.ifCond .ge off, 3)) (ht : (pc : Int) + off = (tgt : Int)) (kt : 0 ≤ x → Ws G M tgt l st u Q) (kf : ¬ (0 ≤ x) → Ws G M (pc + 3) l st u Q) : Ws G M pc l (.int x :: st) u Q := fun hs => wp_if_ge hd ht (fun q => kt q hs) (fun q => kf q hs)
theorem ws_icmp_ge {x y : Int32} {off : Int} {tgt : Nat} (hd : decode M.2.1 pc = .ok (.if_icmp .ge off, 3)) (ht : (pc : Int) + off = (tgt : Int)) (kt : y ≤ x → Ws G M tgt l st u Q) (kf : ¬ (y ≤ x) → Ws G M (pc + 3) l st u Q) : Ws G M pc l (.int y :: .int x :: st) u Q := fun hs => wp_icmp_ge hd ht (fun q => kt q hs) (fun q => kf q hs)
theorem ws_if_gt {x : Int32} {off : Int} {tgt : Nat} (hd : decode M.2.1 pc = .ok (.ifCond .gt off, 3)) (ht : (pc : Int) + off = (tgt : Int)) (kt : 0 < x → Ws G M tgt l st u Q) (kf : ¬ (0 < x) → Ws G M (pc + 3) l st u Q) : Ws G M pc l (.int x :: st) u Q := fun hs => wp_if_gt hd ht (fun q => kt q hs) (fun q => kf q hs)
theorem ws_icmp_gt {x y : Int32} {off : Int} {tgt : Nat} (hd : decode M.2.1 pc = .ok (.if_icmp .gt off, 3)) (ht : (pc : Int) + off = (tgt : Int)) (kt : y < x → Ws G M tgt l st u Q) (kf : ¬ (y < x) → Ws G M (pc + 3) l st u Q) : Ws G M pc l (.int y :: .int x :: st) u Q := fun hs => wp_icmp_gt hd ht (fun q => kt q hs) (fun q => kf q hs)
theorem ws_if_le {x : Int32} {off : Int} {tgt : Nat} (hd : decode M.2.1 pc = .ok (.ifCond .le off, 3)) (ht : (pc : Int) + off = (tgt : Int)) (kt : x ≤ 0 → Ws G M tgt l st u Q) (kf : ¬ (x ≤ 0) → Ws G M (pc + 3) l st u Q) : Ws G M pc l (.int x :: st) u Q := fun hs => wp_if_le hd ht (fun q => kt q hs) (fun q => kf q hs)
theorem ws_icmp_le {x y : Int32} {off : Int} {tgt : Nat} (hd : decode M.2.1 pc = .ok (.if_icmp .le off, 3)) (ht : (pc : Int) + off = (tgt : Int)) (kt : x ≤ y → Ws G M tgt l st u Q) (kf : ¬ (x ≤ y) → Ws G M (pc + 3) l st u Q) : Ws G M pc l (.int y :: .int x :: st) u Q := fun hs => wp_icmp_le hd ht (fun q => kt q hs) (fun q => kf q hs)
theorem ws_tableIn {x : Int32} {dflt lo hi : Int} {offs : Array Int} {len : Nat} {off : Int} {tgt : Nat} (j : Nat) (hd : decode M.2.1 pc = .ok (.tableswitch dflt lo hi offs, len)) (hx : x.toInt = lo + j) (hj : lo + j ≤ hi) (ho : offs[j]? = some off) (ht : (pc : Int) + off = (tgt : Int)) (h : Ws G M tgt l st u Q) : Ws G M pc l (.int x :: st) u Q := fun hs => wp_tableIn j hd hx hj ho ht (h hs)
theorem ws_tableOut {x : Int32} {dflt lo hi : Int} {offs : Array Int} {len tgt : Nat} (hd : decode M.2.1 pc = .ok (.tableswitch dflt lo hi offs, len)) (hx : x.toInt < lo ∨ hi < x.toInt) (ht : (pc : Int) + dflt = (tgt : Int)) (h : Ws G M tgt l st u Q) : Ws G M pc l (.int x :: st) u Q := fun hs => wp_tableOut hd hx ht (h hs)
theorem ws_getI {idx ci k o : Nat} (hf : FL M.1.cls idx ci k) (ht : fty ci k = 0) (hd : decode M.2.1 pc = .ok (.getfield idx, 3)) (ho : okS o ci) (h : Ws G M (pc + 3) l (.int (mI u o k) :: st) u Q) : Ws G M pc l (.ref o :: st) u Q := fun hs => wp_getI hf ht hd (ok_of hs ho) (h hs)
theorem ws_getL {idx ci k o : Nat} (hf : FL M.1.cls idx ci k) (ht : fty ci k = 1) (hd : decode M.2.1 pc = .ok (.getfield idx, 3)) (ho : okS o ci) (h : Ws G M (pc + 3) l (.long (mL u o k) :: st) u Q) : Ws G M pc l (.ref o :: st) u Q := fun hs => wp_getL hf ht hd (ok_of hs ho) (h hs)
theorem ws_putI {idx ci k o : Nat} {v : Int32} (hf : FL M.1.cls idx ci k) (ht : fty ci k = 0) (hnf : ∀ r ty, clOK ci r ty → (r.2.1 k).2.2.2 = false) (hd : decode M.2.1 pc = .ok (.putfield idx, 3)) (ho : okS o ci) (h : Ws G M (pc + 3) l st (pI u o k v) Q) : Ws G M pc l (.int v :: .ref o :: st) u Q := fun hs => wp_putI hf ht hnf hd (ok_of hs ho) (h hs)
theorem ws_putL {idx ci k o : Nat} {v : Int64} (hf : FL M.1.cls idx ci k) (ht : fty ci k = 1) (hnf : ∀ r ty, clOK ci r ty → (r.2.1 k).2.2.2 = false) (hd : decode M.2.1 pc = .ok (.putfield idx, 3)) (ho : okS o ci) (h : Ws G M (pc + 3) l st (pL u o k v) Q) : Ws G M pc l (.long v :: .ref o :: st) u Q := fun hs => wp_putL hf ht hnf hd (ok_of hs ho) (h hs)
theorem ws_iald {n : Nat} {i : Int32} (hd : decode M.2.1 pc = .ok (.iaload, 1)) (ha : okS n 100) {L : Nat} (hL : (S0 n).2 = L) (hi : vp_in i L) (h : Ws G M (pc + 1) l (.int (mI u n i.toNatClampNeg) :: st) u Q) : Ws G M pc l (.int i :: .ref n :: st) u Q := fun hs => wp_iald hd (oka_of hs ha hL hi) (h hs)
theorem ws_lald {n : Nat} {i : Int32} (hd : decode M.2.1 pc = .ok (.laload, 1)) (ha : okS n 101) {L : Nat} (hL : (S0 n).2 = L) (hi : vp_in i L) (h : Ws G M (pc + 1) l (.long (mL u n i.toNatClampNeg) :: st) u Q) : Ws G M pc l (.int i :: .ref n :: st) u Q := fun hs => wp_lald hd (oka_of hs ha hL hi) (h hs)
theorem ws_iast {n : Nat} {i x : Int32} (hd : decode M.2.1 pc = .ok (.iastore, 1)) (ha : okS n 100) {L : Nat} (hL : (S0 n).2 = L) (hi : vp_in i L) (h : Ws G M (pc + 1) l st (pI u n i.toNatClampNeg x) Q) : Ws G M pc l (.int x :: .int i :: .ref n :: st) u Q := fun hs => wp_iast hd (oka_of hs ha hL hi) (h hs)
theorem ws_last {n : Nat} {i : Int32} {x : Int64} (hd : decode M.2.1 pc = .ok (.lastore, 1)) (ha : okS n 101) {L : Nat} (hL : (S0 n).2 = L) (hi : vp_in i L) (h : Ws G M (pc + 1) l st (pL u n i.toNatClampNeg x) Q) : Ws G M pc l (.long x :: .int i :: .ref n :: st) u Q := fun hs => wp_last hd (oka_of hs ha hL hi) (h hs)
theorem ws_alen {n kd : Nat} (hd : decode M.2.1 pc = .ok (.arraylength, 1)) (ha : okS n kd) (hk : 100 ≤ kd ∧ kd ≤ 104) (h : Ws G M (pc + 1) l (.int (Int32.ofNat (S0 n).2) :: st) u Q) : Ws G M pc l (.ref n :: st) u Q := fun hs => wp_alen hd (ok_of hs ha) hk (by rw [len_of hs ha]; exact h hs)
theorem ws_sld {i : Int32} (hd : decode M.2.1 pc = .ok (.iaload, 1)) (hi : vp_in i (gn G)) (h : Ws G M (pc + 1) l (.int (gx G i.toNatClampNeg) :: st) u Q) : Ws G M pc l (.int i :: .ref 0 :: st) u Q := fun hs => wp_sld hd hi (h hs)
theorem ws_slen (hd : decode M.2.1 pc = .ok (.arraylength, 1)) (h : Ws G M (pc + 1) l (.int (Int32.ofNat (gn G)) :: st) u Q) : Ws G M pc l (.ref 0 :: st) u Q := fun hs => wp_slen hd (h hs)
theorem ws_tld {i : Int32} (hd : decode M.2.1 pc = .ok (.iaload, 1)) (hi : vp_in i 6) (h : Ws G M (pc + 1) l (.int (lets i.toNatClampNeg) :: st) u Q) : Ws G M pc l (.int i :: .ref 1 :: st) u Q := fun hs => wp_tld hd hi (h hs)
theorem ws_tlen (hd : decode M.2.1 pc = .ok (.arraylength, 1)) (h : Ws G M (pc + 1) l (.int 6 :: st) u Q) : Ws G M pc l (.ref 1 :: st) u Q := fun hs => wp_tlen hd (h hs)
theorem ws_gets (hcls : M.1.cls = "DoorRounds$Reader") (hd : decode M.2.1 pc = .ok (.getstatic 42, 3)) (h : Ws G M (pc + 3) l (.ref 1 :: st) u Q) : Ws G M pc l st u Q := fun hs => wp_gets hcls hd (h hs)
theorem Ws.mono {Q' : Option Value → pM → Prop} (h : Ws G M pc l st u Q') (hQ : ∀ r u, Str u → Q' r u → Q r u) : Ws G M pc l st u Q := fun hs => (h hs).mono (fun r u q => ⟨q.1, hQ r u q.1 q.2⟩)
theorem Ws.str (h : Str u → Ws G M pc l st u Q) : Ws G M pc l st u Q := fun hs => h hs hs
theorem ws_loc {l' : pLo} (ks' : List Nat) (hl : lv_pick l ks' = l') (h : Ws G M pc l' st u Q) : Ws G M pc l st u Q := fun hs => wp_loc ks' hl (h hs)
theorem ws_getF {idx ci k o c a : Nat} (hf : FL M.1.cls idx ci k) (ht : fty ci k = 2) (hd : decode M.2.1 pc = .ok (.getfield idx, 3)) (ho : okS o ci) (hR : ∀ n, okS n ci → R0 n k = n + c) (ha : o + c = a) (h : Ws G M (pc + 3) l (.ref a :: st) u Q) : Ws G M pc l (.ref o :: st) u Q := fun hs => by
  subst ha
  have h1 : R0 o k = o + c := hR o ho
  have h2 : mR u o k = o + c := by rw [hs.2.2.1 o k (by rw [h1]; have := ho.1; omega), h1]
  refine wp_getR hf ht hd (ok_of hs ho) (by rw [h2]; have := ho.1; omega) ?_
  rw [h2]
  exact h hs
theorem ws_getP {idx k : Nat} (hk : k = 10 ∨ k = 11) (hf : FL M.1.cls idx 7 k) (hd : decode M.2.1 pc = .ok (.getfield idx, 3)) (h : pl (mR u 2 k) → Ws G M (pc + 3) l (.ref (mR u 2 k) :: st) u Q) : Ws G M pc l (.ref 2 :: st) u Q := fun hs => by
  have hp : pl (mR u 2 k) := by rcases hk with rfl | rfl; exact hs.2.2.2.1; exact hs.2.2.2.2.1
  refine wp_getR hf (by rcases hk with rfl | rfl <;> rfl) hd (ok_of hs (by decide)) (by rcases hp with e | e <;> rw [e] <;> decide) (h hp hs)
theorem ws_getT {idx o : Nat} (hf : FL M.1.cls idx 3 0) (hd : decode M.2.1 pc = .ok (.getfield idx, 3)) (ho : okS o 3) (h : okS (mR u o 0) 6 → Ws G M (pc + 3) l (.ref (mR u o 0) :: st) u Q) : Ws G M pc l (.ref o :: st) u Q := fun hs => by
  have ho2 : o = 26 ∨ o = 40 := (show ∀ n, n < 95 → (2 ≤ n → (S0 n).1 = 3 → n = 26 ∨ n = 40) from by decide +kernel) o ho.2.1 ho.1 ho.2.2
  have hp : okS (mR u o 0) 6 := by rcases ho2 with rfl | rfl; exact hs.2.2.2.2.2.1; exact hs.2.2.2.2.2.2
  exact wp_getR hf rfl hd (ok_of hs ho) (by have := hp.1; omega) (h hp hs)
theorem str_pR {n k v : Nat} (hs : Str u) (h0 : R0 n k = 0) (h1 : n = 2 → pl v) (h2 : n ≠ 2 → okS v 6) : Str (pR u n k v) := by
  have key : ∀ a b, mR (pR u n k v) a b = if a = n ∧ b = k then v else mR u a b := fun a b => rfl
  refine ⟨hs.1, hs.2.1, fun a b hab => ?_, ?_, ?_, ?_, ?_⟩
  · rw [key, if_neg (fun q => hab (by rw [q.1, q.2]; exact h0))]
    exact hs.2.2.1 a b hab
  · rw [key]; split
    · rename_i q; exact h1 q.1.symm
    · exact hs.2.2.2.1
  · rw [key]; split
    · rename_i q; exact h1 q.1.symm
    · exact hs.2.2.2.2.1
  · rw [key]; split
    · rename_i q; exact h2 (by omega)
    · exact hs.2.2.2.2.2.1
  · rw [key]; split
    · rename_i q; exact h2 (by omega)
    · exact hs.2.2.2.2.2.2
theorem ws_putP {idx k v : Nat} (hk : k = 10 ∨ k = 11) (hf : FL M.1.cls idx 7 k) (hnf : ∀ r ty, clOK 7 r ty → (r.2.1 k).2.2.2 = false) (hd : decode M.2.1 pc = .ok (.putfield idx, 3)) (hv : pl v) (h : Ws G M (pc + 3) l st (pR u 2 k v) Q) : Ws G M pc l (.ref v :: .ref 2 :: st) u Q := fun hs =>
  wp_putR hf (by rcases hk with rfl | rfl <;> rfl) hnf hd (ok_of hs (by decide)) (by rcases hv with e | e <;> rw [e] <;> decide) (h (str_pR hs (by rcases hk with rfl | rfl <;> decide) (fun _ => hv) (fun q => absurd rfl q)))
theorem ws_putT {idx o v : Nat} (hf : FL M.1.cls idx 3 0) (hnf : ∀ r ty, clOK 3 r ty → (r.2.1 0).2.2.2 = false) (hd : decode M.2.1 pc = .ok (.putfield idx, 3)) (ho : okS o 3) (hv : okS v 6) (h : Ws G M (pc + 3) l st (pR u o 0 v) Q) : Ws G M pc l (.ref v :: .ref o :: st) u Q := fun hs => by
  have ho2 : o = 26 ∨ o = 40 := (show ∀ n, n < 95 → (2 ≤ n → (S0 n).1 = 3 → n = 26 ∨ n = 40) from by decide +kernel) o ho.2.1 ho.1 ho.2.2
  exact wp_putR hf rfl hnf hd (ok_of hs ho) (by have := hv.1; omega) (h (str_pR hs (by rcases ho2 with rfl | rfl <;> decide) (fun q => by omega) (fun _ => hv)))
theorem ws_aald {n kd L : Nat} {i : Int32} (hd : decode M.2.1 pc = .ok (.aaload, 1)) (ha : okS n kd) (hk : 102 ≤ kd ∧ kd ≤ 104) (hL : (S0 n).2 = L) (hi : vp_in i L) (h : Ws G M (pc + 1) l (.ref (R0 n i.toNatClampNeg) :: st) u Q) : Ws G M pc l (.int i :: .ref n :: st) u Q := fun hs => by
  have h1 := (ra_ok ha hk.1 (by rw [hL]; exact ix_lt hi)).1
  have h2 := hs.2.2.1 n _ h1
  refine wp_aald hd (oka_of hs ha hL hi) hk (by rw [h2]; exact h1) ?_
  rw [h2]; exact h hs
theorem ws_iret {v : Int32} (hd : decode M.2.1 pc = .ok (.ireturn, 1)) (ht : ∃ ty, M.2.2.2.1 = some ty ∧ narrow ty (.int v) = .int v) (hQ : Q (some (.int v)) u) : Ws G M pc l [.int v] u Q := fun hs => wp_iret hd ht ⟨hs, hQ⟩
theorem ws_lret {v : Int64} (hd : decode M.2.1 pc = .ok (.lreturn, 1)) (ht : M.2.2.2.1 = some .long) (hQ : Q (some (.long v)) u) : Ws G M pc l [.long v] u Q := fun hs => wp_lret hd ht ⟨hs, hQ⟩
theorem ws_aret {v : Nat} (hd : decode M.2.1 pc = .ok (.areturn, 1)) (ht : ∃ n, M.2.2.2.1 = some (.object n)) (hQ : Q (some (.ref v)) u) : Ws G M pc l [.ref v] u Q := fun hs => wp_aret hd ht ⟨hs, hQ⟩
theorem ws_vret (hd : decode M.2.1 pc = .ok (.return_, 1)) (ht : M.2.2.2.1 = none) (hQ : Q none u) : Ws G M pc l [] u Q := fun hs => wp_vret hd ht ⟨hs, hQ⟩
theorem ws_copy {idx a b : Nat} {sp dp n : Int32} (hd : decode M.2.1 pc = .ok (.invokestatic idx, 3)) (hL : Cond.methodLink M.1.cls idx arraycopyName ∈ lw_g) (hN : Cond.native arraycopyName ∈ lw_g) (hS0 : Cond.static arraycopyName ∈ lw_g) (hI : Cond.initialized "java/lang/System" ∈ lw_g) (hf : 1 ≤ M.2.2.2.2.1) (hlo : ((st.map (tv G)).map fun v => v.category).sum + 18 ≤ M.2.2.2.2.2) (ha : okS a 100) (hb : okS b 100) (h1 : ¬ sp < 0) (h2 : ¬ dp < 0) (h3 : ¬ n < 0) (h4 : sp.toNatClampNeg + n.toNatClampNeg ≤ (S0 a).2) (h5 : dp.toNatClampNeg + n.toNatClampNeg ≤ (S0 b).2) (h : Ws G M (pc + 3) l st (cpI u a b sp.toNatClampNeg dp.toNatClampNeg n.toNatClampNeg) Q) : Ws G M pc l (.int n :: .int dp :: .ref b :: .int sp :: .ref a :: st) u Q := fun hs => wp_copy hd hL hN hS0 hI hf hlo (ok_of hs ha) (ok_of hs hb) h1 h2 h3 (by rw [len_of hs ha]; exact h4) (by rw [len_of hs hb]; exact h5) (h hs)
/-- calls, by the callee's answer -/
def CV (M : pY) (n ci : Nat) : Prop := CM M n ∧ Cond.instanceMethod M.1 ∈ lw_g ∧ Cond.selects M.1.cls M.1 M.1 ∈ lw_g ∧ (∃ r : vw_C, cls9[ci]? = some r ∧ r.1 = M.1.cls) ∧ ci < 9
def CS (M : pY) (n : Nat) : Prop := CM M n ∧ Cond.static M.1 ∈ lw_g
theorem ws_callV {M' : pY} {idx n o ci : Nat} {As : List Value} {la : pLo} {sk : List Value} {Q' : Option Value → pM → Prop} (hd : decode M.2.1 pc = .ok (.invokevirtual idx, 3)) (hM : CV M' n ci) (hL : LK M.1.cls idx M') (hrm : RoomOK M M') (ho : okS o ci) (hn : As.length = n) (hlen : (lg_sl ((.ref o :: As).map (tv G))).length ≤ M'.2.2.1) (hst : ((st.map (tv G)).map fun v => v.category).sum ≤ 8) (hla : lv_args 0 (.ref o :: As) = la) (hsk : As.reverse ++ .ref o :: st = sk) (h : Ws G M' 0 la [] u Q') (k : ∀ r u', Q' r u' → Ws G M (pc + 3) l (r.toList ++ st) u' Q) : Ws G M pc l sk u Q := fun hs => by
  subst hla; subst hsk
  obtain ⟨h1, h2, h3, ⟨r, h4, h5⟩, h6⟩ := hM
  exact wp_callV (kc' := 0) (ks' := 0) (kc := 0) (ks := 0) hd h1 hL h2 h3 hrm (ok_of hs ho) h4 h5 h6 hn hlen hst (h hs) (fun r u' q => k r u' q.2 q.1)
theorem ws_callS {M' : pY} {idx n : Nat} {As : List Value} {la : pLo} {sk : List Value} {Q' : Option Value → pM → Prop} (hd : decode M.2.1 pc = .ok (.invokestatic idx, 3)) (hM : CS M' n) (hL : LK M.1.cls idx M') (hrm : RoomOK M M') (hn : As.length = n) (hlen : (lg_sl (As.map (tv G))).length ≤ M'.2.2.1) (hst : ((st.map (tv G)).map fun v => v.category).sum ≤ 8) (hla : lv_args 0 As = la) (hsk : As.reverse ++ st = sk) (h : Ws G M' 0 la [] u Q') (k : ∀ r u', Q' r u' → Ws G M (pc + 3) l (r.toList ++ st) u' Q) : Ws G M pc l sk u Q := fun hs => by
  subst hla; subst hsk
  exact wp_callS (kc' := 0) (ks' := 0) (kc := 0) (ks := 0) hd hM.1 hL hM.2 hrm hn hlen hst (h hs) (fun r u' q => k r u' q.2 q.1)
theorem ws_callVI {M' : pY} {idx n o ci : Nat} {As : List Value} {la : pLo} {sk : List Value} {K : Int32 → pM → Prop} (hd : decode M.2.1 pc = .ok (.invokevirtual idx, 3)) (hM : CV M' n ci) (hL : LK M.1.cls idx M') (hrm : RoomOK M M') (ho : okS o ci) (hn : As.length = n) (hlen : (lg_sl ((.ref o :: As).map (tv G))).length ≤ M'.2.2.1) (hst : ((st.map (tv G)).map fun v => v.category).sum ≤ 8) (hla : lv_args 0 (.ref o :: As) = la) (hsk : As.reverse ++ .ref o :: st = sk) (h : Ws G M' 0 la [] u (RI K)) (k : ∀ x u', K x u' → Ws G M (pc + 3) l (.int x :: st) u' Q) : Ws G M pc l sk u Q := ws_callV hd hM hL hrm ho hn hlen hst hla hsk h (fun r u' q => by obtain ⟨x, rfl, q⟩ := q; exact k x u' q)
theorem ws_callVJ {M' : pY} {idx n o ci : Nat} {As : List Value} {la : pLo} {sk : List Value} {K : Int64 → pM → Prop} (hd : decode M.2.1 pc = .ok (.invokevirtual idx, 3)) (hM : CV M' n ci) (hL : LK M.1.cls idx M') (hrm : RoomOK M M') (ho : okS o ci) (hn : As.length = n) (hlen : (lg_sl ((.ref o :: As).map (tv G))).length ≤ M'.2.2.1) (hst : ((st.map (tv G)).map fun v => v.category).sum ≤ 8) (hla : lv_args 0 (.ref o :: As) = la) (hsk : As.reverse ++ .ref o :: st = sk) (h : Ws G M' 0 la [] u (RJ K)) (k : ∀ x u', K x u' → Ws G M (pc + 3) l (.long x :: st) u' Q) : Ws G M pc l sk u Q := ws_callV hd hM hL hrm ho hn hlen hst hla hsk h (fun r u' q => by obtain ⟨x, rfl, q⟩ := q; exact k x u' q)
theorem ws_callVR {M' : pY} {idx n o ci : Nat} {As : List Value} {la : pLo} {sk : List Value} {K : Nat → pM → Prop} (hd : decode M.2.1 pc = .ok (.invokevirtual idx, 3)) (hM : CV M' n ci) (hL : LK M.1.cls idx M') (hrm : RoomOK M M') (ho : okS o ci) (hn : As.length = n) (hlen : (lg_sl ((.ref o :: As).map (tv G))).length ≤ M'.2.2.1) (hst : ((st.map (tv G)).map fun v => v.category).sum ≤ 8) (hla : lv_args 0 (.ref o :: As) = la) (hsk : As.reverse ++ .ref o :: st = sk) (h : Ws G M' 0 la [] u (RR K)) (k : ∀ x u', K x u' → Ws G M (pc + 3) l (.ref x :: st) u' Q) : Ws G M pc l sk u Q := ws_callV hd hM hL hrm ho hn hlen hst hla hsk h (fun r u' q => by obtain ⟨x, rfl, q⟩ := q; exact k x u' q)
theorem ws_callVV {M' : pY} {idx n o ci : Nat} {As : List Value} {la : pLo} {sk : List Value} {K : pM → Prop} (hd : decode M.2.1 pc = .ok (.invokevirtual idx, 3)) (hM : CV M' n ci) (hL : LK M.1.cls idx M') (hrm : RoomOK M M') (ho : okS o ci) (hn : As.length = n) (hlen : (lg_sl ((.ref o :: As).map (tv G))).length ≤ M'.2.2.1) (hst : ((st.map (tv G)).map fun v => v.category).sum ≤ 8) (hla : lv_args 0 (.ref o :: As) = la) (hsk : As.reverse ++ .ref o :: st = sk) (h : Ws G M' 0 la [] u (RV K)) (k : ∀ u', K u' → Ws G M (pc + 3) l st u' Q) : Ws G M pc l sk u Q := ws_callV hd hM hL hrm ho hn hlen hst hla hsk h (fun r u' q => by obtain ⟨rfl, q⟩ := q; exact k u' q)
theorem ws_callSI {M' : pY} {idx n : Nat} {As : List Value} {la : pLo} {sk : List Value} {K : Int32 → pM → Prop} (hd : decode M.2.1 pc = .ok (.invokestatic idx, 3)) (hM : CS M' n) (hL : LK M.1.cls idx M') (hrm : RoomOK M M') (hn : As.length = n) (hlen : (lg_sl (As.map (tv G))).length ≤ M'.2.2.1) (hst : ((st.map (tv G)).map fun v => v.category).sum ≤ 8) (hla : lv_args 0 As = la) (hsk : As.reverse ++ st = sk) (h : Ws G M' 0 la [] u (RI K)) (k : ∀ x u', K x u' → Ws G M (pc + 3) l (.int x :: st) u' Q) : Ws G M pc l sk u Q := ws_callS hd hM hL hrm hn hlen hst hla hsk h (fun r u' q => by obtain ⟨x, rfl, q⟩ := q; exact k x u' q)
theorem ws_callSJ {M' : pY} {idx n : Nat} {As : List Value} {la : pLo} {sk : List Value} {K : Int64 → pM → Prop} (hd : decode M.2.1 pc = .ok (.invokestatic idx, 3)) (hM : CS M' n) (hL : LK M.1.cls idx M') (hrm : RoomOK M M') (hn : As.length = n) (hlen : (lg_sl (As.map (tv G))).length ≤ M'.2.2.1) (hst : ((st.map (tv G)).map fun v => v.category).sum ≤ 8) (hla : lv_args 0 As = la) (hsk : As.reverse ++ st = sk) (h : Ws G M' 0 la [] u (RJ K)) (k : ∀ x u', K x u' → Ws G M (pc + 3) l (.long x :: st) u' Q) : Ws G M pc l sk u Q := ws_callS hd hM hL hrm hn hlen hst hla hsk h (fun r u' q => by obtain ⟨x, rfl, q⟩ := q; exact k x u' q)
theorem ws_callSR {M' : pY} {idx n : Nat} {As : List Value} {la : pLo} {sk : List Value} {K : Nat → pM → Prop} (hd : decode M.2.1 pc = .ok (.invokestatic idx, 3)) (hM : CS M' n) (hL : LK M.1.cls idx M') (hrm : RoomOK M M') (hn : As.length = n) (hlen : (lg_sl (As.map (tv G))).length ≤ M'.2.2.1) (hst : ((st.map (tv G)).map fun v => v.category).sum ≤ 8) (hla : lv_args 0 As = la) (hsk : As.reverse ++ st = sk) (h : Ws G M' 0 la [] u (RR K)) (k : ∀ x u', K x u' → Ws G M (pc + 3) l (.ref x :: st) u' Q) : Ws G M pc l sk u Q := ws_callS hd hM hL hrm hn hlen hst hla hsk h (fun r u' q => by obtain ⟨x, rfl, q⟩ := q; exact k x u' q)
theorem ws_callSV {M' : pY} {idx n : Nat} {As : List Value} {la : pLo} {sk : List Value} {K : pM → Prop} (hd : decode M.2.1 pc = .ok (.invokestatic idx, 3)) (hM : CS M' n) (hL : LK M.1.cls idx M') (hrm : RoomOK M M') (hn : As.length = n) (hlen : (lg_sl (As.map (tv G))).length ≤ M'.2.2.1) (hst : ((st.map (tv G)).map fun v => v.category).sum ≤ 8) (hla : lv_args 0 As = la) (hsk : As.reverse ++ st = sk) (h : Ws G M' 0 la [] u (RV K)) (k : ∀ u', K u' → Ws G M (pc + 3) l st u' Q) : Ws G M pc l sk u Q := ws_callS hd hM hL hrm hn hlen hst hla hsk h (fun r u' q => by obtain ⟨rfl, q⟩ := q; exact k u' q)
end STR
end
section
/-! Math.floorMod(JJ)J: a method of a class that has entries of its own, walked as the library walks Math.min -/
def fm_x : MethodName := ⟨"java/lang/Math", "floorMod", "(JJ)J"⟩
abbrev fm_c : ByteArray := prog_12_method_52_code
def fm (a b : Int64) : Int64 := if (a ^^^ b) < 0 ∧ ¬ (a - a / b * b) = 0 then (a - a / b * b) + b else a - a / b * b
theorem fm_0 : decode fm_c 0 = .ok (.lload_n 0, 1) := by decide +kernel
theorem fm_1 : decode fm_c 1 = .ok (.lload_n 2, 1) := by decide +kernel
theorem fm_2 : decode fm_c 2 = .ok (.lrem, 1) := by decide +kernel
theorem fm_3 : decode fm_c 3 = .ok (.lstore 4, 2) := by decide +kernel
theorem fm_5 : decode fm_c 5 = .ok (.lload_n 0, 1) := by decide +kernel
theorem fm_6 : decode fm_c 6 = .ok (.lload_n 2, 1) := by decide +kernel
theorem fm_7 : decode fm_c 7 = .ok (.lxor, 1) := by decide +kernel
theorem fm_8 : decode fm_c 8 = .ok (.lconst 0, 1) := by decide +kernel
theorem fm_9 : decode fm_c 9 = .ok (.lcmp, 1) := by decide +kernel
theorem fm_10 : decode fm_c 10 = .ok (.ifCond .ge 15, 3) := by decide +kernel
theorem fm_13 : decode fm_c 13 = .ok (.lload 4, 2) := by decide +kernel
theorem fm_15 : decode fm_c 15 = .ok (.lconst 0, 1) := by decide +kernel
theorem fm_16 : decode fm_c 16 = .ok (.lcmp, 1) := by decide +kernel
theorem fm_17 : decode fm_c 17 = .ok (.ifCond .eq 8, 3) := by decide +kernel
theorem fm_20 : decode fm_c 20 = .ok (.lload 4, 2) := by decide +kernel
theorem fm_22 : decode fm_c 22 = .ok (.lload_n 2, 1) := by decide +kernel
theorem fm_23 : decode fm_c 23 = .ok (.ladd, 1) := by decide +kernel
theorem fm_24 : decode fm_c 24 = .ok (.lreturn, 1) := by decide +kernel
theorem fm_25 : decode fm_c 25 = .ok (.lload 4, 2) := by decide +kernel
theorem fm_27 : decode fm_c 27 = .ok (.lreturn, 1) := by decide +kernel
theorem fm_row0 : (NativeRow.find? natives fm_x.cls fm_x.name fm_x.desc).isNone = true := by decide +kernel
theorem fm_row (p : Program) : NativeRow.find? p.tables.natives fm_x.cls fm_x.name fm_x.desc = none := by
  cases p <;> exact Option.isNone_iff_eq_none.mp fm_row0
def fm_spec (a b : Int64) : Spec where
  pre := .and (.code fm_x fm_c 6 (some .long)) (.and (.count 2) (.and (.eq (.arg 0) (.long a)) (.eq (.arg 1) (.long b))))
  post := .and .returned (.eq .result (.long (fm a b)))
  changes := some []
theorem fm_args {args : Array Value} {s : State} {a b : Int64} (h0 : (Cond.count 2).before args s = true) (h1 : (Cond.eq (.arg 0) (.long a)).before args s = true) (h2 : (Cond.eq (.arg 1) (.long b)).before args s = true) : args = #[.long a, .long b] := by
  obtain ⟨l⟩ := args
  simp only [Cond.before, Cond.holds, Cond.value, Term.eval, List.size_toArray, beq_iff_eq, Option.some.injEq] at h0 h1 h2
  match l, h0 with
  | [x, y], _ =>
    cases x <;> simp at h1
    cases y <;> simp at h2
    subst h1; subst h2
    rfl
theorem fm_meets (l : Launch) (a b : Int64) (hb0 : ¬ b = 0) : MeetsLoose l fm_x (fm_spec a b) := by
  refine MeetsLoose.of_body_ov (code := fm_c) (maxLocals := 6) (ret := some .long) fm_row ?_ ?_
  · intro args s h
    simp only [fm_spec, Cond.before_and, Bool.and_eq_true] at h
    exact h.1
  · intro p e s m args below meth c s₁ B
    have hpre := B.pre
    simp only [fm_spec, Cond.before_and, Bool.and_eq_true] at hpre
    obtain rfl := fm_args hpre.2.1 hpre.2.2.1 hpre.2.2.2
    have hloc : argsToLocals #[.long a, .long b] 6 = #[.val (.long a), .second, .val (.long b), .second, .unset, .unset] := rfl
    obtain ⟨fs, hfs⟩ := handOver_isSome (s := s₁) (some (.long (fm a b))) B.hears₁
    refine ⟨s₁.setFrames fs, .returned (some (.long (fm a b))), ?_, B.here.running, B.ended hfs (by intro h; cases h), ?_, State.sameBut_nil.mpr ?_⟩
    rotate_left
    · simp [fm_spec, Cond.after, Cond.holds, Cond.value, Term.eval]
    · rw [State.frames_setFrames _ B.cur₁, B.back]
    have e0 : fm a b = if (a ^^^ b) < 0 ∧ ¬ (a - a / b * b) = 0 then (a - a / b * b) + b else a - a / b * b := rfl
    rw [e0] at hfs
    unfold entryFrame; rw [hloc]
    refine Steps.instrAtOv (c := _) (by simpa using B.here) ?_
    simp [jvm, wpRun, exec, B.here.top, B.exec, B.bytes, fm_0]
    refine Steps.instrAtOv (c := _) (by simpa using B.here) ?_
    simp [jvm, wpRun, exec, B.here.top, B.exec, B.bytes, fm_1]
    refine Steps.instrAtOv (c := _) (by simpa using B.here) ?_
    simp [jvm, wpRun, exec, B.here.top, B.exec, B.bytes, fm_2, hb0]
    generalize a - a / b * b = r at hfs ⊢
    refine Steps.instrAtOv (c := _) (by simpa using B.here) ?_
    simp [jvm, wpRun, exec, B.here.top, B.exec, B.bytes, fm_3, storeLocals, storeSelf, setAt, Value.category]
    refine Steps.instrAtOv (c := _) (by simpa using B.here) ?_
    simp [jvm, wpRun, exec, B.here.top, B.exec, B.bytes, fm_5]
    refine Steps.instrAtOv (c := _) (by simpa using B.here) ?_
    simp [jvm, wpRun, exec, B.here.top, B.exec, B.bytes, fm_6]
    refine Steps.instrAtOv (c := _) (by simpa using B.here) ?_
    simp [jvm, wpRun, exec, B.here.top, B.exec, B.bytes, fm_7]
    generalize a ^^^ b = q at hfs ⊢
    refine Steps.instrAtOv (c := _) (by simpa using B.here) ?_
    simp [jvm, wpRun, exec, B.here.top, B.exec, B.bytes, fm_8]
    by_cases h1 : q < 0
    · have n1 : ¬ 0 < q := fun h => Int64.lt_irrefl (Int64.lt_trans h h1)
      have n2 : ¬ q = 0 := by intro h; rw [h] at h1; exact Int64.lt_irrefl h1
      refine Steps.instrAtOv (c := _) (by simpa using B.here) ?_
      simp [jvm, wpRun, exec, B.here.top, B.exec, B.bytes, fm_9, n1, n2]
      refine Steps.instrAtOv (c := _) (by simpa using B.here) ?_
      simp [jvm, wpRun, exec, B.here.top, B.exec, B.bytes, fm_10, ifCond.holds]
      refine Steps.instrAtOv (c := _) (by simpa using B.here) ?_
      simp [jvm, wpRun, exec, B.here.top, B.exec, B.bytes, fm_13]
      refine Steps.instrAtOv (c := _) (by simpa using B.here) ?_
      simp [jvm, wpRun, exec, B.here.top, B.exec, B.bytes, fm_15]
      by_cases h2 : r = 0
      · subst h2
        have e : (if q < 0 ∧ ¬ (0 : Int64) = 0 then 0 + b else 0) = 0 := by simp
        rw [e] at hfs
        refine Steps.instrAtOv (c := _) (by simpa using B.here) ?_
        simp [jvm, wpRun, exec, B.here.top, B.exec, B.bytes, fm_16]
        refine Steps.instrAtOv (c := _) (by simpa using B.here) ?_
        simp [jvm, wpRun, exec, B.here.top, B.exec, B.bytes, fm_17, ifCond.holds]
        refine Steps.instrAtOv (c := _) (by simpa using B.here) ?_
        simp [jvm, wpRun, exec, B.here.top, B.exec, B.bytes, fm_25]
        refine Steps.instrAtOv (c := _) (by simpa using B.here) ?_
        simp [jvm, wpRun, exec, B.here.top, B.exec, B.bytes, fm_27, B.method₁, B.returns]
        intro acts
        rw [ret_to B.frames₁ B.method₁ B.notSynchronized rfl rfl hfs]
        exact Steps.refl _
      · have e : (if q < 0 ∧ ¬ r = 0 then r + b else r) = r + b := by simp [h1, h2]
        rw [e] at hfs
        by_cases h3 : 0 < r
        · refine Steps.instrAtOv (c := _) (by simpa using B.here) ?_
          simp [jvm, wpRun, exec, B.here.top, B.exec, B.bytes, fm_16, h2, h3]
          refine Steps.instrAtOv (c := _) (by simpa using B.here) ?_
          simp [jvm, wpRun, exec, B.here.top, B.exec, B.bytes, fm_17, ifCond.holds]
          refine Steps.instrAtOv (c := _) (by simpa using B.here) ?_
          simp [jvm, wpRun, exec, B.here.top, B.exec, B.bytes, fm_20]
          refine Steps.instrAtOv (c := _) (by simpa using B.here) ?_
          simp [jvm, wpRun, exec, B.here.top, B.exec, B.bytes, fm_22]
          refine Steps.instrAtOv (c := _) (by simpa using B.here) ?_
          simp [jvm, wpRun, exec, B.here.top, B.exec, B.bytes, fm_23]
          refine Steps.instrAtOv (c := _) (by simpa using B.here) ?_
          simp [jvm, wpRun, exec, B.here.top, B.exec, B.bytes, fm_24, B.method₁, B.returns]
          intro acts
          rw [ret_to B.frames₁ B.method₁ B.notSynchronized rfl rfl hfs]
          exact Steps.refl _
        · refine Steps.instrAtOv (c := _) (by simpa using B.here) ?_
          simp [jvm, wpRun, exec, B.here.top, B.exec, B.bytes, fm_16, h2, h3]
          refine Steps.instrAtOv (c := _) (by simpa using B.here) ?_
          simp [jvm, wpRun, exec, B.here.top, B.exec, B.bytes, fm_17, ifCond.holds]
          refine Steps.instrAtOv (c := _) (by simpa using B.here) ?_
          simp [jvm, wpRun, exec, B.here.top, B.exec, B.bytes, fm_20]
          refine Steps.instrAtOv (c := _) (by simpa using B.here) ?_
          simp [jvm, wpRun, exec, B.here.top, B.exec, B.bytes, fm_22]
          refine Steps.instrAtOv (c := _) (by simpa using B.here) ?_
          simp [jvm, wpRun, exec, B.here.top, B.exec, B.bytes, fm_23]
          refine Steps.instrAtOv (c := _) (by simpa using B.here) ?_
          simp [jvm, wpRun, exec, B.here.top, B.exec, B.bytes, fm_24, B.method₁, B.returns]
          intro acts
          rw [ret_to B.frames₁ B.method₁ B.notSynchronized rfl rfl hfs]
          exact Steps.refl _
    · have e : (if q < 0 ∧ ¬ r = 0 then r + b else r) = r := by simp [h1]
      rw [e] at hfs
      by_cases h2 : q = 0
      · subst h2
        refine Steps.instrAtOv (c := _) (by simpa using B.here) ?_
        simp [jvm, wpRun, exec, B.here.top, B.exec, B.bytes, fm_9]
        refine Steps.instrAtOv (c := _) (by simpa using B.here) ?_
        simp [jvm, wpRun, exec, B.here.top, B.exec, B.bytes, fm_10, ifCond.holds]
        refine Steps.instrAtOv (c := _) (by simpa using B.here) ?_
        simp [jvm, wpRun, exec, B.here.top, B.exec, B.bytes, fm_25]
        refine Steps.instrAtOv (c := _) (by simpa using B.here) ?_
        simp [jvm, wpRun, exec, B.here.top, B.exec, B.bytes, fm_27, B.method₁, B.returns]
        intro acts
        rw [ret_to B.frames₁ B.method₁ B.notSynchronized rfl rfl hfs]
        exact Steps.refl _
      · have h3 : 0 < q := Int64.lt_of_le_of_ne (Int64.not_lt.mp h1) (Ne.symm h2)
        refine Steps.instrAtOv (c := _) (by simpa using B.here) ?_
        simp [jvm, wpRun, exec, B.here.top, B.exec, B.bytes, fm_9, h3]
        refine Steps.instrAtOv (c := _) (by simpa using B.here) ?_
        simp [jvm, wpRun, exec, B.here.top, B.exec, B.bytes, fm_10, ifCond.holds]
        refine Steps.instrAtOv (c := _) (by simpa using B.here) ?_
        simp [jvm, wpRun, exec, B.here.top, B.exec, B.bytes, fm_25]
        refine Steps.instrAtOv (c := _) (by simpa using B.here) ?_
        simp [jvm, wpRun, exec, B.here.top, B.exec, B.bytes, fm_27, B.method₁, B.returns]
        intro acts
        rw [ret_to B.frames₁ B.method₁ B.notSynchronized rfl rfl hfs]
        exact Steps.refl _
section FMW
variable {G : pG} {M : pY} {kc ks pc : Nat} {l : pLo} {st : List Value} {u : pM} {Q : Option Value → pM → Prop}
theorem fm_call {p : Program} {l : Launch} {e : Env} {R : Room} {s : State} {m : MethodId} {args : Array Value} {below : List Frame} {meth : Method} {c : Code} {T : State} {locs : List Loc} {cells slots : Nat} (X : Stand p l e R s m args below meth c T locs cells slots) (hexec : p.tables.exec = Jvm.exec) {own : String} {index : Nat} (hown : s.vm.findClass own = some m.cls)
    (hlink : (Cond.methodLink own index fm_x).before args s = true) (hstat : (Cond.static fm_x).before args s = true) (hinit : (Cond.initialized "java/lang/Math").before args s = true) (hcode : (Cond.code fm_x fm_c 6 (some .long)).before args s = true)
    {g : JFrame} (hg : g.method = m) (hsize : g.locals.size = c.maxLocals) {a b : Int64} (hb0 : ¬ b = 0) {rest : List Value} (hstack : g.stack = .long b :: .long a :: rest) (hdg : decode c.code g.pc = .ok (.invokestatic index, 3))
    (hframes : 1 ≤ R.frames) (hlocals : 2 * g.monitorRoom + (rest.map fun v => v.category).sum + 17 ≤ R.locals) (hcells : cells ≤ R.cells) (hslots : slots ≤ R.slots) :
    ∃ vm', Stand p l e R s m args below meth c (T.setVm vm') locs cells slots ∧ ∀ target, Steps p.tables e below ((T.setVm vm').setTop { g with pc := g.pc + 3, stack := .long (fm a b) :: rest }) target → Steps p.tables e below (T.setTop g) target := by
  obtain ⟨v, T', X', ⟨first, t, hpost⟩, hstep⟩ := X.staticByContractV hexec hown hlink hstat hinit hcode (by decide) (fm_meets l a b hb0) rfl rfl rfl rfl
    (fun args' first o s₂ h => by
      cases o with
      | returned r => exact ⟨r, rfl⟩
      | threw y =>
        have hz : (fm_spec a b).post.value args' first (some (.threw y)) s₂ [] = some true := by simpa [Cond.after, Cond.holds] using h
        exact absurd hz va_nvRet)
    hg hsize (argsL := [.long a, .long b]) (rest := rest)
    (fun sig hs => by
      have h : parseMethodDescriptor "(JJ)J" = some { parameters := [.long, .long], returnType := some .long } := by decide +kernel
      rw [show fm_x.desc = "(JJ)J" from rfl, h] at hs
      rw [← Option.some.inj hs]; rfl)
    hstack hdg
    (fun vm' hW => by
      simp only [fm_spec, Cond.before_and, Bool.and_eq_true]
      refine ⟨?_, rfl, by simp [Cond.before, Cond.holds, Cond.value, Term.eval], by simp [Cond.before, Cond.holds, Cond.value, Term.eval]⟩
      have q := hcode
      rw [← Cond.code_setVm hW.alike] at q
      simp only [Cond.before, Cond.holds, Cond.value, State.methodNamed?, State.vm_setVm] at q ⊢
      exact q)
    (by show 0 + 1 ≤ R.frames; omega) (by show 2 * g.monitorRoom + (rest.map fun v => v.category).sum + (6 + 11) + 0 ≤ R.locals; omega) (by show cells + 0 ≤ R.cells; omega) (by show slots + 0 ≤ R.slots; omega)
  refine ⟨T', X', fun target h => hstep target ?_⟩
  obtain rfl : v = some (.long (fm a b)) := by
    rcases v with _ | w
    · simp [fm_spec, Cond.after, Cond.holds, Cond.value, Term.eval] at hpost
    · cases w <;> simp [fm_spec, Cond.after, Cond.holds, Cond.value, Term.eval] at hpost
      simp [hpost]
  exact h
/-- what a call of Math needs of its caller -/
abbrev MR (M : pY) (n : Nat) : Prop := 1 ≤ M.2.2.2.2.1 ∧ n ≤ M.2.2.2.2.2
theorem wp_fm {idx : Nat} {x y : Int64} (hd : decode M.2.1 pc = .ok (.invokestatic idx, 3)) (hL : Cond.methodLink M.1.cls idx fm_x ∈ lw_g) (hS : Cond.static fm_x ∈ lw_g) (hI : Cond.initialized "java/lang/Math" ∈ lw_g) (hC : Cond.code fm_x fm_c 6 (some .long) ∈ lw_g) (hrm : MR M (((st.map (tv G)).map fun v => v.category).sum + 17)) (hy : ¬ y = 0) (h : Wp G M kc ks (pc + 3) l (.long (fm x y) :: st) u Q) : Wp G M kc ks pc l (.long y :: .long x :: st) u Q := by
  intro p e R s m args below meth c C H ls locs cells slots Qf mc ms a1 a2 a3 a4 a5 a6 a7 a8 k' T hT X
  have hts := C.2.2.2.2.2.1
  obtain ⟨vm', X', stp⟩ := fm_call X C.1 C.2.2.2.2.1 (hts _ hL) (hts _ hS) (hts _ hI) (hts _ hC) (g := F0 m pc ls (.long y :: .long x :: st.map (tv G))) rfl (by show ls.size = _; rw [a3.1, C.2.2.2.1]) (a := x) (b := y) hy (rest := st.map (tv G)) rfl (by rw [C.2.1]; exact hd) (Nat.le_trans hrm.1 C.2.2.2.2.2.2.2.2.1) (Nat.le_trans (by show 2 * 0 + _ + 17 ≤ _; have := hrm.2; omega) C.2.2.2.2.2.2.2.2.2.1) (by omega) (by omega)
  obtain ⟨t, b1, b2⟩ := h p e R s m args below meth c C H ls locs cells slots Qf mc ms a1 a2 a3 a4 a5 a6 a7 a8 k' (T.setVm vm') hT X'
  exact ⟨t, stp t b1, b2⟩
theorem wp_maxI {idx : Nat} {x y : Int32} (hd : decode M.2.1 pc = .ok (.invokestatic idx, 3)) (hL : Cond.methodLink M.1.cls idx Lib.Math.max.name ∈ lw_g) (hS : Cond.static Lib.Math.max.name ∈ lw_g) (hI : Cond.initialized "java/lang/Math" ∈ lw_g) (hC : Cond.code Lib.Math.max.name Lib.Math.max.code 2 (some .int) ∈ lw_g) (hrm : MR M (((st.map (tv G)).map fun v => v.category).sum + 13)) (h : Wp G M kc ks (pc + 3) l (.int (if x < y then y else x) :: st) u Q) : Wp G M kc ks pc l (.int y :: .int x :: st) u Q := by
  intro p e R s m args below meth c C H ls locs cells slots Qf mc ms a1 a2 a3 a4 a5 a6 a7 a8 k'
  have hts := C.2.2.2.2.2.1
  exact va_mmax (rest := st.map (tv G)) C.1 C.2.1 (C.2.2.2.1.trans a3.1.symm) C.2.2.2.2.1 (hts _ hL) (hts _ hS) (hts _ hI) (hts _ hC) (Nat.le_trans hrm.1 C.2.2.2.2.2.2.2.2.1) (Nat.le_trans hrm.2 C.2.2.2.2.2.2.2.2.2.1) (by omega) (by omega) hd (h p e R s m args below meth c C H ls locs cells slots Qf mc ms a1 a2 a3 a4 a5 a6 a7 a8 k')
theorem wp_minI {idx : Nat} {x y : Int32} (hd : decode M.2.1 pc = .ok (.invokestatic idx, 3)) (hL : Cond.methodLink M.1.cls idx Lib.Math.min.name ∈ lw_g) (hS : Cond.static Lib.Math.min.name ∈ lw_g) (hI : Cond.initialized "java/lang/Math" ∈ lw_g) (hC : Cond.code Lib.Math.min.name Lib.Math.min.code 2 (some .int) ∈ lw_g) (hrm : MR M (((st.map (tv G)).map fun v => v.category).sum + 13)) (h : Wp G M kc ks (pc + 3) l (.int (if y < x then y else x) :: st) u Q) : Wp G M kc ks pc l (.int y :: .int x :: st) u Q := by
  intro p e R s m args below meth c C H ls locs cells slots Qf mc ms a1 a2 a3 a4 a5 a6 a7 a8 k'
  have hts := C.2.2.2.2.2.1
  exact va_mmin (rest := st.map (tv G)) C.1 C.2.1 (C.2.2.2.1.trans a3.1.symm) C.2.2.2.2.1 (hts _ hL) (hts _ hS) (hts _ hI) (hts _ hC) (Nat.le_trans hrm.1 C.2.2.2.2.2.2.2.2.1) (Nat.le_trans hrm.2 C.2.2.2.2.2.2.2.2.2.1) (by omega) (by omega) hd (h p e R s m args below meth c C H ls locs cells slots Qf mc ms a1 a2 a3 a4 a5 a6 a7 a8 k')
theorem wp_minJ {idx : Nat} {x y : Int64} (hd : decode M.2.1 pc = .ok (.invokestatic idx, 3)) (hL : Cond.methodLink M.1.cls idx Lib.MathLoose.min_long.x ∈ lw_g) (hS : Cond.static Lib.MathLoose.min_long.x ∈ lw_g) (hI : Cond.initialized "java/lang/Math" ∈ lw_g) (hC : Cond.code Lib.MathLoose.min_long.x Lib.MathLoose.min_long.code 4 (some .long) ∈ lw_g) (hrm : MR M (((st.map (tv G)).map fun v => v.category).sum + 15)) (h : Wp G M kc ks (pc + 3) l (.long (if y < x then y else x) :: st) u Q) : Wp G M kc ks pc l (.long y :: .long x :: st) u Q := by
  intro p e R s m args below meth c C H ls locs cells slots Qf mc ms a1 a2 a3 a4 a5 a6 a7 a8 k'
  have hts := C.2.2.2.2.2.1
  exact va_mmin_long (rest := st.map (tv G)) C.1 C.2.1 (C.2.2.2.1.trans a3.1.symm) C.2.2.2.2.1 (hts _ hL) (hts _ hS) (hts _ hI) (hts _ hC) (Nat.le_trans hrm.1 C.2.2.2.2.2.2.2.2.1) (Nat.le_trans hrm.2 C.2.2.2.2.2.2.2.2.2.1) (by omega) (by omega) hd (h p e R s m args below meth c C H ls locs cells slots Qf mc ms a1 a2 a3 a4 a5 a6 a7 a8 k')
theorem wp_absJ {idx : Nat} {x : Int64} (hd : decode M.2.1 pc = .ok (.invokestatic idx, 3)) (hL : Cond.methodLink M.1.cls idx Lib.MathLoose.abs_long.x ∈ lw_g) (hS : Cond.static Lib.MathLoose.abs_long.x ∈ lw_g) (hI : Cond.initialized "java/lang/Math" ∈ lw_g) (hC : Cond.code Lib.MathLoose.abs_long.x Lib.MathLoose.abs_long.code 2 (some .long) ∈ lw_g) (hrm : MR M (((st.map (tv G)).map fun v => v.category).sum + 13)) (h : Wp G M kc ks (pc + 3) l (.long (if 0 < x then x else -x) :: st) u Q) : Wp G M kc ks pc l (.long x :: st) u Q := by
  intro p e R s m args below meth c C H ls locs cells slots Qf mc ms a1 a2 a3 a4 a5 a6 a7 a8 k'
  have hts := C.2.2.2.2.2.1
  exact va_mabs_long (rest := st.map (tv G)) C.1 C.2.1 (C.2.2.2.1.trans a3.1.symm) C.2.2.2.2.1 (hts _ hL) (hts _ hS) (hts _ hI) (hts _ hC) (Nat.le_trans hrm.1 C.2.2.2.2.2.2.2.2.1) (Nat.le_trans hrm.2 C.2.2.2.2.2.2.2.2.2.1) (by omega) (by omega) hd (h p e R s m args below meth c C H ls locs cells slots Qf mc ms a1 a2 a3 a4 a5 a6 a7 a8 k')
theorem ws_fm {idx : Nat} {x y : Int64} (hd : decode M.2.1 pc = .ok (.invokestatic idx, 3)) (hL : Cond.methodLink M.1.cls idx fm_x ∈ lw_g) (hS : Cond.static fm_x ∈ lw_g) (hI : Cond.initialized "java/lang/Math" ∈ lw_g) (hC : Cond.code fm_x fm_c 6 (some .long) ∈ lw_g) (hrm : MR M (((st.map (tv G)).map fun v => v.category).sum + 17)) (hy : ¬ y = 0) (h : Ws G M (pc + 3) l (.long (fm x y) :: st) u Q) : Ws G M pc l (.long y :: .long x :: st) u Q := fun hs => wp_fm hd hL hS hI hC hrm hy (h hs)
theorem ws_maxI {idx : Nat} {x y : Int32} (hd : decode M.2.1 pc = .ok (.invokestatic idx, 3)) (hL : Cond.methodLink M.1.cls idx Lib.Math.max.name ∈ lw_g) (hS : Cond.static Lib.Math.max.name ∈ lw_g) (hI : Cond.initialized "java/lang/Math" ∈ lw_g) (hC : Cond.code Lib.Math.max.name Lib.Math.max.code 2 (some .int) ∈ lw_g) (hrm : MR M (((st.map (tv G)).map fun v => v.category).sum + 13)) (h : Ws G M (pc + 3) l (.int (if x < y then y else x) :: st) u Q) : Ws G M pc l (.int y :: .int x :: st) u Q := fun hs => wp_maxI hd hL hS hI hC hrm (h hs)
theorem ws_minI {idx : Nat} {x y : Int32} (hd : decode M.2.1 pc = .ok (.invokestatic idx, 3)) (hL : Cond.methodLink M.1.cls idx Lib.Math.min.name ∈ lw_g) (hS : Cond.static Lib.Math.min.name ∈ lw_g) (hI : Cond.initialized "java/lang/Math" ∈ lw_g) (hC : Cond.code Lib.Math.min.name Lib.Math.min.code 2 (some .int) ∈ lw_g) (hrm : MR M (((st.map (tv G)).map fun v => v.category).sum + 13)) (h : Ws G M (pc + 3) l (.int (if y < x then y else x) :: st) u Q) : Ws G M pc l (.int y :: .int x :: st) u Q := fun hs => wp_minI hd hL hS hI hC hrm (h hs)
theorem ws_minJ {idx : Nat} {x y : Int64} (hd : decode M.2.1 pc = .ok (.invokestatic idx, 3)) (hL : Cond.methodLink M.1.cls idx Lib.MathLoose.min_long.x ∈ lw_g) (hS : Cond.static Lib.MathLoose.min_long.x ∈ lw_g) (hI : Cond.initialized "java/lang/Math" ∈ lw_g) (hC : Cond.code Lib.MathLoose.min_long.x Lib.MathLoose.min_long.code 4 (some .long) ∈ lw_g) (hrm : MR M (((st.map (tv G)).map fun v => v.category).sum + 15)) (h : Ws G M (pc + 3) l (.long (if y < x then y else x) :: st) u Q) : Ws G M pc l (.long y :: .long x :: st) u Q := fun hs => wp_minJ hd hL hS hI hC hrm (h hs)
theorem ws_absJ {idx : Nat} {x : Int64} (hd : decode M.2.1 pc = .ok (.invokestatic idx, 3)) (hL : Cond.methodLink M.1.cls idx Lib.MathLoose.abs_long.x ∈ lw_g) (hS : Cond.static Lib.MathLoose.abs_long.x ∈ lw_g) (hI : Cond.initialized "java/lang/Math" ∈ lw_g) (hC : Cond.code Lib.MathLoose.abs_long.x Lib.MathLoose.abs_long.code 2 (some .long) ∈ lw_g) (hrm : MR M (((st.map (tv G)).map fun v => v.category).sum + 13)) (h : Ws G M (pc + 3) l (.long (if 0 < x then x else -x) :: st) u Q) : Ws G M pc l (.long x :: st) u Q := fun hs => wp_absJ hd hL hS hI hC hrm (h hs)
end FMW
end
section
theorem dcd {bs : ByteArray} {t : List (Nat × Instr × Nat)} (h : t.all (fun q => decide (decode bs q.1 = .ok q.2)) = true) (i : Nat) {pc : Nat} {x : Instr × Nat} (hq : t[i]? = some (pc, x)) : decode bs pc = .ok x := of_decide_eq_true (List.all_eq_true.mp h (pc, x) (List.mem_of_getElem? hq))
theorem in_Di : Cond.initialized "DoorRounds$Diary" ∈ lw_g := lw_in (i := 5) (by decide +kernel) (by decide +kernel)
theorem in_Er : Cond.initialized "DoorRounds$Errands" ∈ lw_g := lw_in (i := 6) (by decide +kernel) (by decide +kernel)
theorem in_Pl : Cond.initialized "DoorRounds$Plan" ∈ lw_g := lw_in (i := 7) (by decide +kernel) (by decide +kernel)
theorem in_Rd : Cond.initialized "DoorRounds$Reader" ∈ lw_g := lw_in (i := 9) (by decide +kernel) (by decide +kernel)
theorem in_Sh : Cond.initialized "DoorRounds$Shop" ∈ lw_g := lw_in (i := 8) (by decide +kernel) (by decide +kernel)
theorem in_Sn : Cond.initialized "DoorRounds$Standing" ∈ lw_g := lw_in (i := 4) (by decide +kernel) (by decide +kernel)
theorem in_Sp : Cond.initialized "DoorRounds$Strip" ∈ lw_g := lw_in (i := 2) (by decide +kernel) (by decide +kernel)
theorem in_D : Cond.initialized "DoorRounds" ∈ lw_g := lw_in (i := 1) (by decide +kernel) (by decide +kernel)
theorem in_m : Cond.initialized "DoorRoundsModel" ∈ lw_g := lw_in (i := 10) (by decide +kernel) (by decide +kernel)
theorem in_jm : Cond.initialized "java/lang/Math" ∈ lw_g := lw_in (i := 3) (by decide +kernel) (by decide +kernel)
theorem in_ji : Cond.initialized "java/lang/Integer" ∈ lw_g := lw_in (i := 13) (by decide +kernel) (by decide +kernel)
theorem in_ja : Cond.initialized "java/util/Arrays" ∈ lw_g := lw_in (i := 11) (by decide +kernel) (by decide +kernel)
abbrev D_init : pY := (⟨"DoorRounds", "<init>", "()V"⟩, prog_1_method_1_code, 2, (Option.none : Option Jvm.ClassFile.FieldType), 4, 87)
def t_D_init_0 : List (Nat × Instr × Nat) := [(0, .aload_n 0, 1), (1, .invokespecial 1, 3), (4, .aload_n 0, 1), (5, .bipush 6, 2), (7, .anewarray 9, 3), (10, .putfield 11, 3), (13, .aload_n 0, 1), (14, .iconst 4, 1), (15, .anewarray 9, 3), (18, .putfield 15, 3), (21, .aload_n 0, 1), (22, .new 9, 3), (25, .dup, 1), (26, .iconst 0, 1), (27, .invokespecial 18, 3), (30, .putfield 21, 3), (33, .aload_n 0, 1), (34, .new 25, 3), (37, .dup, 1), (38, .invokespecial 27, 3), (41, .putfield 28, 3), (44, .aload_n 0, 1), (45, .iconst 3, 1), (46, .anewarray 25, 3), (49, .putfield 32, 3), (52, .aload_n 0, 1), (53, .new 25, 3), (56, .dup, 1), (57, .invokespecial 27, 3), (60, .putfield 36, 3)]
theorem d_D_init_0 : t_D_init_0.all (fun q => decide (decode prog_1_method_1_code q.1 = .ok q.2)) = true := by decide +kernel
def t_D_init_1 : List (Nat × Instr × Nat) := [(63, .aload_n 0, 1), (64, .new 25, 3), (67, .dup, 1), (68, .invokespecial 27, 3), (71, .putfield 39, 3), (74, .aload_n 0, 1), (75, .new 42, 3), (78, .dup, 1), (79, .invokespecial 44, 3), (82, .putfield 45, 3), (85, .aload_n 0, 1), (86, .new 49, 3), (89, .dup, 1), (90, .invokespecial 51, 3), (93, .putfield 52, 3), (96, .aload_n 0, 1), (97, .bipush 6, 2), (99, .newarray .int, 2), (101, .putfield 56, 3), (104, .aload_n 0, 1), (105, .new 60, 3), (108, .dup, 1), (109, .invokespecial 62, 3), (112, .putfield 63, 3), (115, .aload_n 0, 1), (116, .new 60, 3), (119, .dup, 1), (120, .invokespecial 62, 3), (123, .putfield 67, 3), (126, .aload_n 0, 1)]
theorem d_D_init_1 : t_D_init_1.all (fun q => decide (decode prog_1_method_1_code q.1 = .ok q.2)) = true := by decide +kernel
def t_D_init_2 : List (Nat × Instr × Nat) := [(127, .iconst 0, 1), (128, .putfield 70, 3), (131, .aload_n 0, 1), (132, .lconst 0, 1), (133, .putfield 74, 3), (136, .aload_n 0, 1), (137, .lconst 1, 1), (138, .putfield 78, 3), (141, .aload_n 0, 1), (142, .iconst 0, 1), (143, .putfield 81, 3), (146, .iconst 0, 1), (147, .istore_n 1, 1), (148, .iload_n 1, 1), (149, .bipush 6, 2), (151, .if_icmp .ge 24, 3), (154, .aload_n 0, 1), (155, .getfield 11, 3), (158, .iload_n 1, 1), (159, .new 9, 3), (162, .dup, 1), (163, .bipush 40, 2), (165, .invokespecial 18, 3), (168, .aastore, 1), (169, .iinc 1 1, 3), (172, .goto (-24), 3), (175, .iconst 0, 1), (176, .istore_n 1, 1), (177, .iload_n 1, 1), (178, .iconst 4, 1)]
theorem d_D_init_2 : t_D_init_2.all (fun q => decide (decode prog_1_method_1_code q.1 = .ok q.2)) = true := by decide +kernel
def t_D_init_3 : List (Nat × Instr × Nat) := [(179, .if_icmp .ge 24, 3), (182, .aload_n 0, 1), (183, .getfield 15, 3), (186, .iload_n 1, 1), (187, .new 9, 3), (190, .dup, 1), (191, .bipush 100, 2), (193, .invokespecial 18, 3), (196, .aastore, 1), (197, .iinc 1 1, 3), (200, .goto (-23), 3), (203, .iconst 0, 1), (204, .istore_n 1, 1), (205, .iload_n 1, 1), (206, .iconst 3, 1), (207, .if_icmp .ge 32, 3), (210, .aload_n 0, 1), (211, .getfield 32, 3), (214, .iload_n 1, 1), (215, .new 25, 3), (218, .dup, 1), (219, .invokespecial 27, 3), (222, .aastore, 1), (223, .aload_n 0, 1), (224, .getfield 32, 3), (227, .iload_n 1, 1), (228, .aaload, 1), (229, .iconst (-1), 1), (230, .putfield 84, 3), (233, .iinc 1 1, 3)]
theorem d_D_init_3 : t_D_init_3.all (fun q => decide (decode prog_1_method_1_code q.1 = .ok q.2)) = true := by decide +kernel
def t_D_init_4 : List (Nat × Instr × Nat) := [(236, .goto (-31), 3), (239, .return_, 1)]
theorem d_D_init_4 : t_D_init_4.all (fun q => decide (decode prog_1_method_1_code q.1 = .ok q.2)) = true := by decide +kernel
theorem cm_D_init : CM D_init 0 := ⟨by decide +kernel, lw_in (i := 18) (by decide +kernel) (by decide +kernel), in_D, by decide +kernel⟩
theorem ci_D_init : Cond.instanceMethod D_init.1 ∈ lw_g := lw_in (i := 17) (by decide +kernel) (by decide +kernel)
abbrev Sp_init : pY := (⟨"DoorRounds$Strip", "<init>", "(I)V"⟩, prog_8_method_1_code, 2, (Option.none : Option Jvm.ClassFile.FieldType), 1, 25)
def t_Sp_init_0 : List (Nat × Instr × Nat) := [(0, .aload_n 0, 1), (1, .invokespecial 3, 3), (4, .aload_n 0, 1), (5, .iconst (-1), 1), (6, .putfield 9, 3), (9, .aload_n 0, 1), (10, .iconst 0, 1), (11, .iload_n 1, 1), (12, .invokestatic 15, 3), (15, .newarray .int, 2), (17, .putfield 21, 3), (20, .return_, 1)]
theorem d_Sp_init_0 : t_Sp_init_0.all (fun q => decide (decode prog_8_method_1_code q.1 = .ok q.2)) = true := by decide +kernel
theorem cm_Sp_init : CM Sp_init 1 := ⟨by decide +kernel, lw_in (i := 27) (by decide +kernel) (by decide +kernel), in_Sp, by decide +kernel⟩
theorem ci_Sp_init : Cond.instanceMethod Sp_init.1 ∈ lw_g := lw_in (i := 26) (by decide +kernel) (by decide +kernel)
abbrev Sn_init : pY := (⟨"DoorRounds$Standing", "<init>", "()V"⟩, prog_7_method_1_code, 1, (Option.none : Option Jvm.ClassFile.FieldType), 1, 20)
def t_Sn_init_0 : List (Nat × Instr × Nat) := [(0, .aload_n 0, 1), (1, .invokespecial 3, 3), (4, .aload_n 0, 1), (5, .iconst 0, 1), (6, .putfield 9, 3), (9, .aload_n 0, 1), (10, .iconst 0, 1), (11, .putfield 15, 3), (14, .aload_n 0, 1), (15, .bipush 7, 2), (17, .newarray .int, 2), (19, .putfield 18, 3), (22, .return_, 1)]
theorem d_Sn_init_0 : t_Sn_init_0.all (fun q => decide (decode prog_7_method_1_code q.1 = .ok q.2)) = true := by decide +kernel
theorem cm_Sn_init : CM Sn_init 0 := ⟨by decide +kernel, lw_in (i := 47) (by decide +kernel) (by decide +kernel), in_Sn, by decide +kernel⟩
theorem ci_Sn_init : Cond.instanceMethod Sn_init.1 ∈ lw_g := lw_in (i := 46) (by decide +kernel) (by decide +kernel)
abbrev Di_init : pY := (⟨"DoorRounds$Diary", "<init>", "()V"⟩, prog_2_method_1_code, 1, (Option.none : Option Jvm.ClassFile.FieldType), 1, 20)
def t_Di_init_0 : List (Nat × Instr × Nat) := [(0, .aload_n 0, 1), (1, .invokespecial 3, 3), (4, .aload_n 0, 1), (5, .iconst 0, 1), (6, .putfield 9, 3), (9, .aload_n 0, 1), (10, .bipush 12, 2), (12, .newarray .int, 2), (14, .putfield 15, 3), (17, .aload_n 0, 1), (18, .bipush 12, 2), (20, .newarray .int, 2), (22, .putfield 19, 3), (25, .aload_n 0, 1), (26, .bipush 12, 2), (28, .newarray .int, 2), (30, .putfield 22, 3), (33, .return_, 1)]
theorem d_Di_init_0 : t_Di_init_0.all (fun q => decide (decode prog_2_method_1_code q.1 = .ok q.2)) = true := by decide +kernel
theorem cm_Di_init : CM Di_init 0 := ⟨by decide +kernel, lw_in (i := 66) (by decide +kernel) (by decide +kernel), in_Di, by decide +kernel⟩
theorem ci_Di_init : Cond.instanceMethod Di_init.1 ∈ lw_g := lw_in (i := 65) (by decide +kernel) (by decide +kernel)
abbrev Er_init : pY := (⟨"DoorRounds$Errands", "<init>", "()V"⟩, prog_3_method_1_code, 1, (Option.none : Option Jvm.ClassFile.FieldType), 1, 20)
def t_Er_init_0 : List (Nat × Instr × Nat) := [(0, .aload_n 0, 1), (1, .invokespecial 5, 3), (4, .aload_n 0, 1), (5, .sipush 128, 3), (8, .newarray .long, 2), (10, .putfield 11, 3), (13, .aload_n 0, 1), (14, .sipush 128, 3), (17, .newarray .long, 2), (19, .putfield 15, 3), (22, .return_, 1)]
theorem d_Er_init_0 : t_Er_init_0.all (fun q => decide (decode prog_3_method_1_code q.1 = .ok q.2)) = true := by decide +kernel
theorem cm_Er_init : CM Er_init 0 := ⟨by decide +kernel, lw_in (i := 86) (by decide +kernel) (by decide +kernel), in_Er, by decide +kernel⟩
theorem ci_Er_init : Cond.instanceMethod Er_init.1 ∈ lw_g := lw_in (i := 85) (by decide +kernel) (by decide +kernel)
abbrev Pl_init : pY := (⟨"DoorRounds$Plan", "<init>", "()V"⟩, prog_4_method_1_code, 2, (Option.none : Option Jvm.ClassFile.FieldType), 3, 66)
def t_Pl_init_0 : List (Nat × Instr × Nat) := [(0, .aload_n 0, 1), (1, .invokespecial 3, 3), (4, .aload_n 0, 1), (5, .iconst 0, 1), (6, .putfield 9, 3), (9, .aload_n 0, 1), (10, .iconst 0, 1), (11, .putfield 15, 3), (14, .aload_n 0, 1), (15, .bipush 7, 2), (17, .anewarray 18, 3), (20, .putfield 20, 3), (23, .aload_n 0, 1), (24, .new 18, 3), (27, .dup, 1), (28, .invokespecial 24, 3), (31, .putfield 25, 3), (34, .aload_n 0, 1), (35, .bipush 7, 2), (37, .newarray .int, 2), (39, .putfield 29, 3), (42, .aload_n 0, 1), (43, .new 33, 3), (46, .dup, 1), (47, .invokespecial 35, 3), (50, .putfield 36, 3), (53, .iconst 0, 1), (54, .istore_n 1, 1), (55, .iload_n 1, 1), (56, .bipush 7, 2)]
theorem d_Pl_init_0 : t_Pl_init_0.all (fun q => decide (decode prog_4_method_1_code q.1 = .ok q.2)) = true := by decide +kernel
def t_Pl_init_1 : List (Nat × Instr × Nat) := [(58, .if_icmp .ge 22, 3), (61, .aload_n 0, 1), (62, .getfield 20, 3), (65, .iload_n 1, 1), (66, .new 18, 3), (69, .dup, 1), (70, .invokespecial 24, 3), (73, .aastore, 1), (74, .iinc 1 1, 3), (77, .goto (-22), 3), (80, .return_, 1)]
theorem d_Pl_init_1 : t_Pl_init_1.all (fun q => decide (decode prog_4_method_1_code q.1 = .ok q.2)) = true := by decide +kernel
theorem cm_Pl_init : CM Pl_init 0 := ⟨by decide +kernel, lw_in (i := 100) (by decide +kernel) (by decide +kernel), in_Pl, by decide +kernel⟩
theorem ci_Pl_init : Cond.instanceMethod Pl_init.1 ∈ lw_g := lw_in (i := 99) (by decide +kernel) (by decide +kernel)
abbrev Sh_init : pY := (⟨"DoorRounds$Shop", "<init>", "()V"⟩, prog_6_method_1_code, 1, (Option.none : Option Jvm.ClassFile.FieldType), 1, 20)
def t_Sh_init_0 : List (Nat × Instr × Nat) := [(0, .aload_n 0, 1), (1, .invokespecial 3, 3), (4, .aload_n 0, 1), (5, .iconst 0, 1), (6, .putfield 9, 3), (9, .aload_n 0, 1), (10, .iconst 0, 1), (11, .putfield 15, 3), (14, .aload_n 0, 1), (15, .iconst 0, 1), (16, .putfield 18, 3), (19, .aload_n 0, 1), (20, .iconst 0, 1), (21, .putfield 21, 3), (24, .aload_n 0, 1), (25, .iconst 0, 1), (26, .putfield 24, 3), (29, .return_, 1)]
theorem d_Sh_init_0 : t_Sh_init_0.all (fun q => decide (decode prog_6_method_1_code q.1 = .ok q.2)) = true := by decide +kernel
theorem cm_Sh_init : CM Sh_init 0 := ⟨by decide +kernel, lw_in (i := 107) (by decide +kernel) (by decide +kernel), in_Sh, by decide +kernel⟩
theorem ci_Sh_init : Cond.instanceMethod Sh_init.1 ∈ lw_g := lw_in (i := 106) (by decide +kernel) (by decide +kernel)
abbrev Rd_init : pY := (⟨"DoorRounds$Reader", "<init>", "()V"⟩, prog_5_method_1_code, 1, (Option.none : Option Jvm.ClassFile.FieldType), 2, 46)
def t_Rd_init_0 : List (Nat × Instr × Nat) := [(0, .aload_n 0, 1), (1, .invokespecial 3, 3), (4, .aload_n 0, 1), (5, .new 9, 3), (8, .dup, 1), (9, .iconst 0, 1), (10, .invokespecial 11, 3), (13, .putfield 14, 3), (16, .aload_n 0, 1), (17, .iconst 0, 1), (18, .putfield 20, 3), (21, .aload_n 0, 1), (22, .iconst 0, 1), (23, .putfield 24, 3), (26, .return_, 1)]
theorem d_Rd_init_0 : t_Rd_init_0.all (fun q => decide (decode prog_5_method_1_code q.1 = .ok q.2)) = true := by decide +kernel
theorem cm_Rd_init : CM Rd_init 0 := ⟨by decide +kernel, lw_in (i := 141) (by decide +kernel) (by decide +kernel), in_Rd, by decide +kernel⟩
theorem ci_Rd_init : Cond.instanceMethod Rd_init.1 ∈ lw_g := lw_in (i := 140) (by decide +kernel) (by decide +kernel)
abbrev D_row : pY := (⟨"DoorRounds", "row", "(II)I"⟩, prog_1_method_2_code, 3, (Option.some Jvm.ClassFile.FieldType.int), 2, 47)
def t_D_row_0 : List (Nat × Instr × Nat) := [(0, .iload_n 1, 1), (1, .invokestatic 87, 3), (4, .ifCond .eq 9, 3), (7, .iload_n 2, 1), (8, .bipush 40, 2), (10, .if_icmp .le 5, 3), (13, .iconst (-1), 1), (14, .ireturn, 1), (15, .iload_n 2, 1), (16, .ifCond .ge 9, 3), (19, .aload_n 0, 1), (20, .iconst 5, 1), (21, .invokevirtual 91, 3), (24, .ireturn, 1), (25, .aload_n 0, 1), (26, .iload_n 1, 1), (27, .invokevirtual 95, 3), (30, .iload_n 2, 1), (31, .iconst 0, 1), (32, .invokevirtual 99, 3), (35, .iload_n 2, 1), (36, .ireturn, 1)]
theorem d_D_row_0 : t_D_row_0.all (fun q => decide (decode prog_1_method_2_code q.1 = .ok q.2)) = true := by decide +kernel
theorem cm_D_row : CM D_row 2 := ⟨by decide +kernel, lw_in (i := 233) (by decide +kernel) (by decide +kernel), in_D, by decide +kernel⟩
theorem cv_D_row : CV D_row 2 7 := ⟨cm_D_row, lw_in (i := 231) (by decide +kernel) (by decide +kernel), lw_in (i := 232) (by decide +kernel) (by decide +kernel), ⟨_, rfl, rfl⟩, by decide⟩
abbrev D_isRow : pY := (⟨"DoorRounds", "isRow", "(I)Z"⟩, prog_1_method_57_code, 1, (Option.some Jvm.ClassFile.FieldType.boolean), 0, 0)
def t_D_isRow_0 : List (Nat × Instr × Nat) := [(0, .iload_n 0, 1), (1, .ifCond .lt 13, 3), (4, .iload_n 0, 1), (5, .bipush 6, 2), (7, .if_icmp .ge 7, 3), (10, .iconst 1, 1), (11, .goto 4, 3), (14, .iconst 0, 1), (15, .ireturn, 1)]
theorem d_D_isRow_0 : t_D_isRow_0.all (fun q => decide (decode prog_1_method_57_code q.1 = .ok q.2)) = true := by decide +kernel
theorem cm_D_isRow : CM D_isRow 1 := ⟨by decide +kernel, lw_in (i := 236) (by decide +kernel) (by decide +kernel), in_D, by decide +kernel⟩
theorem cs_D_isRow : CS D_isRow 1 := ⟨cm_D_isRow, lw_in (i := 235) (by decide +kernel) (by decide +kernel)⟩
abbrev D_found : pY := (⟨"DoorRounds", "found", "(I)I"⟩, prog_1_method_54_code, 2, (Option.some Jvm.ClassFile.FieldType.int), 0, 0)
def t_D_found_0 : List (Nat × Instr × Nat) := [(0, .iload_n 1, 1), (1, .iconst 1, 1), (2, .if_icmp .lt 23, 3), (5, .iload_n 1, 1), (6, .iconst 5, 1), (7, .if_icmp .gt 18, 3), (10, .aload_n 0, 1), (11, .iload_n 1, 1), (12, .putfield 81, 3), (15, .aload_n 0, 1), (16, .getfield 56, 3), (19, .iload_n 1, 1), (20, .dup2, 1), (21, .iaload, 1), (22, .iconst 1, 1), (23, .iadd, 1), (24, .iastore, 1), (25, .bipush (-3), 2), (27, .ireturn, 1)]
theorem d_D_found_0 : t_D_found_0.all (fun q => decide (decode prog_1_method_54_code q.1 = .ok q.2)) = true := by decide +kernel
theorem cm_D_found : CM D_found 1 := ⟨by decide +kernel, lw_in (i := 240) (by decide +kernel) (by decide +kernel), in_D, by decide +kernel⟩
theorem cv_D_found : CV D_found 1 7 := ⟨cm_D_found, lw_in (i := 239) (by decide +kernel) (by decide +kernel), lw_insel (q := (⟨"DoorRounds", "found", "(I)I"⟩, 16)) (i := 0) (by decide +kernel) (by decide +kernel), ⟨_, rfl, rfl⟩, by decide⟩
abbrev D_rowOf : pY := (⟨"DoorRounds", "rowOf", "(I)LDoorRounds$Strip;"⟩, prog_1_method_62_code, 2, (Option.some (Jvm.ClassFile.FieldType.object "DoorRounds$Strip")), 1, 20)
def t_D_rowOf_0 : List (Nat × Instr × Nat) := [(0, .iload_n 1, 1), (1, .invokestatic 87, 3), (4, .ifCond .eq 12, 3), (7, .aload_n 0, 1), (8, .getfield 11, 3), (11, .iload_n 1, 1), (12, .aaload, 1), (13, .goto 7, 3), (16, .aload_n 0, 1), (17, .getfield 21, 3), (20, .areturn, 1)]
theorem d_D_rowOf_0 : t_D_rowOf_0.all (fun q => decide (decode prog_1_method_62_code q.1 = .ok q.2)) = true := by decide +kernel
theorem cm_D_rowOf : CM D_rowOf 1 := ⟨by decide +kernel, lw_in (i := 244) (by decide +kernel) (by decide +kernel), in_D, by decide +kernel⟩
theorem cv_D_rowOf : CV D_rowOf 1 7 := ⟨cm_D_rowOf, lw_in (i := 243) (by decide +kernel) (by decide +kernel), lw_insel (q := (⟨"DoorRounds", "rowOf", "(I)LDoorRounds$Strip;"⟩, 16)) (i := 1) (by decide +kernel) (by decide +kernel), ⟨_, rfl, rfl⟩, by decide⟩
abbrev Sp_renew : pY := (⟨"DoorRounds$Strip", "renew", "(II)V"⟩, prog_8_method_7_code, 3, (Option.none : Option Jvm.ClassFile.FieldType), 1, 25)
def t_Sp_renew_0 : List (Nat × Instr × Nat) := [(0, .aload_n 0, 1), (1, .iload_n 1, 1), (2, .aload_n 0, 1), (3, .getfield 21, 3), (6, .arraylength, 1), (7, .invokestatic 29, 3), (10, .putfield 9, 3), (13, .aload_n 0, 1), (14, .getfield 21, 3), (17, .iload_n 2, 1), (18, .invokestatic 32, 3), (21, .return_, 1)]
theorem d_Sp_renew_0 : t_Sp_renew_0.all (fun q => decide (decode prog_8_method_7_code q.1 = .ok q.2)) = true := by decide +kernel
theorem cm_Sp_renew : CM Sp_renew 2 := ⟨by decide +kernel, lw_in (i := 248) (by decide +kernel) (by decide +kernel), in_Sp, by decide +kernel⟩
theorem cv_Sp_renew : CV Sp_renew 2 6 := ⟨cm_Sp_renew, lw_in (i := 246) (by decide +kernel) (by decide +kernel), lw_in (i := 247) (by decide +kernel) (by decide +kernel), ⟨_, rfl, rfl⟩, by decide⟩
abbrev ja_fill : pY := (⟨"java/util/Arrays", "fill", "([II)V"⟩, prog_14_method_103_code, 4, (Option.none : Option Jvm.ClassFile.FieldType), 0, 0)
def t_ja_fill_0 : List (Nat × Instr × Nat) := [(0, .iconst 0, 1), (1, .istore_n 2, 1), (2, .aload_n 0, 1), (3, .arraylength, 1), (4, .istore_n 3, 1), (5, .iload_n 2, 1), (6, .iload_n 3, 1), (7, .if_icmp .ge 13, 3), (10, .aload_n 0, 1), (11, .iload_n 2, 1), (12, .iload_n 1, 1), (13, .iastore, 1), (14, .iinc 2 1, 3), (17, .goto (-12), 3), (20, .return_, 1)]
theorem d_ja_fill_0 : t_ja_fill_0.all (fun q => decide (decode prog_14_method_103_code q.1 = .ok q.2)) = true := by decide +kernel
theorem cm_ja_fill : CM ja_fill 2 := ⟨by decide +kernel, lw_in (i := 254) (by decide +kernel) (by decide +kernel), in_ja, by decide +kernel⟩
theorem cs_ja_fill : CS ja_fill 2 := ⟨cm_ja_fill, lw_in (i := 253) (by decide +kernel) (by decide +kernel)⟩
abbrev ja_fillJ : pY := (⟨"java/util/Arrays", "fill", "([JJ)V"⟩, prog_14_method_101_code, 5, (Option.none : Option Jvm.ClassFile.FieldType), 0, 0)
def t_ja_fillJ_0 : List (Nat × Instr × Nat) := [(0, .iconst 0, 1), (1, .istore_n 3, 1), (2, .aload_n 0, 1), (3, .arraylength, 1), (4, .istore 4, 2), (6, .iload_n 3, 1), (7, .iload 4, 2), (9, .if_icmp .ge 13, 3), (12, .aload_n 0, 1), (13, .iload_n 3, 1), (14, .lload_n 1, 1), (15, .lastore, 1), (16, .iinc 3 1, 3), (19, .goto (-13), 3), (22, .return_, 1)]
theorem d_ja_fillJ_0 : t_ja_fillJ_0.all (fun q => decide (decode prog_14_method_101_code q.1 = .ok q.2)) = true := by decide +kernel
theorem cm_ja_fillJ : CM ja_fillJ 2 := ⟨by decide +kernel, lw_in (i := 642) (by decide +kernel) (by decide +kernel), in_ja, by decide +kernel⟩
theorem cs_ja_fillJ : CS ja_fillJ 2 := ⟨cm_ja_fillJ, lw_in (i := 641) (by decide +kernel) (by decide +kernel)⟩
abbrev D_lay : pY := (⟨"DoorRounds", "lay", "(III)I"⟩, prog_1_method_3_code, 7, (Option.some Jvm.ClassFile.FieldType.int), 2, 43)
def t_D_lay_0 : List (Nat × Instr × Nat) := [(0, .iload_n 1, 1), (1, .invokestatic 87, 3), (4, .ifCond .ne 5, 3), (7, .iconst (-1), 1), (8, .ireturn, 1), (9, .aload_n 0, 1), (10, .iload_n 1, 1), (11, .invokevirtual 95, 3), (14, .astore 4, 2), (16, .aload 4, 2), (18, .iload_n 2, 1), (19, .invokestatic 103, 3), (22, .istore 5, 2), (24, .iload 5, 2), (26, .ifCond .eq 10, 3), (29, .aload_n 0, 1), (30, .iload 5, 2), (32, .invokevirtual 91, 3), (35, .ireturn, 1), (36, .aload 4, 2), (38, .iload_n 2, 1), (39, .invokevirtual 107, 3), (42, .istore 6, 2), (44, .aload 4, 2), (46, .iload_n 2, 1), (47, .iload_n 3, 1), (48, .invokevirtual 110, 3), (51, .aload_n 0, 1), (52, .iload 6, 2), (54, .iconst 1, 1)]
theorem d_D_lay_0 : t_D_lay_0.all (fun q => decide (decode prog_1_method_3_code q.1 = .ok q.2)) = true := by decide +kernel
def t_D_lay_1 : List (Nat × Instr × Nat) := [(55, .invokevirtual 113, 3), (58, .ireturn, 1)]
theorem d_D_lay_1 : t_D_lay_1.all (fun q => decide (decode prog_1_method_3_code q.1 = .ok q.2)) = true := by decide +kernel
theorem cm_D_lay : CM D_lay 3 := ⟨by decide +kernel, lw_in (i := 258) (by decide +kernel) (by decide +kernel), in_D, by decide +kernel⟩
theorem cv_D_lay : CV D_lay 3 7 := ⟨cm_D_lay, lw_in (i := 256) (by decide +kernel) (by decide +kernel), lw_in (i := 257) (by decide +kernel) (by decide +kernel), ⟨_, rfl, rfl⟩, by decide⟩
abbrev D_placeFinding : pY := (⟨"DoorRounds", "placeFinding", "(LDoorRounds$Strip;I)I"⟩, prog_1_method_65_code, 2, (Option.some Jvm.ClassFile.FieldType.int), 1, 21)
def t_D_placeFinding_0 : List (Nat × Instr × Nat) := [(0, .aload_n 0, 1), (1, .invokevirtual 117, 3), (4, .ifCond .ne 5, 3), (7, .iconst 1, 1), (8, .ireturn, 1), (9, .aload_n 0, 1), (10, .iload_n 1, 1), (11, .invokevirtual 341, 3), (14, .ifCond .eq 7, 3), (17, .iconst 0, 1), (18, .goto 4, 3), (21, .iconst 2, 1), (22, .ireturn, 1)]
theorem d_D_placeFinding_0 : t_D_placeFinding_0.all (fun q => decide (decode prog_1_method_65_code q.1 = .ok q.2)) = true := by decide +kernel
theorem cm_D_placeFinding : CM D_placeFinding 2 := ⟨by decide +kernel, lw_in (i := 261) (by decide +kernel) (by decide +kernel), in_D, by decide +kernel⟩
theorem cs_D_placeFinding : CS D_placeFinding 2 := ⟨cm_D_placeFinding, lw_in (i := 260) (by decide +kernel) (by decide +kernel)⟩
abbrev Sp_isThere : pY := (⟨"DoorRounds$Strip", "isThere", "()Z"⟩, prog_8_method_2_code, 1, (Option.some Jvm.ClassFile.FieldType.boolean), 0, 0)
def t_Sp_isThere_0 : List (Nat × Instr × Nat) := [(0, .aload_n 0, 1), (1, .getfield 9, 3), (4, .ifCond .lt 7, 3), (7, .iconst 1, 1), (8, .goto 4, 3), (11, .iconst 0, 1), (12, .ireturn, 1)]
theorem d_Sp_isThere_0 : t_Sp_isThere_0.all (fun q => decide (decode prog_8_method_2_code q.1 = .ok q.2)) = true := by decide +kernel
theorem cm_Sp_isThere : CM Sp_isThere 0 := ⟨by decide +kernel, lw_in (i := 265) (by decide +kernel) (by decide +kernel), in_Sp, by decide +kernel⟩
theorem cv_Sp_isThere : CV Sp_isThere 0 6 := ⟨cm_Sp_isThere, lw_in (i := 263) (by decide +kernel) (by decide +kernel), lw_in (i := 264) (by decide +kernel) (by decide +kernel), ⟨_, rfl, rfl⟩, by decide⟩
abbrev Sp_has : pY := (⟨"DoorRounds$Strip", "has", "(I)Z"⟩, prog_8_method_3_code, 2, (Option.some Jvm.ClassFile.FieldType.boolean), 0, 0)
def t_Sp_has_0 : List (Nat × Instr × Nat) := [(0, .iload_n 1, 1), (1, .ifCond .lt 24, 3), (4, .iload_n 1, 1), (5, .aload_n 0, 1), (6, .getfield 9, 3), (9, .if_icmp .ge 16, 3), (12, .iload_n 1, 1), (13, .aload_n 0, 1), (14, .getfield 21, 3), (17, .arraylength, 1), (18, .if_icmp .ge 7, 3), (21, .iconst 1, 1), (22, .goto 4, 3), (25, .iconst 0, 1), (26, .ireturn, 1)]
theorem d_Sp_has_0 : t_Sp_has_0.all (fun q => decide (decode prog_8_method_3_code q.1 = .ok q.2)) = true := by decide +kernel
theorem cm_Sp_has : CM Sp_has 1 := ⟨by decide +kernel, lw_in (i := 269) (by decide +kernel) (by decide +kernel), in_Sp, by decide +kernel⟩
theorem cv_Sp_has : CV Sp_has 1 6 := ⟨cm_Sp_has, lw_in (i := 267) (by decide +kernel) (by decide +kernel), lw_in (i := 268) (by decide +kernel) (by decide +kernel), ⟨_, rfl, rfl⟩, by decide⟩
abbrev Sp_get : pY := (⟨"DoorRounds$Strip", "get", "(I)I"⟩, prog_8_method_5_code, 2, (Option.some Jvm.ClassFile.FieldType.int), 1, 21)
def t_Sp_get_0 : List (Nat × Instr × Nat) := [(0, .aload_n 0, 1), (1, .iload_n 1, 1), (2, .invokevirtual 25, 3), (5, .ifCond .eq 12, 3), (8, .aload_n 0, 1), (9, .getfield 21, 3), (12, .iload_n 1, 1), (13, .iaload, 1), (14, .goto 4, 3), (17, .iconst 0, 1), (18, .ireturn, 1)]
theorem d_Sp_get_0 : t_Sp_get_0.all (fun q => decide (decode prog_8_method_5_code q.1 = .ok q.2)) = true := by decide +kernel
theorem cm_Sp_get : CM Sp_get 1 := ⟨by decide +kernel, lw_in (i := 273) (by decide +kernel) (by decide +kernel), in_Sp, by decide +kernel⟩
theorem cv_Sp_get : CV Sp_get 1 6 := ⟨cm_Sp_get, lw_in (i := 271) (by decide +kernel) (by decide +kernel), lw_in (i := 272) (by decide +kernel) (by decide +kernel), ⟨_, rfl, rfl⟩, by decide⟩
abbrev Sp_set : pY := (⟨"DoorRounds$Strip", "set", "(II)V"⟩, prog_8_method_6_code, 3, (Option.none : Option Jvm.ClassFile.FieldType), 1, 21)
def t_Sp_set_0 : List (Nat × Instr × Nat) := [(0, .aload_n 0, 1), (1, .iload_n 1, 1), (2, .invokevirtual 25, 3), (5, .ifCond .eq 10, 3), (8, .aload_n 0, 1), (9, .getfield 21, 3), (12, .iload_n 1, 1), (13, .iload_n 2, 1), (14, .iastore, 1), (15, .return_, 1)]
theorem d_Sp_set_0 : t_Sp_set_0.all (fun q => decide (decode prog_8_method_6_code q.1 = .ok q.2)) = true := by decide +kernel
theorem cm_Sp_set : CM Sp_set 2 := ⟨by decide +kernel, lw_in (i := 278) (by decide +kernel) (by decide +kernel), in_Sp, by decide +kernel⟩
theorem cv_Sp_set : CV Sp_set 2 6 := ⟨cm_Sp_set, lw_in (i := 276) (by decide +kernel) (by decide +kernel), lw_in (i := 277) (by decide +kernel) (by decide +kernel), ⟨_, rfl, rfl⟩, by decide⟩
abbrev D_tell : pY := (⟨"DoorRounds", "tell", "(II)I"⟩, prog_1_method_55_code, 3, (Option.some Jvm.ClassFile.FieldType.int), 0, 0)
def t_D_tell_0 : List (Nat × Instr × Nat) := [(0, .aload_n 0, 1), (1, .iload_n 1, 1), (2, .putfield 70, 3), (5, .iload_n 2, 1), (6, .ireturn, 1)]
theorem d_D_tell_0 : t_D_tell_0.all (fun q => decide (decode prog_1_method_55_code q.1 = .ok q.2)) = true := by decide +kernel
theorem cm_D_tell : CM D_tell 2 := ⟨by decide +kernel, lw_in (i := 282) (by decide +kernel) (by decide +kernel), in_D, by decide +kernel⟩
theorem cv_D_tell : CV D_tell 2 7 := ⟨cm_D_tell, lw_in (i := 281) (by decide +kernel) (by decide +kernel), lw_insel (q := (⟨"DoorRounds", "tell", "(II)I"⟩, 16)) (i := 2) (by decide +kernel) (by decide +kernel), ⟨_, rfl, rfl⟩, by decide⟩
abbrev D_at : pY := (⟨"DoorRounds", "at", "(II)I"⟩, prog_1_method_4_code, 5, (Option.some Jvm.ClassFile.FieldType.int), 2, 42)
def t_D_at_0 : List (Nat × Instr × Nat) := [(0, .iload_n 1, 1), (1, .invokestatic 87, 3), (4, .ifCond .ne 5, 3), (7, .iconst (-1), 1), (8, .ireturn, 1), (9, .aload_n 0, 1), (10, .iload_n 1, 1), (11, .invokevirtual 95, 3), (14, .astore_n 3, 1), (15, .aload_n 3, 1), (16, .iload_n 2, 1), (17, .invokestatic 103, 3), (20, .istore 4, 2), (22, .iload 4, 2), (24, .ifCond .eq 12, 3), (27, .aload_n 0, 1), (28, .iload 4, 2), (30, .invokevirtual 91, 3), (33, .goto 13, 3), (36, .aload_n 0, 1), (37, .aload_n 3, 1), (38, .iload_n 2, 1), (39, .invokevirtual 107, 3), (42, .iconst 1, 1), (43, .invokevirtual 113, 3), (46, .ireturn, 1)]
theorem d_D_at_0 : t_D_at_0.all (fun q => decide (decode prog_1_method_4_code q.1 = .ok q.2)) = true := by decide +kernel
theorem cm_D_at : CM D_at 2 := ⟨by decide +kernel, lw_in (i := 286) (by decide +kernel) (by decide +kernel), in_D, by decide +kernel⟩
theorem cv_D_at : CV D_at 2 7 := ⟨cm_D_at, lw_in (i := 284) (by decide +kernel) (by decide +kernel), lw_in (i := 285) (by decide +kernel) (by decide +kernel), ⟨_, rfl, rfl⟩, by decide⟩
abbrev D_tear : pY := (⟨"DoorRounds", "tear", "(I)I"⟩, prog_1_method_5_code, 3, (Option.some Jvm.ClassFile.FieldType.int), 2, 41)
def t_D_tear_0 : List (Nat × Instr × Nat) := [(0, .iload_n 1, 1), (1, .invokestatic 87, 3), (4, .ifCond .ne 5, 3), (7, .iconst (-1), 1), (8, .ireturn, 1), (9, .aload_n 0, 1), (10, .iload_n 1, 1), (11, .invokevirtual 95, 3), (14, .astore_n 2, 1), (15, .aload_n 2, 1), (16, .invokevirtual 117, 3), (19, .ifCond .ne 9, 3), (22, .aload_n 0, 1), (23, .iconst 1, 1), (24, .invokevirtual 91, 3), (27, .ireturn, 1), (28, .aload_n 2, 1), (29, .iconst (-1), 1), (30, .putfield 121, 3), (33, .iconst 1, 1), (34, .ireturn, 1)]
theorem d_D_tear_0 : t_D_tear_0.all (fun q => decide (decode prog_1_method_5_code q.1 = .ok q.2)) = true := by decide +kernel
theorem cm_D_tear : CM D_tear 1 := ⟨by decide +kernel, lw_in (i := 290) (by decide +kernel) (by decide +kernel), in_D, by decide +kernel⟩
theorem cv_D_tear : CV D_tear 1 7 := ⟨cm_D_tear, lw_in (i := 288) (by decide +kernel) (by decide +kernel), lw_in (i := 289) (by decide +kernel) (by decide +kernel), ⟨_, rfl, rfl⟩, by decide⟩
abbrev D_copy : pY := (⟨"DoorRounds", "copy", "(IIIII)I"⟩, prog_1_method_6_code, 8, (Option.some Jvm.ClassFile.FieldType.int), 2, 41)
def t_D_copy_0 : List (Nat × Instr × Nat) := [(0, .iload_n 1, 1), (1, .invokestatic 87, 3), (4, .ifCond .eq 10, 3), (7, .iload_n 3, 1), (8, .invokestatic 87, 3), (11, .ifCond .ne 5, 3), (14, .iconst (-1), 1), (15, .ireturn, 1), (16, .iload 5, 2), (18, .ifCond .ge 9, 3), (21, .aload_n 0, 1), (22, .iconst 5, 1), (23, .invokevirtual 91, 3), (26, .ireturn, 1), (27, .aload_n 0, 1), (28, .iload_n 1, 1), (29, .invokevirtual 95, 3), (32, .astore 6, 2), (34, .aload_n 0, 1), (35, .iload_n 3, 1), (36, .invokevirtual 95, 3), (39, .astore 7, 2), (41, .aload 6, 2), (43, .invokevirtual 117, 3), (46, .ifCond .eq 11, 3), (49, .aload 7, 2), (51, .invokevirtual 117, 3), (54, .ifCond .ne 9, 3), (57, .aload_n 0, 1), (58, .iconst 1, 1)]
theorem d_D_copy_0 : t_D_copy_0.all (fun q => decide (decode prog_1_method_6_code q.1 = .ok q.2)) = true := by decide +kernel
def t_D_copy_1 : List (Nat × Instr × Nat) := [(59, .invokevirtual 91, 3), (62, .ireturn, 1), (63, .aload 6, 2), (65, .iload_n 2, 1), (66, .iload 5, 2), (68, .invokevirtual 124, 3), (71, .ifCond .eq 15, 3), (74, .aload 7, 2), (76, .iload 4, 2), (78, .iload 5, 2), (80, .invokevirtual 124, 3), (83, .ifCond .ne 9, 3), (86, .aload_n 0, 1), (87, .iconst 2, 1), (88, .invokevirtual 91, 3), (91, .ireturn, 1), (92, .aload 6, 2), (94, .getfield 128, 3), (97, .iload_n 2, 1), (98, .aload 7, 2), (100, .getfield 128, 3), (103, .iload 4, 2), (105, .iload 5, 2), (107, .invokestatic 131, 3), (110, .iconst 1, 1), (111, .ireturn, 1)]
theorem d_D_copy_1 : t_D_copy_1.all (fun q => decide (decode prog_1_method_6_code q.1 = .ok q.2)) = true := by decide +kernel
theorem cm_D_copy : CM D_copy 5 := ⟨by decide +kernel, lw_in (i := 294) (by decide +kernel) (by decide +kernel), in_D, by decide +kernel⟩
theorem cv_D_copy : CV D_copy 5 7 := ⟨cm_D_copy, lw_in (i := 292) (by decide +kernel) (by decide +kernel), lw_in (i := 293) (by decide +kernel) (by decide +kernel), ⟨_, rfl, rfl⟩, by decide⟩
abbrev Sp_holds : pY := (⟨"DoorRounds$Strip", "holds", "(II)Z"⟩, prog_8_method_4_code, 3, (Option.some Jvm.ClassFile.FieldType.boolean), 0, 0)
def t_Sp_holds_0 : List (Nat × Instr × Nat) := [(0, .iload_n 1, 1), (1, .ifCond .lt 21, 3), (4, .iload_n 2, 1), (5, .ifCond .lt 17, 3), (8, .iload_n 1, 1), (9, .aload_n 0, 1), (10, .getfield 9, 3), (13, .iload_n 2, 1), (14, .isub, 1), (15, .if_icmp .gt 7, 3), (18, .iconst 1, 1), (19, .goto 4, 3), (22, .iconst 0, 1), (23, .ireturn, 1)]
theorem d_Sp_holds_0 : t_Sp_holds_0.all (fun q => decide (decode prog_8_method_4_code q.1 = .ok q.2)) = true := by decide +kernel
theorem cm_Sp_holds : CM Sp_holds 2 := ⟨by decide +kernel, lw_in (i := 298) (by decide +kernel) (by decide +kernel), in_Sp, by decide +kernel⟩
theorem cv_Sp_holds : CV Sp_holds 2 6 := ⟨cm_Sp_holds, lw_in (i := 296) (by decide +kernel) (by decide +kernel), lw_in (i := 297) (by decide +kernel) (by decide +kernel), ⟨_, rfl, rfl⟩, by decide⟩
abbrev D_mean : pY := (⟨"DoorRounds", "mean", "(I)I"⟩, prog_1_method_7_code, 4, (Option.some Jvm.ClassFile.FieldType.int), 3, 65)
def t_D_mean_0 : List (Nat × Instr × Nat) := [(0, .iload_n 1, 1), (1, .invokestatic 87, 3), (4, .ifCond .ne 5, 3), (7, .iconst (-1), 1), (8, .ireturn, 1), (9, .aload_n 0, 1), (10, .iload_n 1, 1), (11, .invokevirtual 95, 3), (14, .astore_n 2, 1), (15, .aload_n 2, 1), (16, .invokevirtual 117, 3), (19, .ifCond .ne 9, 3), (22, .aload_n 0, 1), (23, .iconst 1, 1), (24, .invokevirtual 91, 3), (27, .ireturn, 1), (28, .aload_n 2, 1), (29, .getfield 121, 3), (32, .istore_n 3, 1), (33, .iload_n 3, 1), (34, .ifCond .gt 9, 3), (37, .aload_n 0, 1), (38, .iconst 4, 1), (39, .invokevirtual 91, 3), (42, .ireturn, 1), (43, .aload_n 0, 1), (44, .aload_n 2, 1), (45, .invokevirtual 137, 3), (48, .iload_n 3, 1), (49, .i2l, 1)]
theorem d_D_mean_0 : t_D_mean_0.all (fun q => decide (decode prog_1_method_7_code q.1 = .ok q.2)) = true := by decide +kernel
def t_D_mean_1 : List (Nat × Instr × Nat) := [(50, .ldiv, 1), (51, .l2i, 1), (52, .iconst 1, 1), (53, .invokevirtual 113, 3), (56, .ireturn, 1)]
theorem d_D_mean_1 : t_D_mean_1.all (fun q => decide (decode prog_1_method_7_code q.1 = .ok q.2)) = true := by decide +kernel
theorem cm_D_mean : CM D_mean 1 := ⟨by decide +kernel, lw_in (i := 305) (by decide +kernel) (by decide +kernel), in_D, by decide +kernel⟩
theorem cv_D_mean : CV D_mean 1 7 := ⟨cm_D_mean, lw_in (i := 303) (by decide +kernel) (by decide +kernel), lw_in (i := 304) (by decide +kernel) (by decide +kernel), ⟨_, rfl, rfl⟩, by decide⟩
abbrev Sp_sum : pY := (⟨"DoorRounds$Strip", "sum", "()J"⟩, prog_8_method_8_code, 4, (Option.some Jvm.ClassFile.FieldType.long), 2, 42)
def t_Sp_sum_0 : List (Nat × Instr × Nat) := [(0, .lconst 0, 1), (1, .lstore_n 1, 1), (2, .iconst 0, 1), (3, .istore_n 3, 1), (4, .iload_n 3, 1), (5, .aload_n 0, 1), (6, .getfield 9, 3), (9, .if_icmp .ge 18, 3), (12, .lload_n 1, 1), (13, .aload_n 0, 1), (14, .iload_n 3, 1), (15, .invokevirtual 38, 3), (18, .i2l, 1), (19, .ladd, 1), (20, .lstore_n 1, 1), (21, .iinc 3 1, 3), (24, .goto (-20), 3), (27, .lload_n 1, 1), (28, .lreturn, 1)]
theorem d_Sp_sum_0 : t_Sp_sum_0.all (fun q => decide (decode prog_8_method_8_code q.1 = .ok q.2)) = true := by decide +kernel
theorem cm_Sp_sum : CM Sp_sum 0 := ⟨by decide +kernel, lw_in (i := 309) (by decide +kernel) (by decide +kernel), in_Sp, by decide +kernel⟩
theorem cv_Sp_sum : CV Sp_sum 0 6 := ⟨cm_Sp_sum, lw_in (i := 307) (by decide +kernel) (by decide +kernel), lw_in (i := 308) (by decide +kernel) (by decide +kernel), ⟨_, rfl, rfl⟩, by decide⟩
abbrev D_text : pY := (⟨"DoorRounds", "text", "(II)I"⟩, prog_1_method_8_code, 3, (Option.some Jvm.ClassFile.FieldType.int), 2, 47)
def t_D_text_0 : List (Nat × Instr × Nat) := [(0, .iload_n 1, 1), (1, .invokestatic 141, 3), (4, .ifCond .eq 9, 3), (7, .iload_n 2, 1), (8, .bipush 100, 2), (10, .if_icmp .le 5, 3), (13, .iconst (-1), 1), (14, .ireturn, 1), (15, .iload_n 2, 1), (16, .ifCond .ge 9, 3), (19, .aload_n 0, 1), (20, .iconst 5, 1), (21, .invokevirtual 91, 3), (24, .ireturn, 1), (25, .aload_n 0, 1), (26, .iload_n 1, 1), (27, .invokevirtual 144, 3), (30, .iload_n 2, 1), (31, .bipush 32, 2), (33, .invokevirtual 99, 3), (36, .iload_n 2, 1), (37, .ireturn, 1)]
theorem d_D_text_0 : t_D_text_0.all (fun q => decide (decode prog_1_method_8_code q.1 = .ok q.2)) = true := by decide +kernel
theorem cm_D_text : CM D_text 2 := ⟨by decide +kernel, lw_in (i := 314) (by decide +kernel) (by decide +kernel), in_D, by decide +kernel⟩
theorem cv_D_text : CV D_text 2 7 := ⟨cm_D_text, lw_in (i := 312) (by decide +kernel) (by decide +kernel), lw_in (i := 313) (by decide +kernel) (by decide +kernel), ⟨_, rfl, rfl⟩, by decide⟩
abbrev D_isText : pY := (⟨"DoorRounds", "isText", "(I)Z"⟩, prog_1_method_58_code, 1, (Option.some Jvm.ClassFile.FieldType.boolean), 0, 0)
def t_D_isText_0 : List (Nat × Instr × Nat) := [(0, .iload_n 0, 1), (1, .ifCond .lt 12, 3), (4, .iload_n 0, 1), (5, .iconst 4, 1), (6, .if_icmp .ge 7, 3), (9, .iconst 1, 1), (10, .goto 4, 3), (13, .iconst 0, 1), (14, .ireturn, 1)]
theorem d_D_isText_0 : t_D_isText_0.all (fun q => decide (decode prog_1_method_58_code q.1 = .ok q.2)) = true := by decide +kernel
theorem cm_D_isText : CM D_isText 1 := ⟨by decide +kernel, lw_in (i := 317) (by decide +kernel) (by decide +kernel), in_D, by decide +kernel⟩
theorem cs_D_isText : CS D_isText 1 := ⟨cm_D_isText, lw_in (i := 316) (by decide +kernel) (by decide +kernel)⟩
abbrev D_textOf : pY := (⟨"DoorRounds", "textOf", "(I)LDoorRounds$Strip;"⟩, prog_1_method_63_code, 2, (Option.some (Jvm.ClassFile.FieldType.object "DoorRounds$Strip")), 1, 20)
def t_D_textOf_0 : List (Nat × Instr × Nat) := [(0, .iload_n 1, 1), (1, .invokestatic 141, 3), (4, .ifCond .eq 12, 3), (7, .aload_n 0, 1), (8, .getfield 15, 3), (11, .iload_n 1, 1), (12, .aaload, 1), (13, .goto 7, 3), (16, .aload_n 0, 1), (17, .getfield 21, 3), (20, .areturn, 1)]
theorem d_D_textOf_0 : t_D_textOf_0.all (fun q => decide (decode prog_1_method_63_code q.1 = .ok q.2)) = true := by decide +kernel
theorem cm_D_textOf : CM D_textOf 1 := ⟨by decide +kernel, lw_in (i := 321) (by decide +kernel) (by decide +kernel), in_D, by decide +kernel⟩
theorem cv_D_textOf : CV D_textOf 1 7 := ⟨cm_D_textOf, lw_in (i := 320) (by decide +kernel) (by decide +kernel), lw_insel (q := (⟨"DoorRounds", "textOf", "(I)LDoorRounds$Strip;"⟩, 16)) (i := 3) (by decide +kernel) (by decide +kernel), ⟨_, rfl, rfl⟩, by decide⟩
abbrev D_put : pY := (⟨"DoorRounds", "put", "(III)I"⟩, prog_1_method_9_code, 7, (Option.some Jvm.ClassFile.FieldType.int), 2, 43)
def t_D_put_0 : List (Nat × Instr × Nat) := [(0, .iload_n 1, 1), (1, .invokestatic 141, 3), (4, .ifCond .ne 5, 3), (7, .iconst (-1), 1), (8, .ireturn, 1), (9, .aload_n 0, 1), (10, .iload_n 1, 1), (11, .invokevirtual 144, 3), (14, .astore 4, 2), (16, .aload 4, 2), (18, .iload_n 2, 1), (19, .invokestatic 103, 3), (22, .istore 5, 2), (24, .iload 5, 2), (26, .ifCond .eq 10, 3), (29, .aload_n 0, 1), (30, .iload 5, 2), (32, .invokevirtual 91, 3), (35, .ireturn, 1), (36, .aload 4, 2), (38, .iload_n 2, 1), (39, .invokevirtual 107, 3), (42, .istore 6, 2), (44, .aload 4, 2), (46, .iload_n 2, 1), (47, .iload_n 3, 1), (48, .i2b, 1), (49, .invokevirtual 110, 3), (52, .iload 6, 2), (54, .sipush 1000, 3)]
theorem d_D_put_0 : t_D_put_0.all (fun q => decide (decode prog_1_method_9_code q.1 = .ok q.2)) = true := by decide +kernel
def t_D_put_1 : List (Nat × Instr × Nat) := [(57, .iadd, 1), (58, .ireturn, 1)]
theorem d_D_put_1 : t_D_put_1.all (fun q => decide (decode prog_1_method_9_code q.1 = .ok q.2)) = true := by decide +kernel
theorem cm_D_put : CM D_put 3 := ⟨by decide +kernel, lw_in (i := 325) (by decide +kernel) (by decide +kernel), in_D, by decide +kernel⟩
theorem cv_D_put : CV D_put 3 7 := ⟨cm_D_put, lw_in (i := 323) (by decide +kernel) (by decide +kernel), lw_in (i := 324) (by decide +kernel) (by decide +kernel), ⟨_, rfl, rfl⟩, by decide⟩
abbrev D_fault : pY := (⟨"DoorRounds", "fault", "(I)I"⟩, prog_1_method_10_code, 3, (Option.some Jvm.ClassFile.FieldType.int), 6, 131)
def t_D_fault_0 : List (Nat × Instr × Nat) := [(0, .iload_n 1, 1), (1, .invokestatic 141, 3), (4, .ifCond .ne 5, 3), (7, .iconst (-1), 1), (8, .ireturn, 1), (9, .aload_n 0, 1), (10, .iload_n 1, 1), (11, .invokevirtual 144, 3), (14, .astore_n 2, 1), (15, .aload_n 2, 1), (16, .invokevirtual 117, 3), (19, .ifCond .eq 14, 3), (22, .aload_n 0, 1), (23, .getfield 67, 3), (26, .aload_n 2, 1), (27, .invokevirtual 147, 3), (30, .goto 8, 3), (33, .aload_n 0, 1), (34, .iconst 1, 1), (35, .invokevirtual 91, 3), (38, .ireturn, 1)]
theorem d_D_fault_0 : t_D_fault_0.all (fun q => decide (decode prog_1_method_10_code q.1 = .ok q.2)) = true := by decide +kernel
theorem cm_D_fault : CM D_fault 1 := ⟨by decide +kernel, lw_in (i := 329) (by decide +kernel) (by decide +kernel), in_D, by decide +kernel⟩
theorem cv_D_fault : CV D_fault 1 7 := ⟨cm_D_fault, lw_in (i := 327) (by decide +kernel) (by decide +kernel), lw_in (i := 328) (by decide +kernel) (by decide +kernel), ⟨_, rfl, rfl⟩, by decide⟩
abbrev Pl_read : pY := (⟨"DoorRounds$Plan", "read", "(LDoorRounds$Strip;)I"⟩, prog_4_method_14_code, 3, (Option.some Jvm.ClassFile.FieldType.int), 5, 109)
def t_Pl_read_0 : List (Nat × Instr × Nat) := [(0, .aload_n 0, 1), (1, .iconst 0, 1), (2, .putfield 9, 3), (5, .aload_n 0, 1), (6, .iconst 0, 1), (7, .putfield 15, 3), (10, .aload_n 0, 1), (11, .getfield 36, 3), (14, .aload_n 1, 1), (15, .invokevirtual 75, 3), (18, .aload_n 0, 1), (19, .getfield 36, 3), (22, .invokevirtual 79, 3), (25, .aload_n 0, 1), (26, .getfield 36, 3), (29, .bipush 100, 2), (31, .invokevirtual 82, 3), (34, .ifCond .eq 19, 3), (37, .aload_n 0, 1), (38, .getfield 36, 3), (41, .iconst 2, 1), (42, .iconst 2, 1), (43, .bipush 10, 2), (45, .bipush 30, 2), (47, .invokevirtual 85, 3), (50, .ifCond .ne 11, 3), (53, .aload_n 0, 1), (54, .getfield 36, 3), (57, .getfield 89, 3), (60, .ireturn, 1)]
theorem d_Pl_read_0 : t_Pl_read_0.all (fun q => decide (decode prog_4_method_14_code q.1 = .ok q.2)) = true := by decide +kernel
def t_Pl_read_1 : List (Nat × Instr × Nat) := [(61, .aload_n 0, 1), (62, .aload_n 0, 1), (63, .getfield 36, 3), (66, .getfield 92, 3), (69, .putfield 9, 3), (72, .aload_n 0, 1), (73, .getfield 36, 3), (76, .invokevirtual 79, 3), (79, .iconst 0, 1), (80, .istore_n 2, 1), (81, .iload_n 2, 1), (82, .bipush 7, 2), (84, .if_icmp .ge 54, 3), (87, .aload_n 0, 1), (88, .getfield 36, 3), (91, .invokevirtual 95, 3), (94, .ifCond .ne 44, 3), (97, .aload_n 0, 1), (98, .aload_n 0, 1), (99, .getfield 20, 3), (102, .iload_n 2, 1), (103, .aaload, 1), (104, .invokevirtual 99, 3), (107, .ifCond .ne 11, 3), (110, .aload_n 0, 1), (111, .getfield 36, 3), (114, .getfield 89, 3), (117, .ireturn, 1), (118, .aload_n 0, 1), (119, .iload_n 2, 1)]
theorem d_Pl_read_1 : t_Pl_read_1.all (fun q => decide (decode prog_4_method_14_code q.1 = .ok q.2)) = true := by decide +kernel
def t_Pl_read_2 : List (Nat × Instr × Nat) := [(120, .iconst 1, 1), (121, .iadd, 1), (122, .putfield 15, 3), (125, .aload_n 0, 1), (126, .getfield 36, 3), (129, .invokevirtual 79, 3), (132, .iinc 2 1, 3), (135, .goto (-54), 3), (138, .aload_n 0, 1), (139, .getfield 36, 3), (142, .invokevirtual 95, 3), (145, .ifCond .eq 8, 3), (148, .bipush (-9), 2), (150, .goto 10, 3), (153, .aload_n 0, 1), (154, .getfield 36, 3), (157, .getfield 89, 3), (160, .ireturn, 1)]
theorem d_Pl_read_2 : t_Pl_read_2.all (fun q => decide (decode prog_4_method_14_code q.1 = .ok q.2)) = true := by decide +kernel
theorem cm_Pl_read : CM Pl_read 1 := ⟨by decide +kernel, lw_in (i := 333) (by decide +kernel) (by decide +kernel), in_Pl, by decide +kernel⟩
theorem cv_Pl_read : CV Pl_read 1 2 := ⟨cm_Pl_read, lw_in (i := 331) (by decide +kernel) (by decide +kernel), lw_in (i := 332) (by decide +kernel) (by decide +kernel), ⟨_, rfl, rfl⟩, by decide⟩
abbrev Rd_begin : pY := (⟨"DoorRounds$Reader", "begin", "(LDoorRounds$Strip;)V"⟩, prog_5_method_2_code, 2, (Option.none : Option Jvm.ClassFile.FieldType), 0, 0)
def t_Rd_begin_0 : List (Nat × Instr × Nat) := [(0, .aload_n 0, 1), (1, .aload_n 1, 1), (2, .putfield 14, 3), (5, .aload_n 0, 1), (6, .iconst 0, 1), (7, .putfield 20, 3), (10, .return_, 1)]
theorem d_Rd_begin_0 : t_Rd_begin_0.all (fun q => decide (decode prog_5_method_2_code q.1 = .ok q.2)) = true := by decide +kernel
theorem cm_Rd_begin : CM Rd_begin 1 := ⟨by decide +kernel, lw_in (i := 337) (by decide +kernel) (by decide +kernel), in_Rd, by decide +kernel⟩
theorem cv_Rd_begin : CV Rd_begin 1 3 := ⟨cm_Rd_begin, lw_in (i := 335) (by decide +kernel) (by decide +kernel), lw_in (i := 336) (by decide +kernel) (by decide +kernel), ⟨_, rfl, rfl⟩, by decide⟩
abbrev Rd_skipBlanks : pY := (⟨"DoorRounds$Reader", "skipBlanks", "()V"⟩, prog_5_method_4_code, 1, (Option.none : Option Jvm.ClassFile.FieldType), 2, 42)
def t_Rd_skipBlanks_0 : List (Nat × Instr × Nat) := [(0, .aload_n 0, 1), (1, .getfield 20, 3), (4, .aload_n 0, 1), (5, .getfield 14, 3), (8, .getfield 27, 3), (11, .if_icmp .ge 32, 3), (14, .aload_n 0, 1), (15, .getfield 14, 3), (18, .aload_n 0, 1), (19, .getfield 20, 3), (22, .invokevirtual 30, 3), (25, .bipush 32, 2), (27, .if_icmp .ne 16, 3), (30, .aload_n 0, 1), (31, .dup, 1), (32, .getfield 20, 3), (35, .iconst 1, 1), (36, .iadd, 1), (37, .putfield 20, 3), (40, .goto (-40), 3), (43, .return_, 1)]
theorem d_Rd_skipBlanks_0 : t_Rd_skipBlanks_0.all (fun q => decide (decode prog_5_method_4_code q.1 = .ok q.2)) = true := by decide +kernel
theorem cm_Rd_skipBlanks : CM Rd_skipBlanks 0 := ⟨by decide +kernel, lw_in (i := 341) (by decide +kernel) (by decide +kernel), in_Rd, by decide +kernel⟩
theorem cv_Rd_skipBlanks : CV Rd_skipBlanks 0 3 := ⟨cm_Rd_skipBlanks, lw_in (i := 339) (by decide +kernel) (by decide +kernel), lw_in (i := 340) (by decide +kernel) (by decide +kernel), ⟨_, rfl, rfl⟩, by decide⟩
abbrev Rd_passes : pY := (⟨"DoorRounds$Reader", "passes", "(I)Z"⟩, prog_5_method_5_code, 2, (Option.some Jvm.ClassFile.FieldType.boolean), 2, 42)
def t_Rd_passes_0 : List (Nat × Instr × Nat) := [(0, .aload_n 0, 1), (1, .invokevirtual 34, 3), (4, .ifCond .ne 18, 3), (7, .aload_n 0, 1), (8, .getfield 14, 3), (11, .aload_n 0, 1), (12, .getfield 20, 3), (15, .invokevirtual 30, 3), (18, .iload_n 1, 1), (19, .if_icmp .eq 5, 3), (22, .iconst 0, 1), (23, .ireturn, 1), (24, .aload_n 0, 1), (25, .dup, 1), (26, .getfield 20, 3), (29, .iconst 1, 1), (30, .iadd, 1), (31, .putfield 20, 3), (34, .iconst 1, 1), (35, .ireturn, 1)]
theorem d_Rd_passes_0 : t_Rd_passes_0.all (fun q => decide (decode prog_5_method_5_code q.1 = .ok q.2)) = true := by decide +kernel
theorem cm_Rd_passes : CM Rd_passes 1 := ⟨by decide +kernel, lw_in (i := 346) (by decide +kernel) (by decide +kernel), in_Rd, by decide +kernel⟩
theorem cv_Rd_passes : CV Rd_passes 1 3 := ⟨cm_Rd_passes, lw_in (i := 344) (by decide +kernel) (by decide +kernel), lw_in (i := 345) (by decide +kernel) (by decide +kernel), ⟨_, rfl, rfl⟩, by decide⟩
abbrev Rd_isAtEnd : pY := (⟨"DoorRounds$Reader", "isAtEnd", "()Z"⟩, prog_5_method_3_code, 1, (Option.some Jvm.ClassFile.FieldType.boolean), 0, 0)
def t_Rd_isAtEnd_0 : List (Nat × Instr × Nat) := [(0, .aload_n 0, 1), (1, .getfield 20, 3), (4, .aload_n 0, 1), (5, .getfield 14, 3), (8, .getfield 27, 3), (11, .if_icmp .lt 7, 3), (14, .iconst 1, 1), (15, .goto 4, 3), (18, .iconst 0, 1), (19, .ireturn, 1)]
theorem d_Rd_isAtEnd_0 : t_Rd_isAtEnd_0.all (fun q => decide (decode prog_5_method_3_code q.1 = .ok q.2)) = true := by decide +kernel
theorem cm_Rd_isAtEnd : CM Rd_isAtEnd 0 := ⟨by decide +kernel, lw_in (i := 350) (by decide +kernel) (by decide +kernel), in_Rd, by decide +kernel⟩
theorem cv_Rd_isAtEnd : CV Rd_isAtEnd 0 3 := ⟨cm_Rd_isAtEnd, lw_in (i := 348) (by decide +kernel) (by decide +kernel), lw_in (i := 349) (by decide +kernel) (by decide +kernel), ⟨_, rfl, rfl⟩, by decide⟩
abbrev Rd_readNumber : pY := (⟨"DoorRounds$Reader", "readNumber", "(IIII)Z"⟩, prog_5_method_7_code, 6, (Option.some Jvm.ClassFile.FieldType.boolean), 2, 42)
def t_Rd_readNumber_0 : List (Nat × Instr × Nat) := [(0, .iconst 0, 1), (1, .istore 5, 2), (3, .aload_n 0, 1), (4, .iconst 0, 1), (5, .putfield 24, 3), (8, .iload 5, 2), (10, .iload_n 2, 1), (11, .if_icmp .ge 62, 3), (14, .aload_n 0, 1), (15, .getfield 14, 3), (18, .aload_n 0, 1), (19, .getfield 20, 3), (22, .invokevirtual 30, 3), (25, .invokestatic 38, 3), (28, .ifCond .eq 45, 3), (31, .aload_n 0, 1), (32, .bipush 10, 2), (34, .aload_n 0, 1), (35, .getfield 24, 3), (38, .imul, 1), (39, .aload_n 0, 1), (40, .getfield 14, 3), (43, .aload_n 0, 1), (44, .getfield 20, 3), (47, .invokevirtual 30, 3), (50, .iadd, 1), (51, .bipush 48, 2), (53, .isub, 1), (54, .putfield 24, 3), (57, .aload_n 0, 1)]
theorem d_Rd_readNumber_0 : t_Rd_readNumber_0.all (fun q => decide (decode prog_5_method_7_code q.1 = .ok q.2)) = true := by decide +kernel
def t_Rd_readNumber_1 : List (Nat × Instr × Nat) := [(58, .dup, 1), (59, .getfield 20, 3), (62, .iconst 1, 1), (63, .iadd, 1), (64, .putfield 20, 3), (67, .iinc 5 1, 3), (70, .goto (-62), 3), (73, .iload 5, 2), (75, .iload_n 1, 1), (76, .if_icmp .lt 24, 3), (79, .aload_n 0, 1), (80, .getfield 24, 3), (83, .iload_n 3, 1), (84, .if_icmp .lt 16, 3), (87, .aload_n 0, 1), (88, .getfield 24, 3), (91, .iload 4, 2), (93, .if_icmp .gt 7, 3), (96, .iconst 1, 1), (97, .goto 4, 3), (100, .iconst 0, 1), (101, .ireturn, 1)]
theorem d_Rd_readNumber_1 : t_Rd_readNumber_1.all (fun q => decide (decode prog_5_method_7_code q.1 = .ok q.2)) = true := by decide +kernel
theorem cm_Rd_readNumber : CM Rd_readNumber 4 := ⟨by decide +kernel, lw_in (i := 354) (by decide +kernel) (by decide +kernel), in_Rd, by decide +kernel⟩
theorem cv_Rd_readNumber : CV Rd_readNumber 4 3 := ⟨cm_Rd_readNumber, lw_in (i := 352) (by decide +kernel) (by decide +kernel), lw_in (i := 353) (by decide +kernel) (by decide +kernel), ⟨_, rfl, rfl⟩, by decide⟩
abbrev Rd_isFigure : pY := (⟨"DoorRounds$Reader", "isFigure", "(I)Z"⟩, prog_5_method_6_code, 1, (Option.some Jvm.ClassFile.FieldType.boolean), 0, 0)
def t_Rd_isFigure_0 : List (Nat × Instr × Nat) := [(0, .iload_n 0, 1), (1, .bipush 48, 2), (3, .if_icmp .lt 13, 3), (6, .iload_n 0, 1), (7, .bipush 57, 2), (9, .if_icmp .gt 7, 3), (12, .iconst 1, 1), (13, .goto 4, 3), (16, .iconst 0, 1), (17, .ireturn, 1)]
theorem d_Rd_isFigure_0 : t_Rd_isFigure_0.all (fun q => decide (decode prog_5_method_6_code q.1 = .ok q.2)) = true := by decide +kernel
theorem cm_Rd_isFigure : CM Rd_isFigure 1 := ⟨by decide +kernel, lw_in (i := 357) (by decide +kernel) (by decide +kernel), in_Rd, by decide +kernel⟩
theorem cs_Rd_isFigure : CS Rd_isFigure 1 := ⟨cm_Rd_isFigure, lw_in (i := 356) (by decide +kernel) (by decide +kernel)⟩
abbrev Pl_readShop : pY := (⟨"DoorRounds$Plan", "readShop", "(LDoorRounds$Shop;)Z"⟩, prog_4_method_15_code, 2, (Option.some Jvm.ClassFile.FieldType.boolean), 4, 88)
def t_Pl_readShop_0 : List (Nat × Instr × Nat) := [(0, .aload_n 0, 1), (1, .getfield 36, 3), (4, .invokevirtual 103, 3), (7, .ifCond .ne 5, 3), (10, .iconst 0, 1), (11, .ireturn, 1), (12, .aload_n 1, 1), (13, .aload_n 0, 1), (14, .getfield 36, 3), (17, .getfield 92, 3), (20, .putfield 106, 3), (23, .aload_n 0, 1), (24, .getfield 36, 3), (27, .iconst 1, 1), (28, .iconst 2, 1), (29, .iconst 0, 1), (30, .aload_n 0, 1), (31, .getfield 9, 3), (34, .iconst 1, 1), (35, .isub, 1), (36, .invokevirtual 85, 3), (39, .ifCond .eq 17, 3), (42, .aload_n 0, 1), (43, .aload_n 0, 1), (44, .getfield 36, 3), (47, .getfield 92, 3), (50, .invokevirtual 109, 3), (53, .ifCond .eq 5, 3), (56, .iconst 0, 1), (57, .ireturn, 1)]
theorem d_Pl_readShop_0 : t_Pl_readShop_0.all (fun q => decide (decode prog_4_method_15_code q.1 = .ok q.2)) = true := by decide +kernel
def t_Pl_readShop_1 : List (Nat × Instr × Nat) := [(58, .aload_n 1, 1), (59, .aload_n 0, 1), (60, .getfield 36, 3), (63, .getfield 92, 3), (66, .putfield 72, 3), (69, .aload_n 0, 1), (70, .getfield 36, 3), (73, .bipush 58, 2), (75, .invokevirtual 82, 3), (78, .ifCond .eq 13, 3), (81, .aload_n 0, 1), (82, .getfield 36, 3), (85, .invokevirtual 112, 3), (88, .ifCond .ne 5, 3), (91, .iconst 0, 1), (92, .ireturn, 1), (93, .aload_n 1, 1), (94, .aload_n 0, 1), (95, .getfield 36, 3), (98, .getfield 92, 3), (101, .putfield 115, 3), (104, .aload_n 0, 1), (105, .getfield 36, 3), (108, .bipush 58, 2), (110, .invokevirtual 82, 3), (113, .ifCond .eq 18, 3), (116, .aload_n 0, 1), (117, .getfield 36, 3), (120, .iconst 1, 1), (121, .iconst 2, 1)]
theorem d_Pl_readShop_1 : t_Pl_readShop_1.all (fun q => decide (decode prog_4_method_15_code q.1 = .ok q.2)) = true := by decide +kernel
def t_Pl_readShop_2 : List (Nat × Instr × Nat) := [(122, .iconst 1, 1), (123, .bipush 99, 2), (125, .invokevirtual 85, 3), (128, .ifCond .ne 5, 3), (131, .iconst 0, 1), (132, .ireturn, 1), (133, .aload_n 1, 1), (134, .aload_n 0, 1), (135, .getfield 36, 3), (138, .getfield 92, 3), (141, .putfield 118, 3), (144, .aload_n 1, 1), (145, .iconst 0, 1), (146, .putfield 121, 3), (149, .aload_n 1, 1), (150, .getfield 106, 3), (153, .iconst 3, 1), (154, .if_icmp .lt 43, 3), (157, .aload_n 0, 1), (158, .getfield 36, 3), (161, .bipush 58, 2), (163, .invokevirtual 82, 3), (166, .ifCond .eq 18, 3), (169, .aload_n 0, 1), (170, .getfield 36, 3), (173, .iconst 1, 1), (174, .iconst 1, 1), (175, .iconst 2, 1), (176, .bipush 9, 2), (178, .invokevirtual 85, 3)]
theorem d_Pl_readShop_2 : t_Pl_readShop_2.all (fun q => decide (decode prog_4_method_15_code q.1 = .ok q.2)) = true := by decide +kernel
def t_Pl_readShop_3 : List (Nat × Instr × Nat) := [(181, .ifCond .ne 5, 3), (184, .iconst 0, 1), (185, .ireturn, 1), (186, .aload_n 1, 1), (187, .aload_n 0, 1), (188, .getfield 36, 3), (191, .getfield 92, 3), (194, .putfield 121, 3), (197, .iconst 1, 1), (198, .ireturn, 1)]
theorem d_Pl_readShop_3 : t_Pl_readShop_3.all (fun q => decide (decode prog_4_method_15_code q.1 = .ok q.2)) = true := by decide +kernel
theorem cm_Pl_readShop : CM Pl_readShop 1 := ⟨by decide +kernel, lw_in (i := 362) (by decide +kernel) (by decide +kernel), in_Pl, by decide +kernel⟩
theorem cv_Pl_readShop : CV Pl_readShop 1 2 := ⟨cm_Pl_readShop, lw_in (i := 361) (by decide +kernel) (by decide +kernel), lw_insel (q := (⟨"DoorRounds$Plan", "readShop", "(LDoorRounds$Shop;)Z"⟩, 6)) (i := 4) (by decide +kernel) (by decide +kernel), ⟨_, rfl, rfl⟩, by decide⟩
abbrev Rd_readKind : pY := (⟨"DoorRounds$Reader", "readKind", "()Z"⟩, prog_5_method_8_code, 2, (Option.some Jvm.ClassFile.FieldType.boolean), 3, 63)
def t_Rd_readKind_0 : List (Nat × Instr × Nat) := [(0, .iconst 0, 1), (1, .istore_n 1, 1), (2, .iload_n 1, 1), (3, .getstatic 42, 3), (6, .arraylength, 1), (7, .if_icmp .ge 28, 3), (10, .aload_n 0, 1), (11, .getstatic 42, 3), (14, .iload_n 1, 1), (15, .iaload, 1), (16, .invokevirtual 46, 3), (19, .ifCond .eq 10, 3), (22, .aload_n 0, 1), (23, .iload_n 1, 1), (24, .putfield 24, 3), (27, .iconst 1, 1), (28, .ireturn, 1), (29, .iinc 1 1, 3), (32, .goto (-30), 3), (35, .iconst 0, 1), (36, .ireturn, 1)]
theorem d_Rd_readKind_0 : t_Rd_readKind_0.all (fun q => decide (decode prog_5_method_8_code q.1 = .ok q.2)) = true := by decide +kernel
theorem cm_Rd_readKind : CM Rd_readKind 0 := ⟨by decide +kernel, lw_in (i := 366) (by decide +kernel) (by decide +kernel), in_Rd, by decide +kernel⟩
theorem cv_Rd_readKind : CV Rd_readKind 0 3 := ⟨cm_Rd_readKind, lw_in (i := 364) (by decide +kernel) (by decide +kernel), lw_in (i := 365) (by decide +kernel) (by decide +kernel), ⟨_, rfl, rfl⟩, by decide⟩
abbrev Pl_isFirstDoor : pY := (⟨"DoorRounds$Plan", "isFirstDoor", "(I)Z"⟩, prog_4_method_13_code, 3, (Option.some Jvm.ClassFile.FieldType.boolean), 2, 42)
def t_Pl_isFirstDoor_0 : List (Nat × Instr × Nat) := [(0, .iconst 0, 1), (1, .istore_n 2, 1), (2, .iload_n 2, 1), (3, .aload_n 0, 1), (4, .getfield 15, 3), (7, .if_icmp .ge 23, 3), (10, .aload_n 0, 1), (11, .iload_n 2, 1), (12, .invokevirtual 44, 3), (15, .getfield 72, 3), (18, .iload_n 1, 1), (19, .if_icmp .ne 5, 3), (22, .iconst 1, 1), (23, .ireturn, 1), (24, .iinc 2 1, 3), (27, .goto (-25), 3), (30, .iconst 0, 1), (31, .ireturn, 1)]
theorem d_Pl_isFirstDoor_0 : t_Pl_isFirstDoor_0.all (fun q => decide (decode prog_4_method_13_code q.1 = .ok q.2)) = true := by decide +kernel
theorem cm_Pl_isFirstDoor : CM Pl_isFirstDoor 1 := ⟨by decide +kernel, lw_in (i := 373) (by decide +kernel) (by decide +kernel), in_Pl, by decide +kernel⟩
theorem cv_Pl_isFirstDoor : CV Pl_isFirstDoor 1 2 := ⟨cm_Pl_isFirstDoor, lw_in (i := 371) (by decide +kernel) (by decide +kernel), lw_in (i := 372) (by decide +kernel) (by decide +kernel), ⟨_, rfl, rfl⟩, by decide⟩
abbrev Pl_shopOf : pY := (⟨"DoorRounds$Plan", "shopOf", "(I)LDoorRounds$Shop;"⟩, prog_4_method_7_code, 2, (Option.some (Jvm.ClassFile.FieldType.object "DoorRounds$Shop")), 1, 21)
def t_Pl_shopOf_0 : List (Nat × Instr × Nat) := [(0, .aload_n 0, 1), (1, .iload_n 1, 1), (2, .invokevirtual 40, 3), (5, .ifCond .eq 12, 3), (8, .aload_n 0, 1), (9, .getfield 20, 3), (12, .iload_n 1, 1), (13, .aaload, 1), (14, .goto 7, 3), (17, .aload_n 0, 1), (18, .getfield 25, 3), (21, .areturn, 1)]
theorem d_Pl_shopOf_0 : t_Pl_shopOf_0.all (fun q => decide (decode prog_4_method_7_code q.1 = .ok q.2)) = true := by decide +kernel
theorem cm_Pl_shopOf : CM Pl_shopOf 1 := ⟨by decide +kernel, lw_in (i := 377) (by decide +kernel) (by decide +kernel), in_Pl, by decide +kernel⟩
theorem cv_Pl_shopOf : CV Pl_shopOf 1 2 := ⟨cm_Pl_shopOf, lw_in (i := 375) (by decide +kernel) (by decide +kernel), lw_in (i := 376) (by decide +kernel) (by decide +kernel), ⟨_, rfl, rfl⟩, by decide⟩
abbrev Pl_hasShop : pY := (⟨"DoorRounds$Plan", "hasShop", "(I)Z"⟩, prog_4_method_5_code, 2, (Option.some Jvm.ClassFile.FieldType.boolean), 0, 0)
def t_Pl_hasShop_0 : List (Nat × Instr × Nat) := [(0, .iload_n 1, 1), (1, .ifCond .lt 21, 3), (4, .iload_n 1, 1), (5, .aload_n 0, 1), (6, .getfield 15, 3), (9, .if_icmp .ge 13, 3), (12, .iload_n 1, 1), (13, .bipush 7, 2), (15, .if_icmp .ge 7, 3), (18, .iconst 1, 1), (19, .goto 4, 3), (22, .iconst 0, 1), (23, .ireturn, 1)]
theorem d_Pl_hasShop_0 : t_Pl_hasShop_0.all (fun q => decide (decode prog_4_method_5_code q.1 = .ok q.2)) = true := by decide +kernel
theorem cm_Pl_hasShop : CM Pl_hasShop 1 := ⟨by decide +kernel, lw_in (i := 381) (by decide +kernel) (by decide +kernel), in_Pl, by decide +kernel⟩
theorem cv_Pl_hasShop : CV Pl_hasShop 1 2 := ⟨cm_Pl_hasShop, lw_in (i := 379) (by decide +kernel) (by decide +kernel), lw_in (i := 380) (by decide +kernel) (by decide +kernel), ⟨_, rfl, rfl⟩, by decide⟩
abbrev Rd_readStep : pY := (⟨"DoorRounds$Reader", "readStep", "()Z"⟩, prog_5_method_9_code, 2, (Option.some Jvm.ClassFile.FieldType.boolean), 3, 67)
def t_Rd_readStep_0 : List (Nat × Instr × Nat) := [(0, .aload_n 0, 1), (1, .bipush 45, 2), (3, .invokevirtual 46, 3), (6, .istore_n 1, 1), (7, .iload_n 1, 1), (8, .ifCond .ne 12, 3), (11, .aload_n 0, 1), (12, .bipush 43, 2), (14, .invokevirtual 46, 3), (17, .ifCond .eq 15, 3), (20, .aload_n 0, 1), (21, .iconst 1, 1), (22, .iconst 1, 1), (23, .iconst 0, 1), (24, .bipush 9, 2), (26, .invokevirtual 49, 3), (29, .ifCond .ne 5, 3), (32, .iconst 0, 1), (33, .ireturn, 1), (34, .aload_n 0, 1), (35, .iload_n 1, 1), (36, .ifCond .eq 11, 3), (39, .aload_n 0, 1), (40, .getfield 24, 3), (43, .ineg, 1), (44, .goto 7, 3), (47, .aload_n 0, 1), (48, .getfield 24, 3), (51, .putfield 24, 3), (54, .iconst 1, 1)]
theorem d_Rd_readStep_0 : t_Rd_readStep_0.all (fun q => decide (decode prog_5_method_9_code q.1 = .ok q.2)) = true := by decide +kernel
def t_Rd_readStep_1 : List (Nat × Instr × Nat) := [(55, .ireturn, 1)]
theorem d_Rd_readStep_1 : t_Rd_readStep_1.all (fun q => decide (decode prog_5_method_9_code q.1 = .ok q.2)) = true := by decide +kernel
theorem cm_Rd_readStep : CM Rd_readStep 0 := ⟨by decide +kernel, lw_in (i := 385) (by decide +kernel) (by decide +kernel), in_Rd, by decide +kernel⟩
theorem cv_Rd_readStep : CV Rd_readStep 0 3 := ⟨cm_Rd_readStep, lw_in (i := 383) (by decide +kernel) (by decide +kernel), lw_in (i := 384) (by decide +kernel) (by decide +kernel), ⟨_, rfl, rfl⟩, by decide⟩
abbrev D_square : pY := (⟨"DoorRounds", "square", "(I)I"⟩, prog_1_method_11_code, 5, (Option.some Jvm.ClassFile.FieldType.int), 6, 131)
def t_D_square_0 : List (Nat × Instr × Nat) := [(0, .iload_n 1, 1), (1, .invokestatic 141, 3), (4, .ifCond .ne 5, 3), (7, .iconst (-1), 1), (8, .ireturn, 1), (9, .aload_n 0, 1), (10, .iload_n 1, 1), (11, .invokevirtual 144, 3), (14, .astore_n 2, 1), (15, .aload_n 2, 1), (16, .invokevirtual 117, 3), (19, .ifCond .ne 9, 3), (22, .aload_n 0, 1), (23, .iconst 1, 1), (24, .invokevirtual 91, 3), (27, .ireturn, 1), (28, .aload_n 0, 1), (29, .getfield 67, 3), (32, .aload_n 2, 1), (33, .invokevirtual 147, 3), (36, .bipush (-9), 2), (38, .if_icmp .eq 6, 3), (41, .bipush (-4), 2), (43, .ireturn, 1), (44, .aload_n 0, 1), (45, .getfield 63, 3), (48, .astore_n 3, 1), (49, .aload_n 0, 1), (50, .aload_n 0, 1), (51, .getfield 67, 3)]
theorem d_D_square_0 : t_D_square_0.all (fun q => decide (decode prog_1_method_11_code q.1 = .ok q.2)) = true := by decide +kernel
def t_D_square_1 : List (Nat × Instr × Nat) := [(54, .putfield 63, 3), (57, .aload_n 0, 1), (58, .aload_n 3, 1), (59, .putfield 67, 3), (62, .aload_n 0, 1), (63, .getfield 63, 3), (66, .invokevirtual 151, 3), (69, .aload_n 0, 1), (70, .getfield 28, 3), (73, .aload_n 0, 1), (74, .getfield 63, 3), (77, .invokevirtual 154, 3), (80, .aload_n 0, 1), (81, .getfield 45, 3), (84, .iconst 0, 1), (85, .putfield 158, 3), (88, .iconst 0, 1), (89, .istore 4, 2), (91, .iload 4, 2), (93, .iconst 3, 1), (94, .if_icmp .ge 19, 3), (97, .aload_n 0, 1), (98, .iload 4, 2), (100, .invokevirtual 159, 3), (103, .iconst (-1), 1), (104, .putfield 84, 3), (107, .iinc 4 1, 3), (110, .goto (-19), 3), (113, .aload_n 0, 1), (114, .getfield 63, 3)]
theorem d_D_square_1 : t_D_square_1.all (fun q => decide (decode prog_1_method_11_code q.1 = .ok q.2)) = true := by decide +kernel
def t_D_square_2 : List (Nat × Instr × Nat) := [(117, .getfield 163, 3), (120, .ireturn, 1)]
theorem d_D_square_2 : t_D_square_2.all (fun q => decide (decode prog_1_method_11_code q.1 = .ok q.2)) = true := by decide +kernel
theorem cm_D_square : CM D_square 1 := ⟨by decide +kernel, lw_in (i := 390) (by decide +kernel) (by decide +kernel), in_D, by decide +kernel⟩
theorem cv_D_square : CV D_square 1 7 := ⟨cm_D_square, lw_in (i := 388) (by decide +kernel) (by decide +kernel), lw_in (i := 389) (by decide +kernel) (by decide +kernel), ⟨_, rfl, rfl⟩, by decide⟩
end
section
abbrev Pl_rank : pY := (⟨"DoorRounds$Plan", "rank", "()V"⟩, prog_4_method_16_code, 3, (Option.none : Option Jvm.ClassFile.FieldType), 3, 67)
def t_Pl_rank_0 : List (Nat × Instr × Nat) := [(0, .iconst 0, 1), (1, .istore_n 1, 1), (2, .iload_n 1, 1), (3, .aload_n 0, 1), (4, .getfield 15, 3), (7, .if_icmp .ge 64, 3), (10, .iload_n 1, 1), (11, .bipush 7, 2), (13, .if_icmp .ge 58, 3), (16, .iload_n 1, 1), (17, .istore_n 2, 1), (18, .iload_n 2, 1), (19, .ifCond .le 39, 3), (22, .aload_n 0, 1), (23, .iload_n 1, 1), (24, .aload_n 0, 1), (25, .getfield 29, 3), (28, .iload_n 2, 1), (29, .iconst 1, 1), (30, .isub, 1), (31, .iaload, 1), (32, .invokevirtual 124, 3), (35, .ifCond .eq 23, 3), (38, .aload_n 0, 1), (39, .getfield 29, 3), (42, .iload_n 2, 1), (43, .aload_n 0, 1), (44, .getfield 29, 3), (47, .iload_n 2, 1), (48, .iconst 1, 1)]
theorem d_Pl_rank_0 : t_Pl_rank_0.all (fun q => decide (decode prog_4_method_16_code q.1 = .ok q.2)) = true := by decide +kernel
def t_Pl_rank_1 : List (Nat × Instr × Nat) := [(49, .isub, 1), (50, .iaload, 1), (51, .iastore, 1), (52, .iinc 2 (-1), 3), (55, .goto (-37), 3), (58, .aload_n 0, 1), (59, .getfield 29, 3), (62, .iload_n 2, 1), (63, .iload_n 1, 1), (64, .iastore, 1), (65, .iinc 1 1, 3), (68, .goto (-66), 3), (71, .return_, 1)]
theorem d_Pl_rank_1 : t_Pl_rank_1.all (fun q => decide (decode prog_4_method_16_code q.1 = .ok q.2)) = true := by decide +kernel
theorem cm_Pl_rank : CM Pl_rank 0 := ⟨by decide +kernel, lw_in (i := 394) (by decide +kernel) (by decide +kernel), in_Pl, by decide +kernel⟩
theorem cv_Pl_rank : CV Pl_rank 0 2 := ⟨cm_Pl_rank, lw_in (i := 392) (by decide +kernel) (by decide +kernel), lw_in (i := 393) (by decide +kernel) (by decide +kernel), ⟨_, rfl, rfl⟩, by decide⟩
abbrev Pl_isAhead : pY := (⟨"DoorRounds$Plan", "isAhead", "(II)Z"⟩, prog_4_method_17_code, 6, (Option.some Jvm.ClassFile.FieldType.boolean), 2, 42)
def t_Pl_isAhead_0 : List (Nat × Instr × Nat) := [(0, .aload_n 0, 1), (1, .iload_n 1, 1), (2, .invokevirtual 44, 3), (5, .astore_n 3, 1), (6, .aload_n 0, 1), (7, .iload_n 2, 1), (8, .invokevirtual 44, 3), (11, .astore 4, 2), (13, .aload_n 3, 1), (14, .getfield 106, 3), (17, .iconst 2, 1), (18, .if_icmp .ne 7, 3), (21, .iconst 1, 1), (22, .goto 4, 3), (25, .iconst 0, 1), (26, .istore 5, 2), (28, .iload 5, 2), (30, .aload 4, 2), (32, .getfield 106, 3), (35, .iconst 2, 1), (36, .if_icmp .ne 7, 3), (39, .iconst 1, 1), (40, .goto 4, 3), (43, .iconst 0, 1), (44, .if_icmp .eq 14, 3), (47, .iload 5, 2), (49, .ifCond .ne 7, 3), (52, .iconst 1, 1), (53, .goto 4, 3), (56, .iconst 0, 1)]
theorem d_Pl_isAhead_0 : t_Pl_isAhead_0.all (fun q => decide (decode prog_4_method_17_code q.1 = .ok q.2)) = true := by decide +kernel
def t_Pl_isAhead_1 : List (Nat × Instr × Nat) := [(57, .ireturn, 1), (58, .aload_n 3, 1), (59, .getfield 118, 3), (62, .aload 4, 2), (64, .getfield 118, 3), (67, .if_icmp .le 7, 3), (70, .iconst 1, 1), (71, .goto 4, 3), (74, .iconst 0, 1), (75, .ireturn, 1)]
theorem d_Pl_isAhead_1 : t_Pl_isAhead_1.all (fun q => decide (decode prog_4_method_17_code q.1 = .ok q.2)) = true := by decide +kernel
theorem cm_Pl_isAhead : CM Pl_isAhead 2 := ⟨by decide +kernel, lw_in (i := 398) (by decide +kernel) (by decide +kernel), in_Pl, by decide +kernel⟩
theorem cv_Pl_isAhead : CV Pl_isAhead 2 2 := ⟨cm_Pl_isAhead, lw_in (i := 397) (by decide +kernel) (by decide +kernel), lw_insel (q := (⟨"DoorRounds$Plan", "isAhead", "(II)Z"⟩, 6)) (i := 5) (by decide +kernel) (by decide +kernel), ⟨_, rfl, rfl⟩, by decide⟩
abbrev Sn_begin : pY := (⟨"DoorRounds$Standing", "begin", "(LDoorRounds$Plan;)V"⟩, prog_7_method_2_code, 3, (Option.none : Option Jvm.ClassFile.FieldType), 2, 42)
def t_Sn_begin_0 : List (Nat × Instr × Nat) := [(0, .aload_n 0, 1), (1, .iconst 0, 1), (2, .putfield 9, 3), (5, .aload_n 0, 1), (6, .iconst 0, 1), (7, .putfield 15, 3), (10, .iconst 0, 1), (11, .istore_n 2, 1), (12, .iload_n 2, 1), (13, .aload_n 1, 1), (14, .getfield 22, 3), (17, .if_icmp .ge 22, 3), (20, .aload_n 0, 1), (21, .iload_n 2, 1), (22, .aload_n 1, 1), (23, .iload_n 2, 1), (24, .invokevirtual 27, 3), (27, .getfield 31, 3), (30, .invokevirtual 36, 3), (33, .iinc 2 1, 3), (36, .goto (-24), 3), (39, .return_, 1)]
theorem d_Sn_begin_0 : t_Sn_begin_0.all (fun q => decide (decode prog_7_method_2_code q.1 = .ok q.2)) = true := by decide +kernel
theorem cm_Sn_begin : CM Sn_begin 1 := ⟨by decide +kernel, lw_in (i := 402) (by decide +kernel) (by decide +kernel), in_Sn, by decide +kernel⟩
theorem cv_Sn_begin : CV Sn_begin 1 5 := ⟨cm_Sn_begin, lw_in (i := 400) (by decide +kernel) (by decide +kernel), lw_in (i := 401) (by decide +kernel) (by decide +kernel), ⟨_, rfl, rfl⟩, by decide⟩
abbrev Sn_setDoor : pY := (⟨"DoorRounds$Standing", "setDoor", "(II)V"⟩, prog_7_method_5_code, 3, (Option.none : Option Jvm.ClassFile.FieldType), 0, 0)
def t_Sn_setDoor_0 : List (Nat × Instr × Nat) := [(0, .iload_n 1, 1), (1, .ifCond .lt 16, 3), (4, .iload_n 1, 1), (5, .bipush 7, 2), (7, .if_icmp .ge 10, 3), (10, .aload_n 0, 1), (11, .getfield 18, 3), (14, .iload_n 1, 1), (15, .iload_n 2, 1), (16, .iastore, 1), (17, .return_, 1)]
theorem d_Sn_setDoor_0 : t_Sn_setDoor_0.all (fun q => decide (decode prog_7_method_5_code q.1 = .ok q.2)) = true := by decide +kernel
theorem cm_Sn_setDoor : CM Sn_setDoor 2 := ⟨by decide +kernel, lw_in (i := 407) (by decide +kernel) (by decide +kernel), in_Sn, by decide +kernel⟩
theorem cv_Sn_setDoor : CV Sn_setDoor 2 5 := ⟨cm_Sn_setDoor, lw_in (i := 405) (by decide +kernel) (by decide +kernel), lw_in (i := 406) (by decide +kernel) (by decide +kernel), ⟨_, rfl, rfl⟩, by decide⟩
abbrev D_keptOf : pY := (⟨"DoorRounds", "keptOf", "(I)LDoorRounds$Standing;"⟩, prog_1_method_64_code, 2, (Option.some (Jvm.ClassFile.FieldType.object "DoorRounds$Standing")), 1, 20)
def t_D_keptOf_0 : List (Nat × Instr × Nat) := [(0, .iload_n 1, 1), (1, .invokestatic 237, 3), (4, .ifCond .eq 12, 3), (7, .aload_n 0, 1), (8, .getfield 32, 3), (11, .iload_n 1, 1), (12, .aaload, 1), (13, .goto 7, 3), (16, .aload_n 0, 1), (17, .getfield 36, 3), (20, .areturn, 1)]
theorem d_D_keptOf_0 : t_D_keptOf_0.all (fun q => decide (decode prog_1_method_64_code q.1 = .ok q.2)) = true := by decide +kernel
theorem cm_D_keptOf : CM D_keptOf 1 := ⟨by decide +kernel, lw_in (i := 411) (by decide +kernel) (by decide +kernel), in_D, by decide +kernel⟩
theorem cv_D_keptOf : CV D_keptOf 1 7 := ⟨cm_D_keptOf, lw_in (i := 410) (by decide +kernel) (by decide +kernel), lw_insel (q := (⟨"DoorRounds", "keptOf", "(I)LDoorRounds$Standing;"⟩, 16)) (i := 6) (by decide +kernel) (by decide +kernel), ⟨_, rfl, rfl⟩, by decide⟩
abbrev D_isKeptPlace : pY := (⟨"DoorRounds", "isKeptPlace", "(I)Z"⟩, prog_1_method_59_code, 1, (Option.some Jvm.ClassFile.FieldType.boolean), 0, 0)
def t_D_isKeptPlace_0 : List (Nat × Instr × Nat) := [(0, .iload_n 0, 1), (1, .ifCond .lt 12, 3), (4, .iload_n 0, 1), (5, .iconst 3, 1), (6, .if_icmp .ge 7, 3), (9, .iconst 1, 1), (10, .goto 4, 3), (13, .iconst 0, 1), (14, .ireturn, 1)]
theorem d_D_isKeptPlace_0 : t_D_isKeptPlace_0.all (fun q => decide (decode prog_1_method_59_code q.1 = .ok q.2)) = true := by decide +kernel
theorem cm_D_isKeptPlace : CM D_isKeptPlace 1 := ⟨by decide +kernel, lw_in (i := 414) (by decide +kernel) (by decide +kernel), in_D, by decide +kernel⟩
theorem cs_D_isKeptPlace : CS D_isKeptPlace 1 := ⟨cm_D_isKeptPlace, lw_in (i := 413) (by decide +kernel) (by decide +kernel)⟩
abbrev D_about : pY := (⟨"DoorRounds", "about", "(II)I"⟩, prog_1_method_12_code, 3, (Option.some Jvm.ClassFile.FieldType.int), 3, 65)
def t_D_about_0 : List (Nat × Instr × Nat) := [(0, .aload_n 0, 1), (1, .getfield 63, 3), (4, .iload_n 1, 1), (5, .invokevirtual 164, 3), (8, .ifCond .eq 12, 3), (11, .iload_n 2, 1), (12, .ifCond .lt 8, 3), (15, .iload_n 2, 1), (16, .iconst 5, 1), (17, .if_icmp .le 5, 3), (20, .iconst (-1), 1), (21, .ireturn, 1), (22, .aload_n 0, 1), (23, .aload_n 0, 1), (24, .iload_n 1, 1), (25, .iload_n 2, 1), (26, .invokevirtual 167, 3), (29, .iconst 1, 1), (30, .invokevirtual 113, 3), (33, .ireturn, 1)]
theorem d_D_about_0 : t_D_about_0.all (fun q => decide (decode prog_1_method_12_code q.1 = .ok q.2)) = true := by decide +kernel
theorem cm_D_about : CM D_about 2 := ⟨by decide +kernel, lw_in (i := 418) (by decide +kernel) (by decide +kernel), in_D, by decide +kernel⟩
theorem cv_D_about : CV D_about 2 7 := ⟨cm_D_about, lw_in (i := 416) (by decide +kernel) (by decide +kernel), lw_in (i := 417) (by decide +kernel) (by decide +kernel), ⟨_, rfl, rfl⟩, by decide⟩
abbrev D_trait : pY := (⟨"DoorRounds", "trait", "(II)I"⟩, prog_1_method_68_code, 4, (Option.some Jvm.ClassFile.FieldType.int), 2, 42)
def t_D_trait_0 : List (Nat × Instr × Nat) := [(0, .aload_n 0, 1), (1, .getfield 63, 3), (4, .iload_n 1, 1), (5, .invokevirtual 170, 3), (8, .astore_n 3, 1), (9, .iload_n 2, 1), (10, .tableswitch 63 0 4 #[34, 39, 48, 53, 58], 34), (44, .aload_n 3, 1), (45, .getfield 298, 3), (48, .ireturn, 1), (49, .aload_n 0, 1), (50, .getfield 28, 3), (53, .iload_n 1, 1), (54, .invokevirtual 217, 3), (57, .ireturn, 1), (58, .aload_n 3, 1), (59, .getfield 246, 3), (62, .ireturn, 1), (63, .aload_n 3, 1), (64, .getfield 347, 3), (67, .ireturn, 1), (68, .aload_n 3, 1), (69, .getfield 191, 3), (72, .ireturn, 1), (73, .aload_n 3, 1), (74, .getfield 350, 3), (77, .ireturn, 1)]
theorem d_D_trait_0 : t_D_trait_0.all (fun q => decide (decode prog_1_method_68_code q.1 = .ok q.2)) = true := by decide +kernel
theorem cm_D_trait : CM D_trait 2 := ⟨by decide +kernel, lw_in (i := 423) (by decide +kernel) (by decide +kernel), in_D, by decide +kernel⟩
theorem cv_D_trait : CV D_trait 2 7 := ⟨cm_D_trait, lw_in (i := 422) (by decide +kernel) (by decide +kernel), lw_insel (q := (⟨"DoorRounds", "trait", "(II)I"⟩, 16)) (i := 7) (by decide +kernel) (by decide +kernel), ⟨_, rfl, rfl⟩, by decide⟩
abbrev Sn_doorOf : pY := (⟨"DoorRounds$Standing", "doorOf", "(I)I"⟩, prog_7_method_4_code, 2, (Option.some Jvm.ClassFile.FieldType.int), 0, 0)
def t_Sn_doorOf_0 : List (Nat × Instr × Nat) := [(0, .iload_n 1, 1), (1, .ifCond .lt 18, 3), (4, .iload_n 1, 1), (5, .bipush 7, 2), (7, .if_icmp .ge 12, 3), (10, .aload_n 0, 1), (11, .getfield 18, 3), (14, .iload_n 1, 1), (15, .iaload, 1), (16, .goto 4, 3), (19, .iconst 0, 1), (20, .ireturn, 1)]
theorem d_Sn_doorOf_0 : t_Sn_doorOf_0.all (fun q => decide (decode prog_7_method_4_code q.1 = .ok q.2)) = true := by decide +kernel
theorem cm_Sn_doorOf : CM Sn_doorOf 1 := ⟨by decide +kernel, lw_in (i := 428) (by decide +kernel) (by decide +kernel), in_Sn, by decide +kernel⟩
theorem cv_Sn_doorOf : CV Sn_doorOf 1 5 := ⟨cm_Sn_doorOf, lw_in (i := 426) (by decide +kernel) (by decide +kernel), lw_in (i := 427) (by decide +kernel) (by decide +kernel), ⟨_, rfl, rfl⟩, by decide⟩
abbrev D_mark : pY := (⟨"DoorRounds", "mark", "(II)I"⟩, prog_1_method_13_code, 4, (Option.some Jvm.ClassFile.FieldType.int), 4, 93)
def t_D_mark_0 : List (Nat × Instr × Nat) := [(0, .aload_n 0, 1), (1, .getfield 63, 3), (4, .iload_n 1, 1), (5, .invokevirtual 164, 3), (8, .ifCond .eq 13, 3), (11, .iload_n 2, 1), (12, .iconst 1, 1), (13, .if_icmp .lt 8, 3), (16, .iload_n 2, 1), (17, .iconst 5, 1), (18, .if_icmp .le 5, 3), (21, .iconst (-1), 1), (22, .ireturn, 1), (23, .aload_n 0, 1), (24, .getfield 63, 3), (27, .iload_n 1, 1), (28, .invokevirtual 170, 3), (31, .astore_n 3, 1), (32, .aload_n 3, 1), (33, .iload_n 2, 1), (34, .invokevirtual 174, 3), (37, .ifCond .ne 9, 3), (40, .aload_n 0, 1), (41, .iconst 3, 1), (42, .invokevirtual 91, 3), (45, .ireturn, 1), (46, .iload_n 2, 1), (47, .tableswitch 65 1 4 #[29, 35, 41, 53], 29), (76, .aload_n 0, 1), (77, .iload_n 1, 1)]
theorem d_D_mark_0 : t_D_mark_0.all (fun q => decide (decode prog_1_method_13_code q.1 = .ok q.2)) = true := by decide +kernel
def t_D_mark_1 : List (Nat × Instr × Nat) := [(78, .invokevirtual 179, 3), (81, .ireturn, 1), (82, .aload_n 0, 1), (83, .iload_n 1, 1), (84, .invokevirtual 182, 3), (87, .ireturn, 1), (88, .aload_n 3, 1), (89, .aload_n 0, 1), (90, .getfield 28, 3), (93, .getfield 84, 3), (96, .invokevirtual 185, 3), (99, .ireturn, 1), (100, .aload_n 3, 1), (101, .aload_n 0, 1), (102, .getfield 28, 3), (105, .getfield 84, 3), (108, .invokevirtual 188, 3), (111, .ireturn, 1), (112, .aload_n 3, 1), (113, .aload_n 0, 1), (114, .getfield 28, 3), (117, .getfield 84, 3), (120, .aload_n 3, 1), (121, .getfield 191, 3), (124, .invokevirtual 194, 3), (127, .l2i, 1), (128, .sipush 1000, 3), (131, .iadd, 1), (132, .ireturn, 1)]
theorem d_D_mark_1 : t_D_mark_1.all (fun q => decide (decode prog_1_method_13_code q.1 = .ok q.2)) = true := by decide +kernel
theorem cm_D_mark : CM D_mark 2 := ⟨by decide +kernel, lw_in (i := 432) (by decide +kernel) (by decide +kernel), in_D, by decide +kernel⟩
theorem cv_D_mark : CV D_mark 2 7 := ⟨cm_D_mark, lw_in (i := 430) (by decide +kernel) (by decide +kernel), lw_in (i := 431) (by decide +kernel) (by decide +kernel), ⟨_, rfl, rfl⟩, by decide⟩
abbrev Sh_isOf : pY := (⟨"DoorRounds$Shop", "isOf", "(I)Z"⟩, prog_6_method_2_code, 2, (Option.some Jvm.ClassFile.FieldType.boolean), 0, 0)
def t_Sh_isOf_0 : List (Nat × Instr × Nat) := [(0, .iload_n 1, 1), (1, .aload_n 0, 1), (2, .getfield 9, 3), (5, .if_icmp .eq 16, 3), (8, .iload_n 1, 1), (9, .iconst 3, 1), (10, .if_icmp .ne 15, 3), (13, .aload_n 0, 1), (14, .getfield 9, 3), (17, .iconst 5, 1), (18, .if_icmp .ne 7, 3), (21, .iconst 1, 1), (22, .goto 4, 3), (25, .iconst 0, 1), (26, .ireturn, 1)]
theorem d_Sh_isOf_0 : t_Sh_isOf_0.all (fun q => decide (decode prog_6_method_2_code q.1 = .ok q.2)) = true := by decide +kernel
theorem cm_Sh_isOf : CM Sh_isOf 1 := ⟨by decide +kernel, lw_in (i := 436) (by decide +kernel) (by decide +kernel), in_Sh, by decide +kernel⟩
theorem cv_Sh_isOf : CV Sh_isOf 1 4 := ⟨cm_Sh_isOf, lw_in (i := 434) (by decide +kernel) (by decide +kernel), lw_in (i := 435) (by decide +kernel) (by decide +kernel), ⟨_, rfl, rfl⟩, by decide⟩
abbrev D_neighbours : pY := (⟨"DoorRounds", "neighbours", "(I)I"⟩, prog_1_method_71_code, 4, (Option.some Jvm.ClassFile.FieldType.int), 3, 70)
def t_D_neighbours_0 : List (Nat × Instr × Nat) := [(0, .iconst 0, 1), (1, .istore_n 2, 1), (2, .iconst 0, 1), (3, .istore_n 3, 1), (4, .iload_n 3, 1), (5, .aload_n 0, 1), (6, .getfield 63, 3), (9, .getfield 163, 3), (12, .if_icmp .ge 39, 3), (15, .aload_n 0, 1), (16, .getfield 63, 3), (19, .aload_n 0, 1), (20, .getfield 28, 3), (23, .iload_n 1, 1), (24, .invokevirtual 217, 3), (27, .aload_n 0, 1), (28, .getfield 28, 3), (31, .iload_n 3, 1), (32, .invokevirtual 217, 3), (35, .invokevirtual 243, 3), (38, .iconst 1, 1), (39, .if_icmp .ne 6, 3), (42, .iinc 2 1, 3), (45, .iinc 3 1, 3), (48, .goto (-44), 3), (51, .iload_n 2, 1), (52, .ireturn, 1)]
theorem d_D_neighbours_0 : t_D_neighbours_0.all (fun q => decide (decode prog_1_method_71_code q.1 = .ok q.2)) = true := by decide +kernel
theorem cm_D_neighbours : CM D_neighbours 1 := ⟨by decide +kernel, lw_in (i := 440) (by decide +kernel) (by decide +kernel), in_D, by decide +kernel⟩
theorem cv_D_neighbours : CV D_neighbours 1 7 := ⟨cm_D_neighbours, lw_in (i := 439) (by decide +kernel) (by decide +kernel), lw_insel (q := (⟨"DoorRounds", "neighbours", "(I)I"⟩, 16)) (i := 8) (by decide +kernel) (by decide +kernel), ⟨_, rfl, rfl⟩, by decide⟩
abbrev Pl_walking : pY := (⟨"DoorRounds$Plan", "walking", "(II)I"⟩, prog_4_method_10_code, 4, (Option.some Jvm.ClassFile.FieldType.int), 2, 47)
def t_Pl_walking_0 : List (Nat × Instr × Nat) := [(0, .aload_n 0, 1), (1, .iload_n 2, 1), (2, .iload_n 1, 1), (3, .isub, 1), (4, .i2l, 1), (5, .invokevirtual 57, 3), (8, .istore_n 3, 1), (9, .iload_n 3, 1), (10, .aload_n 0, 1), (11, .getfield 9, 3), (14, .iload_n 3, 1), (15, .isub, 1), (16, .invokestatic 61, 3), (19, .ireturn, 1)]
theorem d_Pl_walking_0 : t_Pl_walking_0.all (fun q => decide (decode prog_4_method_10_code q.1 = .ok q.2)) = true := by decide +kernel
theorem cm_Pl_walking : CM Pl_walking 2 := ⟨by decide +kernel, lw_in (i := 444) (by decide +kernel) (by decide +kernel), in_Pl, by decide +kernel⟩
theorem cv_Pl_walking : CV Pl_walking 2 2 := ⟨cm_Pl_walking, lw_in (i := 442) (by decide +kernel) (by decide +kernel), lw_in (i := 443) (by decide +kernel) (by decide +kernel), ⟨_, rfl, rfl⟩, by decide⟩
abbrev Pl_wrapped : pY := (⟨"DoorRounds$Plan", "wrapped", "(J)I"⟩, prog_4_method_9_code, 3, (Option.some Jvm.ClassFile.FieldType.int), 1, 25)
def t_Pl_wrapped_0 : List (Nat × Instr × Nat) := [(0, .aload_n 0, 1), (1, .getfield 9, 3), (4, .ifCond .le 16, 3), (7, .lload_n 1, 1), (8, .aload_n 0, 1), (9, .getfield 9, 3), (12, .i2l, 1), (13, .invokestatic 51, 3), (16, .l2i, 1), (17, .goto 4, 3), (20, .iconst 0, 1), (21, .ireturn, 1)]
theorem d_Pl_wrapped_0 : t_Pl_wrapped_0.all (fun q => decide (decode prog_4_method_9_code q.1 = .ok q.2)) = true := by decide +kernel
theorem cm_Pl_wrapped : CM Pl_wrapped 1 := ⟨by decide +kernel, lw_in (i := 448) (by decide +kernel) (by decide +kernel), in_Pl, by decide +kernel⟩
theorem cv_Pl_wrapped : CV Pl_wrapped 1 2 := ⟨cm_Pl_wrapped, lw_in (i := 446) (by decide +kernel) (by decide +kernel), lw_in (i := 447) (by decide +kernel) (by decide +kernel), ⟨_, rfl, rfl⟩, by decide⟩
abbrev D_rivals : pY := (⟨"DoorRounds", "rivals", "(I)I"⟩, prog_1_method_72_code, 4, (Option.some Jvm.ClassFile.FieldType.int), 3, 69)
def t_D_rivals_0 : List (Nat × Instr × Nat) := [(0, .iconst 0, 1), (1, .istore_n 2, 1), (2, .iconst 0, 1), (3, .istore_n 3, 1), (4, .iload_n 3, 1), (5, .aload_n 0, 1), (6, .getfield 63, 3), (9, .getfield 163, 3), (12, .if_icmp .ge 44, 3), (15, .iload_n 3, 1), (16, .iload_n 1, 1), (17, .if_icmp .eq 33, 3), (20, .aload_n 0, 1), (21, .getfield 28, 3), (24, .aload_n 0, 1), (25, .getfield 63, 3), (28, .iload_n 3, 1), (29, .invokevirtual 224, 3), (32, .aload_n 0, 1), (33, .getfield 28, 3), (36, .aload_n 0, 1), (37, .getfield 63, 3), (40, .iload_n 1, 1), (41, .invokevirtual 224, 3), (44, .if_icmp .ne 6, 3), (47, .iinc 2 1, 3), (50, .iinc 3 1, 3), (53, .goto (-49), 3), (56, .iload_n 2, 1), (57, .ireturn, 1)]
theorem d_D_rivals_0 : t_D_rivals_0.all (fun q => decide (decode prog_1_method_72_code q.1 = .ok q.2)) = true := by decide +kernel
theorem cm_D_rivals : CM D_rivals 1 := ⟨by decide +kernel, lw_in (i := 456) (by decide +kernel) (by decide +kernel), in_D, by decide +kernel⟩
theorem cv_D_rivals : CV D_rivals 1 7 := ⟨cm_D_rivals, lw_in (i := 455) (by decide +kernel) (by decide +kernel), lw_insel (q := (⟨"DoorRounds", "rivals", "(I)I"⟩, 16)) (i := 9) (by decide +kernel) (by decide +kernel), ⟨_, rfl, rfl⟩, by decide⟩
abbrev Sn_wanted : pY := (⟨"DoorRounds$Standing", "wanted", "(LDoorRounds$Plan;I)I"⟩, prog_7_method_8_code, 3, (Option.some Jvm.ClassFile.FieldType.int), 2, 47)
def t_Sn_wanted_0 : List (Nat × Instr × Nat) := [(0, .aload_n 1, 1), (1, .aload_n 0, 1), (2, .iload_n 2, 1), (3, .invokevirtual 56, 3), (6, .aload_n 1, 1), (7, .iload_n 2, 1), (8, .invokevirtual 27, 3), (11, .aload_n 0, 1), (12, .getfield 9, 3), (15, .invokevirtual 59, 3), (18, .iadd, 1), (19, .i2l, 1), (20, .invokevirtual 62, 3), (23, .ireturn, 1)]
theorem d_Sn_wanted_0 : t_Sn_wanted_0.all (fun q => decide (decode prog_7_method_8_code q.1 = .ok q.2)) = true := by decide +kernel
theorem cm_Sn_wanted : CM Sn_wanted 2 := ⟨by decide +kernel, lw_in (i := 460) (by decide +kernel) (by decide +kernel), in_Sn, by decide +kernel⟩
theorem cv_Sn_wanted : CV Sn_wanted 2 5 := ⟨cm_Sn_wanted, lw_in (i := 458) (by decide +kernel) (by decide +kernel), lw_in (i := 459) (by decide +kernel) (by decide +kernel), ⟨_, rfl, rfl⟩, by decide⟩
abbrev Sh_goingIn : pY := (⟨"DoorRounds$Shop", "goingIn", "(I)I"⟩, prog_6_method_3_code, 2, (Option.some Jvm.ClassFile.FieldType.int), 1, 24)
def t_Sh_goingIn_0 : List (Nat × Instr × Nat) := [(0, .aload_n 0, 1), (1, .getfield 9, 3), (4, .aload_n 0, 1), (5, .getfield 24, 3), (8, .aload_n 0, 1), (9, .getfield 18, 3), (12, .iload_n 1, 1), (13, .invokestatic 27, 3), (16, .ireturn, 1)]
theorem d_Sh_goingIn_0 : t_Sh_goingIn_0.all (fun q => decide (decode prog_6_method_3_code q.1 = .ok q.2)) = true := by decide +kernel
theorem cm_Sh_goingIn : CM Sh_goingIn 1 := ⟨by decide +kernel, lw_in (i := 465) (by decide +kernel) (by decide +kernel), in_Sh, by decide +kernel⟩
theorem cv_Sh_goingIn : CV Sh_goingIn 1 4 := ⟨cm_Sh_goingIn, lw_in (i := 463) (by decide +kernel) (by decide +kernel), lw_in (i := 464) (by decide +kernel) (by decide +kernel), ⟨_, rfl, rfl⟩, by decide⟩
abbrev Sh_going : pY := (⟨"DoorRounds$Shop", "going", "(IIII)I"⟩, prog_6_method_7_code, 5, (Option.some Jvm.ClassFile.FieldType.int), 0, 0)
def t_Sh_going_0 : List (Nat × Instr × Nat) := [(0, .iload_n 0, 1), (1, .iconst 1, 1), (2, .if_icmp .ne 5, 3), (5, .iconst 0, 1), (6, .ireturn, 1), (7, .iload_n 1, 1), (8, .iconst 2, 1), (9, .if_icmp .ge 5, 3), (12, .iload_n 2, 1), (13, .ireturn, 1), (14, .iload_n 3, 1), (15, .iload_n 1, 1), (16, .irem, 1), (17, .iload_n 1, 1), (18, .iconst 1, 1), (19, .isub, 1), (20, .if_icmp .ne 7, 3), (23, .iconst 1, 1), (24, .goto 4, 3), (27, .iconst 0, 1), (28, .istore 4, 2), (30, .iload_n 0, 1), (31, .tableswitch 63 3 5 #[25, 36, 51], 25), (56, .iload 4, 2), (58, .ifCond .eq 7, 3), (61, .iconst 0, 1), (62, .goto 4, 3), (65, .iload_n 2, 1), (66, .ireturn, 1), (67, .iload_n 3, 1)]
theorem d_Sh_going_0 : t_Sh_going_0.all (fun q => decide (decode prog_6_method_7_code q.1 = .ok q.2)) = true := by decide +kernel
def t_Sh_going_1 : List (Nat × Instr × Nat) := [(68, .iload_n 1, 1), (69, .idiv, 1), (70, .iconst 2, 1), (71, .irem, 1), (72, .ifCond .ne 7, 3), (75, .iload_n 2, 1), (76, .goto 5, 3), (79, .iload_n 2, 1), (80, .ineg, 1), (81, .ireturn, 1), (82, .iload 4, 2), (84, .ifCond .eq 8, 3), (87, .iload_n 2, 1), (88, .ineg, 1), (89, .goto 4, 3), (92, .iload_n 2, 1), (93, .ireturn, 1), (94, .iload_n 2, 1), (95, .ireturn, 1)]
theorem d_Sh_going_1 : t_Sh_going_1.all (fun q => decide (decode prog_6_method_7_code q.1 = .ok q.2)) = true := by decide +kernel
theorem cm_Sh_going : CM Sh_going 4 := ⟨by decide +kernel, lw_in (i := 468) (by decide +kernel) (by decide +kernel), in_Sh, by decide +kernel⟩
theorem cs_Sh_going : CS Sh_going 4 := ⟨cm_Sh_going, lw_in (i := 467) (by decide +kernel) (by decide +kernel)⟩
abbrev Sh_weeksToSleep : pY := (⟨"DoorRounds$Shop", "weeksToSleep", "(I)I"⟩, prog_6_method_5_code, 2, (Option.some Jvm.ClassFile.FieldType.int), 0, 0)
def t_Sh_weeksToSleep_0 : List (Nat × Instr × Nat) := [(0, .aload_n 0, 1), (1, .getfield 24, 3), (4, .iconst 2, 1), (5, .if_icmp .ge 7, 3), (8, .iconst 0, 1), (9, .goto 16, 3), (12, .aload_n 0, 1), (13, .getfield 24, 3), (16, .iconst 1, 1), (17, .isub, 1), (18, .iload_n 1, 1), (19, .aload_n 0, 1), (20, .getfield 24, 3), (23, .irem, 1), (24, .isub, 1), (25, .ireturn, 1)]
theorem d_Sh_weeksToSleep_0 : t_Sh_weeksToSleep_0.all (fun q => decide (decode prog_6_method_5_code q.1 = .ok q.2)) = true := by decide +kernel
theorem cm_Sh_weeksToSleep : CM Sh_weeksToSleep 1 := ⟨by decide +kernel, lw_in (i := 473) (by decide +kernel) (by decide +kernel), in_Sh, by decide +kernel⟩
theorem cv_Sh_weeksToSleep : CV Sh_weeksToSleep 1 4 := ⟨cm_Sh_weeksToSleep, lw_in (i := 471) (by decide +kernel) (by decide +kernel), lw_in (i := 472) (by decide +kernel) (by decide +kernel), ⟨_, rfl, rfl⟩, by decide⟩
abbrev Sh_weeksToTurn : pY := (⟨"DoorRounds$Shop", "weeksToTurn", "(I)I"⟩, prog_6_method_6_code, 2, (Option.some Jvm.ClassFile.FieldType.int), 0, 0)
def t_Sh_weeksToTurn_0 : List (Nat × Instr × Nat) := [(0, .aload_n 0, 1), (1, .getfield 24, 3), (4, .iconst 2, 1), (5, .if_icmp .ge 7, 3), (8, .iconst 0, 1), (9, .goto 14, 3), (12, .aload_n 0, 1), (13, .getfield 24, 3), (16, .iload_n 1, 1), (17, .aload_n 0, 1), (18, .getfield 24, 3), (21, .irem, 1), (22, .isub, 1), (23, .ireturn, 1)]
theorem d_Sh_weeksToTurn_0 : t_Sh_weeksToTurn_0.all (fun q => decide (decode prog_6_method_6_code q.1 = .ok q.2)) = true := by decide +kernel
theorem cm_Sh_weeksToTurn : CM Sh_weeksToTurn 1 := ⟨by decide +kernel, lw_in (i := 477) (by decide +kernel) (by decide +kernel), in_Sh, by decide +kernel⟩
theorem cv_Sh_weeksToTurn : CV Sh_weeksToTurn 1 4 := ⟨cm_Sh_weeksToTurn, lw_in (i := 475) (by decide +kernel) (by decide +kernel), lw_in (i := 476) (by decide +kernel) (by decide +kernel), ⟨_, rfl, rfl⟩, by decide⟩
abbrev Sh_way : pY := (⟨"DoorRounds$Shop", "way", "(II)J"⟩, prog_6_method_4_code, 3, (Option.some Jvm.ClassFile.FieldType.long), 2, 56)
def t_Sh_way_0 : List (Nat × Instr × Nat) := [(0, .aload_n 0, 1), (1, .getfield 9, 3), (4, .aload_n 0, 1), (5, .getfield 24, 3), (8, .aload_n 0, 1), (9, .getfield 18, 3), (12, .iload_n 1, 1), (13, .iload_n 2, 1), (14, .invokestatic 31, 3), (17, .lreturn, 1)]
theorem d_Sh_way_0 : t_Sh_way_0.all (fun q => decide (decode prog_6_method_4_code q.1 = .ok q.2)) = true := by decide +kernel
theorem cm_Sh_way : CM Sh_way 2 := ⟨by decide +kernel, lw_in (i := 481) (by decide +kernel) (by decide +kernel), in_Sh, by decide +kernel⟩
theorem cv_Sh_way : CV Sh_way 2 4 := ⟨cm_Sh_way, lw_in (i := 479) (by decide +kernel) (by decide +kernel), lw_in (i := 480) (by decide +kernel) (by decide +kernel), ⟨_, rfl, rfl⟩, by decide⟩
abbrev Sh_wayOf : pY := (⟨"DoorRounds$Shop", "wayOf", "(IIIII)J"⟩, prog_6_method_8_code, 13, (Option.some Jvm.ClassFile.FieldType.long), 1, 24)
def t_Sh_wayOf_0 : List (Nat × Instr × Nat) := [(0, .iload_n 1, 1), (1, .iconst 2, 1), (2, .if_icmp .ge 7, 3), (5, .iconst 1, 1), (6, .goto 6, 3), (9, .iconst 2, 1), (10, .iload_n 1, 1), (11, .imul, 1), (12, .istore 5, 2), (14, .iload 4, 2), (16, .iload 5, 2), (18, .irem, 1), (19, .istore 6, 2), (21, .lconst 0, 1), (22, .lstore 7, 2), (24, .lconst 0, 1), (25, .lstore 9, 2), (27, .iconst 0, 1), (28, .istore 11, 2), (30, .iload 11, 2), (32, .iload 5, 2), (34, .if_icmp .ge 48, 3), (37, .iload_n 0, 1), (38, .iload_n 1, 1), (39, .iload_n 2, 1), (40, .iload_n 3, 1), (41, .iload 11, 2), (43, .iadd, 1), (44, .invokestatic 27, 3), (47, .istore 12, 2)]
theorem d_Sh_wayOf_0 : t_Sh_wayOf_0.all (fun q => decide (decode prog_6_method_8_code q.1 = .ok q.2)) = true := by decide +kernel
def t_Sh_wayOf_1 : List (Nat × Instr × Nat) := [(49, .lload 7, 2), (51, .iload 12, 2), (53, .i2l, 1), (54, .ladd, 1), (55, .lstore 7, 2), (57, .lload 9, 2), (59, .iload 11, 2), (61, .iload 6, 2), (63, .if_icmp .ge 9, 3), (66, .iload 12, 2), (68, .i2l, 1), (69, .goto 4, 3), (72, .lconst 0, 1), (73, .ladd, 1), (74, .lstore 9, 2), (76, .iinc 11 1, 3), (79, .goto (-49), 3), (82, .iload 4, 2), (84, .iload 5, 2), (86, .idiv, 1), (87, .i2l, 1), (88, .lload 7, 2), (90, .lmul, 1), (91, .lload 9, 2), (93, .ladd, 1), (94, .lreturn, 1)]
theorem d_Sh_wayOf_1 : t_Sh_wayOf_1.all (fun q => decide (decode prog_6_method_8_code q.1 = .ok q.2)) = true := by decide +kernel
theorem cm_Sh_wayOf : CM Sh_wayOf 5 := ⟨by decide +kernel, lw_in (i := 484) (by decide +kernel) (by decide +kernel), in_Sh, by decide +kernel⟩
theorem cs_Sh_wayOf : CS Sh_wayOf 5 := ⟨cm_Sh_wayOf, lw_in (i := 483) (by decide +kernel) (by decide +kernel)⟩
abbrev D_shut : pY := (⟨"DoorRounds", "shut", "(I)I"⟩, prog_1_method_14_code, 2, (Option.some Jvm.ClassFile.FieldType.int), 2, 42)
def t_D_shut_0 : List (Nat × Instr × Nat) := [(0, .aload_n 0, 1), (1, .getfield 63, 3), (4, .iload_n 1, 1), (5, .invokevirtual 198, 3), (8, .ifCond .ne 5, 3), (11, .iconst (-1), 1), (12, .ireturn, 1), (13, .aload_n 0, 1), (14, .getfield 28, 3), (17, .iload_n 1, 1), (18, .invokevirtual 201, 3), (21, .ifCond .eq 6, 3), (24, .bipush (-4), 2), (26, .ireturn, 1), (27, .aload_n 0, 1), (28, .getfield 28, 3), (31, .invokevirtual 204, 3), (34, .iconst 3, 1), (35, .if_icmp .lt 6, 3), (38, .bipush (-2), 2), (40, .ireturn, 1), (41, .aload_n 0, 1), (42, .getfield 28, 3), (45, .dup, 1), (46, .getfield 208, 3), (49, .iconst 1, 1), (50, .iload_n 1, 1), (51, .ishl, 1), (52, .ior, 1), (53, .putfield 208, 3)]
theorem d_D_shut_0 : t_D_shut_0.all (fun q => decide (decode prog_1_method_14_code q.1 = .ok q.2)) = true := by decide +kernel
def t_D_shut_1 : List (Nat × Instr × Nat) := [(56, .aload_n 0, 1), (57, .getfield 28, 3), (60, .invokevirtual 204, 3), (63, .ireturn, 1)]
theorem d_D_shut_1 : t_D_shut_1.all (fun q => decide (decode prog_1_method_14_code q.1 = .ok q.2)) = true := by decide +kernel
theorem cm_D_shut : CM D_shut 1 := ⟨by decide +kernel, lw_in (i := 488) (by decide +kernel) (by decide +kernel), in_D, by decide +kernel⟩
theorem cv_D_shut : CV D_shut 1 7 := ⟨cm_D_shut, lw_in (i := 486) (by decide +kernel) (by decide +kernel), lw_in (i := 487) (by decide +kernel) (by decide +kernel), ⟨_, rfl, rfl⟩, by decide⟩
abbrev Pl_hasDoor : pY := (⟨"DoorRounds$Plan", "hasDoor", "(I)Z"⟩, prog_4_method_3_code, 2, (Option.some Jvm.ClassFile.FieldType.boolean), 0, 0)
def t_Pl_hasDoor_0 : List (Nat × Instr × Nat) := [(0, .iload_n 1, 1), (1, .ifCond .lt 15, 3), (4, .iload_n 1, 1), (5, .aload_n 0, 1), (6, .getfield 9, 3), (9, .if_icmp .ge 7, 3), (12, .iconst 1, 1), (13, .goto 4, 3), (16, .iconst 0, 1), (17, .ireturn, 1)]
theorem d_Pl_hasDoor_0 : t_Pl_hasDoor_0.all (fun q => decide (decode prog_4_method_3_code q.1 = .ok q.2)) = true := by decide +kernel
theorem cm_Pl_hasDoor : CM Pl_hasDoor 1 := ⟨by decide +kernel, lw_in (i := 492) (by decide +kernel) (by decide +kernel), in_Pl, by decide +kernel⟩
theorem cv_Pl_hasDoor : CV Pl_hasDoor 1 2 := ⟨cm_Pl_hasDoor, lw_in (i := 490) (by decide +kernel) (by decide +kernel), lw_in (i := 491) (by decide +kernel) (by decide +kernel), ⟨_, rfl, rfl⟩, by decide⟩
abbrev Sn_isShut : pY := (⟨"DoorRounds$Standing", "isShut", "(I)Z"⟩, prog_7_method_6_code, 2, (Option.some Jvm.ClassFile.FieldType.boolean), 1, 21)
def t_Sn_isShut_0 : List (Nat × Instr × Nat) := [(0, .aload_n 0, 1), (1, .getfield 15, 3), (4, .iload_n 1, 1), (5, .invokestatic 46, 3), (8, .ireturn, 1)]
theorem d_Sn_isShut_0 : t_Sn_isShut_0.all (fun q => decide (decode prog_7_method_6_code q.1 = .ok q.2)) = true := by decide +kernel
theorem cm_Sn_isShut : CM Sn_isShut 1 := ⟨by decide +kernel, lw_in (i := 496) (by decide +kernel) (by decide +kernel), in_Sn, by decide +kernel⟩
theorem cv_Sn_isShut : CV Sn_isShut 1 5 := ⟨cm_Sn_isShut, lw_in (i := 494) (by decide +kernel) (by decide +kernel), lw_in (i := 495) (by decide +kernel) (by decide +kernel), ⟨_, rfl, rfl⟩, by decide⟩
abbrev D_isIn : pY := (⟨"DoorRounds", "isIn", "(II)Z"⟩, prog_1_method_76_code, 2, (Option.some Jvm.ClassFile.FieldType.boolean), 0, 0)
def t_D_isIn_0 : List (Nat × Instr × Nat) := [(0, .iload_n 1, 1), (1, .ifCond .lt 22, 3), (4, .iload_n 1, 1), (5, .bipush 31, 2), (7, .if_icmp .ge 16, 3), (10, .iload_n 0, 1), (11, .iload_n 1, 1), (12, .ishr, 1), (13, .iconst 1, 1), (14, .iand, 1), (15, .iconst 1, 1), (16, .if_icmp .ne 7, 3), (19, .iconst 1, 1), (20, .goto 4, 3), (23, .iconst 0, 1), (24, .ireturn, 1)]
theorem d_D_isIn_0 : t_D_isIn_0.all (fun q => decide (decode prog_1_method_76_code q.1 = .ok q.2)) = true := by decide +kernel
theorem cm_D_isIn : CM D_isIn 2 := ⟨by decide +kernel, lw_in (i := 499) (by decide +kernel) (by decide +kernel), in_D, by decide +kernel⟩
theorem cs_D_isIn : CS D_isIn 2 := ⟨cm_D_isIn, lw_in (i := 498) (by decide +kernel) (by decide +kernel)⟩
abbrev Sn_shutCount : pY := (⟨"DoorRounds$Standing", "shutCount", "()I"⟩, prog_7_method_7_code, 1, (Option.some Jvm.ClassFile.FieldType.int), 1, 20)
def t_Sn_shutCount_0 : List (Nat × Instr × Nat) := [(0, .aload_n 0, 1), (1, .getfield 15, 3), (4, .invokestatic 50, 3), (7, .ireturn, 1)]
theorem d_Sn_shutCount_0 : t_Sn_shutCount_0.all (fun q => decide (decode prog_7_method_7_code q.1 = .ok q.2)) = true := by decide +kernel
theorem cm_Sn_shutCount : CM Sn_shutCount 0 := ⟨by decide +kernel, lw_in (i := 503) (by decide +kernel) (by decide +kernel), in_Sn, by decide +kernel⟩
theorem cv_Sn_shutCount : CV Sn_shutCount 0 5 := ⟨cm_Sn_shutCount, lw_in (i := 501) (by decide +kernel) (by decide +kernel), lw_in (i := 502) (by decide +kernel) (by decide +kernel), ⟨_, rfl, rfl⟩, by decide⟩
abbrev ji_bitCount : pY := (⟨"java/lang/Integer", "bitCount", "(I)I"⟩, prog_11_method_49_code, 1, (Option.some Jvm.ClassFile.FieldType.int), 0, 0)
def t_ji_bitCount_0 : List (Nat × Instr × Nat) := [(0, .iload_n 0, 1), (1, .iload_n 0, 1), (2, .iconst 1, 1), (3, .iushr, 1), (4, .ldc_w 265, 3), (7, .iand, 1), (8, .isub, 1), (9, .istore_n 0, 1), (10, .iload_n 0, 1), (11, .ldc_w 266, 3), (14, .iand, 1), (15, .iload_n 0, 1), (16, .iconst 2, 1), (17, .iushr, 1), (18, .ldc_w 266, 3), (21, .iand, 1), (22, .iadd, 1), (23, .istore_n 0, 1), (24, .iload_n 0, 1), (25, .iload_n 0, 1), (26, .iconst 4, 1), (27, .iushr, 1), (28, .iadd, 1), (29, .ldc_w 267, 3), (32, .iand, 1), (33, .istore_n 0, 1), (34, .iload_n 0, 1), (35, .iload_n 0, 1), (36, .bipush 8, 2), (38, .iushr, 1)]
theorem d_ji_bitCount_0 : t_ji_bitCount_0.all (fun q => decide (decode prog_11_method_49_code q.1 = .ok q.2)) = true := by decide +kernel
def t_ji_bitCount_1 : List (Nat × Instr × Nat) := [(39, .iadd, 1), (40, .istore_n 0, 1), (41, .iload_n 0, 1), (42, .iload_n 0, 1), (43, .bipush 16, 2), (45, .iushr, 1), (46, .iadd, 1), (47, .istore_n 0, 1), (48, .iload_n 0, 1), (49, .bipush 63, 2), (51, .iand, 1), (52, .ireturn, 1)]
theorem d_ji_bitCount_1 : t_ji_bitCount_1.all (fun q => decide (decode prog_11_method_49_code q.1 = .ok q.2)) = true := by decide +kernel
theorem cm_ji_bitCount : CM ji_bitCount 1 := ⟨by decide +kernel, lw_in (i := 506) (by decide +kernel) (by decide +kernel), in_ji, by decide +kernel⟩
theorem cs_ji_bitCount : CS ji_bitCount 1 := ⟨cm_ji_bitCount, lw_in (i := 505) (by decide +kernel) (by decide +kernel)⟩
abbrev D_open : pY := (⟨"DoorRounds", "open", "(I)I"⟩, prog_1_method_15_code, 2, (Option.some Jvm.ClassFile.FieldType.int), 2, 42)
def t_D_open_0 : List (Nat × Instr × Nat) := [(0, .aload_n 0, 1), (1, .getfield 63, 3), (4, .iload_n 1, 1), (5, .invokevirtual 198, 3), (8, .ifCond .ne 5, 3), (11, .iconst (-1), 1), (12, .ireturn, 1), (13, .aload_n 0, 1), (14, .getfield 28, 3), (17, .iload_n 1, 1), (18, .invokevirtual 201, 3), (21, .ifCond .ne 6, 3), (24, .bipush (-4), 2), (26, .ireturn, 1), (27, .aload_n 0, 1), (28, .getfield 28, 3), (31, .dup, 1), (32, .getfield 208, 3), (35, .iconst 1, 1), (36, .iload_n 1, 1), (37, .ishl, 1), (38, .iconst (-1), 1), (39, .ixor, 1), (40, .iand, 1), (41, .putfield 208, 3), (44, .aload_n 0, 1), (45, .getfield 28, 3), (48, .invokevirtual 204, 3), (51, .ireturn, 1)]
theorem d_D_open_0 : t_D_open_0.all (fun q => decide (decode prog_1_method_15_code q.1 = .ok q.2)) = true := by decide +kernel
theorem cm_D_open : CM D_open 1 := ⟨by decide +kernel, lw_in (i := 513) (by decide +kernel) (by decide +kernel), in_D, by decide +kernel⟩
theorem cv_D_open : CV D_open 1 7 := ⟨cm_D_open, lw_in (i := 511) (by decide +kernel) (by decide +kernel), lw_in (i := 512) (by decide +kernel) (by decide +kernel), ⟨_, rfl, rfl⟩, by decide⟩
abbrev D_go : pY := (⟨"DoorRounds", "go", "(I)I"⟩, prog_1_method_16_code, 2, (Option.some Jvm.ClassFile.FieldType.int), 4, 98)
def t_D_go_0 : List (Nat × Instr × Nat) := [(0, .iload_n 1, 1), (1, .ifCond .lt 10, 3), (4, .iload_n 1, 1), (5, .sipush 400, 3), (8, .if_icmp .le 5, 3), (11, .iconst (-1), 1), (12, .ireturn, 1), (13, .aload_n 0, 1), (14, .getfield 63, 3), (17, .invokevirtual 211, 3), (20, .ifCond .ne 6, 3), (23, .bipush (-4), 2), (25, .ireturn, 1), (26, .aload_n 0, 1), (27, .getfield 28, 3), (30, .getfield 84, 3), (33, .iload_n 1, 1), (34, .iadd, 1), (35, .ldc 212, 2), (37, .if_icmp .le 6, 3), (40, .bipush (-6), 2), (42, .ireturn, 1), (43, .aload_n 0, 1), (44, .getfield 28, 3), (47, .aload_n 0, 1), (48, .getfield 63, 3), (51, .iload_n 1, 1), (52, .invokevirtual 213, 3), (55, .aload_n 0, 1), (56, .getfield 28, 3)]
theorem d_D_go_0 : t_D_go_0.all (fun q => decide (decode prog_1_method_16_code q.1 = .ok q.2)) = true := by decide +kernel
def t_D_go_1 : List (Nat × Instr × Nat) := [(59, .getfield 84, 3), (62, .ireturn, 1)]
theorem d_D_go_1 : t_D_go_1.all (fun q => decide (decode prog_1_method_16_code q.1 = .ok q.2)) = true := by decide +kernel
theorem cm_D_go : CM D_go 1 := ⟨by decide +kernel, lw_in (i := 517) (by decide +kernel) (by decide +kernel), in_D, by decide +kernel⟩
theorem cv_D_go : CV D_go 1 7 := ⟨cm_D_go, lw_in (i := 515) (by decide +kernel) (by decide +kernel), lw_in (i := 516) (by decide +kernel) (by decide +kernel), ⟨_, rfl, rfl⟩, by decide⟩
abbrev Pl_isThere : pY := (⟨"DoorRounds$Plan", "isThere", "()Z"⟩, prog_4_method_2_code, 1, (Option.some Jvm.ClassFile.FieldType.boolean), 0, 0)
def t_Pl_isThere_0 : List (Nat × Instr × Nat) := [(0, .aload_n 0, 1), (1, .getfield 9, 3), (4, .ifCond .le 7, 3), (7, .iconst 1, 1), (8, .goto 4, 3), (11, .iconst 0, 1), (12, .ireturn, 1)]
theorem d_Pl_isThere_0 : t_Pl_isThere_0.all (fun q => decide (decode prog_4_method_2_code q.1 = .ok q.2)) = true := by decide +kernel
theorem cm_Pl_isThere : CM Pl_isThere 0 := ⟨by decide +kernel, lw_in (i := 521) (by decide +kernel) (by decide +kernel), in_Pl, by decide +kernel⟩
theorem cv_Pl_isThere : CV Pl_isThere 0 2 := ⟨cm_Pl_isThere, lw_in (i := 519) (by decide +kernel) (by decide +kernel), lw_in (i := 520) (by decide +kernel) (by decide +kernel), ⟨_, rfl, rfl⟩, by decide⟩
abbrev Sn_pass : pY := (⟨"DoorRounds$Standing", "pass", "(LDoorRounds$Plan;I)V"⟩, prog_7_method_9_code, 4, (Option.none : Option Jvm.ClassFile.FieldType), 3, 75)
def t_Sn_pass_0 : List (Nat × Instr × Nat) := [(0, .iconst 0, 1), (1, .istore_n 3, 1), (2, .iload_n 3, 1), (3, .iload_n 2, 1), (4, .if_icmp .ge 14, 3), (7, .aload_n 0, 1), (8, .aload_n 1, 1), (9, .invokevirtual 66, 3), (12, .iinc 3 1, 3), (15, .goto (-13), 3), (18, .return_, 1)]
theorem d_Sn_pass_0 : t_Sn_pass_0.all (fun q => decide (decode prog_7_method_9_code q.1 = .ok q.2)) = true := by decide +kernel
theorem cm_Sn_pass : CM Sn_pass 2 := ⟨by decide +kernel, lw_in (i := 526) (by decide +kernel) (by decide +kernel), in_Sn, by decide +kernel⟩
theorem cv_Sn_pass : CV Sn_pass 2 5 := ⟨cm_Sn_pass, lw_in (i := 524) (by decide +kernel) (by decide +kernel), lw_in (i := 525) (by decide +kernel) (by decide +kernel), ⟨_, rfl, rfl⟩, by decide⟩
abbrev Sn_passOne : pY := (⟨"DoorRounds$Standing", "passOne", "(LDoorRounds$Plan;)V"⟩, prog_7_method_10_code, 9, (Option.none : Option Jvm.ClassFile.FieldType), 2, 47)
def t_Sn_passOne_0 : List (Nat × Instr × Nat) := [(0, .aload_n 0, 1), (1, .getfield 15, 3), (4, .istore_n 2, 1), (5, .iconst 0, 1), (6, .istore_n 3, 1), (7, .iload_n 3, 1), (8, .aload_n 1, 1), (9, .getfield 22, 3), (12, .if_icmp .ge 120, 3), (15, .iload_n 3, 1), (16, .bipush 7, 2), (18, .if_icmp .ge 114, 3), (21, .aload_n 1, 1), (22, .getfield 70, 3), (25, .iload_n 3, 1), (26, .iaload, 1), (27, .istore 4, 2), (29, .aload_n 1, 1), (30, .iload 4, 2), (32, .invokevirtual 27, 3), (35, .aload_n 0, 1), (36, .getfield 9, 3), (39, .invokevirtual 59, 3), (42, .istore 5, 2), (44, .iload 5, 2), (46, .ifCond .ge 7, 3), (49, .iconst (-1), 1), (50, .goto 4, 3), (53, .iconst 1, 1), (54, .istore 6, 2)]
theorem d_Sn_passOne_0 : t_Sn_passOne_0.all (fun q => decide (decode prog_7_method_10_code q.1 = .ok q.2)) = true := by decide +kernel
def t_Sn_passOne_1 : List (Nat × Instr × Nat) := [(56, .aload_n 1, 1), (57, .aload_n 0, 1), (58, .iload 4, 2), (60, .invokevirtual 56, 3), (63, .iload 5, 2), (65, .iadd, 1), (66, .i2l, 1), (67, .invokevirtual 62, 3), (70, .istore 7, 2), (72, .iconst 0, 1), (73, .istore 8, 2), (75, .iload 8, 2), (77, .aload_n 1, 1), (78, .getfield 73, 3), (81, .if_icmp .ge 30, 3), (84, .iload_n 2, 1), (85, .iload 7, 2), (87, .invokestatic 46, 3), (90, .ifCond .eq 21, 3), (93, .aload_n 1, 1), (94, .iload 7, 2), (96, .iload 6, 2), (98, .iadd, 1), (99, .i2l, 1), (100, .invokevirtual 62, 3), (103, .istore 7, 2), (105, .iinc 8 1, 3), (108, .goto (-33), 3), (111, .aload_n 0, 1), (112, .iload 4, 2)]
theorem d_Sn_passOne_1 : t_Sn_passOne_1.all (fun q => decide (decode prog_7_method_10_code q.1 = .ok q.2)) = true := by decide +kernel
def t_Sn_passOne_2 : List (Nat × Instr × Nat) := [(114, .iload 7, 2), (116, .invokevirtual 36, 3), (119, .iload_n 2, 1), (120, .iconst 1, 1), (121, .iload 7, 2), (123, .ishl, 1), (124, .ior, 1), (125, .istore_n 2, 1), (126, .iinc 3 1, 3), (129, .goto (-122), 3), (132, .aload_n 0, 1), (133, .dup, 1), (134, .getfield 9, 3), (137, .iconst 1, 1), (138, .iadd, 1), (139, .putfield 9, 3), (142, .return_, 1)]
theorem d_Sn_passOne_2 : t_Sn_passOne_2.all (fun q => decide (decode prog_7_method_10_code q.1 = .ok q.2)) = true := by decide +kernel
theorem cm_Sn_passOne : CM Sn_passOne 1 := ⟨by decide +kernel, lw_in (i := 530) (by decide +kernel) (by decide +kernel), in_Sn, by decide +kernel⟩
theorem cv_Sn_passOne : CV Sn_passOne 1 5 := ⟨cm_Sn_passOne, lw_in (i := 529) (by decide +kernel) (by decide +kernel), lw_insel (q := (⟨"DoorRounds$Standing", "passOne", "(LDoorRounds$Plan;)V"⟩, 3)) (i := 10) (by decide +kernel) (by decide +kernel), ⟨_, rfl, rfl⟩, by decide⟩
abbrev D_doors : pY := (⟨"DoorRounds", "doors", "(I)I"⟩, prog_1_method_17_code, 4, (Option.some Jvm.ClassFile.FieldType.int), 2, 47)
def t_D_doors_0 : List (Nat × Instr × Nat) := [(0, .iload_n 1, 1), (1, .invokestatic 87, 3), (4, .ifCond .ne 5, 3), (7, .iconst (-1), 1), (8, .ireturn, 1), (9, .aload_n 0, 1), (10, .iload_n 1, 1), (11, .invokevirtual 95, 3), (14, .astore_n 2, 1), (15, .aload_n 2, 1), (16, .aload_n 0, 1), (17, .getfield 63, 3), (20, .getfield 163, 3), (23, .iconst 0, 1), (24, .invokevirtual 99, 3), (27, .iconst 0, 1), (28, .istore_n 3, 1), (29, .iload_n 3, 1), (30, .aload_n 0, 1), (31, .getfield 63, 3), (34, .getfield 163, 3), (37, .if_icmp .ge 22, 3), (40, .aload_n 2, 1), (41, .iload_n 3, 1), (42, .aload_n 0, 1), (43, .getfield 28, 3), (46, .iload_n 3, 1), (47, .invokevirtual 217, 3), (50, .invokevirtual 110, 3), (53, .iinc 3 1, 3)]
theorem d_D_doors_0 : t_D_doors_0.all (fun q => decide (decode prog_1_method_17_code q.1 = .ok q.2)) = true := by decide +kernel
def t_D_doors_1 : List (Nat × Instr × Nat) := [(56, .goto (-27), 3), (59, .aload_n 0, 1), (60, .getfield 63, 3), (63, .getfield 163, 3), (66, .ireturn, 1)]
theorem d_D_doors_1 : t_D_doors_1.all (fun q => decide (decode prog_1_method_17_code q.1 = .ok q.2)) = true := by decide +kernel
theorem cm_D_doors : CM D_doors 1 := ⟨by decide +kernel, lw_in (i := 534) (by decide +kernel) (by decide +kernel), in_D, by decide +kernel⟩
theorem cv_D_doors : CV D_doors 1 7 := ⟨cm_D_doors, lw_in (i := 532) (by decide +kernel) (by decide +kernel), lw_in (i := 533) (by decide +kernel) (by decide +kernel), ⟨_, rfl, rfl⟩, by decide⟩
abbrev D_who : pY := (⟨"DoorRounds", "who", "(I)I"⟩, prog_1_method_18_code, 3, (Option.some Jvm.ClassFile.FieldType.int), 1, 21)
def t_D_who_0 : List (Nat × Instr × Nat) := [(0, .aload_n 0, 1), (1, .getfield 63, 3), (4, .iload_n 1, 1), (5, .invokevirtual 198, 3), (8, .ifCond .ne 5, 3), (11, .iconst (-1), 1), (12, .ireturn, 1), (13, .iconst 0, 1), (14, .istore_n 2, 1), (15, .iload_n 2, 1), (16, .aload_n 0, 1), (17, .getfield 63, 3), (20, .getfield 163, 3), (23, .if_icmp .ge 23, 3), (26, .aload_n 0, 1), (27, .getfield 28, 3), (30, .iload_n 2, 1), (31, .invokevirtual 217, 3), (34, .iload_n 1, 1), (35, .if_icmp .ne 5, 3), (38, .iload_n 2, 1), (39, .ireturn, 1), (40, .iinc 2 1, 3), (43, .goto (-28), 3), (46, .bipush (-9), 2), (48, .ireturn, 1)]
theorem d_D_who_0 : t_D_who_0.all (fun q => decide (decode prog_1_method_18_code q.1 = .ok q.2)) = true := by decide +kernel
theorem cm_D_who : CM D_who 1 := ⟨by decide +kernel, lw_in (i := 538) (by decide +kernel) (by decide +kernel), in_D, by decide +kernel⟩
theorem cv_D_who : CV D_who 1 7 := ⟨cm_D_who, lw_in (i := 536) (by decide +kernel) (by decide +kernel), lw_in (i := 537) (by decide +kernel) (by decide +kernel), ⟨_, rfl, rfl⟩, by decide⟩
abbrev D_wants : pY := (⟨"DoorRounds", "wants", "(I)I"⟩, prog_1_method_19_code, 2, (Option.some Jvm.ClassFile.FieldType.int), 4, 98)
def t_D_wants_0 : List (Nat × Instr × Nat) := [(0, .aload_n 0, 1), (1, .getfield 63, 3), (4, .iload_n 1, 1), (5, .invokevirtual 164, 3), (8, .ifCond .ne 5, 3), (11, .iconst (-1), 1), (12, .ireturn, 1), (13, .aload_n 0, 1), (14, .getfield 36, 3), (17, .aload_n 0, 1), (18, .getfield 28, 3), (21, .invokevirtual 220, 3), (24, .aload_n 0, 1), (25, .getfield 36, 3), (28, .aload_n 0, 1), (29, .getfield 63, 3), (32, .iconst 1, 1), (33, .invokevirtual 213, 3), (36, .aload_n 0, 1), (37, .aload_n 0, 1), (38, .getfield 36, 3), (41, .iload_n 1, 1), (42, .invokevirtual 217, 3), (45, .aload_n 0, 1), (46, .getfield 28, 3), (49, .aload_n 0, 1), (50, .getfield 63, 3), (53, .iload_n 1, 1), (54, .invokevirtual 224, 3), (57, .invokevirtual 113, 3)]
theorem d_D_wants_0 : t_D_wants_0.all (fun q => decide (decode prog_1_method_19_code q.1 = .ok q.2)) = true := by decide +kernel
def t_D_wants_1 : List (Nat × Instr × Nat) := [(60, .ireturn, 1)]
theorem d_D_wants_1 : t_D_wants_1.all (fun q => decide (decode prog_1_method_19_code q.1 = .ok q.2)) = true := by decide +kernel
theorem cm_D_wants : CM D_wants 1 := ⟨by decide +kernel, lw_in (i := 542) (by decide +kernel) (by decide +kernel), in_D, by decide +kernel⟩
theorem cv_D_wants : CV D_wants 1 7 := ⟨cm_D_wants, lw_in (i := 540) (by decide +kernel) (by decide +kernel), lw_in (i := 541) (by decide +kernel) (by decide +kernel), ⟨_, rfl, rfl⟩, by decide⟩
abbrev Sn_become : pY := (⟨"DoorRounds$Standing", "become", "(LDoorRounds$Standing;)V"⟩, prog_7_method_3_code, 2, (Option.none : Option Jvm.ClassFile.FieldType), 1, 26)
def t_Sn_become_0 : List (Nat × Instr × Nat) := [(0, .aload_n 0, 1), (1, .aload_n 1, 1), (2, .getfield 9, 3), (5, .putfield 9, 3), (8, .aload_n 0, 1), (9, .aload_n 1, 1), (10, .getfield 15, 3), (13, .putfield 15, 3), (16, .aload_n 1, 1), (17, .getfield 18, 3), (20, .iconst 0, 1), (21, .aload_n 0, 1), (22, .getfield 18, 3), (25, .iconst 0, 1), (26, .bipush 7, 2), (28, .invokestatic 40, 3), (31, .return_, 1)]
theorem d_Sn_become_0 : t_Sn_become_0.all (fun q => decide (decode prog_7_method_3_code q.1 = .ok q.2)) = true := by decide +kernel
theorem cm_Sn_become : CM Sn_become 1 := ⟨by decide +kernel, lw_in (i := 546) (by decide +kernel) (by decide +kernel), in_Sn, by decide +kernel⟩
theorem cv_Sn_become : CV Sn_become 1 5 := ⟨cm_Sn_become, lw_in (i := 544) (by decide +kernel) (by decide +kernel), lw_in (i := 545) (by decide +kernel) (by decide +kernel), ⟨_, rfl, rfl⟩, by decide⟩
abbrev D_where : pY := (⟨"DoorRounds", "where", "(II)I"⟩, prog_1_method_20_code, 3, (Option.some Jvm.ClassFile.FieldType.int), 4, 98)
def t_D_where_0 : List (Nat × Instr × Nat) := [(0, .aload_n 0, 1), (1, .getfield 63, 3), (4, .iload_n 1, 1), (5, .invokevirtual 164, 3), (8, .ifCond .eq 14, 3), (11, .iload_n 2, 1), (12, .ifCond .lt 10, 3), (15, .iload_n 2, 1), (16, .sipush 400, 3), (19, .if_icmp .le 5, 3), (22, .iconst (-1), 1), (23, .ireturn, 1), (24, .aload_n 0, 1), (25, .getfield 36, 3), (28, .aload_n 0, 1), (29, .getfield 28, 3), (32, .invokevirtual 220, 3), (35, .aload_n 0, 1), (36, .getfield 36, 3), (39, .aload_n 0, 1), (40, .getfield 63, 3), (43, .iload_n 2, 1), (44, .invokevirtual 213, 3), (47, .aload_n 0, 1), (48, .getfield 36, 3), (51, .iload_n 1, 1), (52, .invokevirtual 217, 3), (55, .ireturn, 1)]
theorem d_D_where_0 : t_D_where_0.all (fun q => decide (decode prog_1_method_20_code q.1 = .ok q.2)) = true := by decide +kernel
theorem cm_D_where : CM D_where 2 := ⟨by decide +kernel, lw_in (i := 551) (by decide +kernel) (by decide +kernel), in_D, by decide +kernel⟩
theorem cv_D_where : CV D_where 2 7 := ⟨cm_D_where, lw_in (i := 549) (by decide +kernel) (by decide +kernel), lw_in (i := 550) (by decide +kernel) (by decide +kernel), ⟨_, rfl, rfl⟩, by decide⟩
abbrev D_plainly : pY := (⟨"DoorRounds", "plainly", "(II)I"⟩, prog_1_method_21_code, 3, (Option.some Jvm.ClassFile.FieldType.int), 3, 78)
def t_D_plainly_0 : List (Nat × Instr × Nat) := [(0, .aload_n 0, 1), (1, .getfield 63, 3), (4, .iload_n 1, 1), (5, .invokevirtual 164, 3), (8, .ifCond .eq 13, 3), (11, .iload_n 2, 1), (12, .ifCond .lt 9, 3), (15, .iload_n 2, 1), (16, .ldc 228, 2), (18, .if_icmp .le 5, 3), (21, .iconst (-1), 1), (22, .ireturn, 1), (23, .aload_n 0, 1), (24, .getfield 63, 3), (27, .aload_n 0, 1), (28, .getfield 28, 3), (31, .iload_n 1, 1), (32, .invokevirtual 217, 3), (35, .i2l, 1), (36, .aload_n 0, 1), (37, .getfield 63, 3), (40, .iload_n 1, 1), (41, .invokevirtual 170, 3), (44, .aload_n 0, 1), (45, .getfield 28, 3), (48, .getfield 84, 3), (51, .iload_n 2, 1), (52, .invokevirtual 194, 3), (55, .ladd, 1), (56, .invokevirtual 229, 3)]
theorem d_D_plainly_0 : t_D_plainly_0.all (fun q => decide (decode prog_1_method_21_code q.1 = .ok q.2)) = true := by decide +kernel
def t_D_plainly_1 : List (Nat × Instr × Nat) := [(59, .ireturn, 1)]
theorem d_D_plainly_1 : t_D_plainly_1.all (fun q => decide (decode prog_1_method_21_code q.1 = .ok q.2)) = true := by decide +kernel
theorem cm_D_plainly : CM D_plainly 2 := ⟨by decide +kernel, lw_in (i := 555) (by decide +kernel) (by decide +kernel), in_D, by decide +kernel⟩
theorem cv_D_plainly : CV D_plainly 2 7 := ⟨cm_D_plainly, lw_in (i := 553) (by decide +kernel) (by decide +kernel), lw_in (i := 554) (by decide +kernel) (by decide +kernel), ⟨_, rfl, rfl⟩, by decide⟩
abbrev D_again : pY := (⟨"DoorRounds", "again", "()I"⟩, prog_1_method_22_code, 2, (Option.some Jvm.ClassFile.FieldType.int), 4, 98)
def t_D_again_0 : List (Nat × Instr × Nat) := [(0, .aload_n 0, 1), (1, .getfield 63, 3), (4, .invokevirtual 211, 3), (7, .ifCond .ne 6, 3), (10, .bipush (-4), 2), (12, .ireturn, 1), (13, .aload_n 0, 1), (14, .getfield 36, 3), (17, .aload_n 0, 1), (18, .getfield 28, 3), (21, .invokevirtual 220, 3), (24, .iconst 1, 1), (25, .istore_n 1, 1), (26, .iload_n 1, 1), (27, .sipush 600, 3), (30, .if_icmp .gt 44, 3), (33, .aload_n 0, 1), (34, .getfield 36, 3), (37, .aload_n 0, 1), (38, .getfield 63, 3), (41, .iconst 1, 1), (42, .invokevirtual 213, 3), (45, .aload_n 0, 1), (46, .getfield 36, 3), (49, .aload_n 0, 1), (50, .getfield 28, 3), (53, .aload_n 0, 1), (54, .getfield 63, 3), (57, .getfield 163, 3), (60, .invokevirtual 233, 3)]
theorem d_D_again_0 : t_D_again_0.all (fun q => decide (decode prog_1_method_22_code q.1 = .ok q.2)) = true := by decide +kernel
def t_D_again_1 : List (Nat × Instr × Nat) := [(63, .ifCond .ne 5, 3), (66, .iload_n 1, 1), (67, .ireturn, 1), (68, .iinc 1 1, 3), (71, .goto (-45), 3), (74, .bipush (-9), 2), (76, .ireturn, 1)]
theorem d_D_again_1 : t_D_again_1.all (fun q => decide (decode prog_1_method_22_code q.1 = .ok q.2)) = true := by decide +kernel
theorem cm_D_again : CM D_again 0 := ⟨by decide +kernel, lw_in (i := 561) (by decide +kernel) (by decide +kernel), in_D, by decide +kernel⟩
theorem cv_D_again : CV D_again 0 7 := ⟨cm_D_again, lw_in (i := 559) (by decide +kernel) (by decide +kernel), lw_in (i := 560) (by decide +kernel) (by decide +kernel), ⟨_, rfl, rfl⟩, by decide⟩
abbrev Sn_differing : pY := (⟨"DoorRounds$Standing", "differing", "(LDoorRounds$Standing;I)I"⟩, prog_7_method_11_code, 5, (Option.some Jvm.ClassFile.FieldType.int), 1, 21)
def t_Sn_differing_0 : List (Nat × Instr × Nat) := [(0, .iconst 0, 1), (1, .istore_n 3, 1), (2, .iconst 0, 1), (3, .istore 4, 2), (5, .iload 4, 2), (7, .iload_n 2, 1), (8, .if_icmp .ge 32, 3), (11, .iload_n 3, 1), (12, .aload_n 0, 1), (13, .iload 4, 2), (15, .invokevirtual 56, 3), (18, .aload_n 1, 1), (19, .iload 4, 2), (21, .invokevirtual 56, 3), (24, .if_icmp .eq 7, 3), (27, .iconst 1, 1), (28, .goto 4, 3), (31, .iconst 0, 1), (32, .iadd, 1), (33, .istore_n 3, 1), (34, .iinc 4 1, 3), (37, .goto (-32), 3), (40, .iload_n 3, 1), (41, .ireturn, 1)]
theorem d_Sn_differing_0 : t_Sn_differing_0.all (fun q => decide (decode prog_7_method_11_code q.1 = .ok q.2)) = true := by decide +kernel
theorem cm_Sn_differing : CM Sn_differing 2 := ⟨by decide +kernel, lw_in (i := 565) (by decide +kernel) (by decide +kernel), in_Sn, by decide +kernel⟩
theorem cv_Sn_differing : CV Sn_differing 2 5 := ⟨cm_Sn_differing, lw_in (i := 563) (by decide +kernel) (by decide +kernel), lw_in (i := 564) (by decide +kernel) (by decide +kernel), ⟨_, rfl, rfl⟩, by decide⟩
abbrev D_keep : pY := (⟨"DoorRounds", "keep", "(I)I"⟩, prog_1_method_23_code, 2, (Option.some Jvm.ClassFile.FieldType.int), 2, 47)
def t_D_keep_0 : List (Nat × Instr × Nat) := [(0, .iload_n 1, 1), (1, .invokestatic 237, 3), (4, .ifCond .ne 5, 3), (7, .iconst (-1), 1), (8, .ireturn, 1), (9, .aload_n 0, 1), (10, .getfield 63, 3), (13, .invokevirtual 211, 3), (16, .ifCond .ne 6, 3), (19, .bipush (-4), 2), (21, .ireturn, 1), (22, .aload_n 0, 1), (23, .iload_n 1, 1), (24, .invokevirtual 159, 3), (27, .aload_n 0, 1), (28, .getfield 28, 3), (31, .invokevirtual 220, 3), (34, .aload_n 0, 1), (35, .getfield 28, 3), (38, .getfield 84, 3), (41, .ireturn, 1)]
theorem d_D_keep_0 : t_D_keep_0.all (fun q => decide (decode prog_1_method_23_code q.1 = .ok q.2)) = true := by decide +kernel
theorem cm_D_keep : CM D_keep 1 := ⟨by decide +kernel, lw_in (i := 569) (by decide +kernel) (by decide +kernel), in_D, by decide +kernel⟩
theorem cv_D_keep : CV D_keep 1 7 := ⟨cm_D_keep, lw_in (i := 567) (by decide +kernel) (by decide +kernel), lw_in (i := 568) (by decide +kernel) (by decide +kernel), ⟨_, rfl, rfl⟩, by decide⟩
abbrev D_on : pY := (⟨"DoorRounds", "on", "(I)I"⟩, prog_1_method_24_code, 3, (Option.some Jvm.ClassFile.FieldType.int), 2, 47)
def t_D_on_0 : List (Nat × Instr × Nat) := [(0, .iload_n 1, 1), (1, .invokestatic 237, 3), (4, .ifCond .ne 5, 3), (7, .iconst (-1), 1), (8, .ireturn, 1), (9, .aload_n 0, 1), (10, .iload_n 1, 1), (11, .invokevirtual 159, 3), (14, .astore_n 2, 1), (15, .aload_n 2, 1), (16, .getfield 84, 3), (19, .iconst (-1), 1), (20, .if_icmp .ne 9, 3), (23, .aload_n 0, 1), (24, .iconst 1, 1), (25, .invokevirtual 91, 3), (28, .ireturn, 1), (29, .aload_n 0, 1), (30, .getfield 28, 3), (33, .aload_n 2, 1), (34, .invokevirtual 220, 3), (37, .aload_n 0, 1), (38, .getfield 28, 3), (41, .getfield 84, 3), (44, .ireturn, 1)]
theorem d_D_on_0 : t_D_on_0.all (fun q => decide (decode prog_1_method_24_code q.1 = .ok q.2)) = true := by decide +kernel
theorem cm_D_on : CM D_on 1 := ⟨by decide +kernel, lw_in (i := 573) (by decide +kernel) (by decide +kernel), in_D, by decide +kernel⟩
theorem cv_D_on : CV D_on 1 7 := ⟨cm_D_on, lw_in (i := 571) (by decide +kernel) (by decide +kernel), lw_in (i := 572) (by decide +kernel) (by decide +kernel), ⟨_, rfl, rfl⟩, by decide⟩
abbrev D_beside : pY := (⟨"DoorRounds", "beside", "(II)I"⟩, prog_1_method_25_code, 4, (Option.some Jvm.ClassFile.FieldType.int), 4, 98)
def t_D_beside_0 : List (Nat × Instr × Nat) := [(0, .aload_n 0, 1), (1, .iload_n 1, 1), (2, .iload_n 2, 1), (3, .invokevirtual 240, 3), (6, .ifCond .ne 5, 3), (9, .iconst (-1), 1), (10, .ireturn, 1), (11, .aload_n 0, 1), (12, .getfield 36, 3), (15, .aload_n 0, 1), (16, .getfield 28, 3), (19, .invokevirtual 220, 3), (22, .iconst 0, 1), (23, .istore_n 3, 1), (24, .iload_n 3, 1), (25, .sipush 600, 3), (28, .if_icmp .gt 50, 3), (31, .aload_n 0, 1), (32, .getfield 63, 3), (35, .aload_n 0, 1), (36, .getfield 36, 3), (39, .iload_n 1, 1), (40, .invokevirtual 217, 3), (43, .aload_n 0, 1), (44, .getfield 36, 3), (47, .iload_n 2, 1), (48, .invokevirtual 217, 3), (51, .invokevirtual 243, 3), (54, .iconst 1, 1), (55, .if_icmp .ne 5, 3)]
theorem d_D_beside_0 : t_D_beside_0.all (fun q => decide (decode prog_1_method_25_code q.1 = .ok q.2)) = true := by decide +kernel
def t_D_beside_1 : List (Nat × Instr × Nat) := [(58, .iload_n 3, 1), (59, .ireturn, 1), (60, .aload_n 0, 1), (61, .getfield 36, 3), (64, .aload_n 0, 1), (65, .getfield 63, 3), (68, .iconst 1, 1), (69, .invokevirtual 213, 3), (72, .iinc 3 1, 3), (75, .goto (-51), 3), (78, .bipush (-9), 2), (80, .ireturn, 1)]
theorem d_D_beside_1 : t_D_beside_1.all (fun q => decide (decode prog_1_method_25_code q.1 = .ok q.2)) = true := by decide +kernel
theorem cm_D_beside : CM D_beside 2 := ⟨by decide +kernel, lw_in (i := 577) (by decide +kernel) (by decide +kernel), in_D, by decide +kernel⟩
theorem cv_D_beside : CV D_beside 2 7 := ⟨cm_D_beside, lw_in (i := 575) (by decide +kernel) (by decide +kernel), lw_in (i := 576) (by decide +kernel) (by decide +kernel), ⟨_, rfl, rfl⟩, by decide⟩
abbrev D_areTwo : pY := (⟨"DoorRounds", "areTwo", "(II)Z"⟩, prog_1_method_61_code, 3, (Option.some Jvm.ClassFile.FieldType.boolean), 1, 21)
def t_D_areTwo_0 : List (Nat × Instr × Nat) := [(0, .aload_n 0, 1), (1, .getfield 63, 3), (4, .iload_n 1, 1), (5, .invokevirtual 164, 3), (8, .ifCond .eq 23, 3), (11, .aload_n 0, 1), (12, .getfield 63, 3), (15, .iload_n 2, 1), (16, .invokevirtual 164, 3), (19, .ifCond .eq 12, 3), (22, .iload_n 1, 1), (23, .iload_n 2, 1), (24, .if_icmp .eq 7, 3), (27, .iconst 1, 1), (28, .goto 4, 3), (31, .iconst 0, 1), (32, .ireturn, 1)]
theorem d_D_areTwo_0 : t_D_areTwo_0.all (fun q => decide (decode prog_1_method_61_code q.1 = .ok q.2)) = true := by decide +kernel
theorem cm_D_areTwo : CM D_areTwo 2 := ⟨by decide +kernel, lw_in (i := 581) (by decide +kernel) (by decide +kernel), in_D, by decide +kernel⟩
theorem cv_D_areTwo : CV D_areTwo 2 7 := ⟨cm_D_areTwo, lw_in (i := 580) (by decide +kernel) (by decide +kernel), lw_insel (q := (⟨"DoorRounds", "areTwo", "(II)Z"⟩, 16)) (i := 11) (by decide +kernel) (by decide +kernel), ⟨_, rfl, rfl⟩, by decide⟩
abbrev D_comes : pY := (⟨"DoorRounds", "comes", "(II)I"⟩, prog_1_method_26_code, 4, (Option.some Jvm.ClassFile.FieldType.int), 4, 98)
def t_D_comes_0 : List (Nat × Instr × Nat) := [(0, .aload_n 0, 1), (1, .getfield 63, 3), (4, .iload_n 1, 1), (5, .invokevirtual 164, 3), (8, .ifCond .eq 14, 3), (11, .aload_n 0, 1), (12, .getfield 63, 3), (15, .iload_n 2, 1), (16, .invokevirtual 198, 3), (19, .ifCond .ne 5, 3), (22, .iconst (-1), 1), (23, .ireturn, 1), (24, .aload_n 0, 1), (25, .getfield 36, 3), (28, .aload_n 0, 1), (29, .getfield 28, 3), (32, .invokevirtual 220, 3), (35, .iconst 0, 1), (36, .istore_n 3, 1), (37, .iload_n 3, 1), (38, .sipush 600, 3), (41, .if_icmp .gt 35, 3), (44, .aload_n 0, 1), (45, .getfield 36, 3), (48, .iload_n 1, 1), (49, .invokevirtual 217, 3), (52, .iload_n 2, 1), (53, .if_icmp .ne 5, 3), (56, .iload_n 3, 1), (57, .ireturn, 1)]
theorem d_D_comes_0 : t_D_comes_0.all (fun q => decide (decode prog_1_method_26_code q.1 = .ok q.2)) = true := by decide +kernel
def t_D_comes_1 : List (Nat × Instr × Nat) := [(58, .aload_n 0, 1), (59, .getfield 36, 3), (62, .aload_n 0, 1), (63, .getfield 63, 3), (66, .iconst 1, 1), (67, .invokevirtual 213, 3), (70, .iinc 3 1, 3), (73, .goto (-36), 3), (76, .bipush (-9), 2), (78, .ireturn, 1)]
theorem d_D_comes_1 : t_D_comes_1.all (fun q => decide (decode prog_1_method_26_code q.1 = .ok q.2)) = true := by decide +kernel
theorem cm_D_comes : CM D_comes 2 := ⟨by decide +kernel, lw_in (i := 585) (by decide +kernel) (by decide +kernel), in_D, by decide +kernel⟩
theorem cv_D_comes : CV D_comes 2 7 := ⟨cm_D_comes, lw_in (i := 583) (by decide +kernel) (by decide +kernel), lw_in (i := 584) (by decide +kernel) (by decide +kernel), ⟨_, rfl, rfl⟩, by decide⟩
end
section
abbrev D_meets : pY := (⟨"DoorRounds", "meets", "(III)I"⟩, prog_1_method_27_code, 8, (Option.some Jvm.ClassFile.FieldType.int), 3, 76)
def t_D_meets_0 : List (Nat × Instr × Nat) := [(0, .aload_n 0, 1), (1, .iload_n 1, 1), (2, .iload_n 2, 1), (3, .invokevirtual 240, 3), (6, .ifCond .eq 14, 3), (9, .aload_n 0, 1), (10, .getfield 63, 3), (13, .iload_n 3, 1), (14, .invokevirtual 198, 3), (17, .ifCond .ne 5, 3), (20, .iconst (-1), 1), (21, .ireturn, 1), (22, .aload_n 0, 1), (23, .getfield 28, 3), (26, .iload_n 2, 1), (27, .invokevirtual 217, 3), (30, .aload_n 0, 1), (31, .getfield 28, 3), (34, .iload_n 1, 1), (35, .invokevirtual 217, 3), (38, .isub, 1), (39, .istore 4, 2), (41, .aload_n 0, 1), (42, .getfield 63, 3), (45, .iload_n 2, 1), (46, .invokevirtual 170, 3), (49, .getfield 246, 3), (52, .aload_n 0, 1), (53, .getfield 63, 3), (56, .iload_n 1, 1)]
theorem d_D_meets_0 : t_D_meets_0.all (fun q => decide (decode prog_1_method_27_code q.1 = .ok q.2)) = true := by decide +kernel
def t_D_meets_1 : List (Nat × Instr × Nat) := [(57, .invokevirtual 170, 3), (60, .getfield 246, 3), (63, .isub, 1), (64, .istore 5, 2), (66, .aload_n 0, 1), (67, .getfield 63, 3), (70, .iload 5, 2), (72, .invokevirtual 249, 3), (75, .istore 6, 2), (77, .iconst 0, 1), (78, .istore 7, 2), (80, .iload 7, 2), (82, .aload_n 0, 1), (83, .getfield 63, 3), (86, .getfield 252, 3), (89, .if_icmp .ge 53, 3), (92, .iload 6, 2), (94, .ifCond .le 42, 3), (97, .aload_n 0, 1), (98, .getfield 63, 3), (101, .iload 4, 2), (103, .i2l, 1), (104, .iload 7, 2), (106, .i2l, 1), (107, .iload 5, 2), (109, .i2l, 1), (110, .lmul, 1), (111, .ladd, 1), (112, .invokevirtual 229, 3), (115, .iload_n 3, 1)]
theorem d_D_meets_1 : t_D_meets_1.all (fun q => decide (decode prog_1_method_27_code q.1 = .ok q.2)) = true := by decide +kernel
def t_D_meets_2 : List (Nat × Instr × Nat) := [(116, .if_icmp .ne 20, 3), (119, .aload_n 0, 1), (120, .aload_n 0, 1), (121, .getfield 63, 3), (124, .getfield 252, 3), (127, .iload 6, 2), (129, .idiv, 1), (130, .iload 7, 2), (132, .invokevirtual 113, 3), (135, .ireturn, 1), (136, .iinc 7 1, 3), (139, .goto (-59), 3), (142, .bipush (-9), 2), (144, .ireturn, 1)]
theorem d_D_meets_2 : t_D_meets_2.all (fun q => decide (decode prog_1_method_27_code q.1 = .ok q.2)) = true := by decide +kernel
theorem cm_D_meets : CM D_meets 3 := ⟨by decide +kernel, lw_in (i := 589) (by decide +kernel) (by decide +kernel), in_D, by decide +kernel⟩
theorem cv_D_meets : CV D_meets 3 7 := ⟨cm_D_meets, lw_in (i := 587) (by decide +kernel) (by decide +kernel), lw_in (i := 588) (by decide +kernel) (by decide +kernel), ⟨_, rfl, rfl⟩, by decide⟩
abbrev Pl_commonWith : pY := (⟨"DoorRounds$Plan", "commonWith", "(I)I"⟩, prog_4_method_11_code, 2, (Option.some Jvm.ClassFile.FieldType.int), 2, 55)
def t_Pl_commonWith_0 : List (Nat × Instr × Nat) := [(0, .aload_n 0, 1), (1, .getfield 9, 3), (4, .i2l, 1), (5, .iload_n 1, 1), (6, .i2l, 1), (7, .invokestatic 65, 3), (10, .l2i, 1), (11, .ireturn, 1)]
theorem d_Pl_commonWith_0 : t_Pl_commonWith_0.all (fun q => decide (decode prog_4_method_11_code q.1 = .ok q.2)) = true := by decide +kernel
theorem cm_Pl_commonWith : CM Pl_commonWith 1 := ⟨by decide +kernel, lw_in (i := 593) (by decide +kernel) (by decide +kernel), in_Pl, by decide +kernel⟩
theorem cv_Pl_commonWith : CV Pl_commonWith 1 2 := ⟨cm_Pl_commonWith, lw_in (i := 591) (by decide +kernel) (by decide +kernel), lw_in (i := 592) (by decide +kernel) (by decide +kernel), ⟨_, rfl, rfl⟩, by decide⟩
abbrev D_greatestCommon : pY := (⟨"DoorRounds", "greatestCommon", "(JJ)J"⟩, prog_1_method_77_code, 11, (Option.some Jvm.ClassFile.FieldType.long), 1, 25)
def t_D_greatestCommon_0 : List (Nat × Instr × Nat) := [(0, .lload_n 0, 1), (1, .invokestatic 360, 3), (4, .lstore 4, 2), (6, .lload_n 2, 1), (7, .invokestatic 360, 3), (10, .lstore 6, 2), (12, .iconst 0, 1), (13, .istore 8, 2), (15, .iload 8, 2), (17, .sipush 128, 3), (20, .if_icmp .ge 31, 3), (23, .lload 6, 2), (25, .lconst 0, 1), (26, .lcmp, 1), (27, .ifCond .eq 24, 3), (30, .lload 4, 2), (32, .lload 6, 2), (34, .lrem, 1), (35, .lstore 9, 2), (37, .lload 6, 2), (39, .lstore 4, 2), (41, .lload 9, 2), (43, .lstore 6, 2), (45, .iinc 8 1, 3), (48, .goto (-33), 3), (51, .lload 4, 2), (53, .lreturn, 1)]
theorem d_D_greatestCommon_0 : t_D_greatestCommon_0.all (fun q => decide (decode prog_1_method_77_code q.1 = .ok q.2)) = true := by decide +kernel
theorem cm_D_greatestCommon : CM D_greatestCommon 2 := ⟨by decide +kernel, lw_in (i := 596) (by decide +kernel) (by decide +kernel), in_D, by decide +kernel⟩
theorem cs_D_greatestCommon : CS D_greatestCommon 2 := ⟨cm_D_greatestCommon, lw_in (i := 595) (by decide +kernel) (by decide +kernel)⟩
abbrev D_never : pY := (⟨"DoorRounds", "never", "(III)I"⟩, prog_1_method_28_code, 6, (Option.some Jvm.ClassFile.FieldType.int), 4, 99)
def t_D_never_0 : List (Nat × Instr × Nat) := [(0, .aload_n 0, 1), (1, .iload_n 1, 1), (2, .iload_n 2, 1), (3, .invokevirtual 240, 3), (6, .ifCond .eq 14, 3), (9, .aload_n 0, 1), (10, .getfield 63, 3), (13, .iload_n 3, 1), (14, .invokevirtual 198, 3), (17, .ifCond .ne 5, 3), (20, .iconst (-1), 1), (21, .ireturn, 1), (22, .aload_n 0, 1), (23, .getfield 28, 3), (26, .iload_n 2, 1), (27, .invokevirtual 217, 3), (30, .aload_n 0, 1), (31, .getfield 28, 3), (34, .iload_n 1, 1), (35, .invokevirtual 217, 3), (38, .isub, 1), (39, .istore 4, 2), (41, .aload_n 0, 1), (42, .getfield 63, 3), (45, .iload_n 2, 1), (46, .invokevirtual 170, 3), (49, .getfield 246, 3), (52, .aload_n 0, 1), (53, .getfield 63, 3), (56, .iload_n 1, 1)]
theorem d_D_never_0 : t_D_never_0.all (fun q => decide (decode prog_1_method_28_code q.1 = .ok q.2)) = true := by decide +kernel
def t_D_never_1 : List (Nat × Instr × Nat) := [(57, .invokevirtual 170, 3), (60, .getfield 246, 3), (63, .isub, 1), (64, .istore 5, 2), (66, .aload_n 0, 1), (67, .aload_n 0, 1), (68, .getfield 63, 3), (71, .iload 5, 2), (73, .invokevirtual 249, 3), (76, .aload_n 0, 1), (77, .getfield 63, 3), (80, .iload_n 3, 1), (81, .iload 4, 2), (83, .isub, 1), (84, .iload 5, 2), (86, .invokevirtual 255, 3), (89, .ifCond .eq 7, 3), (92, .iconst 0, 1), (93, .goto 4, 3), (96, .iconst 1, 1), (97, .invokevirtual 113, 3), (100, .ireturn, 1)]
theorem d_D_never_1 : t_D_never_1.all (fun q => decide (decode prog_1_method_28_code q.1 = .ok q.2)) = true := by decide +kernel
theorem cm_D_never : CM D_never 3 := ⟨by decide +kernel, lw_in (i := 603) (by decide +kernel) (by decide +kernel), in_D, by decide +kernel⟩
theorem cv_D_never : CV D_never 3 7 := ⟨cm_D_never, lw_in (i := 601) (by decide +kernel) (by decide +kernel), lw_in (i := 602) (by decide +kernel) (by decide +kernel), ⟨_, rfl, rfl⟩, by decide⟩
abbrev Pl_canMeet : pY := (⟨"DoorRounds$Plan", "canMeet", "(II)Z"⟩, prog_4_method_12_code, 4, (Option.some Jvm.ClassFile.FieldType.boolean), 3, 76)
def t_Pl_canMeet_0 : List (Nat × Instr × Nat) := [(0, .aload_n 0, 1), (1, .iload_n 2, 1), (2, .invokevirtual 68, 3), (5, .istore_n 3, 1), (6, .iload_n 3, 1), (7, .ifCond .le 13, 3), (10, .iload_n 1, 1), (11, .iload_n 3, 1), (12, .irem, 1), (13, .ifCond .ne 7, 3), (16, .iconst 1, 1), (17, .goto 4, 3), (20, .iconst 0, 1), (21, .ireturn, 1)]
theorem d_Pl_canMeet_0 : t_Pl_canMeet_0.all (fun q => decide (decode prog_4_method_12_code q.1 = .ok q.2)) = true := by decide +kernel
theorem cm_Pl_canMeet : CM Pl_canMeet 2 := ⟨by decide +kernel, lw_in (i := 607) (by decide +kernel) (by decide +kernel), in_Pl, by decide +kernel⟩
theorem cv_Pl_canMeet : CV Pl_canMeet 2 2 := ⟨cm_Pl_canMeet, lw_in (i := 605) (by decide +kernel) (by decide +kernel), lw_in (i := 606) (by decide +kernel) (by decide +kernel), ⟨_, rfl, rfl⟩, by decide⟩
abbrev D_walk : pY := (⟨"DoorRounds", "walk", "(II)I"⟩, prog_1_method_29_code, 3, (Option.some Jvm.ClassFile.FieldType.int), 3, 70)
def t_D_walk_0 : List (Nat × Instr × Nat) := [(0, .aload_n 0, 1), (1, .getfield 63, 3), (4, .iload_n 1, 1), (5, .invokevirtual 198, 3), (8, .ifCond .eq 14, 3), (11, .aload_n 0, 1), (12, .getfield 63, 3), (15, .iload_n 2, 1), (16, .invokevirtual 198, 3), (19, .ifCond .ne 5, 3), (22, .iconst (-1), 1), (23, .ireturn, 1), (24, .aload_n 0, 1), (25, .getfield 63, 3), (28, .iload_n 1, 1), (29, .iload_n 2, 1), (30, .invokevirtual 243, 3), (33, .ireturn, 1)]
theorem d_D_walk_0 : t_D_walk_0.all (fun q => decide (decode prog_1_method_29_code q.1 = .ok q.2)) = true := by decide +kernel
theorem cm_D_walk : CM D_walk 2 := ⟨by decide +kernel, lw_in (i := 612) (by decide +kernel) (by decide +kernel), in_D, by decide +kernel⟩
theorem cv_D_walk : CV D_walk 2 7 := ⟨cm_D_walk, lw_in (i := 610) (by decide +kernel) (by decide +kernel), lw_in (i := 611) (by decide +kernel) (by decide +kernel), ⟨_, rfl, rfl⟩, by decide⟩
abbrev D_round : pY := (⟨"DoorRounds", "round", "(II)I"⟩, prog_1_method_30_code, 3, (Option.some Jvm.ClassFile.FieldType.int), 3, 74)
def t_D_round_0 : List (Nat × Instr × Nat) := [(0, .aload_n 0, 1), (1, .getfield 63, 3), (4, .iload_n 1, 1), (5, .invokevirtual 198, 3), (8, .ifCond .eq 14, 3), (11, .aload_n 0, 1), (12, .getfield 63, 3), (15, .iload_n 2, 1), (16, .invokevirtual 258, 3), (19, .ifCond .ne 5, 3), (22, .iconst (-1), 1), (23, .ireturn, 1), (24, .aload_n 0, 1), (25, .getfield 28, 3), (28, .aload_n 0, 1), (29, .getfield 63, 3), (32, .iload_n 1, 1), (33, .iload_n 2, 1), (34, .invokevirtual 261, 3), (37, .ireturn, 1)]
theorem d_D_round_0 : t_D_round_0.all (fun q => decide (decode prog_1_method_30_code q.1 = .ok q.2)) = true := by decide +kernel
theorem cm_D_round : CM D_round 2 := ⟨by decide +kernel, lw_in (i := 616) (by decide +kernel) (by decide +kernel), in_D, by decide +kernel⟩
theorem cv_D_round : CV D_round 2 7 := ⟨cm_D_round, lw_in (i := 614) (by decide +kernel) (by decide +kernel), lw_in (i := 615) (by decide +kernel) (by decide +kernel), ⟨_, rfl, rfl⟩, by decide⟩
abbrev Pl_hasSet : pY := (⟨"DoorRounds$Plan", "hasSet", "(I)Z"⟩, prog_4_method_6_code, 2, (Option.some Jvm.ClassFile.FieldType.boolean), 0, 0)
def t_Pl_hasSet_0 : List (Nat × Instr × Nat) := [(0, .iload_n 1, 1), (1, .ifCond .lt 16, 3), (4, .iload_n 1, 1), (5, .aload_n 0, 1), (6, .getfield 15, 3), (9, .ishr, 1), (10, .ifCond .ne 7, 3), (13, .iconst 1, 1), (14, .goto 4, 3), (17, .iconst 0, 1), (18, .ireturn, 1)]
theorem d_Pl_hasSet_0 : t_Pl_hasSet_0.all (fun q => decide (decode prog_4_method_6_code q.1 = .ok q.2)) = true := by decide +kernel
theorem cm_Pl_hasSet : CM Pl_hasSet 1 := ⟨by decide +kernel, lw_in (i := 620) (by decide +kernel) (by decide +kernel), in_Pl, by decide +kernel⟩
theorem cv_Pl_hasSet : CV Pl_hasSet 1 2 := ⟨cm_Pl_hasSet, lw_in (i := 618) (by decide +kernel) (by decide +kernel), lw_in (i := 619) (by decide +kernel) (by decide +kernel), ⟨_, rfl, rfl⟩, by decide⟩
abbrev Sn_roundOf : pY := (⟨"DoorRounds$Standing", "roundOf", "(LDoorRounds$Plan;II)I"⟩, prog_7_method_12_code, 8, (Option.some Jvm.ClassFile.FieldType.int), 2, 47)
def t_Sn_roundOf_0 : List (Nat × Instr × Nat) := [(0, .iconst 0, 1), (1, .istore 4, 2), (3, .iconst 0, 1), (4, .istore 5, 2), (6, .iload 5, 2), (8, .aload_n 1, 1), (9, .getfield 22, 3), (12, .if_icmp .ge 38, 3), (15, .iload_n 3, 1), (16, .iload 5, 2), (18, .invokestatic 46, 3), (21, .ifCond .eq 23, 3), (24, .iload 4, 2), (26, .iconst 1, 1), (27, .aload_n 1, 1), (28, .aload_n 0, 1), (29, .iload 5, 2), (31, .invokevirtual 56, 3), (34, .iload_n 2, 1), (35, .isub, 1), (36, .i2l, 1), (37, .invokevirtual 62, 3), (40, .ishl, 1), (41, .ior, 1), (42, .istore 4, 2), (44, .iinc 5 1, 3), (47, .goto (-41), 3), (50, .iconst 0, 1), (51, .istore 5, 2), (53, .iconst 0, 1)]
theorem d_Sn_roundOf_0 : t_Sn_roundOf_0.all (fun q => decide (decode prog_7_method_12_code q.1 = .ok q.2)) = true := by decide +kernel
def t_Sn_roundOf_1 : List (Nat × Instr × Nat) := [(54, .istore 6, 2), (56, .iconst 1, 1), (57, .istore 7, 2), (59, .iload 7, 2), (61, .aload_n 1, 1), (62, .getfield 73, 3), (65, .if_icmp .gt 44, 3), (68, .iload 7, 2), (70, .aload_n 1, 1), (71, .getfield 73, 3), (74, .if_icmp .eq 13, 3), (77, .iload 4, 2), (79, .iload 7, 2), (81, .invokestatic 46, 3), (84, .ifCond .eq 19, 3), (87, .iload 5, 2), (89, .iload 7, 2), (91, .iload 6, 2), (93, .isub, 1), (94, .invokestatic 75, 3), (97, .istore 5, 2), (99, .iload 7, 2), (101, .istore 6, 2), (103, .iinc 7 1, 3), (106, .goto (-47), 3), (109, .aload_n 1, 1), (110, .getfield 73, 3), (113, .iconst 2, 1), (114, .aload_n 1, 1), (115, .getfield 73, 3)]
theorem d_Sn_roundOf_1 : t_Sn_roundOf_1.all (fun q => decide (decode prog_7_method_12_code q.1 = .ok q.2)) = true := by decide +kernel
def t_Sn_roundOf_2 : List (Nat × Instr × Nat) := [(118, .iload 5, 2), (120, .isub, 1), (121, .imul, 1), (122, .invokestatic 81, 3), (125, .ireturn, 1)]
theorem d_Sn_roundOf_2 : t_Sn_roundOf_2.all (fun q => decide (decode prog_7_method_12_code q.1 = .ok q.2)) = true := by decide +kernel
theorem cm_Sn_roundOf : CM Sn_roundOf 3 := ⟨by decide +kernel, lw_in (i := 624) (by decide +kernel) (by decide +kernel), in_Sn, by decide +kernel⟩
theorem cv_Sn_roundOf : CV Sn_roundOf 3 5 := ⟨cm_Sn_roundOf, lw_in (i := 622) (by decide +kernel) (by decide +kernel), lw_in (i := 623) (by decide +kernel) (by decide +kernel), ⟨_, rfl, rfl⟩, by decide⟩
abbrev D_best : pY := (⟨"DoorRounds", "best", "(III)I"⟩, prog_1_method_31_code, 8, (Option.some Jvm.ClassFile.FieldType.int), 4, 98)
def t_D_best_0 : List (Nat × Instr × Nat) := [(0, .aload_n 0, 1), (1, .getfield 63, 3), (4, .iload_n 1, 1), (5, .invokevirtual 198, 3), (8, .ifCond .eq 24, 3), (11, .aload_n 0, 1), (12, .getfield 63, 3), (15, .iload_n 2, 1), (16, .invokevirtual 258, 3), (19, .ifCond .eq 13, 3), (22, .iload_n 3, 1), (23, .ifCond .lt 9, 3), (26, .iload_n 3, 1), (27, .bipush 60, 2), (29, .if_icmp .le 5, 3), (32, .iconst (-1), 1), (33, .ireturn, 1), (34, .iconst 0, 1), (35, .istore 4, 2), (37, .aload_n 0, 1), (38, .getfield 63, 3), (41, .getfield 252, 3), (44, .iconst 1, 1), (45, .iadd, 1), (46, .istore 5, 2), (48, .aload_n 0, 1), (49, .getfield 36, 3), (52, .aload_n 0, 1), (53, .getfield 28, 3), (56, .invokevirtual 220, 3)]
theorem d_D_best_0 : t_D_best_0.all (fun q => decide (decode prog_1_method_31_code q.1 = .ok q.2)) = true := by decide +kernel
def t_D_best_1 : List (Nat × Instr × Nat) := [(59, .iconst 0, 1), (60, .istore 6, 2), (62, .iload 6, 2), (64, .iload_n 3, 1), (65, .if_icmp .gt 51, 3), (68, .aload_n 0, 1), (69, .getfield 36, 3), (72, .aload_n 0, 1), (73, .getfield 63, 3), (76, .iload_n 1, 1), (77, .iload_n 2, 1), (78, .invokevirtual 261, 3), (81, .istore 7, 2), (83, .iload 7, 2), (85, .iload 5, 2), (87, .if_icmp .ge 11, 3), (90, .iload 7, 2), (92, .istore 5, 2), (94, .iload 6, 2), (96, .istore 4, 2), (98, .aload_n 0, 1), (99, .getfield 36, 3), (102, .aload_n 0, 1), (103, .getfield 63, 3), (106, .iconst 1, 1), (107, .invokevirtual 213, 3), (110, .iinc 6 1, 3), (113, .goto (-51), 3), (116, .aload_n 0, 1), (117, .iload 5, 2)]
theorem d_D_best_1 : t_D_best_1.all (fun q => decide (decode prog_1_method_31_code q.1 = .ok q.2)) = true := by decide +kernel
def t_D_best_2 : List (Nat × Instr × Nat) := [(119, .iload 4, 2), (121, .invokevirtual 113, 3), (124, .ireturn, 1)]
theorem d_D_best_2 : t_D_best_2.all (fun q => decide (decode prog_1_method_31_code q.1 = .ok q.2)) = true := by decide +kernel
theorem cm_D_best : CM D_best 3 := ⟨by decide +kernel, lw_in (i := 630) (by decide +kernel) (by decide +kernel), in_D, by decide +kernel⟩
theorem cv_D_best : CV D_best 3 7 := ⟨cm_D_best, lw_in (i := 628) (by decide +kernel) (by decide +kernel), lw_in (i := 629) (by decide +kernel) (by decide +kernel), ⟨_, rfl, rfl⟩, by decide⟩
abbrev D_errands : pY := (⟨"DoorRounds", "errands", "(IIII)I"⟩, prog_1_method_32_code, 8, (Option.some Jvm.ClassFile.FieldType.int), 4, 102)
def t_D_errands_0 : List (Nat × Instr × Nat) := [(0, .aload_n 0, 1), (1, .getfield 63, 3), (4, .iload_n 1, 1), (5, .invokevirtual 198, 3), (8, .ifCond .eq 32, 3), (11, .aload_n 0, 1), (12, .getfield 63, 3), (15, .iload_n 2, 1), (16, .invokevirtual 258, 3), (19, .ifCond .eq 21, 3), (22, .iload_n 3, 1), (23, .ifCond .lt 17, 3), (26, .iload_n 3, 1), (27, .bipush 30, 2), (29, .if_icmp .gt 11, 3), (32, .iload 4, 2), (34, .invokestatic 87, 3), (37, .ifCond .ne 5, 3), (40, .iconst (-1), 1), (41, .ireturn, 1), (42, .aload_n 0, 1), (43, .getfield 52, 3), (46, .invokevirtual 265, 3), (49, .aload_n 0, 1), (50, .getfield 36, 3), (53, .aload_n 0, 1), (54, .getfield 28, 3), (57, .invokevirtual 220, 3), (60, .iconst 0, 1), (61, .istore 5, 2)]
theorem d_D_errands_0 : t_D_errands_0.all (fun q => decide (decode prog_1_method_32_code q.1 = .ok q.2)) = true := by decide +kernel
def t_D_errands_1 : List (Nat × Instr × Nat) := [(63, .iload 5, 2), (65, .iload_n 3, 1), (66, .if_icmp .gt 40, 3), (69, .aload_n 0, 1), (70, .getfield 52, 3), (73, .aload_n 0, 1), (74, .getfield 63, 3), (77, .aload_n 0, 1), (78, .getfield 36, 3), (81, .iload_n 1, 1), (82, .iload_n 2, 1), (83, .iload 5, 2), (85, .invokevirtual 267, 3), (88, .aload_n 0, 1), (89, .getfield 36, 3), (92, .aload_n 0, 1), (93, .getfield 63, 3), (96, .iconst 1, 1), (97, .invokevirtual 213, 3), (100, .iinc 5 1, 3), (103, .goto (-40), 3), (106, .aload_n 0, 1), (107, .getfield 52, 3), (110, .iload_n 2, 1), (111, .invokevirtual 271, 3), (114, .aload_n 0, 1), (115, .iload 4, 2), (117, .invokevirtual 95, 3), (120, .astore 5, 2), (122, .aload 5, 2)]
theorem d_D_errands_1 : t_D_errands_1.all (fun q => decide (decode prog_1_method_32_code q.1 = .ok q.2)) = true := by decide +kernel
def t_D_errands_2 : List (Nat × Instr × Nat) := [(124, .iload_n 2, 1), (125, .invokestatic 274, 3), (128, .iconst 0, 1), (129, .invokevirtual 99, 3), (132, .iconst 0, 1), (133, .istore 6, 2), (135, .iconst 0, 1), (136, .istore 7, 2), (138, .iload 7, 2), (140, .aload_n 0, 1), (141, .getfield 63, 3), (144, .getfield 163, 3), (147, .if_icmp .ge 38, 3), (150, .iload_n 2, 1), (151, .iload 7, 2), (153, .invokestatic 279, 3), (156, .ifCond .eq 23, 3), (159, .aload 5, 2), (161, .iload 6, 2), (163, .aload_n 0, 1), (164, .getfield 52, 3), (167, .iload_n 2, 1), (168, .iload 7, 2), (170, .invokevirtual 282, 3), (173, .invokevirtual 110, 3), (176, .iinc 6 1, 3), (179, .iinc 7 1, 3), (182, .goto (-44), 3), (185, .aload_n 0, 1), (186, .getfield 52, 3)]
theorem d_D_errands_2 : t_D_errands_2.all (fun q => decide (decode prog_1_method_32_code q.1 = .ok q.2)) = true := by decide +kernel
def t_D_errands_3 : List (Nat × Instr × Nat) := [(189, .iload_n 2, 1), (190, .invokevirtual 285, 3), (193, .ireturn, 1)]
theorem d_D_errands_3 : t_D_errands_3.all (fun q => decide (decode prog_1_method_32_code q.1 = .ok q.2)) = true := by decide +kernel
theorem cm_D_errands : CM D_errands 4 := ⟨by decide +kernel, lw_in (i := 634) (by decide +kernel) (by decide +kernel), in_D, by decide +kernel⟩
theorem cv_D_errands : CV D_errands 4 7 := ⟨cm_D_errands, lw_in (i := 632) (by decide +kernel) (by decide +kernel), lw_in (i := 633) (by decide +kernel) (by decide +kernel), ⟨_, rfl, rfl⟩, by decide⟩
abbrev Er_begin : pY := (⟨"DoorRounds$Errands", "begin", "()V"⟩, prog_3_method_2_code, 1, (Option.none : Option Jvm.ClassFile.FieldType), 1, 24)
def t_Er_begin_0 : List (Nat × Instr × Nat) := [(0, .aload_n 0, 1), (1, .getfield 11, 3), (4, .ldc2_w 18, 3), (7, .invokestatic 20, 3), (10, .aload_n 0, 1), (11, .getfield 15, 3), (14, .ldc2_w 18, 3), (17, .invokestatic 20, 3), (20, .aload_n 0, 1), (21, .getfield 15, 3), (24, .iconst 0, 1), (25, .lconst 0, 1), (26, .lastore, 1), (27, .return_, 1)]
theorem d_Er_begin_0 : t_Er_begin_0.all (fun q => decide (decode prog_3_method_2_code q.1 = .ok q.2)) = true := by decide +kernel
theorem cm_Er_begin : CM Er_begin 0 := ⟨by decide +kernel, lw_in (i := 638) (by decide +kernel) (by decide +kernel), in_Er, by decide +kernel⟩
theorem cv_Er_begin : CV Er_begin 0 1 := ⟨cm_Er_begin, lw_in (i := 636) (by decide +kernel) (by decide +kernel), lw_in (i := 637) (by decide +kernel) (by decide +kernel), ⟨_, rfl, rfl⟩, by decide⟩
abbrev Er_look : pY := (⟨"DoorRounds$Errands", "look", "(LDoorRounds$Plan;LDoorRounds$Standing;III)V"⟩, prog_3_method_3_code, 9, (Option.none : Option Jvm.ClassFile.FieldType), 3, 74)
def t_Er_look_0 : List (Nat × Instr × Nat) := [(0, .iconst 1, 1), (1, .istore 6, 2), (3, .iload 6, 2), (5, .sipush 128, 3), (8, .if_icmp .ge 60, 3), (11, .iload 6, 2), (13, .iload 4, 2), (15, .iand, 1), (16, .iload 6, 2), (18, .if_icmp .ne 44, 3), (21, .aload_n 2, 1), (22, .aload_n 1, 1), (23, .iload_n 3, 1), (24, .iload 6, 2), (26, .invokevirtual 26, 3), (29, .i2l, 1), (30, .lstore 7, 2), (32, .aload_n 0, 1), (33, .getfield 11, 3), (36, .iload 6, 2), (38, .aload_n 0, 1), (39, .getfield 11, 3), (42, .iload 6, 2), (44, .laload, 1), (45, .lload 7, 2), (47, .bipush 35, 2), (49, .lshl, 1), (50, .iload 6, 2), (52, .iload 5, 2), (54, .invokestatic 32, 3)]
theorem d_Er_look_0 : t_Er_look_0.all (fun q => decide (decode prog_3_method_3_code q.1 = .ok q.2)) = true := by decide +kernel
def t_Er_look_1 : List (Nat × Instr × Nat) := [(57, .ladd, 1), (58, .invokestatic 36, 3), (61, .lastore, 1), (62, .iinc 6 1, 3), (65, .goto (-62), 3), (68, .return_, 1)]
theorem d_Er_look_1 : t_Er_look_1.all (fun q => decide (decode prog_3_method_3_code q.1 = .ok q.2)) = true := by decide +kernel
theorem cm_Er_look : CM Er_look 5 := ⟨by decide +kernel, lw_in (i := 646) (by decide +kernel) (by decide +kernel), in_Er, by decide +kernel⟩
theorem cv_Er_look : CV Er_look 5 1 := ⟨cm_Er_look, lw_in (i := 644) (by decide +kernel) (by decide +kernel), lw_in (i := 645) (by decide +kernel) (by decide +kernel), ⟨_, rfl, rfl⟩, by decide⟩
abbrev Er_weeksCode : pY := (⟨"DoorRounds$Errands", "weeksCode", "(II)J"⟩, prog_3_method_4_code, 5, (Option.some Jvm.ClassFile.FieldType.long), 1, 21)
def t_Er_weeksCode_0 : List (Nat × Instr × Nat) := [(0, .lconst 0, 1), (1, .lstore_n 2, 1), (2, .iconst 0, 1), (3, .istore 4, 2), (5, .iload 4, 2), (7, .bipush 7, 2), (9, .if_icmp .ge 29, 3), (12, .iload_n 0, 1), (13, .iload 4, 2), (15, .invokestatic 42, 3), (18, .ifCond .eq 14, 3), (21, .lload_n 2, 1), (22, .iload_n 1, 1), (23, .i2l, 1), (24, .iload 4, 2), (26, .invokestatic 46, 3), (29, .lshl, 1), (30, .ladd, 1), (31, .lstore_n 2, 1), (32, .iinc 4 1, 3), (35, .goto (-30), 3), (38, .lload_n 2, 1), (39, .lreturn, 1)]
theorem d_Er_weeksCode_0 : t_Er_weeksCode_0.all (fun q => decide (decode prog_3_method_4_code q.1 = .ok q.2)) = true := by decide +kernel
theorem cm_Er_weeksCode : CM Er_weeksCode 2 := ⟨by decide +kernel, lw_in (i := 650) (by decide +kernel) (by decide +kernel), in_Er, by decide +kernel⟩
theorem cs_Er_weeksCode : CS Er_weeksCode 2 := ⟨cm_Er_weeksCode, lw_in (i := 649) (by decide +kernel) (by decide +kernel)⟩
abbrev Er_shiftOf : pY := (⟨"DoorRounds$Errands", "shiftOf", "(I)I"⟩, prog_3_method_5_code, 1, (Option.some Jvm.ClassFile.FieldType.int), 0, 0)
def t_Er_shiftOf_0 : List (Nat × Instr × Nat) := [(0, .iconst 5, 1), (1, .bipush 6, 2), (3, .iload_n 0, 1), (4, .isub, 1), (5, .imul, 1), (6, .ireturn, 1)]
theorem d_Er_shiftOf_0 : t_Er_shiftOf_0.all (fun q => decide (decode prog_3_method_5_code q.1 = .ok q.2)) = true := by decide +kernel
theorem cm_Er_shiftOf : CM Er_shiftOf 1 := ⟨by decide +kernel, lw_in (i := 654) (by decide +kernel) (by decide +kernel), in_Er, by decide +kernel⟩
theorem cs_Er_shiftOf : CS Er_shiftOf 1 := ⟨cm_Er_shiftOf, lw_in (i := 653) (by decide +kernel) (by decide +kernel)⟩
abbrev Er_share : pY := (⟨"DoorRounds$Errands", "share", "(I)V"⟩, prog_3_method_6_code, 3, (Option.none : Option Jvm.ClassFile.FieldType), 2, 49)
def t_Er_share_0 : List (Nat × Instr × Nat) := [(0, .iconst 1, 1), (1, .istore_n 2, 1), (2, .iload_n 2, 1), (3, .sipush 128, 3), (6, .if_icmp .ge 27, 3), (9, .iload_n 2, 1), (10, .iload_n 1, 1), (11, .iand, 1), (12, .iload_n 2, 1), (13, .if_icmp .ne 14, 3), (16, .aload_n 0, 1), (17, .getfield 15, 3), (20, .iload_n 2, 1), (21, .aload_n 0, 1), (22, .iload_n 2, 1), (23, .invokevirtual 50, 3), (26, .lastore, 1), (27, .iinc 2 1, 3), (30, .goto (-28), 3), (33, .return_, 1)]
theorem d_Er_share_0 : t_Er_share_0.all (fun q => decide (decode prog_3_method_6_code q.1 = .ok q.2)) = true := by decide +kernel
theorem cm_Er_share : CM Er_share 1 := ⟨by decide +kernel, lw_in (i := 661) (by decide +kernel) (by decide +kernel), in_Er, by decide +kernel⟩
theorem cv_Er_share : CV Er_share 1 1 := ⟨cm_Er_share, lw_in (i := 659) (by decide +kernel) (by decide +kernel), lw_in (i := 660) (by decide +kernel) (by decide +kernel), ⟨_, rfl, rfl⟩, by decide⟩
abbrev Er_leastOf : pY := (⟨"DoorRounds$Errands", "leastOf", "(I)J"⟩, prog_3_method_7_code, 5, (Option.some Jvm.ClassFile.FieldType.long), 1, 25)
def t_Er_leastOf_0 : List (Nat × Instr × Nat) := [(0, .ldc2_w 18, 3), (3, .lstore_n 2, 1), (4, .iconst 1, 1), (5, .istore 4, 2), (7, .iload 4, 2), (9, .iload_n 1, 1), (10, .if_icmp .gt 48, 3), (13, .iload 4, 2), (15, .sipush 128, 3), (18, .if_icmp .ge 40, 3), (21, .iload 4, 2), (23, .iload_n 1, 1), (24, .iand, 1), (25, .iload 4, 2), (27, .if_icmp .ne 25, 3), (30, .lload_n 2, 1), (31, .aload_n 0, 1), (32, .getfield 11, 3), (35, .iload 4, 2), (37, .laload, 1), (38, .aload_n 0, 1), (39, .getfield 15, 3), (42, .iload_n 1, 1), (43, .iload 4, 2), (45, .isub, 1), (46, .laload, 1), (47, .ladd, 1), (48, .invokestatic 36, 3), (51, .lstore_n 2, 1), (52, .iinc 4 1, 3)]
theorem d_Er_leastOf_0 : t_Er_leastOf_0.all (fun q => decide (decode prog_3_method_7_code q.1 = .ok q.2)) = true := by decide +kernel
def t_Er_leastOf_1 : List (Nat × Instr × Nat) := [(55, .goto (-48), 3), (58, .lload_n 2, 1), (59, .lreturn, 1)]
theorem d_Er_leastOf_1 : t_Er_leastOf_1.all (fun q => decide (decode prog_3_method_7_code q.1 = .ok q.2)) = true := by decide +kernel
theorem cm_Er_leastOf : CM Er_leastOf 1 := ⟨by decide +kernel, lw_in (i := 665) (by decide +kernel) (by decide +kernel), in_Er, by decide +kernel⟩
theorem cv_Er_leastOf : CV Er_leastOf 1 1 := ⟨cm_Er_leastOf, lw_in (i := 664) (by decide +kernel) (by decide +kernel), lw_insel (q := (⟨"DoorRounds$Errands", "leastOf", "(I)J"⟩, 2)) (i := 12) (by decide +kernel) (by decide +kernel), ⟨_, rfl, rfl⟩, by decide⟩
abbrev Er_weekFor : pY := (⟨"DoorRounds$Errands", "weekFor", "(II)I"⟩, prog_3_method_9_code, 3, (Option.some Jvm.ClassFile.FieldType.int), 1, 20)
def t_Er_weekFor_0 : List (Nat × Instr × Nat) := [(0, .iload_n 1, 1), (1, .ifCond .lt 28, 3), (4, .iload_n 1, 1), (5, .sipush 128, 3), (8, .if_icmp .ge 21, 3), (11, .aload_n 0, 1), (12, .getfield 15, 3), (15, .iload_n 1, 1), (16, .laload, 1), (17, .iload_n 2, 1), (18, .invokestatic 46, 3), (21, .lshr, 1), (22, .l2i, 1), (23, .bipush 31, 2), (25, .iand, 1), (26, .goto 4, 3), (29, .iconst 0, 1), (30, .ireturn, 1)]
theorem d_Er_weekFor_0 : t_Er_weekFor_0.all (fun q => decide (decode prog_3_method_9_code q.1 = .ok q.2)) = true := by decide +kernel
theorem cm_Er_weekFor : CM Er_weekFor 2 := ⟨by decide +kernel, lw_in (i := 671) (by decide +kernel) (by decide +kernel), in_Er, by decide +kernel⟩
theorem cv_Er_weekFor : CV Er_weekFor 2 1 := ⟨cm_Er_weekFor, lw_in (i := 669) (by decide +kernel) (by decide +kernel), lw_in (i := 670) (by decide +kernel) (by decide +kernel), ⟨_, rfl, rfl⟩, by decide⟩
abbrev Er_walkingFor : pY := (⟨"DoorRounds$Errands", "walkingFor", "(I)I"⟩, prog_3_method_8_code, 2, (Option.some Jvm.ClassFile.FieldType.int), 0, 0)
def t_Er_walkingFor_0 : List (Nat × Instr × Nat) := [(0, .iload_n 1, 1), (1, .ifCond .lt 23, 3), (4, .iload_n 1, 1), (5, .sipush 128, 3), (8, .if_icmp .ge 16, 3), (11, .aload_n 0, 1), (12, .getfield 15, 3), (15, .iload_n 1, 1), (16, .laload, 1), (17, .bipush 35, 2), (19, .lshr, 1), (20, .l2i, 1), (21, .goto 4, 3), (24, .iconst 0, 1), (25, .ireturn, 1)]
theorem d_Er_walkingFor_0 : t_Er_walkingFor_0.all (fun q => decide (decode prog_3_method_8_code q.1 = .ok q.2)) = true := by decide +kernel
theorem cm_Er_walkingFor : CM Er_walkingFor 1 := ⟨by decide +kernel, lw_in (i := 675) (by decide +kernel) (by decide +kernel), in_Er, by decide +kernel⟩
theorem cv_Er_walkingFor : CV Er_walkingFor 1 1 := ⟨cm_Er_walkingFor, lw_in (i := 673) (by decide +kernel) (by decide +kernel), lw_in (i := 674) (by decide +kernel) (by decide +kernel), ⟨_, rfl, rfl⟩, by decide⟩
abbrev D_agree : pY := (⟨"DoorRounds", "agree", "(III)I"⟩, prog_1_method_33_code, 10, (Option.some Jvm.ClassFile.FieldType.int), 4, 98)
def t_D_agree_0 : List (Nat × Instr × Nat) := [(0, .aload_n 0, 1), (1, .getfield 63, 3), (4, .iload_n 1, 1), (5, .invokevirtual 198, 3), (8, .ifCond .eq 24, 3), (11, .aload_n 0, 1), (12, .getfield 63, 3), (15, .iload_n 2, 1), (16, .invokevirtual 198, 3), (19, .ifCond .eq 13, 3), (22, .iload_n 3, 1), (23, .ifCond .lt 9, 3), (26, .iload_n 3, 1), (27, .bipush 60, 2), (29, .if_icmp .le 5, 3), (32, .iconst (-1), 1), (33, .ireturn, 1), (34, .aload_n 0, 1), (35, .getfield 63, 3), (38, .getfield 163, 3), (41, .ifCond .ne 9, 3), (44, .aload_n 0, 1), (45, .iconst 4, 1), (46, .invokevirtual 91, 3), (49, .ireturn, 1), (50, .iconst 0, 1), (51, .istore 4, 2), (53, .aload_n 0, 1), (54, .getfield 63, 3), (57, .getfield 252, 3)]
theorem d_D_agree_0 : t_D_agree_0.all (fun q => decide (decode prog_1_method_33_code q.1 = .ok q.2)) = true := by decide +kernel
def t_D_agree_1 : List (Nat × Instr × Nat) := [(60, .iconst 1, 1), (61, .iadd, 1), (62, .istore 5, 2), (64, .aload_n 0, 1), (65, .getfield 36, 3), (68, .aload_n 0, 1), (69, .getfield 28, 3), (72, .invokevirtual 220, 3), (75, .iconst 0, 1), (76, .istore 6, 2), (78, .iload 6, 2), (80, .iload_n 3, 1), (81, .if_icmp .gt 97, 3), (84, .iconst 0, 1), (85, .istore 7, 2), (87, .iload 7, 2), (89, .aload_n 0, 1), (90, .getfield 63, 3), (93, .getfield 163, 3), (96, .if_icmp .ge 64, 3), (99, .aload_n 0, 1), (100, .getfield 36, 3), (103, .iload 7, 2), (105, .invokevirtual 217, 3), (108, .istore 8, 2), (110, .aload_n 0, 1), (111, .getfield 63, 3), (114, .iload_n 1, 1), (115, .iload 8, 2), (117, .invokevirtual 243, 3)]
theorem d_D_agree_1 : t_D_agree_1.all (fun q => decide (decode prog_1_method_33_code q.1 = .ok q.2)) = true := by decide +kernel
def t_D_agree_2 : List (Nat × Instr × Nat) := [(120, .aload_n 0, 1), (121, .getfield 63, 3), (124, .iload_n 2, 1), (125, .iload 8, 2), (127, .invokevirtual 243, 3), (130, .iadd, 1), (131, .istore 9, 2), (133, .iload 9, 2), (135, .iload 5, 2), (137, .if_icmp .ge 17, 3), (140, .iload 9, 2), (142, .istore 5, 2), (144, .bipush 10, 2), (146, .iload 6, 2), (148, .imul, 1), (149, .iload 7, 2), (151, .iadd, 1), (152, .istore 4, 2), (154, .iinc 7 1, 3), (157, .goto (-70), 3), (160, .aload_n 0, 1), (161, .getfield 36, 3), (164, .aload_n 0, 1), (165, .getfield 63, 3), (168, .iconst 1, 1), (169, .invokevirtual 213, 3), (172, .iinc 6 1, 3), (175, .goto (-97), 3), (178, .aload_n 0, 1), (179, .iload 5, 2)]
theorem d_D_agree_2 : t_D_agree_2.all (fun q => decide (decode prog_1_method_33_code q.1 = .ok q.2)) = true := by decide +kernel
def t_D_agree_3 : List (Nat × Instr × Nat) := [(181, .iload 4, 2), (183, .invokevirtual 113, 3), (186, .ireturn, 1)]
theorem d_D_agree_3 : t_D_agree_3.all (fun q => decide (decode prog_1_method_33_code q.1 = .ok q.2)) = true := by decide +kernel
theorem cm_D_agree : CM D_agree 3 := ⟨by decide +kernel, lw_in (i := 679) (by decide +kernel) (by decide +kernel), in_D, by decide +kernel⟩
theorem cv_D_agree : CV D_agree 3 7 := ⟨cm_D_agree, lw_in (i := 677) (by decide +kernel) (by decide +kernel), lw_in (i := 678) (by decide +kernel) (by decide +kernel), ⟨_, rfl, rfl⟩, by decide⟩
abbrev D_joins : pY := (⟨"DoorRounds", "joins", "(II)I"⟩, prog_1_method_34_code, 3, (Option.some Jvm.ClassFile.FieldType.int), 5, 123)
def t_D_joins_0 : List (Nat × Instr × Nat) := [(0, .aload_n 0, 1), (1, .getfield 63, 3), (4, .iload_n 1, 1), (5, .invokevirtual 198, 3), (8, .ifCond .eq 15, 3), (11, .iload_n 2, 1), (12, .bipush (-9), 2), (14, .if_icmp .lt 9, 3), (17, .iload_n 2, 1), (18, .bipush 9, 2), (20, .if_icmp .le 5, 3), (23, .iconst (-1), 1), (24, .ireturn, 1), (25, .aload_n 0, 1), (26, .iload_n 1, 1), (27, .iload_n 2, 1), (28, .invokevirtual 288, 3), (31, .ireturn, 1)]
theorem d_D_joins_0 : t_D_joins_0.all (fun q => decide (decode prog_1_method_34_code q.1 = .ok q.2)) = true := by decide +kernel
theorem cm_D_joins : CM D_joins 2 := ⟨by decide +kernel, lw_in (i := 683) (by decide +kernel) (by decide +kernel), in_D, by decide +kernel⟩
theorem cv_D_joins : CV D_joins 2 7 := ⟨cm_D_joins, lw_in (i := 681) (by decide +kernel) (by decide +kernel), lw_in (i := 682) (by decide +kernel) (by decide +kernel), ⟨_, rfl, rfl⟩, by decide⟩
abbrev D_metBy : pY := (⟨"DoorRounds", "metBy", "(II)I"⟩, prog_1_method_73_code, 5, (Option.some Jvm.ClassFile.FieldType.int), 4, 99)
def t_D_metBy_0 : List (Nat × Instr × Nat) := [(0, .iconst 0, 1), (1, .istore_n 3, 1), (2, .iconst 0, 1), (3, .istore 4, 2), (5, .iload 4, 2), (7, .aload_n 0, 1), (8, .getfield 63, 3), (11, .getfield 163, 3), (14, .if_icmp .ge 51, 3), (17, .aload_n 0, 1), (18, .getfield 63, 3), (21, .aload_n 0, 1), (22, .getfield 28, 3), (25, .iload 4, 2), (27, .invokevirtual 217, 3), (30, .iload_n 1, 1), (31, .isub, 1), (32, .iload_n 2, 1), (33, .aload_n 0, 1), (34, .getfield 63, 3), (37, .iload 4, 2), (39, .invokevirtual 170, 3), (42, .getfield 246, 3), (45, .isub, 1), (46, .invokevirtual 255, 3), (49, .ifCond .eq 10, 3), (52, .iload_n 3, 1), (53, .iconst 1, 1), (54, .iload 4, 2), (56, .ishl, 1)]
theorem d_D_metBy_0 : t_D_metBy_0.all (fun q => decide (decode prog_1_method_73_code q.1 = .ok q.2)) = true := by decide +kernel
def t_D_metBy_1 : List (Nat × Instr × Nat) := [(57, .ior, 1), (58, .istore_n 3, 1), (59, .iinc 4 1, 3), (62, .goto (-57), 3), (65, .iload_n 3, 1), (66, .ireturn, 1)]
theorem d_D_metBy_1 : t_D_metBy_1.all (fun q => decide (decode prog_1_method_73_code q.1 = .ok q.2)) = true := by decide +kernel
theorem cm_D_metBy : CM D_metBy 2 := ⟨by decide +kernel, lw_in (i := 687) (by decide +kernel) (by decide +kernel), in_D, by decide +kernel⟩
theorem cv_D_metBy : CV D_metBy 2 7 := ⟨cm_D_metBy, lw_in (i := 686) (by decide +kernel) (by decide +kernel), lw_insel (q := (⟨"DoorRounds", "metBy", "(II)I"⟩, 16)) (i := 13) (by decide +kernel) (by decide +kernel), ⟨_, rfl, rfl⟩, by decide⟩
abbrev D_quiet : pY := (⟨"DoorRounds", "quiet", "()I"⟩, prog_1_method_35_code, 5, (Option.some Jvm.ClassFile.FieldType.int), 5, 123)
def t_D_quiet_0 : List (Nat × Instr × Nat) := [(0, .aload_n 0, 1), (1, .getfield 63, 3), (4, .invokevirtual 211, 3), (7, .ifCond .ne 6, 3), (10, .bipush (-4), 2), (12, .ireturn, 1), (13, .bipush (-9), 2), (15, .istore_n 1, 1), (16, .iconst 0, 1), (17, .istore_n 2, 1), (18, .iconst 0, 1), (19, .istore_n 3, 1), (20, .iload_n 3, 1), (21, .aload_n 0, 1), (22, .getfield 63, 3), (25, .getfield 252, 3), (28, .if_icmp .ge 54, 3), (31, .bipush (-9), 2), (33, .istore 4, 2), (35, .iload 4, 2), (37, .bipush 9, 2), (39, .if_icmp .gt 37, 3), (42, .aload_n 0, 1), (43, .iload_n 3, 1), (44, .iload 4, 2), (46, .invokevirtual 288, 3), (49, .ifCond .ne 21, 3), (52, .iload_n 2, 1), (53, .ifCond .ne 12, 3), (56, .iload_n 3, 1)]
theorem d_D_quiet_0 : t_D_quiet_0.all (fun q => decide (decode prog_1_method_35_code q.1 = .ok q.2)) = true := by decide +kernel
def t_D_quiet_1 : List (Nat × Instr × Nat) := [(57, .iload 4, 2), (59, .invokestatic 291, 3), (62, .goto 4, 3), (65, .iload_n 1, 1), (66, .istore_n 1, 1), (67, .iinc 2 1, 3), (70, .iinc 4 1, 3), (73, .goto (-38), 3), (76, .iinc 3 1, 3), (79, .goto (-59), 3), (82, .iload_n 2, 1), (83, .ifCond .ne 8, 3), (86, .bipush (-9), 2), (88, .goto 9, 3), (91, .aload_n 0, 1), (92, .iload_n 2, 1), (93, .iload_n 1, 1), (94, .invokevirtual 113, 3), (97, .ireturn, 1)]
theorem d_D_quiet_1 : t_D_quiet_1.all (fun q => decide (decode prog_1_method_35_code q.1 = .ok q.2)) = true := by decide +kernel
theorem cm_D_quiet : CM D_quiet 0 := ⟨by decide +kernel, lw_in (i := 691) (by decide +kernel) (by decide +kernel), in_D, by decide +kernel⟩
theorem cv_D_quiet : CV D_quiet 0 7 := ⟨cm_D_quiet, lw_in (i := 689) (by decide +kernel) (by decide +kernel), lw_in (i := 690) (by decide +kernel) (by decide +kernel), ⟨_, rfl, rfl⟩, by decide⟩
abbrev D_pairCode : pY := (⟨"DoorRounds", "pairCode", "(II)I"⟩, prog_1_method_74_code, 2, (Option.some Jvm.ClassFile.FieldType.int), 0, 0)
def t_D_pairCode_0 : List (Nat × Instr × Nat) := [(0, .bipush 100, 2), (2, .iload_n 0, 1), (3, .imul, 1), (4, .iload_n 1, 1), (5, .iadd, 1), (6, .bipush 9, 2), (8, .iadd, 1), (9, .ireturn, 1)]
theorem d_D_pairCode_0 : t_D_pairCode_0.all (fun q => decide (decode prog_1_method_74_code q.1 = .ok q.2)) = true := by decide +kernel
theorem cm_D_pairCode : CM D_pairCode 2 := ⟨by decide +kernel, lw_in (i := 694) (by decide +kernel) (by decide +kernel), in_D, by decide +kernel⟩
theorem cs_D_pairCode : CS D_pairCode 2 := ⟨cm_D_pairCode, lw_in (i := 693) (by decide +kernel) (by decide +kernel)⟩
abbrev D_busy : pY := (⟨"DoorRounds", "busy", "()I"⟩, prog_1_method_36_code, 6, (Option.some Jvm.ClassFile.FieldType.int), 5, 123)
def t_D_busy_0 : List (Nat × Instr × Nat) := [(0, .aload_n 0, 1), (1, .getfield 63, 3), (4, .invokevirtual 211, 3), (7, .ifCond .ne 6, 3), (10, .bipush (-4), 2), (12, .ireturn, 1), (13, .bipush (-9), 2), (15, .istore_n 1, 1), (16, .iconst (-1), 1), (17, .istore_n 2, 1), (18, .iconst 0, 1), (19, .istore_n 3, 1), (20, .iload_n 3, 1), (21, .aload_n 0, 1), (22, .getfield 63, 3), (25, .getfield 252, 3), (28, .if_icmp .ge 54, 3), (31, .bipush (-9), 2), (33, .istore 4, 2), (35, .iload 4, 2), (37, .bipush 9, 2), (39, .if_icmp .gt 37, 3), (42, .aload_n 0, 1), (43, .iload_n 3, 1), (44, .iload 4, 2), (46, .invokevirtual 288, 3), (49, .invokestatic 274, 3), (52, .istore 5, 2), (54, .iload 5, 2), (56, .iload_n 2, 1)]
theorem d_D_busy_0 : t_D_busy_0.all (fun q => decide (decode prog_1_method_36_code q.1 = .ok q.2)) = true := by decide +kernel
def t_D_busy_1 : List (Nat × Instr × Nat) := [(57, .if_icmp .le 13, 3), (60, .iload 5, 2), (62, .istore_n 2, 1), (63, .iload_n 3, 1), (64, .iload 4, 2), (66, .invokestatic 291, 3), (69, .istore_n 1, 1), (70, .iinc 4 1, 3), (73, .goto (-38), 3), (76, .iinc 3 1, 3), (79, .goto (-59), 3), (82, .aload_n 0, 1), (83, .iload_n 2, 1), (84, .iload_n 1, 1), (85, .invokevirtual 113, 3), (88, .ireturn, 1)]
theorem d_D_busy_1 : t_D_busy_1.all (fun q => decide (decode prog_1_method_36_code q.1 = .ok q.2)) = true := by decide +kernel
theorem cm_D_busy : CM D_busy 0 := ⟨by decide +kernel, lw_in (i := 698) (by decide +kernel) (by decide +kernel), in_D, by decide +kernel⟩
theorem cv_D_busy : CV D_busy 0 7 := ⟨cm_D_busy, lw_in (i := 696) (by decide +kernel) (by decide +kernel), lw_in (i := 697) (by decide +kernel) (by decide +kernel), ⟨_, rfl, rfl⟩, by decide⟩
abbrev D_note : pY := (⟨"DoorRounds", "note", "(III)I"⟩, prog_1_method_37_code, 4, (Option.some Jvm.ClassFile.FieldType.int), 1, 23)
def t_D_note_0 : List (Nat × Instr × Nat) := [(0, .iload_n 1, 1), (1, .ifCond .lt 31, 3), (4, .iload_n 1, 1), (5, .bipush 99, 2), (7, .if_icmp .gt 25, 3), (10, .aload_n 0, 1), (11, .getfield 63, 3), (14, .iload_n 2, 1), (15, .invokevirtual 164, 3), (18, .ifCond .eq 14, 3), (21, .aload_n 0, 1), (22, .getfield 63, 3), (25, .iload_n 3, 1), (26, .invokevirtual 198, 3), (29, .ifCond .ne 5, 3), (32, .iconst (-1), 1), (33, .ireturn, 1), (34, .aload_n 0, 1), (35, .getfield 45, 3), (38, .iload_n 1, 1), (39, .iload_n 2, 1), (40, .iload_n 3, 1), (41, .invokevirtual 294, 3), (44, .ifCond .eq 15, 3), (47, .aload_n 0, 1), (48, .getfield 45, 3), (51, .getfield 158, 3), (54, .iconst 1, 1), (55, .isub, 1), (56, .goto 5, 3)]
theorem d_D_note_0 : t_D_note_0.all (fun q => decide (decode prog_1_method_37_code q.1 = .ok q.2)) = true := by decide +kernel
def t_D_note_1 : List (Nat × Instr × Nat) := [(59, .bipush (-2), 2), (61, .ireturn, 1)]
theorem d_D_note_1 : t_D_note_1.all (fun q => decide (decode prog_1_method_37_code q.1 = .ok q.2)) = true := by decide +kernel
theorem cm_D_note : CM D_note 3 := ⟨by decide +kernel, lw_in (i := 702) (by decide +kernel) (by decide +kernel), in_D, by decide +kernel⟩
theorem cv_D_note : CV D_note 3 7 := ⟨cm_D_note, lw_in (i := 700) (by decide +kernel) (by decide +kernel), lw_in (i := 701) (by decide +kernel) (by decide +kernel), ⟨_, rfl, rfl⟩, by decide⟩
abbrev Di_write : pY := (⟨"DoorRounds$Diary", "write", "(III)Z"⟩, prog_2_method_2_code, 4, (Option.some Jvm.ClassFile.FieldType.boolean), 0, 0)
def t_Di_write_0 : List (Nat × Instr × Nat) := [(0, .aload_n 0, 1), (1, .getfield 9, 3), (4, .ifCond .lt 12, 3), (7, .aload_n 0, 1), (8, .getfield 9, 3), (11, .bipush 12, 2), (13, .if_icmp .lt 5, 3), (16, .iconst 0, 1), (17, .ireturn, 1), (18, .aload_n 0, 1), (19, .getfield 15, 3), (22, .aload_n 0, 1), (23, .getfield 9, 3), (26, .iload_n 1, 1), (27, .iastore, 1), (28, .aload_n 0, 1), (29, .getfield 19, 3), (32, .aload_n 0, 1), (33, .getfield 9, 3), (36, .iload_n 2, 1), (37, .iastore, 1), (38, .aload_n 0, 1), (39, .getfield 22, 3), (42, .aload_n 0, 1), (43, .getfield 9, 3), (46, .iload_n 3, 1), (47, .iastore, 1), (48, .aload_n 0, 1), (49, .dup, 1), (50, .getfield 9, 3)]
theorem d_Di_write_0 : t_Di_write_0.all (fun q => decide (decode prog_2_method_2_code q.1 = .ok q.2)) = true := by decide +kernel
def t_Di_write_1 : List (Nat × Instr × Nat) := [(53, .iconst 1, 1), (54, .iadd, 1), (55, .putfield 9, 3), (58, .iconst 1, 1), (59, .ireturn, 1)]
theorem d_Di_write_1 : t_Di_write_1.all (fun q => decide (decode prog_2_method_2_code q.1 = .ok q.2)) = true := by decide +kernel
theorem cm_Di_write : CM Di_write 3 := ⟨by decide +kernel, lw_in (i := 706) (by decide +kernel) (by decide +kernel), in_Di, by decide +kernel⟩
theorem cv_Di_write : CV Di_write 3 0 := ⟨cm_Di_write, lw_in (i := 704) (by decide +kernel) (by decide +kernel), lw_in (i := 705) (by decide +kernel) (by decide +kernel), ⟨_, rfl, rfl⟩, by decide⟩
abbrev D_back : pY := (⟨"DoorRounds", "back", "(I)I"⟩, prog_1_method_38_code, 3, (Option.some Jvm.ClassFile.FieldType.int), 0, 0)
def t_D_back_0 : List (Nat × Instr × Nat) := [(0, .iload_n 1, 1), (1, .ifCond .lt 14, 3), (4, .iload_n 1, 1), (5, .aload_n 0, 1), (6, .getfield 45, 3), (9, .getfield 158, 3), (12, .if_icmp .le 5, 3), (15, .iconst (-1), 1), (16, .ireturn, 1), (17, .aload_n 0, 1), (18, .getfield 45, 3), (21, .getfield 158, 3), (24, .iload_n 1, 1), (25, .isub, 1), (26, .istore_n 2, 1), (27, .aload_n 0, 1), (28, .getfield 45, 3), (31, .iload_n 1, 1), (32, .putfield 158, 3), (35, .iload_n 2, 1), (36, .ireturn, 1)]
theorem d_D_back_0 : t_D_back_0.all (fun q => decide (decode prog_1_method_38_code q.1 = .ok q.2)) = true := by decide +kernel
theorem cm_D_back : CM D_back 1 := ⟨by decide +kernel, lw_in (i := 710) (by decide +kernel) (by decide +kernel), in_D, by decide +kernel⟩
theorem cv_D_back : CV D_back 1 7 := ⟨cm_D_back, lw_in (i := 708) (by decide +kernel) (by decide +kernel), lw_in (i := 709) (by decide +kernel) (by decide +kernel), ⟨_, rfl, rfl⟩, by decide⟩
abbrev D_steps : pY := (⟨"DoorRounds", "steps", "(I)I"⟩, prog_1_method_39_code, 5, (Option.some Jvm.ClassFile.FieldType.int), 3, 83)
def t_D_steps_0 : List (Nat × Instr × Nat) := [(0, .aload_n 0, 1), (1, .getfield 63, 3), (4, .iload_n 1, 1), (5, .invokevirtual 164, 3), (8, .ifCond .ne 5, 3), (11, .iconst (-1), 1), (12, .ireturn, 1), (13, .aload_n 0, 1), (14, .getfield 63, 3), (17, .iload_n 1, 1), (18, .invokevirtual 170, 3), (21, .astore_n 2, 1), (22, .iconst 0, 1), (23, .istore_n 3, 1), (24, .bipush (-9), 2), (26, .istore 4, 2), (28, .iload 4, 2), (30, .bipush 9, 2), (32, .if_icmp .gt 44, 3), (35, .aload_n 0, 1), (36, .getfield 45, 3), (39, .aload_n 0, 1), (40, .getfield 63, 3), (43, .iload_n 1, 1), (44, .aload_n 2, 1), (45, .getfield 298, 3), (48, .aload_n 2, 1), (49, .getfield 191, 3), (52, .iload 4, 2), (54, .invokevirtual 301, 3)]
theorem d_D_steps_0 : t_D_steps_0.all (fun q => decide (decode prog_1_method_39_code q.1 = .ok q.2)) = true := by decide +kernel
def t_D_steps_1 : List (Nat × Instr × Nat) := [(57, .ifCond .eq 13, 3), (60, .iload_n 3, 1), (61, .iconst 1, 1), (62, .iload 4, 2), (64, .bipush 9, 2), (66, .iadd, 1), (67, .ishl, 1), (68, .ior, 1), (69, .istore_n 3, 1), (70, .iinc 4 1, 3), (73, .goto (-45), 3), (76, .aload_n 0, 1), (77, .iload_n 3, 1), (78, .invokestatic 274, 3), (81, .iload_n 3, 1), (82, .invokevirtual 113, 3), (85, .ireturn, 1)]
theorem d_D_steps_1 : t_D_steps_1.all (fun q => decide (decode prog_1_method_39_code q.1 = .ok q.2)) = true := by decide +kernel
theorem cm_D_steps : CM D_steps 1 := ⟨by decide +kernel, lw_in (i := 714) (by decide +kernel) (by decide +kernel), in_D, by decide +kernel⟩
theorem cv_D_steps : CV D_steps 1 7 := ⟨cm_D_steps, lw_in (i := 712) (by decide +kernel) (by decide +kernel), lw_in (i := 713) (by decide +kernel) (by decide +kernel), ⟨_, rfl, rfl⟩, by decide⟩
abbrev Di_fits : pY := (⟨"DoorRounds$Diary", "fits", "(LDoorRounds$Plan;IIII)Z"⟩, prog_2_method_3_code, 8, (Option.some Jvm.ClassFile.FieldType.boolean), 2, 56)
def t_Di_fits_0 : List (Nat × Instr × Nat) := [(0, .aload_n 1, 1), (1, .iload_n 2, 1), (2, .invokevirtual 25, 3), (5, .getfield 31, 3), (8, .istore 6, 2), (10, .iconst 0, 1), (11, .istore 7, 2), (13, .iload 7, 2), (15, .aload_n 0, 1), (16, .getfield 9, 3), (19, .if_icmp .ge 63, 3), (22, .iload 7, 2), (24, .bipush 12, 2), (26, .if_icmp .ge 56, 3), (29, .aload_n 0, 1), (30, .getfield 19, 3), (33, .iload 7, 2), (35, .iaload, 1), (36, .iload_n 2, 1), (37, .if_icmp .ne 39, 3), (40, .aload_n 1, 1), (41, .iload 6, 2), (43, .i2l, 1), (44, .iload_n 3, 1), (45, .iload 4, 2), (47, .iload 5, 2), (49, .iconst 0, 1), (50, .aload_n 0, 1), (51, .getfield 15, 3), (54, .iload 7, 2)]
theorem d_Di_fits_0 : t_Di_fits_0.all (fun q => decide (decode prog_2_method_3_code q.1 = .ok q.2)) = true := by decide +kernel
def t_Di_fits_1 : List (Nat × Instr × Nat) := [(56, .iaload, 1), (57, .invokestatic 36, 3), (60, .ladd, 1), (61, .invokevirtual 40, 3), (64, .aload_n 0, 1), (65, .getfield 22, 3), (68, .iload 7, 2), (70, .iaload, 1), (71, .if_icmp .eq 5, 3), (74, .iconst 0, 1), (75, .ireturn, 1), (76, .iinc 7 1, 3), (79, .goto (-66), 3), (82, .iconst 1, 1), (83, .ireturn, 1)]
theorem d_Di_fits_1 : t_Di_fits_1.all (fun q => decide (decode prog_2_method_3_code q.1 = .ok q.2)) = true := by decide +kernel
theorem cm_Di_fits : CM Di_fits 5 := ⟨by decide +kernel, lw_in (i := 718) (by decide +kernel) (by decide +kernel), in_Di, by decide +kernel⟩
theorem cv_Di_fits : CV Di_fits 5 0 := ⟨cm_Di_fits, lw_in (i := 716) (by decide +kernel) (by decide +kernel), lw_in (i := 717) (by decide +kernel) (by decide +kernel), ⟨_, rfl, rfl⟩, by decide⟩
abbrev D_kinds : pY := (⟨"DoorRounds", "kinds", "(I)I"⟩, prog_1_method_40_code, 8, (Option.some Jvm.ClassFile.FieldType.int), 3, 83)
def t_D_kinds_0 : List (Nat × Instr × Nat) := [(0, .aload_n 0, 1), (1, .getfield 63, 3), (4, .iload_n 1, 1), (5, .invokevirtual 164, 3), (8, .ifCond .ne 5, 3), (11, .iconst (-1), 1), (12, .ireturn, 1), (13, .aload_n 0, 1), (14, .getfield 63, 3), (17, .iload_n 1, 1), (18, .invokevirtual 170, 3), (21, .getfield 246, 3), (24, .istore_n 2, 1), (25, .aload_n 0, 1), (26, .getfield 45, 3), (29, .aload_n 0, 1), (30, .getfield 63, 3), (33, .iload_n 1, 1), (34, .iconst 0, 1), (35, .iconst 0, 1), (36, .iload_n 2, 1), (37, .invokevirtual 301, 3), (40, .istore_n 3, 1), (41, .iload_n 3, 1), (42, .ifCond .eq 7, 3), (45, .iconst 0, 1), (46, .goto 5, 3), (49, .bipush (-9), 2), (51, .istore 4, 2), (53, .iload_n 3, 1)]
theorem d_D_kinds_0 : t_D_kinds_0.all (fun q => decide (decode prog_1_method_40_code q.1 = .ok q.2)) = true := by decide +kernel
def t_D_kinds_1 : List (Nat × Instr × Nat) := [(54, .ifCond .eq 7, 3), (57, .iconst 1, 1), (58, .goto 4, 3), (61, .iconst 0, 1), (62, .istore 5, 2), (64, .iconst 3, 1), (65, .istore 6, 2), (67, .iload 6, 2), (69, .iconst 5, 1), (70, .if_icmp .gt 68, 3), (73, .iconst 2, 1), (74, .istore 7, 2), (76, .iload 7, 2), (78, .bipush 9, 2), (80, .if_icmp .gt 52, 3), (83, .aload_n 0, 1), (84, .getfield 45, 3), (87, .aload_n 0, 1), (88, .getfield 63, 3), (91, .iload_n 1, 1), (92, .iload 6, 2), (94, .iload 7, 2), (96, .iload_n 2, 1), (97, .invokevirtual 301, 3), (100, .ifCond .eq 26, 3), (103, .iload 5, 2), (105, .ifCond .ne 14, 3), (108, .bipush 10, 2), (110, .iload 6, 2), (112, .imul, 1)]
theorem d_D_kinds_1 : t_D_kinds_1.all (fun q => decide (decode prog_1_method_40_code q.1 = .ok q.2)) = true := by decide +kernel
def t_D_kinds_2 : List (Nat × Instr × Nat) := [(113, .iload 7, 2), (115, .iadd, 1), (116, .goto 5, 3), (119, .iload 4, 2), (121, .istore 4, 2), (123, .iinc 5 1, 3), (126, .iinc 7 1, 3), (129, .goto (-53), 3), (132, .iinc 6 1, 3), (135, .goto (-68), 3), (138, .iload 5, 2), (140, .ifCond .ne 8, 3), (143, .bipush (-9), 2), (145, .goto 11, 3), (148, .aload_n 0, 1), (149, .iload 5, 2), (151, .iload 4, 2), (153, .invokevirtual 113, 3), (156, .ireturn, 1)]
theorem d_D_kinds_2 : t_D_kinds_2.all (fun q => decide (decode prog_1_method_40_code q.1 = .ok q.2)) = true := by decide +kernel
theorem cm_D_kinds : CM D_kinds 1 := ⟨by decide +kernel, lw_in (i := 725) (by decide +kernel) (by decide +kernel), in_D, by decide +kernel⟩
theorem cv_D_kinds : CV D_kinds 1 7 := ⟨cm_D_kinds, lw_in (i := 723) (by decide +kernel) (by decide +kernel), lw_in (i := 724) (by decide +kernel) (by decide +kernel), ⟨_, rfl, rfl⟩, by decide⟩
abbrev D_rent : pY := (⟨"DoorRounds", "rent", "(III)I"⟩, prog_1_method_41_code, 6, (Option.some Jvm.ClassFile.FieldType.int), 5, 123)
def t_D_rent_0 : List (Nat × Instr × Nat) := [(0, .iload_n 1, 1), (1, .invokestatic 87, 3), (4, .ifCond .eq 21, 3), (7, .aload_n 0, 1), (8, .getfield 63, 3), (11, .iload_n 2, 1), (12, .invokevirtual 164, 3), (15, .ifCond .eq 10, 3), (18, .iload_n 3, 1), (19, .invokestatic 305, 3), (22, .ifCond .ne 5, 3), (25, .iconst (-1), 1), (26, .ireturn, 1), (27, .aload_n 0, 1), (28, .iload_n 1, 1), (29, .invokevirtual 95, 3), (32, .astore 4, 2), (34, .aload_n 0, 1), (35, .aload 4, 2), (37, .invokevirtual 308, 3), (40, .istore 5, 2), (42, .iload 5, 2), (44, .ifCond .eq 12, 3), (47, .aload_n 0, 1), (48, .iload 5, 2), (50, .invokevirtual 91, 3), (53, .goto 11, 3), (56, .aload_n 0, 1), (57, .aload 4, 2), (59, .iload_n 2, 1)]
theorem d_D_rent_0 : t_D_rent_0.all (fun q => decide (decode prog_1_method_41_code q.1 = .ok q.2)) = true := by decide +kernel
def t_D_rent_1 : List (Nat × Instr × Nat) := [(60, .iload_n 3, 1), (61, .invokevirtual 311, 3), (64, .ireturn, 1)]
theorem d_D_rent_1 : t_D_rent_1.all (fun q => decide (decode prog_1_method_41_code q.1 = .ok q.2)) = true := by decide +kernel
theorem cm_D_rent : CM D_rent 3 := ⟨by decide +kernel, lw_in (i := 729) (by decide +kernel) (by decide +kernel), in_D, by decide +kernel⟩
theorem cv_D_rent : CV D_rent 3 7 := ⟨cm_D_rent, lw_in (i := 727) (by decide +kernel) (by decide +kernel), lw_in (i := 728) (by decide +kernel) (by decide +kernel), ⟨_, rfl, rfl⟩, by decide⟩
abbrev D_isLook : pY := (⟨"DoorRounds", "isLook", "(I)Z"⟩, prog_1_method_60_code, 1, (Option.some Jvm.ClassFile.FieldType.boolean), 0, 0)
def t_D_isLook_0 : List (Nat × Instr × Nat) := [(0, .iload_n 0, 1), (1, .iconst 1, 1), (2, .if_icmp .lt 13, 3), (5, .iload_n 0, 1), (6, .bipush 60, 2), (8, .if_icmp .gt 7, 3), (11, .iconst 1, 1), (12, .goto 4, 3), (15, .iconst 0, 1), (16, .ireturn, 1)]
theorem d_D_isLook_0 : t_D_isLook_0.all (fun q => decide (decode prog_1_method_60_code q.1 = .ok q.2)) = true := by decide +kernel
theorem cm_D_isLook : CM D_isLook 1 := ⟨by decide +kernel, lw_in (i := 732) (by decide +kernel) (by decide +kernel), in_D, by decide +kernel⟩
theorem cs_D_isLook : CS D_isLook 1 := ⟨cm_D_isLook, lw_in (i := 731) (by decide +kernel) (by decide +kernel)⟩
abbrev D_passersFinding : pY := (⟨"DoorRounds", "passersFinding", "(LDoorRounds$Strip;)I"⟩, prog_1_method_66_code, 3, (Option.some Jvm.ClassFile.FieldType.int), 2, 42)
def t_D_passersFinding_0 : List (Nat × Instr × Nat) := [(0, .aload_n 1, 1), (1, .invokevirtual 117, 3), (4, .ifCond .ne 5, 3), (7, .iconst 1, 1), (8, .ireturn, 1), (9, .aload_n 1, 1), (10, .getfield 121, 3), (13, .aload_n 0, 1), (14, .getfield 63, 3), (17, .getfield 252, 3), (20, .if_icmp .eq 5, 3), (23, .iconst 5, 1), (24, .ireturn, 1), (25, .iconst 0, 1), (26, .istore_n 2, 1), (27, .iload_n 2, 1), (28, .aload_n 1, 1), (29, .getfield 121, 3), (32, .if_icmp .ge 29, 3), (35, .aload_n 1, 1), (36, .iload_n 2, 1), (37, .invokevirtual 107, 3), (40, .ifCond .lt 13, 3), (43, .aload_n 1, 1), (44, .iload_n 2, 1), (45, .invokevirtual 107, 3), (48, .bipush 99, 2), (50, .if_icmp .le 5, 3), (53, .iconst 3, 1), (54, .ireturn, 1)]
theorem d_D_passersFinding_0 : t_D_passersFinding_0.all (fun q => decide (decode prog_1_method_66_code q.1 = .ok q.2)) = true := by decide +kernel
def t_D_passersFinding_1 : List (Nat × Instr × Nat) := [(55, .iinc 2 1, 3), (58, .goto (-31), 3), (61, .iconst 0, 1), (62, .ireturn, 1)]
theorem d_D_passersFinding_1 : t_D_passersFinding_1.all (fun q => decide (decode prog_1_method_66_code q.1 = .ok q.2)) = true := by decide +kernel
theorem cm_D_passersFinding : CM D_passersFinding 1 := ⟨by decide +kernel, lw_in (i := 736) (by decide +kernel) (by decide +kernel), in_D, by decide +kernel⟩
theorem cv_D_passersFinding : CV D_passersFinding 1 7 := ⟨cm_D_passersFinding, lw_in (i := 735) (by decide +kernel) (by decide +kernel), lw_insel (q := (⟨"DoorRounds", "passersFinding", "(LDoorRounds$Strip;)I"⟩, 16)) (i := 14) (by decide +kernel) (by decide +kernel), ⟨_, rfl, rfl⟩, by decide⟩
abbrev D_rentOf : pY := (⟨"DoorRounds", "rentOf", "(LDoorRounds$Strip;II)I"⟩, prog_1_method_75_code, 6, (Option.some Jvm.ClassFile.FieldType.int), 4, 98)
def t_D_rentOf_0 : List (Nat × Instr × Nat) := [(0, .iconst 0, 1), (1, .istore 4, 2), (3, .aload_n 0, 1), (4, .getfield 36, 3), (7, .aload_n 0, 1), (8, .getfield 28, 3), (11, .invokevirtual 220, 3), (14, .iconst 0, 1), (15, .istore 5, 2), (17, .iload 5, 2), (19, .iload_n 3, 1), (20, .if_icmp .ge 38, 3), (23, .iload 4, 2), (25, .aload_n 1, 1), (26, .aload_n 0, 1), (27, .getfield 36, 3), (30, .iload_n 2, 1), (31, .invokevirtual 217, 3), (34, .invokevirtual 107, 3), (37, .iadd, 1), (38, .istore 4, 2), (40, .aload_n 0, 1), (41, .getfield 36, 3), (44, .aload_n 0, 1), (45, .getfield 63, 3), (48, .iconst 1, 1), (49, .invokevirtual 213, 3), (52, .iinc 5 1, 3), (55, .goto (-38), 3), (58, .iload 4, 2)]
theorem d_D_rentOf_0 : t_D_rentOf_0.all (fun q => decide (decode prog_1_method_75_code q.1 = .ok q.2)) = true := by decide +kernel
def t_D_rentOf_1 : List (Nat × Instr × Nat) := [(60, .ireturn, 1)]
theorem d_D_rentOf_1 : t_D_rentOf_1.all (fun q => decide (decode prog_1_method_75_code q.1 = .ok q.2)) = true := by decide +kernel
theorem cm_D_rentOf : CM D_rentOf 3 := ⟨by decide +kernel, lw_in (i := 740) (by decide +kernel) (by decide +kernel), in_D, by decide +kernel⟩
theorem cv_D_rentOf : CV D_rentOf 3 7 := ⟨cm_D_rentOf, lw_in (i := 739) (by decide +kernel) (by decide +kernel), lw_insel (q := (⟨"DoorRounds", "rentOf", "(LDoorRounds$Strip;II)I"⟩, 16)) (i := 15) (by decide +kernel) (by decide +kernel), ⟨_, rfl, rfl⟩, by decide⟩
abbrev D_dearest : pY := (⟨"DoorRounds", "dearest", "(II)I"⟩, prog_1_method_42_code, 10, (Option.some Jvm.ClassFile.FieldType.int), 5, 123)
def t_D_dearest_0 : List (Nat × Instr × Nat) := [(0, .iload_n 1, 1), (1, .invokestatic 87, 3), (4, .ifCond .eq 10, 3), (7, .iload_n 2, 1), (8, .invokestatic 305, 3), (11, .ifCond .ne 5, 3), (14, .iconst (-1), 1), (15, .ireturn, 1), (16, .aload_n 0, 1), (17, .iload_n 1, 1), (18, .invokevirtual 95, 3), (21, .astore_n 3, 1), (22, .aload_n 0, 1), (23, .aload_n 3, 1), (24, .invokevirtual 308, 3), (27, .istore 4, 2), (29, .iload 4, 2), (31, .ifCond .eq 10, 3), (34, .aload_n 0, 1), (35, .iload 4, 2), (37, .invokevirtual 91, 3), (40, .ireturn, 1), (41, .iconst 0, 1), (42, .istore 5, 2), (44, .iconst 0, 1), (45, .istore 6, 2), (47, .iconst 0, 1), (48, .istore 7, 2), (50, .iconst 0, 1), (51, .istore 8, 2)]
theorem d_D_dearest_0 : t_D_dearest_0.all (fun q => decide (decode prog_1_method_42_code q.1 = .ok q.2)) = true := by decide +kernel
def t_D_dearest_1 : List (Nat × Instr × Nat) := [(53, .iload 8, 2), (55, .aload_n 0, 1), (56, .getfield 63, 3), (59, .getfield 163, 3), (62, .if_icmp .ge 41, 3), (65, .aload_n 0, 1), (66, .aload_n 3, 1), (67, .iload 8, 2), (69, .iload_n 2, 1), (70, .invokevirtual 311, 3), (73, .istore 9, 2), (75, .iload 7, 2), (77, .iload 9, 2), (79, .iadd, 1), (80, .istore 7, 2), (82, .iload 9, 2), (84, .iload 6, 2), (86, .if_icmp .le 11, 3), (89, .iload 9, 2), (91, .istore 6, 2), (93, .iload 8, 2), (95, .istore 5, 2), (97, .iinc 8 1, 3), (100, .goto (-47), 3), (103, .iload 7, 2), (105, .ifCond .ne 9, 3), (108, .aload_n 0, 1), (109, .iconst 4, 1), (110, .invokevirtual 91, 3), (113, .ireturn, 1)]
theorem d_D_dearest_1 : t_D_dearest_1.all (fun q => decide (decode prog_1_method_42_code q.1 = .ok q.2)) = true := by decide +kernel
def t_D_dearest_2 : List (Nat × Instr × Nat) := [(114, .aload_n 0, 1), (115, .iload 6, 2), (117, .i2l, 1), (118, .iload 7, 2), (120, .i2l, 1), (121, .invokevirtual 315, 3), (124, .iload 5, 2), (126, .ireturn, 1)]
theorem d_D_dearest_2 : t_D_dearest_2.all (fun q => decide (decode prog_1_method_42_code q.1 = .ok q.2)) = true := by decide +kernel
theorem cm_D_dearest : CM D_dearest 2 := ⟨by decide +kernel, lw_in (i := 744) (by decide +kernel) (by decide +kernel), in_D, by decide +kernel⟩
theorem cv_D_dearest : CV D_dearest 2 7 := ⟨cm_D_dearest, lw_in (i := 742) (by decide +kernel) (by decide +kernel), lw_in (i := 743) (by decide +kernel) (by decide +kernel), ⟨_, rfl, rfl⟩, by decide⟩
abbrev D_tellFraction : pY := (⟨"DoorRounds", "tellFraction", "(JJ)V"⟩, prog_1_method_56_code, 7, (Option.none : Option Jvm.ClassFile.FieldType), 2, 55)
def t_D_tellFraction_0 : List (Nat × Instr × Nat) := [(0, .lload_n 1, 1), (1, .lload_n 3, 1), (2, .invokestatic 337, 3), (5, .lstore 5, 2), (7, .lload 5, 2), (9, .lconst 0, 1), (10, .lcmp, 1), (11, .ifCond .le 19, 3), (14, .aload_n 0, 1), (15, .lload_n 1, 1), (16, .lload 5, 2), (18, .ldiv, 1), (19, .putfield 74, 3), (22, .aload_n 0, 1), (23, .lload_n 3, 1), (24, .lload 5, 2), (26, .ldiv, 1), (27, .putfield 78, 3), (30, .return_, 1)]
theorem d_D_tellFraction_0 : t_D_tellFraction_0.all (fun q => decide (decode prog_1_method_56_code q.1 = .ok q.2)) = true := by decide +kernel
theorem cm_D_tellFraction : CM D_tellFraction 2 := ⟨by decide +kernel, lw_in (i := 748) (by decide +kernel) (by decide +kernel), in_D, by decide +kernel⟩
theorem cv_D_tellFraction : CV D_tellFraction 2 7 := ⟨cm_D_tellFraction, lw_in (i := 747) (by decide +kernel) (by decide +kernel), lw_insel (q := (⟨"DoorRounds", "tellFraction", "(JJ)V"⟩, 16)) (i := 16) (by decide +kernel) (by decide +kernel), ⟨_, rfl, rfl⟩, by decide⟩
end
section
abbrev D_mends : pY := (⟨"DoorRounds", "mends", "(II)I"⟩, prog_1_method_43_code, 6, (Option.some Jvm.ClassFile.FieldType.int), 4, 98)
def t_D_mends_0 : List (Nat × Instr × Nat) := [(0, .aload_n 0, 1), (1, .getfield 63, 3), (4, .iload_n 1, 1), (5, .invokevirtual 198, 3), (8, .ifCond .eq 10, 3), (11, .iload_n 2, 1), (12, .invokestatic 305, 3), (15, .ifCond .ne 5, 3), (18, .iconst (-1), 1), (19, .ireturn, 1), (20, .aload_n 0, 1), (21, .getfield 28, 3), (24, .iload_n 1, 1), (25, .invokevirtual 201, 3), (28, .ifCond .eq 6, 3), (31, .bipush (-4), 2), (33, .ireturn, 1), (34, .aload_n 0, 1), (35, .getfield 28, 3), (38, .invokevirtual 204, 3), (41, .iconst 3, 1), (42, .if_icmp .lt 6, 3), (45, .bipush (-2), 2), (47, .ireturn, 1), (48, .bipush (-9), 2), (50, .istore_n 3, 1), (51, .iconst 0, 1), (52, .istore 4, 2), (54, .aload_n 0, 1), (55, .getfield 36, 3)]
theorem d_D_mends_0 : t_D_mends_0.all (fun q => decide (decode prog_1_method_43_code q.1 = .ok q.2)) = true := by decide +kernel
def t_D_mends_1 : List (Nat × Instr × Nat) := [(58, .aload_n 0, 1), (59, .getfield 28, 3), (62, .invokevirtual 220, 3), (65, .aload_n 0, 1), (66, .getfield 39, 3), (69, .aload_n 0, 1), (70, .getfield 28, 3), (73, .invokevirtual 220, 3), (76, .aload_n 0, 1), (77, .getfield 39, 3), (80, .dup, 1), (81, .getfield 208, 3), (84, .iconst 1, 1), (85, .iload_n 1, 1), (86, .ishl, 1), (87, .ior, 1), (88, .putfield 208, 3), (91, .iconst 1, 1), (92, .istore 5, 2), (94, .iload 5, 2), (96, .iload_n 2, 1), (97, .if_icmp .gt 71, 3), (100, .aload_n 0, 1), (101, .getfield 36, 3), (104, .aload_n 0, 1), (105, .getfield 63, 3), (108, .iconst 1, 1), (109, .invokevirtual 213, 3), (112, .aload_n 0, 1), (113, .getfield 39, 3)]
theorem d_D_mends_1 : t_D_mends_1.all (fun q => decide (decode prog_1_method_43_code q.1 = .ok q.2)) = true := by decide +kernel
def t_D_mends_2 : List (Nat × Instr × Nat) := [(116, .aload_n 0, 1), (117, .getfield 63, 3), (120, .iconst 1, 1), (121, .invokevirtual 213, 3), (124, .aload_n 0, 1), (125, .getfield 39, 3), (128, .aload_n 0, 1), (129, .getfield 36, 3), (132, .aload_n 0, 1), (133, .getfield 63, 3), (136, .getfield 163, 3), (139, .invokevirtual 233, 3), (142, .istore 4, 2), (144, .iload_n 3, 1), (145, .bipush (-9), 2), (147, .if_icmp .ne 13, 3), (150, .iload 4, 2), (152, .ifCond .le 8, 3), (155, .iload 5, 2), (157, .goto 4, 3), (160, .iload_n 3, 1), (161, .istore_n 3, 1), (162, .iinc 5 1, 3), (165, .goto (-71), 3), (168, .aload_n 0, 1), (169, .iload_n 3, 1), (170, .iload 4, 2), (172, .invokevirtual 113, 3), (175, .ireturn, 1)]
theorem d_D_mends_2 : t_D_mends_2.all (fun q => decide (decode prog_1_method_43_code q.1 = .ok q.2)) = true := by decide +kernel
theorem cm_D_mends : CM D_mends 2 := ⟨by decide +kernel, lw_in (i := 753) (by decide +kernel) (by decide +kernel), in_D, by decide +kernel⟩
theorem cv_D_mends : CV D_mends 2 7 := ⟨cm_D_mends, lw_in (i := 751) (by decide +kernel) (by decide +kernel), lw_in (i := 752) (by decide +kernel) (by decide +kernel), ⟨_, rfl, rfl⟩, by decide⟩
abbrev D_worst : pY := (⟨"DoorRounds", "worst", "(I)I"⟩, prog_1_method_44_code, 6, (Option.some Jvm.ClassFile.FieldType.int), 4, 98)
def t_D_worst_0 : List (Nat × Instr × Nat) := [(0, .iload_n 1, 1), (1, .invokestatic 305, 3), (4, .ifCond .ne 5, 3), (7, .iconst (-1), 1), (8, .ireturn, 1), (9, .aload_n 0, 1), (10, .getfield 63, 3), (13, .invokevirtual 211, 3), (16, .ifCond .ne 6, 3), (19, .bipush (-4), 2), (21, .ireturn, 1), (22, .aload_n 0, 1), (23, .getfield 28, 3), (26, .invokevirtual 204, 3), (29, .iconst 3, 1), (30, .if_icmp .lt 6, 3), (33, .bipush (-2), 2), (35, .ireturn, 1), (36, .bipush (-9), 2), (38, .istore_n 2, 1), (39, .iconst (-1), 1), (40, .istore_n 3, 1), (41, .aload_n 0, 1), (42, .getfield 36, 3), (45, .aload_n 0, 1), (46, .getfield 28, 3), (49, .invokevirtual 220, 3), (52, .aload_n 0, 1), (53, .getfield 36, 3), (56, .aload_n 0, 1)]
theorem d_D_worst_0 : t_D_worst_0.all (fun q => decide (decode prog_1_method_44_code q.1 = .ok q.2)) = true := by decide +kernel
def t_D_worst_1 : List (Nat × Instr × Nat) := [(57, .getfield 63, 3), (60, .iload_n 1, 1), (61, .invokevirtual 213, 3), (64, .iconst 0, 1), (65, .istore 4, 2), (67, .iload 4, 2), (69, .aload_n 0, 1), (70, .getfield 63, 3), (73, .getfield 252, 3), (76, .if_icmp .ge 92, 3), (79, .aload_n 0, 1), (80, .getfield 28, 3), (83, .iload 4, 2), (85, .invokevirtual 201, 3), (88, .ifCond .ne 74, 3), (91, .aload_n 0, 1), (92, .getfield 39, 3), (95, .aload_n 0, 1), (96, .getfield 28, 3), (99, .invokevirtual 220, 3), (102, .aload_n 0, 1), (103, .getfield 39, 3), (106, .dup, 1), (107, .getfield 208, 3), (110, .iconst 1, 1), (111, .iload 4, 2), (113, .ishl, 1), (114, .ior, 1), (115, .putfield 208, 3), (118, .aload_n 0, 1)]
theorem d_D_worst_1 : t_D_worst_1.all (fun q => decide (decode prog_1_method_44_code q.1 = .ok q.2)) = true := by decide +kernel
def t_D_worst_2 : List (Nat × Instr × Nat) := [(119, .getfield 39, 3), (122, .aload_n 0, 1), (123, .getfield 63, 3), (126, .iload_n 1, 1), (127, .invokevirtual 213, 3), (130, .aload_n 0, 1), (131, .getfield 39, 3), (134, .aload_n 0, 1), (135, .getfield 36, 3), (138, .aload_n 0, 1), (139, .getfield 63, 3), (142, .getfield 163, 3), (145, .invokevirtual 233, 3), (148, .istore 5, 2), (150, .iload 5, 2), (152, .iload_n 3, 1), (153, .if_icmp .le 9, 3), (156, .iload 5, 2), (158, .istore_n 3, 1), (159, .iload 4, 2), (161, .istore_n 2, 1), (162, .iinc 4 1, 3), (165, .goto (-98), 3), (168, .aload_n 0, 1), (169, .iload_n 3, 1), (170, .iload_n 2, 1), (171, .invokevirtual 113, 3), (174, .ireturn, 1)]
theorem d_D_worst_2 : t_D_worst_2.all (fun q => decide (decode prog_1_method_44_code q.1 = .ok q.2)) = true := by decide +kernel
theorem cm_D_worst : CM D_worst 1 := ⟨by decide +kernel, lw_in (i := 757) (by decide +kernel) (by decide +kernel), in_D, by decide +kernel⟩
theorem cv_D_worst : CV D_worst 1 7 := ⟨cm_D_worst, lw_in (i := 755) (by decide +kernel) (by decide +kernel), lw_in (i := 756) (by decide +kernel) (by decide +kernel), ⟨_, rfl, rfl⟩, by decide⟩
abbrev D_image : pY := (⟨"DoorRounds", "image", "(I)I"⟩, prog_1_method_45_code, 4, (Option.some Jvm.ClassFile.FieldType.int), 2, 47)
def t_D_image_0 : List (Nat × Instr × Nat) := [(0, .iload_n 1, 1), (1, .invokestatic 87, 3), (4, .ifCond .ne 5, 3), (7, .iconst (-1), 1), (8, .ireturn, 1), (9, .aload_n 0, 1), (10, .getfield 63, 3), (13, .invokevirtual 211, 3), (16, .ifCond .ne 6, 3), (19, .bipush (-4), 2), (21, .ireturn, 1), (22, .aload_n 0, 1), (23, .iload_n 1, 1), (24, .invokevirtual 95, 3), (27, .astore_n 2, 1), (28, .aload_n 2, 1), (29, .aload_n 0, 1), (30, .getfield 63, 3), (33, .getfield 163, 3), (36, .iconst 2, 1), (37, .iadd, 1), (38, .iconst 0, 1), (39, .invokevirtual 99, 3), (42, .aload_n 2, 1), (43, .iconst 0, 1), (44, .aload_n 0, 1), (45, .getfield 28, 3), (48, .getfield 84, 3), (51, .invokevirtual 110, 3), (54, .aload_n 2, 1)]
theorem d_D_image_0 : t_D_image_0.all (fun q => decide (decode prog_1_method_45_code q.1 = .ok q.2)) = true := by decide +kernel
def t_D_image_1 : List (Nat × Instr × Nat) := [(55, .iconst 1, 1), (56, .aload_n 0, 1), (57, .getfield 28, 3), (60, .getfield 208, 3), (63, .invokevirtual 110, 3), (66, .iconst 0, 1), (67, .istore_n 3, 1), (68, .iload_n 3, 1), (69, .aload_n 0, 1), (70, .getfield 63, 3), (73, .getfield 163, 3), (76, .if_icmp .ge 24, 3), (79, .aload_n 2, 1), (80, .iload_n 3, 1), (81, .iconst 2, 1), (82, .iadd, 1), (83, .aload_n 0, 1), (84, .getfield 28, 3), (87, .iload_n 3, 1), (88, .invokevirtual 217, 3), (91, .invokevirtual 110, 3), (94, .iinc 3 1, 3), (97, .goto (-29), 3), (100, .aload_n 0, 1), (101, .getfield 63, 3), (104, .getfield 163, 3), (107, .iconst 2, 1), (108, .iadd, 1), (109, .ireturn, 1)]
theorem d_D_image_1 : t_D_image_1.all (fun q => decide (decode prog_1_method_45_code q.1 = .ok q.2)) = true := by decide +kernel
theorem cm_D_image : CM D_image 1 := ⟨by decide +kernel, lw_in (i := 761) (by decide +kernel) (by decide +kernel), in_D, by decide +kernel⟩
theorem cv_D_image : CV D_image 1 7 := ⟨cm_D_image, lw_in (i := 759) (by decide +kernel) (by decide +kernel), lw_in (i := 760) (by decide +kernel) (by decide +kernel), ⟨_, rfl, rfl⟩, by decide⟩
abbrev D_gone : pY := (⟨"DoorRounds", "gone", "(I)I"⟩, prog_1_method_46_code, 5, (Option.some Jvm.ClassFile.FieldType.int), 3, 68)
def t_D_gone_0 : List (Nat × Instr × Nat) := [(0, .iload_n 1, 1), (1, .invokestatic 87, 3), (4, .ifCond .ne 5, 3), (7, .iconst (-1), 1), (8, .ireturn, 1), (9, .aload_n 0, 1), (10, .getfield 63, 3), (13, .invokevirtual 211, 3), (16, .ifCond .ne 6, 3), (19, .bipush (-4), 2), (21, .ireturn, 1), (22, .aload_n 0, 1), (23, .iload_n 1, 1), (24, .invokevirtual 95, 3), (27, .astore_n 2, 1), (28, .aload_n 0, 1), (29, .aload_n 2, 1), (30, .invokevirtual 319, 3), (33, .istore_n 3, 1), (34, .iload_n 3, 1), (35, .ifCond .eq 9, 3), (38, .aload_n 0, 1), (39, .iload_n 3, 1), (40, .invokevirtual 91, 3), (43, .ireturn, 1), (44, .aload_n 0, 1), (45, .getfield 28, 3), (48, .aload_n 2, 1), (49, .iconst 0, 1), (50, .invokevirtual 107, 3)]
theorem d_D_gone_0 : t_D_gone_0.all (fun q => decide (decode prog_1_method_46_code q.1 = .ok q.2)) = true := by decide +kernel
def t_D_gone_1 : List (Nat × Instr × Nat) := [(53, .putfield 84, 3), (56, .aload_n 0, 1), (57, .getfield 28, 3), (60, .aload_n 2, 1), (61, .iconst 1, 1), (62, .invokevirtual 107, 3), (65, .putfield 208, 3), (68, .iconst 0, 1), (69, .istore 4, 2), (71, .iload 4, 2), (73, .aload_n 0, 1), (74, .getfield 63, 3), (77, .getfield 163, 3), (80, .if_icmp .ge 26, 3), (83, .aload_n 0, 1), (84, .getfield 28, 3), (87, .iload 4, 2), (89, .aload_n 2, 1), (90, .iload 4, 2), (92, .iconst 2, 1), (93, .iadd, 1), (94, .invokevirtual 107, 3), (97, .invokevirtual 322, 3), (100, .iinc 4 1, 3), (103, .goto (-32), 3), (106, .aload_n 0, 1), (107, .getfield 28, 3), (110, .getfield 84, 3), (113, .ireturn, 1)]
theorem d_D_gone_1 : t_D_gone_1.all (fun q => decide (decode prog_1_method_46_code q.1 = .ok q.2)) = true := by decide +kernel
theorem cm_D_gone : CM D_gone 1 := ⟨by decide +kernel, lw_in (i := 765) (by decide +kernel) (by decide +kernel), in_D, by decide +kernel⟩
theorem cv_D_gone : CV D_gone 1 7 := ⟨cm_D_gone, lw_in (i := 763) (by decide +kernel) (by decide +kernel), lw_in (i := 764) (by decide +kernel) (by decide +kernel), ⟨_, rfl, rfl⟩, by decide⟩
abbrev D_imageFinding : pY := (⟨"DoorRounds", "imageFinding", "(LDoorRounds$Strip;)I"⟩, prog_1_method_67_code, 7, (Option.some Jvm.ClassFile.FieldType.int), 2, 42)
def t_D_imageFinding_0 : List (Nat × Instr × Nat) := [(0, .aload_n 1, 1), (1, .invokevirtual 117, 3), (4, .ifCond .ne 5, 3), (7, .iconst 1, 1), (8, .ireturn, 1), (9, .aload_n 1, 1), (10, .getfield 121, 3), (13, .aload_n 0, 1), (14, .getfield 63, 3), (17, .getfield 163, 3), (20, .iconst 2, 1), (21, .iadd, 1), (22, .if_icmp .eq 5, 3), (25, .iconst 5, 1), (26, .ireturn, 1), (27, .aload_n 1, 1), (28, .iconst 0, 1), (29, .invokevirtual 107, 3), (32, .istore_n 2, 1), (33, .aload_n 1, 1), (34, .iconst 1, 1), (35, .invokevirtual 107, 3), (38, .istore_n 3, 1), (39, .iload_n 2, 1), (40, .ifCond .lt 28, 3), (43, .iload_n 2, 1), (44, .ldc 212, 2), (46, .if_icmp .gt 22, 3), (49, .aload_n 0, 1), (50, .getfield 63, 3)]
theorem d_D_imageFinding_0 : t_D_imageFinding_0.all (fun q => decide (decode prog_1_method_67_code q.1 = .ok q.2)) = true := by decide +kernel
def t_D_imageFinding_1 : List (Nat × Instr × Nat) := [(53, .iload_n 3, 1), (54, .invokevirtual 344, 3), (57, .ifCond .eq 11, 3), (60, .iload_n 3, 1), (61, .invokestatic 274, 3), (64, .iconst 3, 1), (65, .if_icmp .le 5, 3), (68, .iconst 3, 1), (69, .ireturn, 1), (70, .iconst 0, 1), (71, .istore 4, 2), (73, .iconst 0, 1), (74, .istore 5, 2), (76, .iload 5, 2), (78, .aload_n 0, 1), (79, .getfield 63, 3), (82, .getfield 163, 3), (85, .if_icmp .ge 52, 3), (88, .aload_n 1, 1), (89, .iload 5, 2), (91, .iconst 2, 1), (92, .iadd, 1), (93, .invokevirtual 107, 3), (96, .istore 6, 2), (98, .aload_n 0, 1), (99, .getfield 63, 3), (102, .iload 6, 2), (104, .invokevirtual 198, 3), (107, .ifCond .eq 13, 3), (110, .iload 4, 2)]
theorem d_D_imageFinding_1 : t_D_imageFinding_1.all (fun q => decide (decode prog_1_method_67_code q.1 = .ok q.2)) = true := by decide +kernel
def t_D_imageFinding_2 : List (Nat × Instr × Nat) := [(112, .iload 6, 2), (114, .invokestatic 279, 3), (117, .ifCond .eq 5, 3), (120, .iconst 3, 1), (121, .ireturn, 1), (122, .iload 4, 2), (124, .iconst 1, 1), (125, .iload 6, 2), (127, .ishl, 1), (128, .ior, 1), (129, .istore 4, 2), (131, .iinc 5 1, 3), (134, .goto (-58), 3), (137, .iconst 0, 1), (138, .ireturn, 1)]
theorem d_D_imageFinding_2 : t_D_imageFinding_2.all (fun q => decide (decode prog_1_method_67_code q.1 = .ok q.2)) = true := by decide +kernel
theorem cm_D_imageFinding : CM D_imageFinding 1 := ⟨by decide +kernel, lw_in (i := 769) (by decide +kernel) (by decide +kernel), in_D, by decide +kernel⟩
theorem cv_D_imageFinding : CV D_imageFinding 1 7 := ⟨cm_D_imageFinding, lw_in (i := 768) (by decide +kernel) (by decide +kernel), lw_insel (q := (⟨"DoorRounds", "imageFinding", "(LDoorRounds$Strip;)I"⟩, 16)) (i := 17) (by decide +kernel) (by decide +kernel), ⟨_, rfl, rfl⟩, by decide⟩
abbrev Pl_hasDoorSet : pY := (⟨"DoorRounds$Plan", "hasDoorSet", "(I)Z"⟩, prog_4_method_4_code, 2, (Option.some Jvm.ClassFile.FieldType.boolean), 0, 0)
def t_Pl_hasDoorSet_0 : List (Nat × Instr × Nat) := [(0, .iload_n 1, 1), (1, .ifCond .lt 16, 3), (4, .iload_n 1, 1), (5, .aload_n 0, 1), (6, .getfield 9, 3), (9, .ishr, 1), (10, .ifCond .ne 7, 3), (13, .iconst 1, 1), (14, .goto 4, 3), (17, .iconst 0, 1), (18, .ireturn, 1)]
theorem d_Pl_hasDoorSet_0 : t_Pl_hasDoorSet_0.all (fun q => decide (decode prog_4_method_4_code q.1 = .ok q.2)) = true := by decide +kernel
theorem cm_Pl_hasDoorSet : CM Pl_hasDoorSet 1 := ⟨by decide +kernel, lw_in (i := 773) (by decide +kernel) (by decide +kernel), in_Pl, by decide +kernel⟩
theorem cv_Pl_hasDoorSet : CV Pl_hasDoorSet 1 2 := ⟨cm_Pl_hasDoorSet, lw_in (i := 771) (by decide +kernel) (by decide +kernel), lw_in (i := 772) (by decide +kernel) (by decide +kernel), ⟨_, rfl, rfl⟩, by decide⟩
abbrev D_asked : pY := (⟨"DoorRounds", "asked", "()I"⟩, prog_1_method_47_code, 1, (Option.some Jvm.ClassFile.FieldType.int), 0, 0)
def t_D_asked_0 : List (Nat × Instr × Nat) := [(0, .aload_n 0, 1), (1, .getfield 70, 3), (4, .ireturn, 1)]
theorem d_D_asked_0 : t_D_asked_0.all (fun q => decide (decode prog_1_method_47_code q.1 = .ok q.2)) = true := by decide +kernel
theorem cm_D_asked : CM D_asked 0 := ⟨by decide +kernel, lw_in (i := 778) (by decide +kernel) (by decide +kernel), in_D, by decide +kernel⟩
theorem cv_D_asked : CV D_asked 0 7 := ⟨cm_D_asked, lw_in (i := 776) (by decide +kernel) (by decide +kernel), lw_in (i := 777) (by decide +kernel) (by decide +kernel), ⟨_, rfl, rfl⟩, by decide⟩
abbrev D_upper : pY := (⟨"DoorRounds", "upper", "()J"⟩, prog_1_method_48_code, 1, (Option.some Jvm.ClassFile.FieldType.long), 0, 0)
def t_D_upper_0 : List (Nat × Instr × Nat) := [(0, .aload_n 0, 1), (1, .getfield 74, 3), (4, .lreturn, 1)]
theorem d_D_upper_0 : t_D_upper_0.all (fun q => decide (decode prog_1_method_48_code q.1 = .ok q.2)) = true := by decide +kernel
theorem cm_D_upper : CM D_upper 0 := ⟨by decide +kernel, lw_in (i := 782) (by decide +kernel) (by decide +kernel), in_D, by decide +kernel⟩
theorem cv_D_upper : CV D_upper 0 7 := ⟨cm_D_upper, lw_in (i := 780) (by decide +kernel) (by decide +kernel), lw_in (i := 781) (by decide +kernel) (by decide +kernel), ⟨_, rfl, rfl⟩, by decide⟩
abbrev D_lower : pY := (⟨"DoorRounds", "lower", "()J"⟩, prog_1_method_49_code, 1, (Option.some Jvm.ClassFile.FieldType.long), 0, 0)
def t_D_lower_0 : List (Nat × Instr × Nat) := [(0, .aload_n 0, 1), (1, .getfield 78, 3), (4, .lreturn, 1)]
theorem d_D_lower_0 : t_D_lower_0.all (fun q => decide (decode prog_1_method_49_code q.1 = .ok q.2)) = true := by decide +kernel
theorem cm_D_lower : CM D_lower 0 := ⟨by decide +kernel, lw_in (i := 786) (by decide +kernel) (by decide +kernel), in_D, by decide +kernel⟩
theorem cv_D_lower : CV D_lower 0 7 := ⟨cm_D_lower, lw_in (i := 784) (by decide +kernel) (by decide +kernel), lw_in (i := 785) (by decide +kernel) (by decide +kernel), ⟨_, rfl, rfl⟩, by decide⟩
abbrev D_count : pY := (⟨"DoorRounds", "count", "(I)I"⟩, prog_1_method_50_code, 2, (Option.some Jvm.ClassFile.FieldType.int), 4, 85)
def t_D_count_0 : List (Nat × Instr × Nat) := [(0, .iload_n 1, 1), (1, .ifCond .lt 9, 3), (4, .iload_n 1, 1), (5, .bipush 7, 2), (7, .if_icmp .le 7, 3), (10, .iconst (-1), 1), (11, .goto 8, 3), (14, .aload_n 0, 1), (15, .iload_n 1, 1), (16, .invokevirtual 325, 3), (19, .ireturn, 1)]
theorem d_D_count_0 : t_D_count_0.all (fun q => decide (decode prog_1_method_50_code q.1 = .ok q.2)) = true := by decide +kernel
theorem cm_D_count : CM D_count 1 := ⟨by decide +kernel, lw_in (i := 790) (by decide +kernel) (by decide +kernel), in_D, by decide +kernel⟩
theorem cv_D_count : CV D_count 1 7 := ⟨cm_D_count, lw_in (i := 788) (by decide +kernel) (by decide +kernel), lw_in (i := 789) (by decide +kernel) (by decide +kernel), ⟨_, rfl, rfl⟩, by decide⟩
abbrev D_countOf : pY := (⟨"DoorRounds", "countOf", "(I)I"⟩, prog_1_method_69_code, 2, (Option.some Jvm.ClassFile.FieldType.int), 3, 64)
def t_D_countOf_0 : List (Nat × Instr × Nat) := [(0, .iload_n 1, 1), (1, .tableswitch 99 0 6 #[43, 51, 59, 67, 75, 83, 91], 43), (44, .aload_n 0, 1), (45, .getfield 63, 3), (48, .getfield 252, 3), (51, .ireturn, 1), (52, .aload_n 0, 1), (53, .getfield 63, 3), (56, .getfield 163, 3), (59, .ireturn, 1), (60, .aload_n 0, 1), (61, .getfield 28, 3), (64, .getfield 84, 3), (67, .ireturn, 1), (68, .aload_n 0, 1), (69, .getfield 63, 3), (72, .invokevirtual 353, 3), (75, .ireturn, 1), (76, .aload_n 0, 1), (77, .getfield 28, 3), (80, .invokevirtual 204, 3), (83, .ireturn, 1), (84, .aload_n 0, 1), (85, .getfield 45, 3), (88, .getfield 158, 3), (91, .ireturn, 1), (92, .aload_n 0, 1), (93, .getfield 11, 3), (96, .invokestatic 356, 3), (99, .ireturn, 1)]
theorem d_D_countOf_0 : t_D_countOf_0.all (fun q => decide (decode prog_1_method_69_code q.1 = .ok q.2)) = true := by decide +kernel
def t_D_countOf_1 : List (Nat × Instr × Nat) := [(100, .aload_n 0, 1), (101, .getfield 15, 3), (104, .invokestatic 356, 3), (107, .ireturn, 1)]
theorem d_D_countOf_1 : t_D_countOf_1.all (fun q => decide (decode prog_1_method_69_code q.1 = .ok q.2)) = true := by decide +kernel
theorem cm_D_countOf : CM D_countOf 1 := ⟨by decide +kernel, lw_in (i := 794) (by decide +kernel) (by decide +kernel), in_D, by decide +kernel⟩
theorem cv_D_countOf : CV D_countOf 1 7 := ⟨cm_D_countOf, lw_in (i := 793) (by decide +kernel) (by decide +kernel), lw_insel (q := (⟨"DoorRounds", "countOf", "(I)I"⟩, 16)) (i := 18) (by decide +kernel) (by decide +kernel), ⟨_, rfl, rfl⟩, by decide⟩
abbrev Pl_sleepers : pY := (⟨"DoorRounds$Plan", "sleepers", "()I"⟩, prog_4_method_8_code, 3, (Option.some Jvm.ClassFile.FieldType.int), 2, 42)
def t_Pl_sleepers_0 : List (Nat × Instr × Nat) := [(0, .iconst 0, 1), (1, .istore_n 1, 1), (2, .iconst 0, 1), (3, .istore_n 2, 1), (4, .iload_n 2, 1), (5, .aload_n 0, 1), (6, .getfield 15, 3), (9, .if_icmp .ge 29, 3), (12, .iload_n 1, 1), (13, .aload_n 0, 1), (14, .iload_n 2, 1), (15, .invokevirtual 44, 3), (18, .iconst 3, 1), (19, .invokevirtual 48, 3), (22, .ifCond .eq 7, 3), (25, .iconst 1, 1), (26, .goto 4, 3), (29, .iconst 0, 1), (30, .iadd, 1), (31, .istore_n 1, 1), (32, .iinc 2 1, 3), (35, .goto (-31), 3), (38, .iload_n 1, 1), (39, .ireturn, 1)]
theorem d_Pl_sleepers_0 : t_Pl_sleepers_0.all (fun q => decide (decode prog_4_method_8_code q.1 = .ok q.2)) = true := by decide +kernel
theorem cm_Pl_sleepers : CM Pl_sleepers 0 := ⟨by decide +kernel, lw_in (i := 798) (by decide +kernel) (by decide +kernel), in_Pl, by decide +kernel⟩
theorem cv_Pl_sleepers : CV Pl_sleepers 0 2 := ⟨cm_Pl_sleepers, lw_in (i := 796) (by decide +kernel) (by decide +kernel), lw_in (i := 797) (by decide +kernel) (by decide +kernel), ⟨_, rfl, rfl⟩, by decide⟩
abbrev D_countThere : pY := (⟨"DoorRounds", "countThere", "([LDoorRounds$Strip;)I"⟩, prog_1_method_70_code, 3, (Option.some Jvm.ClassFile.FieldType.int), 1, 20)
def t_D_countThere_0 : List (Nat × Instr × Nat) := [(0, .iconst 0, 1), (1, .istore_n 1, 1), (2, .iconst 0, 1), (3, .istore_n 2, 1), (4, .iload_n 2, 1), (5, .aload_n 0, 1), (6, .arraylength, 1), (7, .if_icmp .ge 27, 3), (10, .aload_n 0, 1), (11, .iload_n 2, 1), (12, .aaload, 1), (13, .ifnull 15, 3), (16, .aload_n 0, 1), (17, .iload_n 2, 1), (18, .aaload, 1), (19, .invokevirtual 117, 3), (22, .ifCond .eq 6, 3), (25, .iinc 1 1, 3), (28, .iinc 2 1, 3), (31, .goto (-27), 3), (34, .iload_n 1, 1), (35, .ireturn, 1)]
theorem d_D_countThere_0 : t_D_countThere_0.all (fun q => decide (decode prog_1_method_70_code q.1 = .ok q.2)) = true := by decide +kernel
theorem cm_D_countThere : CM D_countThere 1 := ⟨by decide +kernel, lw_in (i := 802) (by decide +kernel) (by decide +kernel), in_D, by decide +kernel⟩
theorem cs_D_countThere : CS D_countThere 1 := ⟨cm_D_countThere, lw_in (i := 801) (by decide +kernel) (by decide +kernel)⟩
abbrev D_finding : pY := (⟨"DoorRounds", "finding", "()I"⟩, prog_1_method_51_code, 1, (Option.some Jvm.ClassFile.FieldType.int), 0, 0)
def t_D_finding_0 : List (Nat × Instr × Nat) := [(0, .aload_n 0, 1), (1, .getfield 81, 3), (4, .ireturn, 1)]
theorem d_D_finding_0 : t_D_finding_0.all (fun q => decide (decode prog_1_method_51_code q.1 = .ok q.2)) = true := by decide +kernel
theorem cm_D_finding : CM D_finding 0 := ⟨by decide +kernel, lw_in (i := 806) (by decide +kernel) (by decide +kernel), in_D, by decide +kernel⟩
theorem cv_D_finding : CV D_finding 0 7 := ⟨cm_D_finding, lw_in (i := 804) (by decide +kernel) (by decide +kernel), lw_in (i := 805) (by decide +kernel) (by decide +kernel), ⟨_, rfl, rfl⟩, by decide⟩
abbrev D_findings : pY := (⟨"DoorRounds", "findings", "(I)I"⟩, prog_1_method_52_code, 2, (Option.some Jvm.ClassFile.FieldType.int), 0, 0)
def t_D_findings_0 : List (Nat × Instr × Nat) := [(0, .iload_n 1, 1), (1, .iconst 1, 1), (2, .if_icmp .lt 8, 3), (5, .iload_n 1, 1), (6, .iconst 5, 1), (7, .if_icmp .le 5, 3), (10, .iconst (-1), 1), (11, .ireturn, 1), (12, .aload_n 0, 1), (13, .getfield 56, 3), (16, .iload_n 1, 1), (17, .iaload, 1), (18, .ireturn, 1)]
theorem d_D_findings_0 : t_D_findings_0.all (fun q => decide (decode prog_1_method_52_code q.1 = .ok q.2)) = true := by decide +kernel
theorem cm_D_findings : CM D_findings 1 := ⟨by decide +kernel, lw_in (i := 810) (by decide +kernel) (by decide +kernel), in_D, by decide +kernel⟩
theorem cv_D_findings : CV D_findings 1 7 := ⟨cm_D_findings, lw_in (i := 808) (by decide +kernel) (by decide +kernel), lw_in (i := 809) (by decide +kernel) (by decide +kernel), ⟨_, rfl, rfl⟩, by decide⟩
abbrev D_digest : pY := (⟨"DoorRounds", "digest", "()J"⟩, prog_1_method_53_code, 5, (Option.some Jvm.ClassFile.FieldType.long), 4, 85)
def t_D_digest_0 : List (Nat × Instr × Nat) := [(0, .ldc2_w 328, 3), (3, .lstore_n 1, 1), (4, .iconst 0, 1), (5, .istore_n 3, 1), (6, .iload_n 3, 1), (7, .bipush 7, 2), (9, .if_icmp .gt 22, 3), (12, .ldc2_w 330, 3), (15, .lload_n 1, 1), (16, .lmul, 1), (17, .aload_n 0, 1), (18, .iload_n 3, 1), (19, .invokevirtual 325, 3), (22, .i2l, 1), (23, .ladd, 1), (24, .lstore_n 1, 1), (25, .iinc 3 1, 3), (28, .goto (-22), 3), (31, .iconst 0, 1), (32, .istore_n 3, 1), (33, .iload_n 3, 1), (34, .aload_n 0, 1), (35, .getfield 63, 3), (38, .getfield 163, 3), (41, .if_icmp .ge 39, 3), (44, .iconst 0, 1), (45, .istore 4, 2), (47, .iload 4, 2), (49, .iconst 5, 1), (50, .if_icmp .gt 24, 3)]
theorem d_D_digest_0 : t_D_digest_0.all (fun q => decide (decode prog_1_method_53_code q.1 = .ok q.2)) = true := by decide +kernel
def t_D_digest_1 : List (Nat × Instr × Nat) := [(53, .ldc2_w 330, 3), (56, .lload_n 1, 1), (57, .lmul, 1), (58, .aload_n 0, 1), (59, .iload_n 3, 1), (60, .iload 4, 2), (62, .invokevirtual 167, 3), (65, .i2l, 1), (66, .ladd, 1), (67, .lstore_n 1, 1), (68, .iinc 4 1, 3), (71, .goto (-24), 3), (74, .iinc 3 1, 3), (77, .goto (-44), 3), (80, .ldc2_w 330, 3), (83, .lload_n 1, 1), (84, .lmul, 1), (85, .aload_n 0, 1), (86, .getfield 28, 3), (89, .getfield 208, 3), (92, .i2l, 1), (93, .ladd, 1), (94, .lstore_n 1, 1), (95, .aload_n 0, 1), (96, .getfield 45, 3), (99, .lload_n 1, 1), (100, .invokevirtual 332, 3), (103, .lstore_n 1, 1), (104, .iconst 0, 1), (105, .istore_n 3, 1)]
theorem d_D_digest_1 : t_D_digest_1.all (fun q => decide (decode prog_1_method_53_code q.1 = .ok q.2)) = true := by decide +kernel
def t_D_digest_2 : List (Nat × Instr × Nat) := [(106, .iload_n 3, 1), (107, .iconst 3, 1), (108, .if_icmp .ge 25, 3), (111, .ldc2_w 330, 3), (114, .lload_n 1, 1), (115, .lmul, 1), (116, .aload_n 0, 1), (117, .iload_n 3, 1), (118, .invokevirtual 159, 3), (121, .getfield 84, 3), (124, .i2l, 1), (125, .ladd, 1), (126, .lstore_n 1, 1), (127, .iinc 3 1, 3), (130, .goto (-24), 3), (133, .iconst 0, 1), (134, .istore_n 3, 1), (135, .iload_n 3, 1), (136, .bipush 6, 2), (138, .if_icmp .ge 19, 3), (141, .aload_n 0, 1), (142, .iload_n 3, 1), (143, .invokevirtual 95, 3), (146, .lload_n 1, 1), (147, .invokevirtual 336, 3), (150, .lstore_n 1, 1), (151, .iinc 3 1, 3), (154, .goto (-19), 3), (157, .iconst 0, 1), (158, .istore_n 3, 1)]
theorem d_D_digest_2 : t_D_digest_2.all (fun q => decide (decode prog_1_method_53_code q.1 = .ok q.2)) = true := by decide +kernel
def t_D_digest_3 : List (Nat × Instr × Nat) := [(159, .iload_n 3, 1), (160, .iconst 4, 1), (161, .if_icmp .ge 19, 3), (164, .aload_n 0, 1), (165, .iload_n 3, 1), (166, .invokevirtual 144, 3), (169, .lload_n 1, 1), (170, .invokevirtual 336, 3), (173, .lstore_n 1, 1), (174, .iinc 3 1, 3), (177, .goto (-18), 3), (180, .lload_n 1, 1), (181, .lreturn, 1)]
theorem d_D_digest_3 : t_D_digest_3.all (fun q => decide (decode prog_1_method_53_code q.1 = .ok q.2)) = true := by decide +kernel
theorem cm_D_digest : CM D_digest 0 := ⟨by decide +kernel, lw_in (i := 814) (by decide +kernel) (by decide +kernel), in_D, by decide +kernel⟩
theorem cv_D_digest : CV D_digest 0 7 := ⟨cm_D_digest, lw_in (i := 812) (by decide +kernel) (by decide +kernel), lw_in (i := 813) (by decide +kernel) (by decide +kernel), ⟨_, rfl, rfl⟩, by decide⟩
abbrev Di_mixedInto : pY := (⟨"DoorRounds$Diary", "mixedInto", "(J)J"⟩, prog_2_method_4_code, 6, (Option.some Jvm.ClassFile.FieldType.long), 0, 0)
def t_Di_mixedInto_0 : List (Nat × Instr × Nat) := [(0, .lload_n 1, 1), (1, .lstore_n 3, 1), (2, .iconst 0, 1), (3, .istore 5, 2), (5, .iload 5, 2), (7, .aload_n 0, 1), (8, .getfield 9, 3), (11, .if_icmp .ge 61, 3), (14, .iload 5, 2), (16, .bipush 12, 2), (18, .if_icmp .ge 54, 3), (21, .ldc2_w 44, 3), (24, .lload_n 3, 1), (25, .lmul, 1), (26, .aload_n 0, 1), (27, .getfield 15, 3), (30, .iload 5, 2), (32, .iaload, 1), (33, .i2l, 1), (34, .ladd, 1), (35, .lstore_n 3, 1), (36, .ldc2_w 44, 3), (39, .lload_n 3, 1), (40, .lmul, 1), (41, .aload_n 0, 1), (42, .getfield 19, 3), (45, .iload 5, 2), (47, .iaload, 1), (48, .i2l, 1), (49, .ladd, 1)]
theorem d_Di_mixedInto_0 : t_Di_mixedInto_0.all (fun q => decide (decode prog_2_method_4_code q.1 = .ok q.2)) = true := by decide +kernel
def t_Di_mixedInto_1 : List (Nat × Instr × Nat) := [(50, .lstore_n 3, 1), (51, .ldc2_w 44, 3), (54, .lload_n 3, 1), (55, .lmul, 1), (56, .aload_n 0, 1), (57, .getfield 22, 3), (60, .iload 5, 2), (62, .iaload, 1), (63, .i2l, 1), (64, .ladd, 1), (65, .lstore_n 3, 1), (66, .iinc 5 1, 3), (69, .goto (-64), 3), (72, .lload_n 3, 1), (73, .lreturn, 1)]
theorem d_Di_mixedInto_1 : t_Di_mixedInto_1.all (fun q => decide (decode prog_2_method_4_code q.1 = .ok q.2)) = true := by decide +kernel
theorem cm_Di_mixedInto : CM Di_mixedInto 1 := ⟨by decide +kernel, lw_in (i := 820) (by decide +kernel) (by decide +kernel), in_Di, by decide +kernel⟩
theorem cv_Di_mixedInto : CV Di_mixedInto 1 0 := ⟨cm_Di_mixedInto, lw_in (i := 818) (by decide +kernel) (by decide +kernel), lw_in (i := 819) (by decide +kernel) (by decide +kernel), ⟨_, rfl, rfl⟩, by decide⟩
abbrev Sp_mixedInto : pY := (⟨"DoorRounds$Strip", "mixedInto", "(J)J"⟩, prog_8_method_9_code, 6, (Option.some Jvm.ClassFile.FieldType.long), 2, 42)
def t_Sp_mixedInto_0 : List (Nat × Instr × Nat) := [(0, .ldc2_w 42, 3), (3, .lload_n 1, 1), (4, .lmul, 1), (5, .aload_n 0, 1), (6, .getfield 9, 3), (9, .i2l, 1), (10, .ladd, 1), (11, .lstore_n 3, 1), (12, .iconst 0, 1), (13, .istore 5, 2), (15, .iload 5, 2), (17, .aload_n 0, 1), (18, .getfield 9, 3), (21, .if_icmp .ge 23, 3), (24, .ldc2_w 42, 3), (27, .lload_n 3, 1), (28, .lmul, 1), (29, .aload_n 0, 1), (30, .iload 5, 2), (32, .invokevirtual 38, 3), (35, .i2l, 1), (36, .ladd, 1), (37, .lstore_n 3, 1), (38, .iinc 5 1, 3), (41, .goto (-26), 3), (44, .lload_n 3, 1), (45, .lreturn, 1)]
theorem d_Sp_mixedInto_0 : t_Sp_mixedInto_0.all (fun q => decide (decode prog_8_method_9_code q.1 = .ok q.2)) = true := by decide +kernel
theorem cm_Sp_mixedInto : CM Sp_mixedInto 1 := ⟨by decide +kernel, lw_in (i := 825) (by decide +kernel) (by decide +kernel), in_Sp, by decide +kernel⟩
theorem cv_Sp_mixedInto : CV Sp_mixedInto 1 6 := ⟨cm_Sp_mixedInto, lw_in (i := 823) (by decide +kernel) (by decide +kernel), lw_in (i := 824) (by decide +kernel) (by decide +kernel), ⟨_, rfl, rfl⟩, by decide⟩
abbrev m_init : pY := (⟨"DoorRoundsModel", "<init>", "()V"⟩, prog_10_method_1_code, 2, (Option.none : Option Jvm.ClassFile.FieldType), 1, 20)
def t_m_init_0 : List (Nat × Instr × Nat) := [(0, .aload_n 0, 1), (1, .invokespecial 1, 3), (4, .aload_n 0, 1), (5, .bipush 6, 2), (7, .newarray .int, 2), (9, .putfield 7, 3), (12, .aload_n 0, 1), (13, .lconst 1, 1), (14, .putfield 13, 3), (17, .aload_n 0, 1), (18, .bipush 6, 2), (20, .newarray .int, 2), (22, .putfield 17, 3), (25, .aload_n 0, 1), (26, .sipush 240, 3), (29, .newarray .int, 2), (31, .putfield 20, 3), (34, .aload_n 0, 1), (35, .bipush 40, 2), (37, .newarray .int, 2), (39, .putfield 23, 3), (42, .aload_n 0, 1), (43, .iconst 4, 1), (44, .newarray .int, 2), (46, .putfield 26, 3), (49, .aload_n 0, 1), (50, .sipush 400, 3), (53, .newarray .int, 2), (55, .putfield 29, 3), (58, .aload_n 0, 1)]
theorem d_m_init_0 : t_m_init_0.all (fun q => decide (decode prog_10_method_1_code q.1 = .ok q.2)) = true := by decide +kernel
def t_m_init_1 : List (Nat × Instr × Nat) := [(59, .bipush 70, 2), (61, .newarray .int, 2), (63, .putfield 32, 3), (66, .aload_n 0, 1), (67, .bipush 7, 2), (69, .newarray .int, 2), (71, .putfield 35, 3), (74, .aload_n 0, 1), (75, .bipush 7, 2), (77, .newarray .int, 2), (79, .putfield 38, 3), (82, .aload_n 0, 1), (83, .bipush 7, 2), (85, .newarray .int, 2), (87, .putfield 41, 3), (90, .aload_n 0, 1), (91, .bipush 30, 2), (93, .newarray .int, 2), (95, .putfield 44, 3), (98, .aload_n 0, 1), (99, .sipush 3968, 3), (102, .newarray .int, 2), (104, .putfield 47, 3), (107, .aload_n 0, 1), (108, .sipush 128, 3), (111, .newarray .int, 2), (113, .putfield 50, 3), (116, .aload_n 0, 1), (117, .sipush 128, 3), (120, .newarray .int, 2)]
theorem d_m_init_1 : t_m_init_1.all (fun q => decide (decode prog_10_method_1_code q.1 = .ok q.2)) = true := by decide +kernel
def t_m_init_2 : List (Nat × Instr × Nat) := [(122, .putfield 53, 3), (125, .aload_n 0, 1), (126, .bipush 7, 2), (128, .newarray .int, 2), (130, .putfield 56, 3), (133, .aload_n 0, 1), (134, .bipush 36, 2), (136, .newarray .int, 2), (138, .putfield 59, 3), (141, .aload_n 0, 1), (142, .bipush 7, 2), (144, .newarray .int, 2), (146, .putfield 62, 3), (149, .aload_n 0, 1), (150, .sipush 427, 3), (153, .newarray .int, 2), (155, .putfield 65, 3), (158, .iconst 0, 1), (159, .istore_n 1, 1), (160, .iload_n 1, 1), (161, .bipush 6, 2), (163, .if_icmp .ge 17, 3), (166, .aload_n 0, 1), (167, .getfield 17, 3), (170, .iload_n 1, 1), (171, .bipush (-9), 2), (173, .iastore, 1), (174, .iinc 1 1, 3), (177, .goto (-17), 3), (180, .iconst 0, 1)]
theorem d_m_init_2 : t_m_init_2.all (fun q => decide (decode prog_10_method_1_code q.1 = .ok q.2)) = true := by decide +kernel
def t_m_init_3 : List (Nat × Instr × Nat) := [(181, .istore_n 1, 1), (182, .iload_n 1, 1), (183, .iconst 4, 1), (184, .if_icmp .ge 17, 3), (187, .aload_n 0, 1), (188, .getfield 26, 3), (191, .iload_n 1, 1), (192, .bipush (-9), 2), (194, .iastore, 1), (195, .iinc 1 1, 3), (198, .goto (-16), 3), (201, .iconst 0, 1), (202, .istore_n 1, 1), (203, .iload_n 1, 1), (204, .iconst 3, 1), (205, .if_icmp .ge 20, 3), (208, .aload_n 0, 1), (209, .getfield 44, 3), (212, .bipush 10, 2), (214, .iload_n 1, 1), (215, .imul, 1), (216, .bipush (-9), 2), (218, .iastore, 1), (219, .iinc 1 1, 3), (222, .goto (-19), 3), (225, .return_, 1)]
theorem d_m_init_3 : t_m_init_3.all (fun q => decide (decode prog_10_method_1_code q.1 = .ok q.2)) = true := by decide +kernel
theorem cm_m_init : CM m_init 0 := ⟨by decide +kernel, lw_in (i := 831) (by decide +kernel) (by decide +kernel), in_m, by decide +kernel⟩
theorem ci_m_init : Cond.instanceMethod m_init.1 ∈ lw_g := lw_in (i := 830) (by decide +kernel) (by decide +kernel)
abbrev m_row : pY := (⟨"DoorRoundsModel", "row", "(II)I"⟩, prog_10_method_13_code, 4, (Option.some Jvm.ClassFile.FieldType.int), 2, 42)
def t_m_row_0 : List (Nat × Instr × Nat) := [(0, .iload_n 1, 1), (1, .invokestatic 82, 3), (4, .ifCond .eq 9, 3), (7, .iload_n 2, 1), (8, .bipush 40, 2), (10, .if_icmp .le 5, 3), (13, .iconst (-1), 1), (14, .ireturn, 1), (15, .iload_n 2, 1), (16, .ifCond .ge 9, 3), (19, .aload_n 0, 1), (20, .iconst 5, 1), (21, .invokevirtual 86, 3), (24, .ireturn, 1), (25, .aload_n 0, 1), (26, .getfield 17, 3), (29, .iload_n 1, 1), (30, .iload_n 2, 1), (31, .iastore, 1), (32, .iconst 0, 1), (33, .istore_n 3, 1), (34, .iload_n 3, 1), (35, .bipush 40, 2), (37, .if_icmp .ge 16, 3), (40, .aload_n 0, 1), (41, .iload_n 1, 1), (42, .iload_n 3, 1), (43, .iconst 0, 1), (44, .invokevirtual 93, 3), (47, .iinc 3 1, 3)]
theorem d_m_row_0 : t_m_row_0.all (fun q => decide (decode prog_10_method_13_code q.1 = .ok q.2)) = true := by decide +kernel
def t_m_row_1 : List (Nat × Instr × Nat) := [(50, .goto (-16), 3), (53, .iload_n 2, 1), (54, .ireturn, 1)]
theorem d_m_row_1 : t_m_row_1.all (fun q => decide (decode prog_10_method_13_code q.1 = .ok q.2)) = true := by decide +kernel
theorem cm_m_row : CM m_row 2 := ⟨by decide +kernel, lw_in (i := 936) (by decide +kernel) (by decide +kernel), in_m, by decide +kernel⟩
theorem cv_m_row : CV m_row 2 8 := ⟨cm_m_row, lw_in (i := 934) (by decide +kernel) (by decide +kernel), lw_in (i := 935) (by decide +kernel) (by decide +kernel), ⟨_, rfl, rfl⟩, by decide⟩
abbrev m_isRow : pY := (⟨"DoorRoundsModel", "isRow", "(I)Z"⟩, prog_10_method_7_code, 1, (Option.some Jvm.ClassFile.FieldType.boolean), 1, 22)
def t_m_isRow_0 : List (Nat × Instr × Nat) := [(0, .iload_n 0, 1), (1, .iconst 0, 1), (2, .iconst 5, 1), (3, .invokestatic 78, 3), (6, .ireturn, 1)]
theorem d_m_isRow_0 : t_m_isRow_0.all (fun q => decide (decode prog_10_method_7_code q.1 = .ok q.2)) = true := by decide +kernel
theorem cm_m_isRow : CM m_isRow 1 := ⟨by decide +kernel, lw_in (i := 939) (by decide +kernel) (by decide +kernel), in_m, by decide +kernel⟩
theorem cs_m_isRow : CS m_isRow 1 := ⟨cm_m_isRow, lw_in (i := 938) (by decide +kernel) (by decide +kernel)⟩
abbrev m_in : pY := (⟨"DoorRoundsModel", "in", "(III)Z"⟩, prog_10_method_3_code, 3, (Option.some Jvm.ClassFile.FieldType.boolean), 0, 0)
def t_m_in_0 : List (Nat × Instr × Nat) := [(0, .iload_n 0, 1), (1, .iload_n 1, 1), (2, .if_icmp .lt 12, 3), (5, .iload_n 0, 1), (6, .iload_n 2, 1), (7, .if_icmp .gt 7, 3), (10, .iconst 1, 1), (11, .goto 4, 3), (14, .iconst 0, 1), (15, .ireturn, 1)]
theorem d_m_in_0 : t_m_in_0.all (fun q => decide (decode prog_10_method_3_code q.1 = .ok q.2)) = true := by decide +kernel
theorem cm_m_in : CM m_in 3 := ⟨by decide +kernel, lw_in (i := 942) (by decide +kernel) (by decide +kernel), in_m, by decide +kernel⟩
theorem cs_m_in : CS m_in 3 := ⟨cm_m_in, lw_in (i := 941) (by decide +kernel) (by decide +kernel)⟩
abbrev m_meet : pY := (⟨"DoorRoundsModel", "meet", "(I)I"⟩, prog_10_method_4_code, 2, (Option.some Jvm.ClassFile.FieldType.int), 0, 0)
def t_m_meet_0 : List (Nat × Instr × Nat) := [(0, .aload_n 0, 1), (1, .iload_n 1, 1), (2, .putfield 68, 3), (5, .aload_n 0, 1), (6, .getfield 7, 3), (9, .iload_n 1, 1), (10, .dup2, 1), (11, .iaload, 1), (12, .iconst 1, 1), (13, .iadd, 1), (14, .iastore, 1), (15, .bipush (-3), 2), (17, .ireturn, 1)]
theorem d_m_meet_0 : t_m_meet_0.all (fun q => decide (decode prog_10_method_4_code q.1 = .ok q.2)) = true := by decide +kernel
theorem cm_m_meet : CM m_meet 1 := ⟨by decide +kernel, lw_in (i := 946) (by decide +kernel) (by decide +kernel), in_m, by decide +kernel⟩
theorem cv_m_meet : CV m_meet 1 8 := ⟨cm_m_meet, lw_in (i := 945) (by decide +kernel) (by decide +kernel), lw_insel (q := (⟨"DoorRoundsModel", "meet", "(I)I"⟩, 33)) (i := 19) (by decide +kernel) (by decide +kernel), ⟨_, rfl, rfl⟩, by decide⟩
abbrev m_setRow : pY := (⟨"DoorRoundsModel", "setRow", "(III)V"⟩, prog_10_method_12_code, 4, (Option.none : Option Jvm.ClassFile.FieldType), 0, 0)
def t_m_setRow_0 : List (Nat × Instr × Nat) := [(0, .aload_n 0, 1), (1, .getfield 20, 3), (4, .bipush 40, 2), (6, .iload_n 1, 1), (7, .imul, 1), (8, .iload_n 2, 1), (9, .iadd, 1), (10, .iload_n 3, 1), (11, .iastore, 1), (12, .return_, 1)]
theorem d_m_setRow_0 : t_m_setRow_0.all (fun q => decide (decode prog_10_method_12_code q.1 = .ok q.2)) = true := by decide +kernel
theorem cm_m_setRow : CM m_setRow 3 := ⟨by decide +kernel, lw_in (i := 950) (by decide +kernel) (by decide +kernel), in_m, by decide +kernel⟩
theorem cv_m_setRow : CV m_setRow 3 8 := ⟨cm_m_setRow, lw_in (i := 949) (by decide +kernel) (by decide +kernel), lw_insel (q := (⟨"DoorRoundsModel", "setRow", "(III)V"⟩, 33)) (i := 20) (by decide +kernel) (by decide +kernel), ⟨_, rfl, rfl⟩, by decide⟩
abbrev m_at : pY := (⟨"DoorRoundsModel", "at", "(II)I"⟩, prog_10_method_14_code, 4, (Option.some Jvm.ClassFile.FieldType.int), 3, 63)
def t_m_at_0 : List (Nat × Instr × Nat) := [(0, .aload_n 0, 1), (1, .iload_n 1, 1), (2, .invokevirtual 97, 3), (5, .istore_n 3, 1), (6, .iload_n 3, 1), (7, .ifCond .ge 5, 3), (10, .iload_n 3, 1), (11, .ireturn, 1), (12, .iload_n 2, 1), (13, .iconst 0, 1), (14, .aload_n 0, 1), (15, .getfield 17, 3), (18, .iload_n 1, 1), (19, .iaload, 1), (20, .iconst 1, 1), (21, .isub, 1), (22, .invokestatic 78, 3), (25, .ifCond .eq 17, 3), (28, .aload_n 0, 1), (29, .aload_n 0, 1), (30, .iload_n 1, 1), (31, .iload_n 2, 1), (32, .invokevirtual 100, 3), (35, .iconst 1, 1), (36, .invokevirtual 104, 3), (39, .goto 8, 3), (42, .aload_n 0, 1), (43, .iconst 2, 1), (44, .invokevirtual 86, 3), (47, .ireturn, 1)]
theorem d_m_at_0 : t_m_at_0.all (fun q => decide (decode prog_10_method_14_code q.1 = .ok q.2)) = true := by decide +kernel
theorem cm_m_at : CM m_at 2 := ⟨by decide +kernel, lw_in (i := 954) (by decide +kernel) (by decide +kernel), in_m, by decide +kernel⟩
theorem cv_m_at : CV m_at 2 8 := ⟨cm_m_at, lw_in (i := 952) (by decide +kernel) (by decide +kernel), lw_in (i := 953) (by decide +kernel) (by decide +kernel), ⟨_, rfl, rfl⟩, by decide⟩
abbrev m_askedRow : pY := (⟨"DoorRoundsModel", "askedRow", "(I)I"⟩, prog_10_method_9_code, 2, (Option.some Jvm.ClassFile.FieldType.int), 2, 42)
def t_m_askedRow_0 : List (Nat × Instr × Nat) := [(0, .iload_n 1, 1), (1, .invokestatic 82, 3), (4, .ifCond .ne 7, 3), (7, .iconst (-1), 1), (8, .goto 21, 3), (11, .aload_n 0, 1), (12, .getfield 17, 3), (15, .iload_n 1, 1), (16, .iaload, 1), (17, .ifCond .ge 11, 3), (20, .aload_n 0, 1), (21, .iconst 1, 1), (22, .invokevirtual 86, 3), (25, .goto 4, 3), (28, .iconst 0, 1), (29, .ireturn, 1)]
theorem d_m_askedRow_0 : t_m_askedRow_0.all (fun q => decide (decode prog_10_method_9_code q.1 = .ok q.2)) = true := by decide +kernel
theorem cm_m_askedRow : CM m_askedRow 1 := ⟨by decide +kernel, lw_in (i := 958) (by decide +kernel) (by decide +kernel), in_m, by decide +kernel⟩
theorem cv_m_askedRow : CV m_askedRow 1 8 := ⟨cm_m_askedRow, lw_in (i := 957) (by decide +kernel) (by decide +kernel), lw_insel (q := (⟨"DoorRoundsModel", "askedRow", "(I)I"⟩, 33)) (i := 21) (by decide +kernel) (by decide +kernel), ⟨_, rfl, rfl⟩, by decide⟩
abbrev m_rowAt : pY := (⟨"DoorRoundsModel", "rowAt", "(II)I"⟩, prog_10_method_11_code, 3, (Option.some Jvm.ClassFile.FieldType.int), 0, 0)
def t_m_rowAt_0 : List (Nat × Instr × Nat) := [(0, .aload_n 0, 1), (1, .getfield 20, 3), (4, .bipush 40, 2), (6, .iload_n 1, 1), (7, .imul, 1), (8, .iload_n 2, 1), (9, .iadd, 1), (10, .iaload, 1), (11, .ireturn, 1)]
theorem d_m_rowAt_0 : t_m_rowAt_0.all (fun q => decide (decode prog_10_method_11_code q.1 = .ok q.2)) = true := by decide +kernel
theorem cm_m_rowAt : CM m_rowAt 2 := ⟨by decide +kernel, lw_in (i := 962) (by decide +kernel) (by decide +kernel), in_m, by decide +kernel⟩
theorem cv_m_rowAt : CV m_rowAt 2 8 := ⟨cm_m_rowAt, lw_in (i := 961) (by decide +kernel) (by decide +kernel), lw_insel (q := (⟨"DoorRoundsModel", "rowAt", "(II)I"⟩, 33)) (i := 22) (by decide +kernel) (by decide +kernel), ⟨_, rfl, rfl⟩, by decide⟩
abbrev m_ask : pY := (⟨"DoorRoundsModel", "ask", "(II)I"⟩, prog_10_method_5_code, 3, (Option.some Jvm.ClassFile.FieldType.int), 0, 0)
def t_m_ask_0 : List (Nat × Instr × Nat) := [(0, .aload_n 0, 1), (1, .iload_n 1, 1), (2, .putfield 72, 3), (5, .iload_n 2, 1), (6, .ireturn, 1)]
theorem d_m_ask_0 : t_m_ask_0.all (fun q => decide (decode prog_10_method_5_code q.1 = .ok q.2)) = true := by decide +kernel
theorem cm_m_ask : CM m_ask 2 := ⟨by decide +kernel, lw_in (i := 966) (by decide +kernel) (by decide +kernel), in_m, by decide +kernel⟩
theorem cv_m_ask : CV m_ask 2 8 := ⟨cm_m_ask, lw_in (i := 965) (by decide +kernel) (by decide +kernel), lw_insel (q := (⟨"DoorRoundsModel", "ask", "(II)I"⟩, 33)) (i := 23) (by decide +kernel) (by decide +kernel), ⟨_, rfl, rfl⟩, by decide⟩
abbrev m_lay : pY := (⟨"DoorRoundsModel", "lay", "(III)I"⟩, prog_10_method_15_code, 5, (Option.some Jvm.ClassFile.FieldType.int), 4, 86)
def t_m_lay_0 : List (Nat × Instr × Nat) := [(0, .aload_n 0, 1), (1, .iload_n 1, 1), (2, .iload_n 2, 1), (3, .invokevirtual 107, 3), (6, .istore 4, 2), (8, .iload 4, 2), (10, .ifCond .ge 6, 3), (13, .iload 4, 2), (15, .ireturn, 1), (16, .aload_n 0, 1), (17, .iload_n 1, 1), (18, .iload_n 2, 1), (19, .iload_n 3, 1), (20, .invokevirtual 93, 3), (23, .iconst 1, 1), (24, .ireturn, 1)]
theorem d_m_lay_0 : t_m_lay_0.all (fun q => decide (decode prog_10_method_15_code q.1 = .ok q.2)) = true := by decide +kernel
theorem cm_m_lay : CM m_lay 3 := ⟨by decide +kernel, lw_in (i := 970) (by decide +kernel) (by decide +kernel), in_m, by decide +kernel⟩
theorem cv_m_lay : CV m_lay 3 8 := ⟨cm_m_lay, lw_in (i := 968) (by decide +kernel) (by decide +kernel), lw_in (i := 969) (by decide +kernel) (by decide +kernel), ⟨_, rfl, rfl⟩, by decide⟩
abbrev m_tear : pY := (⟨"DoorRoundsModel", "tear", "(I)I"⟩, prog_10_method_16_code, 3, (Option.some Jvm.ClassFile.FieldType.int), 3, 63)
def t_m_tear_0 : List (Nat × Instr × Nat) := [(0, .aload_n 0, 1), (1, .iload_n 1, 1), (2, .invokevirtual 97, 3), (5, .istore_n 2, 1), (6, .iload_n 2, 1), (7, .ifCond .ge 5, 3), (10, .iload_n 2, 1), (11, .ireturn, 1), (12, .aload_n 0, 1), (13, .getfield 17, 3), (16, .iload_n 1, 1), (17, .bipush (-9), 2), (19, .iastore, 1), (20, .iconst 1, 1), (21, .ireturn, 1)]
theorem d_m_tear_0 : t_m_tear_0.all (fun q => decide (decode prog_10_method_16_code q.1 = .ok q.2)) = true := by decide +kernel
theorem cm_m_tear : CM m_tear 1 := ⟨by decide +kernel, lw_in (i := 975) (by decide +kernel) (by decide +kernel), in_m, by decide +kernel⟩
theorem cv_m_tear : CV m_tear 1 8 := ⟨cm_m_tear, lw_in (i := 973) (by decide +kernel) (by decide +kernel), lw_in (i := 974) (by decide +kernel) (by decide +kernel), ⟨_, rfl, rfl⟩, by decide⟩
abbrev m_copy : pY := (⟨"DoorRoundsModel", "copy", "(IIIII)I"⟩, prog_10_method_17_code, 7, (Option.some Jvm.ClassFile.FieldType.int), 2, 42)
def t_m_copy_0 : List (Nat × Instr × Nat) := [(0, .iload_n 1, 1), (1, .invokestatic 82, 3), (4, .ifCond .eq 10, 3), (7, .iload_n 3, 1), (8, .invokestatic 82, 3), (11, .ifCond .ne 5, 3), (14, .iconst (-1), 1), (15, .ireturn, 1), (16, .iload 5, 2), (18, .ifCond .ge 9, 3), (21, .aload_n 0, 1), (22, .iconst 5, 1), (23, .invokevirtual 86, 3), (26, .ireturn, 1), (27, .aload_n 0, 1), (28, .getfield 17, 3), (31, .iload_n 1, 1), (32, .iaload, 1), (33, .ifCond .lt 12, 3), (36, .aload_n 0, 1), (37, .getfield 17, 3), (40, .iload_n 3, 1), (41, .iaload, 1), (42, .ifCond .ge 9, 3), (45, .aload_n 0, 1), (46, .iconst 1, 1), (47, .invokevirtual 86, 3), (50, .ireturn, 1), (51, .iload_n 2, 1), (52, .ifCond .lt 43, 3)]
theorem d_m_copy_0 : t_m_copy_0.all (fun q => decide (decode prog_10_method_17_code q.1 = .ok q.2)) = true := by decide +kernel
def t_m_copy_1 : List (Nat × Instr × Nat) := [(55, .iload 4, 2), (57, .ifCond .lt 38, 3), (60, .iload_n 2, 1), (61, .i2l, 1), (62, .iload 5, 2), (64, .i2l, 1), (65, .ladd, 1), (66, .aload_n 0, 1), (67, .getfield 17, 3), (70, .iload_n 1, 1), (71, .iaload, 1), (72, .i2l, 1), (73, .lcmp, 1), (74, .ifCond .gt 21, 3), (77, .iload 4, 2), (79, .i2l, 1), (80, .iload 5, 2), (82, .i2l, 1), (83, .ladd, 1), (84, .aload_n 0, 1), (85, .getfield 17, 3), (88, .iload_n 3, 1), (89, .iaload, 1), (90, .i2l, 1), (91, .lcmp, 1), (92, .ifCond .le 9, 3), (95, .aload_n 0, 1), (96, .iconst 2, 1), (97, .invokevirtual 86, 3), (100, .ireturn, 1)]
theorem d_m_copy_1 : t_m_copy_1.all (fun q => decide (decode prog_10_method_17_code q.1 = .ok q.2)) = true := by decide +kernel
def t_m_copy_2 : List (Nat × Instr × Nat) := [(101, .iconst 0, 1), (102, .istore 6, 2), (104, .iload 6, 2), (106, .iload 5, 2), (108, .if_icmp .ge 25, 3), (111, .aload_n 0, 1), (112, .getfield 23, 3), (115, .iload 6, 2), (117, .aload_n 0, 1), (118, .iload_n 1, 1), (119, .iload_n 2, 1), (120, .iload 6, 2), (122, .iadd, 1), (123, .invokevirtual 100, 3), (126, .iastore, 1), (127, .iinc 6 1, 3), (130, .goto (-26), 3), (133, .iconst 0, 1), (134, .istore 6, 2), (136, .iload 6, 2), (138, .iload 5, 2), (140, .if_icmp .ge 26, 3), (143, .aload_n 0, 1), (144, .iload_n 3, 1), (145, .iload 4, 2), (147, .iload 6, 2), (149, .iadd, 1), (150, .aload_n 0, 1), (151, .getfield 23, 3), (154, .iload 6, 2)]
theorem d_m_copy_2 : t_m_copy_2.all (fun q => decide (decode prog_10_method_17_code q.1 = .ok q.2)) = true := by decide +kernel
def t_m_copy_3 : List (Nat × Instr × Nat) := [(156, .iaload, 1), (157, .invokevirtual 93, 3), (160, .iinc 6 1, 3), (163, .goto (-27), 3), (166, .iconst 1, 1), (167, .ireturn, 1)]
theorem d_m_copy_3 : t_m_copy_3.all (fun q => decide (decode prog_10_method_17_code q.1 = .ok q.2)) = true := by decide +kernel
theorem cm_m_copy : CM m_copy 5 := ⟨by decide +kernel, lw_in (i := 979) (by decide +kernel) (by decide +kernel), in_m, by decide +kernel⟩
theorem cv_m_copy : CV m_copy 5 8 := ⟨cm_m_copy, lw_in (i := 977) (by decide +kernel) (by decide +kernel), lw_in (i := 978) (by decide +kernel) (by decide +kernel), ⟨_, rfl, rfl⟩, by decide⟩
abbrev m_mean : pY := (⟨"DoorRoundsModel", "mean", "(I)I"⟩, prog_10_method_18_code, 6, (Option.some Jvm.ClassFile.FieldType.int), 3, 63)
def t_m_mean_0 : List (Nat × Instr × Nat) := [(0, .aload_n 0, 1), (1, .iload_n 1, 1), (2, .invokevirtual 97, 3), (5, .istore_n 2, 1), (6, .iload_n 2, 1), (7, .ifCond .ge 5, 3), (10, .iload_n 2, 1), (11, .ireturn, 1), (12, .lconst 0, 1), (13, .lstore_n 3, 1), (14, .iconst 0, 1), (15, .istore 5, 2), (17, .iload 5, 2), (19, .aload_n 0, 1), (20, .getfield 17, 3), (23, .iload_n 1, 1), (24, .iaload, 1), (25, .if_icmp .ge 20, 3), (28, .lload_n 3, 1), (29, .aload_n 0, 1), (30, .iload_n 1, 1), (31, .iload 5, 2), (33, .invokevirtual 100, 3), (36, .i2l, 1), (37, .ladd, 1), (38, .lstore_n 3, 1), (39, .iinc 5 1, 3), (42, .goto (-25), 3), (45, .aload_n 0, 1), (46, .getfield 17, 3)]
theorem d_m_mean_0 : t_m_mean_0.all (fun q => decide (decode prog_10_method_18_code q.1 = .ok q.2)) = true := by decide +kernel
def t_m_mean_1 : List (Nat × Instr × Nat) := [(49, .iload_n 1, 1), (50, .iaload, 1), (51, .ifCond .ne 11, 3), (54, .aload_n 0, 1), (55, .iconst 4, 1), (56, .invokevirtual 86, 3), (59, .goto 18, 3), (62, .aload_n 0, 1), (63, .lload_n 3, 1), (64, .aload_n 0, 1), (65, .getfield 17, 3), (68, .iload_n 1, 1), (69, .iaload, 1), (70, .i2l, 1), (71, .ldiv, 1), (72, .l2i, 1), (73, .iconst 1, 1), (74, .invokevirtual 104, 3), (77, .ireturn, 1)]
theorem d_m_mean_1 : t_m_mean_1.all (fun q => decide (decode prog_10_method_18_code q.1 = .ok q.2)) = true := by decide +kernel
theorem cm_m_mean : CM m_mean 1 := ⟨by decide +kernel, lw_in (i := 983) (by decide +kernel) (by decide +kernel), in_m, by decide +kernel⟩
theorem cv_m_mean : CV m_mean 1 8 := ⟨cm_m_mean, lw_in (i := 981) (by decide +kernel) (by decide +kernel), lw_in (i := 982) (by decide +kernel) (by decide +kernel), ⟨_, rfl, rfl⟩, by decide⟩
abbrev m_text : pY := (⟨"DoorRoundsModel", "text", "(II)I"⟩, prog_10_method_19_code, 4, (Option.some Jvm.ClassFile.FieldType.int), 2, 42)
def t_m_text_0 : List (Nat × Instr × Nat) := [(0, .iload_n 1, 1), (1, .invokestatic 90, 3), (4, .ifCond .eq 9, 3), (7, .iload_n 2, 1), (8, .bipush 100, 2), (10, .if_icmp .le 5, 3), (13, .iconst (-1), 1), (14, .ireturn, 1), (15, .iload_n 2, 1), (16, .ifCond .ge 9, 3), (19, .aload_n 0, 1), (20, .iconst 5, 1), (21, .invokevirtual 86, 3), (24, .ireturn, 1), (25, .aload_n 0, 1), (26, .getfield 26, 3), (29, .iload_n 1, 1), (30, .iload_n 2, 1), (31, .iastore, 1), (32, .iconst 0, 1), (33, .istore_n 3, 1), (34, .iload_n 3, 1), (35, .bipush 100, 2), (37, .if_icmp .ge 22, 3), (40, .aload_n 0, 1), (41, .getfield 29, 3), (44, .bipush 100, 2), (46, .iload_n 1, 1), (47, .imul, 1), (48, .iload_n 3, 1)]
theorem d_m_text_0 : t_m_text_0.all (fun q => decide (decode prog_10_method_19_code q.1 = .ok q.2)) = true := by decide +kernel
def t_m_text_1 : List (Nat × Instr × Nat) := [(49, .iadd, 1), (50, .bipush 32, 2), (52, .iastore, 1), (53, .iinc 3 1, 3), (56, .goto (-22), 3), (59, .iload_n 2, 1), (60, .ireturn, 1)]
theorem d_m_text_1 : t_m_text_1.all (fun q => decide (decode prog_10_method_19_code q.1 = .ok q.2)) = true := by decide +kernel
theorem cm_m_text : CM m_text 2 := ⟨by decide +kernel, lw_in (i := 987) (by decide +kernel) (by decide +kernel), in_m, by decide +kernel⟩
theorem cv_m_text : CV m_text 2 8 := ⟨cm_m_text, lw_in (i := 985) (by decide +kernel) (by decide +kernel), lw_in (i := 986) (by decide +kernel) (by decide +kernel), ⟨_, rfl, rfl⟩, by decide⟩
abbrev m_isText : pY := (⟨"DoorRoundsModel", "isText", "(I)Z"⟩, prog_10_method_8_code, 1, (Option.some Jvm.ClassFile.FieldType.boolean), 1, 22)
def t_m_isText_0 : List (Nat × Instr × Nat) := [(0, .iload_n 0, 1), (1, .iconst 0, 1), (2, .iconst 3, 1), (3, .invokestatic 78, 3), (6, .ireturn, 1)]
theorem d_m_isText_0 : t_m_isText_0.all (fun q => decide (decode prog_10_method_8_code q.1 = .ok q.2)) = true := by decide +kernel
theorem cm_m_isText : CM m_isText 1 := ⟨by decide +kernel, lw_in (i := 990) (by decide +kernel) (by decide +kernel), in_m, by decide +kernel⟩
theorem cs_m_isText : CS m_isText 1 := ⟨cm_m_isText, lw_in (i := 989) (by decide +kernel) (by decide +kernel)⟩
abbrev m_put : pY := (⟨"DoorRoundsModel", "put", "(III)I"⟩, prog_10_method_20_code, 6, (Option.some Jvm.ClassFile.FieldType.int), 3, 63)
def t_m_put_0 : List (Nat × Instr × Nat) := [(0, .aload_n 0, 1), (1, .iload_n 1, 1), (2, .invokevirtual 110, 3), (5, .istore 4, 2), (7, .iload 4, 2), (9, .ifCond .ge 6, 3), (12, .iload 4, 2), (14, .ireturn, 1), (15, .iload_n 2, 1), (16, .iconst 0, 1), (17, .aload_n 0, 1), (18, .getfield 26, 3), (21, .iload_n 1, 1), (22, .iaload, 1), (23, .iconst 1, 1), (24, .isub, 1), (25, .invokestatic 78, 3), (28, .ifCond .ne 9, 3), (31, .aload_n 0, 1), (32, .iconst 2, 1), (33, .invokevirtual 86, 3), (36, .ireturn, 1), (37, .aload_n 0, 1), (38, .getfield 29, 3), (41, .bipush 100, 2), (43, .iload_n 1, 1), (44, .imul, 1), (45, .iload_n 2, 1), (46, .iadd, 1), (47, .iaload, 1)]
theorem d_m_put_0 : t_m_put_0.all (fun q => decide (decode prog_10_method_20_code q.1 = .ok q.2)) = true := by decide +kernel
def t_m_put_1 : List (Nat × Instr × Nat) := [(48, .istore 5, 2), (50, .aload_n 0, 1), (51, .getfield 29, 3), (54, .bipush 100, 2), (56, .iload_n 1, 1), (57, .imul, 1), (58, .iload_n 2, 1), (59, .iadd, 1), (60, .iload_n 3, 1), (61, .i2b, 1), (62, .iastore, 1), (63, .iload 5, 2), (65, .sipush 1000, 3), (68, .iadd, 1), (69, .ireturn, 1)]
theorem d_m_put_1 : t_m_put_1.all (fun q => decide (decode prog_10_method_20_code q.1 = .ok q.2)) = true := by decide +kernel
theorem cm_m_put : CM m_put 3 := ⟨by decide +kernel, lw_in (i := 994) (by decide +kernel) (by decide +kernel), in_m, by decide +kernel⟩
theorem cv_m_put : CV m_put 3 8 := ⟨cm_m_put, lw_in (i := 992) (by decide +kernel) (by decide +kernel), lw_in (i := 993) (by decide +kernel) (by decide +kernel), ⟨_, rfl, rfl⟩, by decide⟩
abbrev m_askedText : pY := (⟨"DoorRoundsModel", "askedText", "(I)I"⟩, prog_10_method_10_code, 2, (Option.some Jvm.ClassFile.FieldType.int), 2, 42)
def t_m_askedText_0 : List (Nat × Instr × Nat) := [(0, .iload_n 1, 1), (1, .invokestatic 90, 3), (4, .ifCond .ne 7, 3), (7, .iconst (-1), 1), (8, .goto 21, 3), (11, .aload_n 0, 1), (12, .getfield 26, 3), (15, .iload_n 1, 1), (16, .iaload, 1), (17, .ifCond .ge 11, 3), (20, .aload_n 0, 1), (21, .iconst 1, 1), (22, .invokevirtual 86, 3), (25, .goto 4, 3), (28, .iconst 0, 1), (29, .ireturn, 1)]
theorem d_m_askedText_0 : t_m_askedText_0.all (fun q => decide (decode prog_10_method_10_code q.1 = .ok q.2)) = true := by decide +kernel
theorem cm_m_askedText : CM m_askedText 1 := ⟨by decide +kernel, lw_in (i := 998) (by decide +kernel) (by decide +kernel), in_m, by decide +kernel⟩
theorem cv_m_askedText : CV m_askedText 1 8 := ⟨cm_m_askedText, lw_in (i := 997) (by decide +kernel) (by decide +kernel), lw_insel (q := (⟨"DoorRoundsModel", "askedText", "(I)I"⟩, 33)) (i := 24) (by decide +kernel) (by decide +kernel), ⟨_, rfl, rfl⟩, by decide⟩
abbrev m_fault : pY := (⟨"DoorRoundsModel", "fault", "(I)I"⟩, prog_10_method_30_code, 3, (Option.some Jvm.ClassFile.FieldType.int), 4, 92)
def t_m_fault_0 : List (Nat × Instr × Nat) := [(0, .aload_n 0, 1), (1, .iload_n 1, 1), (2, .invokevirtual 110, 3), (5, .istore_n 2, 1), (6, .iload_n 2, 1), (7, .ifCond .ge 7, 3), (10, .iload_n 2, 1), (11, .goto 8, 3), (14, .aload_n 0, 1), (15, .iload_n 1, 1), (16, .invokevirtual 150, 3), (19, .ireturn, 1)]
theorem d_m_fault_0 : t_m_fault_0.all (fun q => decide (decode prog_10_method_30_code q.1 = .ok q.2)) = true := by decide +kernel
theorem cm_m_fault : CM m_fault 1 := ⟨by decide +kernel, lw_in (i := 1002) (by decide +kernel) (by decide +kernel), in_m, by decide +kernel⟩
theorem cv_m_fault : CV m_fault 1 8 := ⟨cm_m_fault, lw_in (i := 1000) (by decide +kernel) (by decide +kernel), lw_in (i := 1001) (by decide +kernel) (by decide +kernel), ⟨_, rfl, rfl⟩, by decide⟩
abbrev m_goesOn : pY := (⟨"DoorRoundsModel", "goesOn", "(I)I"⟩, prog_10_method_29_code, 2, (Option.some Jvm.ClassFile.FieldType.int), 3, 71)
def t_m_goesOn_0 : List (Nat × Instr × Nat) := [(0, .aload_n 0, 1), (1, .iconst 0, 1), (2, .putfield 113, 3), (5, .aload_n 0, 1), (6, .iconst 0, 1), (7, .putfield 128, 3), (10, .aload_n 0, 1), (11, .iconst 0, 1), (12, .putfield 122, 3), (15, .aload_n 0, 1), (16, .getfield 113, 3), (19, .aload_n 0, 1), (20, .getfield 26, 3), (23, .iload_n 1, 1), (24, .iaload, 1), (25, .if_icmp .ge 57, 3), (28, .aload_n 0, 1), (29, .iload_n 1, 1), (30, .invokevirtual 116, 3), (33, .bipush 32, 2), (35, .if_icmp .ne 16, 3), (38, .aload_n 0, 1), (39, .dup, 1), (40, .getfield 113, 3), (43, .iconst 1, 1), (44, .iadd, 1), (45, .putfield 113, 3), (48, .goto (-33), 3), (51, .aload_n 0, 1), (52, .getfield 128, 3)]
theorem d_m_goesOn_0 : t_m_goesOn_0.all (fun q => decide (decode prog_10_method_29_code q.1 = .ok q.2)) = true := by decide +kernel
def t_m_goesOn_1 : List (Nat × Instr × Nat) := [(55, .ifCond .ne 14, 3), (58, .aload_n 0, 1), (59, .iload_n 1, 1), (60, .invokevirtual 144, 3), (63, .ifCond .ne (-48), 3), (66, .goto 11, 3), (69, .aload_n 0, 1), (70, .iload_n 1, 1), (71, .invokevirtual 147, 3), (74, .ifCond .ne (-59), 3), (77, .aload_n 0, 1), (78, .getfield 113, 3), (81, .ireturn, 1), (82, .aload_n 0, 1), (83, .getfield 128, 3), (86, .ifCond .ne 12, 3), (89, .aload_n 0, 1), (90, .getfield 26, 3), (93, .iload_n 1, 1), (94, .iaload, 1), (95, .goto 5, 3), (98, .bipush (-9), 2), (100, .ireturn, 1)]
theorem d_m_goesOn_1 : t_m_goesOn_1.all (fun q => decide (decode prog_10_method_29_code q.1 = .ok q.2)) = true := by decide +kernel
theorem cm_m_goesOn : CM m_goesOn 1 := ⟨by decide +kernel, lw_in (i := 1006) (by decide +kernel) (by decide +kernel), in_m, by decide +kernel⟩
theorem cv_m_goesOn : CV m_goesOn 1 8 := ⟨cm_m_goesOn, lw_in (i := 1005) (by decide +kernel) (by decide +kernel), lw_insel (q := (⟨"DoorRoundsModel", "goesOn", "(I)I"⟩, 33)) (i := 25) (by decide +kernel) (by decide +kernel), ⟨_, rfl, rfl⟩, by decide⟩
abbrev m_here : pY := (⟨"DoorRoundsModel", "here", "(I)I"⟩, prog_10_method_21_code, 2, (Option.some Jvm.ClassFile.FieldType.int), 0, 0)
def t_m_here_0 : List (Nat × Instr × Nat) := [(0, .aload_n 0, 1), (1, .getfield 113, 3), (4, .aload_n 0, 1), (5, .getfield 26, 3), (8, .iload_n 1, 1), (9, .iaload, 1), (10, .if_icmp .ge 20, 3), (13, .aload_n 0, 1), (14, .getfield 29, 3), (17, .bipush 100, 2), (19, .iload_n 1, 1), (20, .imul, 1), (21, .aload_n 0, 1), (22, .getfield 113, 3), (25, .iadd, 1), (26, .iaload, 1), (27, .goto 5, 3), (30, .bipush (-9), 2), (32, .ireturn, 1)]
theorem d_m_here_0 : t_m_here_0.all (fun q => decide (decode prog_10_method_21_code q.1 = .ok q.2)) = true := by decide +kernel
theorem cm_m_here : CM m_here 1 := ⟨by decide +kernel, lw_in (i := 1010) (by decide +kernel) (by decide +kernel), in_m, by decide +kernel⟩
theorem cv_m_here : CV m_here 1 8 := ⟨cm_m_here, lw_in (i := 1009) (by decide +kernel) (by decide +kernel), lw_insel (q := (⟨"DoorRoundsModel", "here", "(I)I"⟩, 33)) (i := 26) (by decide +kernel) (by decide +kernel), ⟨_, rfl, rfl⟩, by decide⟩
abbrev m_readsDoors : pY := (⟨"DoorRoundsModel", "readsDoors", "(I)Z"⟩, prog_10_method_28_code, 2, (Option.some Jvm.ClassFile.FieldType.boolean), 2, 46)
def t_m_readsDoors_0 : List (Nat × Instr × Nat) := [(0, .aload_n 0, 1), (1, .iload_n 1, 1), (2, .bipush 100, 2), (4, .invokevirtual 137, 3), (7, .ifCond .eq 15, 3), (10, .aload_n 0, 1), (11, .iload_n 1, 1), (12, .bipush 10, 2), (14, .bipush 30, 2), (16, .invokevirtual 131, 3), (19, .ifCond .ne 5, 3), (22, .iconst 0, 1), (23, .ireturn, 1), (24, .aload_n 0, 1), (25, .aload_n 0, 1), (26, .getfield 119, 3), (29, .putfield 128, 3), (32, .iconst 1, 1), (33, .ireturn, 1)]
theorem d_m_readsDoors_0 : t_m_readsDoors_0.all (fun q => decide (decode prog_10_method_28_code q.1 = .ok q.2)) = true := by decide +kernel
theorem cm_m_readsDoors : CM m_readsDoors 1 := ⟨by decide +kernel, lw_in (i := 1014) (by decide +kernel) (by decide +kernel), in_m, by decide +kernel⟩
theorem cv_m_readsDoors : CV m_readsDoors 1 8 := ⟨cm_m_readsDoors, lw_in (i := 1013) (by decide +kernel) (by decide +kernel), lw_insel (q := (⟨"DoorRoundsModel", "readsDoors", "(I)Z"⟩, 33)) (i := 27) (by decide +kernel) (by decide +kernel), ⟨_, rfl, rfl⟩, by decide⟩
abbrev m_sees : pY := (⟨"DoorRoundsModel", "sees", "(II)Z"⟩, prog_10_method_22_code, 4, (Option.some Jvm.ClassFile.FieldType.boolean), 1, 21)
def t_m_sees_0 : List (Nat × Instr × Nat) := [(0, .aload_n 0, 1), (1, .iload_n 1, 1), (2, .invokevirtual 116, 3), (5, .iload_n 2, 1), (6, .if_icmp .ne 7, 3), (9, .iconst 1, 1), (10, .goto 4, 3), (13, .iconst 0, 1), (14, .istore_n 3, 1), (15, .aload_n 0, 1), (16, .dup, 1), (17, .getfield 113, 3), (20, .iload_n 3, 1), (21, .ifCond .eq 7, 3), (24, .iconst 1, 1), (25, .goto 4, 3), (28, .iconst 0, 1), (29, .iadd, 1), (30, .putfield 113, 3), (33, .iload_n 3, 1), (34, .ireturn, 1)]
theorem d_m_sees_0 : t_m_sees_0.all (fun q => decide (decode prog_10_method_22_code q.1 = .ok q.2)) = true := by decide +kernel
theorem cm_m_sees : CM m_sees 2 := ⟨by decide +kernel, lw_in (i := 1018) (by decide +kernel) (by decide +kernel), in_m, by decide +kernel⟩
theorem cv_m_sees : CV m_sees 2 8 := ⟨cm_m_sees, lw_in (i := 1017) (by decide +kernel) (by decide +kernel), lw_insel (q := (⟨"DoorRoundsModel", "sees", "(II)Z"⟩, 33)) (i := 28) (by decide +kernel) (by decide +kernel), ⟨_, rfl, rfl⟩, by decide⟩
end
section
abbrev m_readsNumber : pY := (⟨"DoorRoundsModel", "readsNumber", "(III)Z"⟩, prog_10_method_23_code, 5, (Option.some Jvm.ClassFile.FieldType.boolean), 1, 22)
def t_m_readsNumber_0 : List (Nat × Instr × Nat) := [(0, .aload_n 0, 1), (1, .getfield 113, 3), (4, .istore 4, 2), (6, .aload_n 0, 1), (7, .iconst 0, 1), (8, .putfield 119, 3), (11, .aload_n 0, 1), (12, .getfield 113, 3), (15, .iload 4, 2), (17, .isub, 1), (18, .iconst 2, 1), (19, .if_icmp .ge 51, 3), (22, .aload_n 0, 1), (23, .iload_n 1, 1), (24, .invokevirtual 116, 3), (27, .bipush 48, 2), (29, .bipush 57, 2), (31, .invokestatic 78, 3), (34, .ifCond .eq 36, 3), (37, .aload_n 0, 1), (38, .bipush 10, 2), (40, .aload_n 0, 1), (41, .getfield 119, 3), (44, .imul, 1), (45, .aload_n 0, 1), (46, .iload_n 1, 1), (47, .invokevirtual 116, 3), (50, .iadd, 1), (51, .bipush 48, 2), (53, .isub, 1)]
theorem d_m_readsNumber_0 : t_m_readsNumber_0.all (fun q => decide (decode prog_10_method_23_code q.1 = .ok q.2)) = true := by decide +kernel
def t_m_readsNumber_1 : List (Nat × Instr × Nat) := [(54, .putfield 119, 3), (57, .aload_n 0, 1), (58, .dup, 1), (59, .getfield 113, 3), (62, .iconst 1, 1), (63, .iadd, 1), (64, .putfield 113, 3), (67, .goto (-56), 3), (70, .aload_n 0, 1), (71, .getfield 113, 3), (74, .iload 4, 2), (76, .if_icmp .le 19, 3), (79, .aload_n 0, 1), (80, .getfield 119, 3), (83, .iload_n 2, 1), (84, .iload_n 3, 1), (85, .invokestatic 78, 3), (88, .ifCond .eq 7, 3), (91, .iconst 1, 1), (92, .goto 4, 3), (95, .iconst 0, 1), (96, .ireturn, 1)]
theorem d_m_readsNumber_1 : t_m_readsNumber_1.all (fun q => decide (decode prog_10_method_23_code q.1 = .ok q.2)) = true := by decide +kernel
theorem cm_m_readsNumber : CM m_readsNumber 3 := ⟨by decide +kernel, lw_in (i := 1022) (by decide +kernel) (by decide +kernel), in_m, by decide +kernel⟩
theorem cv_m_readsNumber : CV m_readsNumber 3 8 := ⟨cm_m_readsNumber, lw_in (i := 1021) (by decide +kernel) (by decide +kernel), lw_insel (q := (⟨"DoorRoundsModel", "readsNumber", "(III)Z"⟩, 33)) (i := 29) (by decide +kernel) (by decide +kernel), ⟨_, rfl, rfl⟩, by decide⟩
abbrev m_readsShop : pY := (⟨"DoorRoundsModel", "readsShop", "(I)Z"⟩, prog_10_method_27_code, 6, (Option.some Jvm.ClassFile.FieldType.boolean), 2, 46)
def t_m_readsShop_0 : List (Nat × Instr × Nat) := [(0, .aload_n 0, 1), (1, .iload_n 1, 1), (2, .invokevirtual 116, 3), (5, .invokestatic 125, 3), (8, .istore_n 2, 1), (9, .iload_n 2, 1), (10, .bipush (-9), 2), (12, .if_icmp .eq 12, 3), (15, .aload_n 0, 1), (16, .getfield 122, 3), (19, .bipush 7, 2), (21, .if_icmp .ne 5, 3), (24, .iconst 0, 1), (25, .ireturn, 1), (26, .aload_n 0, 1), (27, .dup, 1), (28, .getfield 113, 3), (31, .iconst 1, 1), (32, .iadd, 1), (33, .putfield 113, 3), (36, .aload_n 0, 1), (37, .iload_n 1, 1), (38, .iconst 0, 1), (39, .aload_n 0, 1), (40, .getfield 128, 3), (43, .iconst 1, 1), (44, .isub, 1), (45, .invokevirtual 131, 3), (48, .ifCond .eq 14, 3), (51, .aload_n 0, 1)]
theorem d_m_readsShop_0 : t_m_readsShop_0.all (fun q => decide (decode prog_10_method_27_code q.1 = .ok q.2)) = true := by decide +kernel
def t_m_readsShop_1 : List (Nat × Instr × Nat) := [(52, .aload_n 0, 1), (53, .getfield 119, 3), (56, .invokevirtual 134, 3), (59, .ifCond .eq 5, 3), (62, .iconst 0, 1), (63, .ireturn, 1), (64, .bipush 35, 2), (66, .iconst 5, 1), (67, .aload_n 0, 1), (68, .getfield 122, 3), (71, .imul, 1), (72, .iadd, 1), (73, .istore_n 3, 1), (74, .aload_n 0, 1), (75, .getfield 32, 3), (78, .iload_n 3, 1), (79, .iload_n 2, 1), (80, .iastore, 1), (81, .aload_n 0, 1), (82, .getfield 119, 3), (85, .istore 4, 2), (87, .aload_n 0, 1), (88, .iload_n 1, 1), (89, .bipush 58, 2), (91, .invokevirtual 137, 3), (94, .ifCond .ne 5, 3), (97, .iconst 0, 1), (98, .ireturn, 1), (99, .aload_n 0, 1), (100, .iload_n 1, 1)]
theorem d_m_readsShop_1 : t_m_readsShop_1.all (fun q => decide (decode prog_10_method_27_code q.1 = .ok q.2)) = true := by decide +kernel
def t_m_readsShop_2 : List (Nat × Instr × Nat) := [(101, .invokevirtual 116, 3), (104, .bipush 45, 2), (106, .if_icmp .ne 7, 3), (109, .iconst 1, 1), (110, .goto 4, 3), (113, .iconst 0, 1), (114, .istore 5, 2), (116, .aload_n 0, 1), (117, .iload_n 1, 1), (118, .bipush 43, 2), (120, .invokevirtual 137, 3), (123, .ifCond .ne 15, 3), (126, .aload_n 0, 1), (127, .iload_n 1, 1), (128, .bipush 45, 2), (130, .invokevirtual 137, 3), (133, .ifCond .ne 5, 3), (136, .iconst 0, 1), (137, .ireturn, 1), (138, .aload_n 0, 1), (139, .iload_n 1, 1), (140, .iconst 0, 1), (141, .invokevirtual 141, 3), (144, .ifCond .ne 5, 3), (147, .iconst 0, 1), (148, .ireturn, 1), (149, .aload_n 0, 1), (150, .getfield 32, 3), (153, .iload_n 3, 1), (154, .iconst 2, 1)]
theorem d_m_readsShop_2 : t_m_readsShop_2.all (fun q => decide (decode prog_10_method_27_code q.1 = .ok q.2)) = true := by decide +kernel
def t_m_readsShop_3 : List (Nat × Instr × Nat) := [(155, .iadd, 1), (156, .iload 5, 2), (158, .ifCond .eq 11, 3), (161, .aload_n 0, 1), (162, .getfield 119, 3), (165, .ineg, 1), (166, .goto 7, 3), (169, .aload_n 0, 1), (170, .getfield 119, 3), (173, .iastore, 1), (174, .aload_n 0, 1), (175, .iload_n 1, 1), (176, .bipush 58, 2), (178, .invokevirtual 137, 3), (181, .ifCond .eq 14, 3), (184, .aload_n 0, 1), (185, .iload_n 1, 1), (186, .iconst 1, 1), (187, .bipush 99, 2), (189, .invokevirtual 131, 3), (192, .ifCond .ne 5, 3), (195, .iconst 0, 1), (196, .ireturn, 1), (197, .aload_n 0, 1), (198, .getfield 32, 3), (201, .iload_n 3, 1), (202, .iconst 3, 1), (203, .iadd, 1), (204, .aload_n 0, 1), (205, .getfield 119, 3)]
theorem d_m_readsShop_3 : t_m_readsShop_3.all (fun q => decide (decode prog_10_method_27_code q.1 = .ok q.2)) = true := by decide +kernel
def t_m_readsShop_4 : List (Nat × Instr × Nat) := [(208, .iastore, 1), (209, .aload_n 0, 1), (210, .getfield 32, 3), (213, .iload_n 3, 1), (214, .iconst 4, 1), (215, .iadd, 1), (216, .iconst 0, 1), (217, .iastore, 1), (218, .iload_n 2, 1), (219, .iconst 3, 1), (220, .if_icmp .lt 36, 3), (223, .aload_n 0, 1), (224, .iload_n 1, 1), (225, .bipush 58, 2), (227, .invokevirtual 137, 3), (230, .ifCond .eq 12, 3), (233, .aload_n 0, 1), (234, .iload_n 1, 1), (235, .iconst 2, 1), (236, .invokevirtual 141, 3), (239, .ifCond .ne 5, 3), (242, .iconst 0, 1), (243, .ireturn, 1), (244, .aload_n 0, 1), (245, .getfield 32, 3), (248, .iload_n 3, 1), (249, .iconst 4, 1), (250, .iadd, 1), (251, .aload_n 0, 1), (252, .getfield 119, 3)]
theorem d_m_readsShop_4 : t_m_readsShop_4.all (fun q => decide (decode prog_10_method_27_code q.1 = .ok q.2)) = true := by decide +kernel
def t_m_readsShop_5 : List (Nat × Instr × Nat) := [(255, .iastore, 1), (256, .aload_n 0, 1), (257, .getfield 32, 3), (260, .iload_n 3, 1), (261, .iconst 1, 1), (262, .iadd, 1), (263, .iload 4, 2), (265, .iastore, 1), (266, .aload_n 0, 1), (267, .dup, 1), (268, .getfield 122, 3), (271, .iconst 1, 1), (272, .iadd, 1), (273, .putfield 122, 3), (276, .iconst 1, 1), (277, .ireturn, 1)]
theorem d_m_readsShop_5 : t_m_readsShop_5.all (fun q => decide (decode prog_10_method_27_code q.1 = .ok q.2)) = true := by decide +kernel
theorem cm_m_readsShop : CM m_readsShop 1 := ⟨by decide +kernel, lw_in (i := 1026) (by decide +kernel) (by decide +kernel), in_m, by decide +kernel⟩
theorem cv_m_readsShop : CV m_readsShop 1 8 := ⟨cm_m_readsShop, lw_in (i := 1025) (by decide +kernel) (by decide +kernel), lw_insel (q := (⟨"DoorRoundsModel", "readsShop", "(I)Z"⟩, 33)) (i := 30) (by decide +kernel) (by decide +kernel), ⟨_, rfl, rfl⟩, by decide⟩
abbrev m_kindOf : pY := (⟨"DoorRoundsModel", "kindOf", "(I)I"⟩, prog_10_method_26_code, 1, (Option.some Jvm.ClassFile.FieldType.int), 0, 0)
def t_m_kindOf_0 : List (Nat × Instr × Nat) := [(0, .iload_n 0, 1), (1, .bipush 115, 2), (3, .if_icmp .ne 7, 3), (6, .iconst 0, 1), (7, .goto 55, 3), (10, .iload_n 0, 1), (11, .bipush 102, 2), (13, .if_icmp .ne 7, 3), (16, .iconst 1, 1), (17, .goto 45, 3), (20, .iload_n 0, 1), (21, .bipush 121, 2), (23, .if_icmp .ne 7, 3), (26, .iconst 2, 1), (27, .goto 35, 3), (30, .iload_n 0, 1), (31, .bipush 110, 2), (33, .if_icmp .ne 7, 3), (36, .iconst 3, 1), (37, .goto 25, 3), (40, .iload_n 0, 1), (41, .bipush 111, 2), (43, .if_icmp .ne 7, 3), (46, .iconst 4, 1), (47, .goto 15, 3), (50, .iload_n 0, 1), (51, .bipush 112, 2), (53, .if_icmp .ne 7, 3), (56, .iconst 5, 1), (57, .goto 5, 3)]
theorem d_m_kindOf_0 : t_m_kindOf_0.all (fun q => decide (decode prog_10_method_26_code q.1 = .ok q.2)) = true := by decide +kernel
def t_m_kindOf_1 : List (Nat × Instr × Nat) := [(60, .bipush (-9), 2), (62, .ireturn, 1)]
theorem d_m_kindOf_1 : t_m_kindOf_1.all (fun q => decide (decode prog_10_method_26_code q.1 = .ok q.2)) = true := by decide +kernel
theorem cm_m_kindOf : CM m_kindOf 1 := ⟨by decide +kernel, lw_in (i := 1029) (by decide +kernel) (by decide +kernel), in_m, by decide +kernel⟩
theorem cs_m_kindOf : CS m_kindOf 1 := ⟨cm_m_kindOf, lw_in (i := 1028) (by decide +kernel) (by decide +kernel)⟩
abbrev m_isTold : pY := (⟨"DoorRoundsModel", "isTold", "(I)Z"⟩, prog_10_method_25_code, 4, (Option.some Jvm.ClassFile.FieldType.boolean), 0, 0)
def t_m_isTold_0 : List (Nat × Instr × Nat) := [(0, .iconst 0, 1), (1, .istore_n 2, 1), (2, .iconst 0, 1), (3, .istore_n 3, 1), (4, .iload_n 3, 1), (5, .aload_n 0, 1), (6, .getfield 122, 3), (9, .if_icmp .ge 34, 3), (12, .iload_n 2, 1), (13, .aload_n 0, 1), (14, .getfield 32, 3), (17, .bipush 35, 2), (19, .iconst 5, 1), (20, .iload_n 3, 1), (21, .imul, 1), (22, .iadd, 1), (23, .iconst 1, 1), (24, .iadd, 1), (25, .iaload, 1), (26, .iload_n 1, 1), (27, .if_icmp .ne 7, 3), (30, .iconst 1, 1), (31, .goto 4, 3), (34, .iconst 0, 1), (35, .ior, 1), (36, .istore_n 2, 1), (37, .iinc 3 1, 3), (40, .goto (-36), 3), (43, .iload_n 2, 1), (44, .ireturn, 1)]
theorem d_m_isTold_0 : t_m_isTold_0.all (fun q => decide (decode prog_10_method_25_code q.1 = .ok q.2)) = true := by decide +kernel
theorem cm_m_isTold : CM m_isTold 1 := ⟨by decide +kernel, lw_in (i := 1033) (by decide +kernel) (by decide +kernel), in_m, by decide +kernel⟩
theorem cv_m_isTold : CV m_isTold 1 8 := ⟨cm_m_isTold, lw_in (i := 1032) (by decide +kernel) (by decide +kernel), lw_insel (q := (⟨"DoorRoundsModel", "isTold", "(I)Z"⟩, 33)) (i := 31) (by decide +kernel) (by decide +kernel), ⟨_, rfl, rfl⟩, by decide⟩
abbrev m_readsFigure : pY := (⟨"DoorRoundsModel", "readsFigure", "(II)Z"⟩, prog_10_method_24_code, 4, (Option.some Jvm.ClassFile.FieldType.boolean), 1, 22)
def t_m_readsFigure_0 : List (Nat × Instr × Nat) := [(0, .aload_n 0, 1), (1, .aload_n 0, 1), (2, .iload_n 1, 1), (3, .invokevirtual 116, 3), (6, .bipush 48, 2), (8, .isub, 1), (9, .putfield 119, 3), (12, .aload_n 0, 1), (13, .getfield 119, 3), (16, .iload_n 2, 1), (17, .bipush 9, 2), (19, .invokestatic 78, 3), (22, .istore_n 3, 1), (23, .aload_n 0, 1), (24, .dup, 1), (25, .getfield 113, 3), (28, .iload_n 3, 1), (29, .ifCond .eq 7, 3), (32, .iconst 1, 1), (33, .goto 4, 3), (36, .iconst 0, 1), (37, .iadd, 1), (38, .putfield 113, 3), (41, .iload_n 3, 1), (42, .ireturn, 1)]
theorem d_m_readsFigure_0 : t_m_readsFigure_0.all (fun q => decide (decode prog_10_method_24_code q.1 = .ok q.2)) = true := by decide +kernel
theorem cm_m_readsFigure : CM m_readsFigure 2 := ⟨by decide +kernel, lw_in (i := 1037) (by decide +kernel) (by decide +kernel), in_m, by decide +kernel⟩
theorem cv_m_readsFigure : CV m_readsFigure 2 8 := ⟨cm_m_readsFigure, lw_in (i := 1036) (by decide +kernel) (by decide +kernel), lw_insel (q := (⟨"DoorRoundsModel", "readsFigure", "(II)Z"⟩, 33)) (i := 32) (by decide +kernel) (by decide +kernel), ⟨_, rfl, rfl⟩, by decide⟩
abbrev m_square : pY := (⟨"DoorRoundsModel", "square", "(I)I"⟩, prog_10_method_31_code, 4, (Option.some Jvm.ClassFile.FieldType.int), 4, 92)
def t_m_square_0 : List (Nat × Instr × Nat) := [(0, .aload_n 0, 1), (1, .iload_n 1, 1), (2, .invokevirtual 110, 3), (5, .istore_n 2, 1), (6, .iload_n 2, 1), (7, .ifCond .ge 5, 3), (10, .iload_n 2, 1), (11, .ireturn, 1), (12, .aload_n 0, 1), (13, .iload_n 1, 1), (14, .invokevirtual 150, 3), (17, .bipush (-9), 2), (19, .if_icmp .eq 6, 3), (22, .bipush (-4), 2), (24, .ireturn, 1), (25, .aload_n 0, 1), (26, .aload_n 0, 1), (27, .getfield 128, 3), (30, .putfield 153, 3), (33, .aload_n 0, 1), (34, .aload_n 0, 1), (35, .getfield 122, 3), (38, .putfield 156, 3), (41, .iconst 0, 1), (42, .istore_n 3, 1), (43, .iload_n 3, 1), (44, .bipush 35, 2), (46, .if_icmp .ge 24, 3), (49, .aload_n 0, 1), (50, .getfield 32, 3)]
theorem d_m_square_0 : t_m_square_0.all (fun q => decide (decode prog_10_method_31_code q.1 = .ok q.2)) = true := by decide +kernel
def t_m_square_1 : List (Nat × Instr × Nat) := [(53, .iload_n 3, 1), (54, .aload_n 0, 1), (55, .getfield 32, 3), (58, .bipush 35, 2), (60, .iload_n 3, 1), (61, .iadd, 1), (62, .iaload, 1), (63, .iastore, 1), (64, .iinc 3 1, 3), (67, .goto (-24), 3), (70, .iconst 0, 1), (71, .istore_n 3, 1), (72, .iload_n 3, 1), (73, .aload_n 0, 1), (74, .getfield 156, 3), (77, .if_icmp .ge 21, 3), (80, .aload_n 0, 1), (81, .getfield 35, 3), (84, .iload_n 3, 1), (85, .aload_n 0, 1), (86, .iload_n 3, 1), (87, .iconst 1, 1), (88, .invokevirtual 159, 3), (91, .iastore, 1), (92, .iinc 3 1, 3), (95, .goto (-23), 3), (98, .aload_n 0, 1), (99, .iconst 0, 1), (100, .putfield 162, 3), (103, .aload_n 0, 1)]
theorem d_m_square_1 : t_m_square_1.all (fun q => decide (decode prog_10_method_31_code q.1 = .ok q.2)) = true := by decide +kernel
def t_m_square_2 : List (Nat × Instr × Nat) := [(104, .iconst 0, 1), (105, .putfield 165, 3), (108, .aload_n 0, 1), (109, .iconst 0, 1), (110, .putfield 168, 3), (113, .iconst 0, 1), (114, .istore_n 3, 1), (115, .iload_n 3, 1), (116, .iconst 3, 1), (117, .if_icmp .ge 20, 3), (120, .aload_n 0, 1), (121, .getfield 44, 3), (124, .bipush 10, 2), (126, .iload_n 3, 1), (127, .imul, 1), (128, .bipush (-9), 2), (130, .iastore, 1), (131, .iinc 3 1, 3), (134, .goto (-19), 3), (137, .aload_n 0, 1), (138, .getfield 156, 3), (141, .ireturn, 1)]
theorem d_m_square_2 : t_m_square_2.all (fun q => decide (decode prog_10_method_31_code q.1 = .ok q.2)) = true := by decide +kernel
theorem cm_m_square : CM m_square 1 := ⟨by decide +kernel, lw_in (i := 1041) (by decide +kernel) (by decide +kernel), in_m, by decide +kernel⟩
theorem cv_m_square : CV m_square 1 8 := ⟨cm_m_square, lw_in (i := 1039) (by decide +kernel) (by decide +kernel), lw_in (i := 1040) (by decide +kernel) (by decide +kernel), ⟨_, rfl, rfl⟩, by decide⟩
abbrev m_tell : pY := (⟨"DoorRoundsModel", "tell", "(II)I"⟩, prog_10_method_35_code, 3, (Option.some Jvm.ClassFile.FieldType.int), 0, 0)
def t_m_tell_0 : List (Nat × Instr × Nat) := [(0, .aload_n 0, 1), (1, .getfield 32, 3), (4, .iconst 5, 1), (5, .iload_n 1, 1), (6, .imul, 1), (7, .iload_n 2, 1), (8, .iadd, 1), (9, .iaload, 1), (10, .ireturn, 1)]
theorem d_m_tell_0 : t_m_tell_0.all (fun q => decide (decode prog_10_method_35_code q.1 = .ok q.2)) = true := by decide +kernel
theorem cm_m_tell : CM m_tell 2 := ⟨by decide +kernel, lw_in (i := 1045) (by decide +kernel) (by decide +kernel), in_m, by decide +kernel⟩
theorem cv_m_tell : CV m_tell 2 8 := ⟨cm_m_tell, lw_in (i := 1044) (by decide +kernel) (by decide +kernel), lw_insel (q := (⟨"DoorRoundsModel", "tell", "(II)I"⟩, 33)) (i := 33) (by decide +kernel) (by decide +kernel), ⟨_, rfl, rfl⟩, by decide⟩
abbrev m_about : pY := (⟨"DoorRoundsModel", "about", "(II)I"⟩, prog_10_method_37_code, 3, (Option.some Jvm.ClassFile.FieldType.int), 2, 44)
def t_m_about_0 : List (Nat × Instr × Nat) := [(0, .aload_n 0, 1), (1, .iload_n 1, 1), (2, .invokevirtual 171, 3), (5, .ifCond .eq 26, 3), (8, .iload_n 2, 1), (9, .iconst 0, 1), (10, .iconst 5, 1), (11, .invokestatic 78, 3), (14, .ifCond .eq 17, 3), (17, .aload_n 0, 1), (18, .aload_n 0, 1), (19, .iload_n 1, 1), (20, .iload_n 2, 1), (21, .invokevirtual 174, 3), (24, .iconst 1, 1), (25, .invokevirtual 104, 3), (28, .goto 4, 3), (31, .iconst (-1), 1), (32, .ireturn, 1)]
theorem d_m_about_0 : t_m_about_0.all (fun q => decide (decode prog_10_method_37_code q.1 = .ok q.2)) = true := by decide +kernel
theorem cm_m_about : CM m_about 2 := ⟨by decide +kernel, lw_in (i := 1049) (by decide +kernel) (by decide +kernel), in_m, by decide +kernel⟩
theorem cv_m_about : CV m_about 2 8 := ⟨cm_m_about, lw_in (i := 1047) (by decide +kernel) (by decide +kernel), lw_in (i := 1048) (by decide +kernel) (by decide +kernel), ⟨_, rfl, rfl⟩, by decide⟩
abbrev m_isShop : pY := (⟨"DoorRoundsModel", "isShop", "(I)Z"⟩, prog_10_method_32_code, 2, (Option.some Jvm.ClassFile.FieldType.boolean), 1, 22)
def t_m_isShop_0 : List (Nat × Instr × Nat) := [(0, .iload_n 1, 1), (1, .iconst 0, 1), (2, .aload_n 0, 1), (3, .getfield 156, 3), (6, .iconst 1, 1), (7, .isub, 1), (8, .invokestatic 78, 3), (11, .ireturn, 1)]
theorem d_m_isShop_0 : t_m_isShop_0.all (fun q => decide (decode prog_10_method_32_code q.1 = .ok q.2)) = true := by decide +kernel
theorem cm_m_isShop : CM m_isShop 1 := ⟨by decide +kernel, lw_in (i := 1053) (by decide +kernel) (by decide +kernel), in_m, by decide +kernel⟩
theorem cv_m_isShop : CV m_isShop 1 8 := ⟨cm_m_isShop, lw_in (i := 1052) (by decide +kernel) (by decide +kernel), lw_insel (q := (⟨"DoorRoundsModel", "isShop", "(I)Z"⟩, 33)) (i := 34) (by decide +kernel) (by decide +kernel), ⟨_, rfl, rfl⟩, by decide⟩
abbrev m_aboutOf : pY := (⟨"DoorRoundsModel", "aboutOf", "(II)I"⟩, prog_10_method_36_code, 3, (Option.some Jvm.ClassFile.FieldType.int), 1, 22)
def t_m_aboutOf_0 : List (Nat × Instr × Nat) := [(0, .iload_n 2, 1), (1, .ifCond .ne 12, 3), (4, .aload_n 0, 1), (5, .iload_n 1, 1), (6, .iconst 0, 1), (7, .invokevirtual 159, 3), (10, .goto 37, 3), (13, .iload_n 2, 1), (14, .iconst 1, 1), (15, .if_icmp .ne 12, 3), (18, .aload_n 0, 1), (19, .getfield 35, 3), (22, .iload_n 1, 1), (23, .iaload, 1), (24, .goto 23, 3), (27, .iload_n 2, 1), (28, .iconst 5, 1), (29, .if_icmp .ne 12, 3), (32, .aload_n 0, 1), (33, .iload_n 1, 1), (34, .iconst 1, 1), (35, .invokevirtual 159, 3), (38, .goto 9, 3), (41, .aload_n 0, 1), (42, .iload_n 1, 1), (43, .iload_n 2, 1), (44, .invokevirtual 159, 3), (47, .ireturn, 1)]
theorem d_m_aboutOf_0 : t_m_aboutOf_0.all (fun q => decide (decode prog_10_method_36_code q.1 = .ok q.2)) = true := by decide +kernel
theorem cm_m_aboutOf : CM m_aboutOf 2 := ⟨by decide +kernel, lw_in (i := 1057) (by decide +kernel) (by decide +kernel), in_m, by decide +kernel⟩
theorem cv_m_aboutOf : CV m_aboutOf 2 8 := ⟨cm_m_aboutOf, lw_in (i := 1056) (by decide +kernel) (by decide +kernel), lw_insel (q := (⟨"DoorRoundsModel", "aboutOf", "(II)I"⟩, 33)) (i := 35) (by decide +kernel) (by decide +kernel), ⟨_, rfl, rfl⟩, by decide⟩
abbrev m_mark : pY := (⟨"DoorRoundsModel", "mark", "(II)I"⟩, prog_10_method_43_code, 7, (Option.some Jvm.ClassFile.FieldType.int), 2, 46)
def t_m_mark_0 : List (Nat × Instr × Nat) := [(0, .aload_n 0, 1), (1, .iload_n 1, 1), (2, .invokevirtual 171, 3), (5, .ifCond .eq 12, 3), (8, .iload_n 2, 1), (9, .iconst 1, 1), (10, .iconst 5, 1), (11, .invokestatic 78, 3), (14, .ifCond .ne 5, 3), (17, .iconst (-1), 1), (18, .ireturn, 1), (19, .aload_n 0, 1), (20, .iload_n 1, 1), (21, .iconst 0, 1), (22, .invokevirtual 159, 3), (25, .iload_n 2, 1), (26, .if_icmp .eq 22, 3), (29, .iload_n 2, 1), (30, .iconst 3, 1), (31, .if_icmp .ne 11, 3), (34, .aload_n 0, 1), (35, .iload_n 1, 1), (36, .invokevirtual 185, 3), (39, .ifCond .ne 9, 3), (42, .aload_n 0, 1), (43, .iconst 3, 1), (44, .invokevirtual 86, 3), (47, .ireturn, 1), (48, .aload_n 0, 1), (49, .iload_n 1, 1)]
theorem d_m_mark_0 : t_m_mark_0.all (fun q => decide (decode prog_10_method_43_code q.1 = .ok q.2)) = true := by decide +kernel
def t_m_mark_1 : List (Nat × Instr × Nat) := [(50, .iconst 4, 1), (51, .invokevirtual 159, 3), (54, .istore_n 3, 1), (55, .iconst 0, 1), (56, .istore 4, 2), (58, .iconst 0, 1), (59, .istore 5, 2), (61, .iload 5, 2), (63, .aload_n 0, 1), (64, .getfield 156, 3), (67, .if_icmp .ge 109, 3), (70, .iload_n 2, 1), (71, .iconst 1, 1), (72, .if_icmp .ne 23, 3), (75, .aload_n 0, 1), (76, .aload_n 0, 1), (77, .getfield 35, 3), (80, .iload_n 1, 1), (81, .iaload, 1), (82, .aload_n 0, 1), (83, .getfield 35, 3), (86, .iload 5, 2), (88, .iaload, 1), (89, .invokevirtual 188, 3), (92, .goto 55, 3), (95, .aload_n 0, 1), (96, .aload_n 0, 1), (97, .getfield 35, 3), (100, .iload_n 1, 1), (101, .iaload, 1)]
theorem d_m_mark_1 : t_m_mark_1.all (fun q => decide (decode prog_10_method_43_code q.1 = .ok q.2)) = true := by decide +kernel
def t_m_mark_2 : List (Nat × Instr × Nat) := [(102, .aload_n 0, 1), (103, .iload_n 1, 1), (104, .aload_n 0, 1), (105, .getfield 162, 3), (108, .invokevirtual 191, 3), (111, .iadd, 1), (112, .i2l, 1), (113, .invokevirtual 181, 3), (116, .aload_n 0, 1), (117, .aload_n 0, 1), (118, .getfield 35, 3), (121, .iload 5, 2), (123, .iaload, 1), (124, .aload_n 0, 1), (125, .iload 5, 2), (127, .aload_n 0, 1), (128, .getfield 162, 3), (131, .invokevirtual 191, 3), (134, .iadd, 1), (135, .i2l, 1), (136, .invokevirtual 181, 3), (139, .if_icmp .ne 7, 3), (142, .iconst 1, 1), (143, .goto 4, 3), (146, .iconst 0, 1), (147, .istore 6, 2), (149, .iload 4, 2), (151, .iload 5, 2), (153, .iload_n 1, 1), (154, .if_icmp .eq 12, 3)]
theorem d_m_mark_2 : t_m_mark_2.all (fun q => decide (decode prog_10_method_43_code q.1 = .ok q.2)) = true := by decide +kernel
def t_m_mark_3 : List (Nat × Instr × Nat) := [(157, .iload 6, 2), (159, .ifCond .eq 7, 3), (162, .iconst 1, 1), (163, .goto 4, 3), (166, .iconst 0, 1), (167, .iadd, 1), (168, .istore 4, 2), (170, .iinc 5 1, 3), (173, .goto (-112), 3), (176, .iload_n 2, 1), (177, .tableswitch 62 3 5 #[27, 38, 47], 27), (204, .iload_n 3, 1), (205, .iconst 1, 1), (206, .isub, 1), (207, .aload_n 0, 1), (208, .getfield 162, 3), (211, .iload_n 3, 1), (212, .irem, 1), (213, .isub, 1), (214, .ireturn, 1), (215, .iload_n 3, 1), (216, .aload_n 0, 1), (217, .getfield 162, 3), (220, .iload_n 3, 1), (221, .irem, 1), (222, .isub, 1), (223, .ireturn, 1), (224, .aload_n 0, 1), (225, .iload_n 1, 1), (226, .iconst 2, 1)]
theorem d_m_mark_3 : t_m_mark_3.all (fun q => decide (decode prog_10_method_43_code q.1 = .ok q.2)) = true := by decide +kernel
def t_m_mark_4 : List (Nat × Instr × Nat) := [(227, .invokevirtual 159, 3), (230, .iload_n 3, 1), (231, .iconst 2, 1), (232, .isub, 1), (233, .imul, 1), (234, .sipush 1000, 3), (237, .iadd, 1), (238, .ireturn, 1), (239, .iload 4, 2), (241, .ireturn, 1)]
theorem d_m_mark_4 : t_m_mark_4.all (fun q => decide (decode prog_10_method_43_code q.1 = .ok q.2)) = true := by decide +kernel
theorem cm_m_mark : CM m_mark 2 := ⟨by decide +kernel, lw_in (i := 1061) (by decide +kernel) (by decide +kernel), in_m, by decide +kernel⟩
theorem cv_m_mark : CV m_mark 2 8 := ⟨cm_m_mark, lw_in (i := 1059) (by decide +kernel) (by decide +kernel), lw_in (i := 1060) (by decide +kernel) (by decide +kernel), ⟨_, rfl, rfl⟩, by decide⟩
abbrev m_isSleeper : pY := (⟨"DoorRoundsModel", "isSleeper", "(I)Z"⟩, prog_10_method_42_code, 2, (Option.some Jvm.ClassFile.FieldType.boolean), 1, 22)
def t_m_isSleeper_0 : List (Nat × Instr × Nat) := [(0, .aload_n 0, 1), (1, .iload_n 1, 1), (2, .iconst 0, 1), (3, .invokevirtual 159, 3), (6, .iconst 3, 1), (7, .if_icmp .eq 13, 3), (10, .aload_n 0, 1), (11, .iload_n 1, 1), (12, .iconst 0, 1), (13, .invokevirtual 159, 3), (16, .iconst 5, 1), (17, .if_icmp .ne 7, 3), (20, .iconst 1, 1), (21, .goto 4, 3), (24, .iconst 0, 1), (25, .ireturn, 1)]
theorem d_m_isSleeper_0 : t_m_isSleeper_0.all (fun q => decide (decode prog_10_method_42_code q.1 = .ok q.2)) = true := by decide +kernel
theorem cm_m_isSleeper : CM m_isSleeper 1 := ⟨by decide +kernel, lw_in (i := 1065) (by decide +kernel) (by decide +kernel), in_m, by decide +kernel⟩
theorem cv_m_isSleeper : CV m_isSleeper 1 8 := ⟨cm_m_isSleeper, lw_in (i := 1064) (by decide +kernel) (by decide +kernel), lw_insel (q := (⟨"DoorRoundsModel", "isSleeper", "(I)Z"⟩, 33)) (i := 36) (by decide +kernel) (by decide +kernel), ⟨_, rfl, rfl⟩, by decide⟩
abbrev m_areBeside : pY := (⟨"DoorRoundsModel", "areBeside", "(II)Z"⟩, prog_10_method_41_code, 3, (Option.some Jvm.ClassFile.FieldType.boolean), 1, 24)
def t_m_areBeside_0 : List (Nat × Instr × Nat) := [(0, .aload_n 0, 1), (1, .iload_n 1, 1), (2, .i2l, 1), (3, .lconst 1, 1), (4, .ladd, 1), (5, .invokevirtual 181, 3), (8, .iload_n 2, 1), (9, .if_icmp .eq 15, 3), (12, .aload_n 0, 1), (13, .iload_n 2, 1), (14, .i2l, 1), (15, .lconst 1, 1), (16, .ladd, 1), (17, .invokevirtual 181, 3), (20, .iload_n 1, 1), (21, .if_icmp .ne 7, 3), (24, .iconst 1, 1), (25, .goto 4, 3), (28, .iconst 0, 1), (29, .ireturn, 1)]
theorem d_m_areBeside_0 : t_m_areBeside_0.all (fun q => decide (decode prog_10_method_41_code q.1 = .ok q.2)) = true := by decide +kernel
theorem cm_m_areBeside : CM m_areBeside 2 := ⟨by decide +kernel, lw_in (i := 1069) (by decide +kernel) (by decide +kernel), in_m, by decide +kernel⟩
theorem cv_m_areBeside : CV m_areBeside 2 8 := ⟨cm_m_areBeside, lw_in (i := 1068) (by decide +kernel) (by decide +kernel), lw_insel (q := (⟨"DoorRoundsModel", "areBeside", "(II)Z"⟩, 33)) (i := 37) (by decide +kernel) (by decide +kernel), ⟨_, rfl, rfl⟩, by decide⟩
abbrev m_doorAt : pY := (⟨"DoorRoundsModel", "doorAt", "(J)I"⟩, prog_10_method_40_code, 5, (Option.some Jvm.ClassFile.FieldType.int), 0, 0)
def t_m_doorAt_0 : List (Nat × Instr × Nat) := [(0, .lload_n 1, 1), (1, .aload_n 0, 1), (2, .getfield 153, 3), (5, .i2l, 1), (6, .lrem, 1), (7, .lstore_n 3, 1), (8, .lload_n 3, 1), (9, .lconst 0, 1), (10, .lcmp, 1), (11, .ifCond .ge 13, 3), (14, .lload_n 3, 1), (15, .aload_n 0, 1), (16, .getfield 153, 3), (19, .i2l, 1), (20, .ladd, 1), (21, .goto 4, 3), (24, .lload_n 3, 1), (25, .l2i, 1), (26, .ireturn, 1)]
theorem d_m_doorAt_0 : t_m_doorAt_0.all (fun q => decide (decode prog_10_method_40_code q.1 = .ok q.2)) = true := by decide +kernel
theorem cm_m_doorAt : CM m_doorAt 1 := ⟨by decide +kernel, lw_in (i := 1073) (by decide +kernel) (by decide +kernel), in_m, by decide +kernel⟩
theorem cv_m_doorAt : CV m_doorAt 1 8 := ⟨cm_m_doorAt, lw_in (i := 1072) (by decide +kernel) (by decide +kernel), lw_insel (q := (⟨"DoorRoundsModel", "doorAt", "(J)I"⟩, 33)) (i := 38) (by decide +kernel) (by decide +kernel), ⟨_, rfl, rfl⟩, by decide⟩
abbrev m_going : pY := (⟨"DoorRoundsModel", "going", "(II)I"⟩, prog_10_method_39_code, 3, (Option.some Jvm.ClassFile.FieldType.int), 1, 24)
def t_m_going_0 : List (Nat × Instr × Nat) := [(0, .aload_n 0, 1), (1, .iload_n 1, 1), (2, .iconst 0, 1), (3, .invokevirtual 159, 3), (6, .aload_n 0, 1), (7, .iload_n 1, 1), (8, .iconst 2, 1), (9, .invokevirtual 159, 3), (12, .aload_n 0, 1), (13, .iload_n 1, 1), (14, .iconst 4, 1), (15, .invokevirtual 159, 3), (18, .iload_n 2, 1), (19, .invokestatic 177, 3), (22, .ireturn, 1)]
theorem d_m_going_0 : t_m_going_0.all (fun q => decide (decode prog_10_method_39_code q.1 = .ok q.2)) = true := by decide +kernel
theorem cm_m_going : CM m_going 2 := ⟨by decide +kernel, lw_in (i := 1077) (by decide +kernel) (by decide +kernel), in_m, by decide +kernel⟩
theorem cv_m_going : CV m_going 2 8 := ⟨cm_m_going, lw_in (i := 1076) (by decide +kernel) (by decide +kernel), lw_insel (q := (⟨"DoorRoundsModel", "going", "(II)I"⟩, 33)) (i := 39) (by decide +kernel) (by decide +kernel), ⟨_, rfl, rfl⟩, by decide⟩
abbrev m_goingBy : pY := (⟨"DoorRoundsModel", "goingBy", "(IIII)I"⟩, prog_10_method_38_code, 5, (Option.some Jvm.ClassFile.FieldType.int), 0, 0)
def t_m_goingBy_0 : List (Nat × Instr × Nat) := [(0, .iload_n 0, 1), (1, .iconst 1, 1), (2, .if_icmp .ne 5, 3), (5, .iconst 0, 1), (6, .ireturn, 1), (7, .iload_n 0, 1), (8, .iconst 4, 1), (9, .if_icmp .ne 18, 3), (12, .iload_n 3, 1), (13, .iload_n 2, 1), (14, .idiv, 1), (15, .iconst 2, 1), (16, .irem, 1), (17, .ifCond .ne 7, 3), (20, .iload_n 1, 1), (21, .goto 5, 3), (24, .iload_n 1, 1), (25, .ineg, 1), (26, .ireturn, 1), (27, .iload_n 0, 1), (28, .iconst 3, 1), (29, .if_icmp .lt 16, 3), (32, .iload_n 3, 1), (33, .iload_n 2, 1), (34, .irem, 1), (35, .iload_n 2, 1), (36, .iconst 1, 1), (37, .isub, 1), (38, .if_icmp .ne 7, 3), (41, .iconst 1, 1)]
theorem d_m_goingBy_0 : t_m_goingBy_0.all (fun q => decide (decode prog_10_method_38_code q.1 = .ok q.2)) = true := by decide +kernel
def t_m_goingBy_1 : List (Nat × Instr × Nat) := [(42, .goto 4, 3), (45, .iconst 0, 1), (46, .istore 4, 2), (48, .iload 4, 2), (50, .ifCond .ne 7, 3), (53, .iload_n 1, 1), (54, .goto 14, 3), (57, .iload_n 0, 1), (58, .iconst 3, 1), (59, .if_icmp .ne 7, 3), (62, .iconst 0, 1), (63, .goto 5, 3), (66, .iload_n 1, 1), (67, .ineg, 1), (68, .ireturn, 1)]
theorem d_m_goingBy_1 : t_m_goingBy_1.all (fun q => decide (decode prog_10_method_38_code q.1 = .ok q.2)) = true := by decide +kernel
theorem cm_m_goingBy : CM m_goingBy 4 := ⟨by decide +kernel, lw_in (i := 1080) (by decide +kernel) (by decide +kernel), in_m, by decide +kernel⟩
theorem cs_m_goingBy : CS m_goingBy 4 := ⟨cm_m_goingBy, lw_in (i := 1079) (by decide +kernel) (by decide +kernel)⟩
abbrev m_shut : pY := (⟨"DoorRoundsModel", "shut", "(I)I"⟩, prog_10_method_45_code, 2, (Option.some Jvm.ClassFile.FieldType.int), 2, 43)
def t_m_shut_0 : List (Nat × Instr × Nat) := [(0, .aload_n 0, 1), (1, .iload_n 1, 1), (2, .invokevirtual 194, 3), (5, .ifCond .ne 5, 3), (8, .iconst (-1), 1), (9, .ireturn, 1), (10, .aload_n 0, 1), (11, .getfield 165, 3), (14, .iload_n 1, 1), (15, .ishr, 1), (16, .iconst 1, 1), (17, .iand, 1), (18, .iconst 1, 1), (19, .if_icmp .ne 6, 3), (22, .bipush (-4), 2), (24, .ireturn, 1), (25, .aload_n 0, 1), (26, .invokevirtual 197, 3), (29, .iconst 3, 1), (30, .if_icmp .ne 6, 3), (33, .bipush (-2), 2), (35, .ireturn, 1), (36, .aload_n 0, 1), (37, .dup, 1), (38, .getfield 165, 3), (41, .iconst 1, 1), (42, .iload_n 1, 1), (43, .ishl, 1), (44, .ior, 1), (45, .putfield 165, 3)]
theorem d_m_shut_0 : t_m_shut_0.all (fun q => decide (decode prog_10_method_45_code q.1 = .ok q.2)) = true := by decide +kernel
def t_m_shut_1 : List (Nat × Instr × Nat) := [(48, .aload_n 0, 1), (49, .invokevirtual 197, 3), (52, .ireturn, 1)]
theorem d_m_shut_1 : t_m_shut_1.all (fun q => decide (decode prog_10_method_45_code q.1 = .ok q.2)) = true := by decide +kernel
theorem cm_m_shut : CM m_shut 1 := ⟨by decide +kernel, lw_in (i := 1084) (by decide +kernel) (by decide +kernel), in_m, by decide +kernel⟩
theorem cv_m_shut : CV m_shut 1 8 := ⟨cm_m_shut, lw_in (i := 1082) (by decide +kernel) (by decide +kernel), lw_in (i := 1083) (by decide +kernel) (by decide +kernel), ⟨_, rfl, rfl⟩, by decide⟩
abbrev m_isDoor : pY := (⟨"DoorRoundsModel", "isDoor", "(I)Z"⟩, prog_10_method_33_code, 2, (Option.some Jvm.ClassFile.FieldType.boolean), 1, 22)
def t_m_isDoor_0 : List (Nat × Instr × Nat) := [(0, .iload_n 1, 1), (1, .iconst 0, 1), (2, .aload_n 0, 1), (3, .getfield 153, 3), (6, .iconst 1, 1), (7, .isub, 1), (8, .invokestatic 78, 3), (11, .ireturn, 1)]
theorem d_m_isDoor_0 : t_m_isDoor_0.all (fun q => decide (decode prog_10_method_33_code q.1 = .ok q.2)) = true := by decide +kernel
theorem cm_m_isDoor : CM m_isDoor 1 := ⟨by decide +kernel, lw_in (i := 1088) (by decide +kernel) (by decide +kernel), in_m, by decide +kernel⟩
theorem cv_m_isDoor : CV m_isDoor 1 8 := ⟨cm_m_isDoor, lw_in (i := 1087) (by decide +kernel) (by decide +kernel), lw_insel (q := (⟨"DoorRoundsModel", "isDoor", "(I)Z"⟩, 33)) (i := 40) (by decide +kernel) (by decide +kernel), ⟨_, rfl, rfl⟩, by decide⟩
abbrev m_shutMany : pY := (⟨"DoorRoundsModel", "shutMany", "()I"⟩, prog_10_method_44_code, 3, (Option.some Jvm.ClassFile.FieldType.int), 0, 0)
def t_m_shutMany_0 : List (Nat × Instr × Nat) := [(0, .iconst 0, 1), (1, .istore_n 1, 1), (2, .iconst 0, 1), (3, .istore_n 2, 1), (4, .iload_n 2, 1), (5, .aload_n 0, 1), (6, .getfield 153, 3), (9, .if_icmp .ge 20, 3), (12, .iload_n 1, 1), (13, .aload_n 0, 1), (14, .getfield 165, 3), (17, .iload_n 2, 1), (18, .ishr, 1), (19, .iconst 1, 1), (20, .iand, 1), (21, .iadd, 1), (22, .istore_n 1, 1), (23, .iinc 2 1, 3), (26, .goto (-22), 3), (29, .iload_n 1, 1), (30, .ireturn, 1)]
theorem d_m_shutMany_0 : t_m_shutMany_0.all (fun q => decide (decode prog_10_method_44_code q.1 = .ok q.2)) = true := by decide +kernel
theorem cm_m_shutMany : CM m_shutMany 0 := ⟨by decide +kernel, lw_in (i := 1092) (by decide +kernel) (by decide +kernel), in_m, by decide +kernel⟩
theorem cv_m_shutMany : CV m_shutMany 0 8 := ⟨cm_m_shutMany, lw_in (i := 1091) (by decide +kernel) (by decide +kernel), lw_insel (q := (⟨"DoorRoundsModel", "shutMany", "()I"⟩, 33)) (i := 41) (by decide +kernel) (by decide +kernel), ⟨_, rfl, rfl⟩, by decide⟩
abbrev m_open : pY := (⟨"DoorRoundsModel", "open", "(I)I"⟩, prog_10_method_46_code, 2, (Option.some Jvm.ClassFile.FieldType.int), 2, 43)
def t_m_open_0 : List (Nat × Instr × Nat) := [(0, .aload_n 0, 1), (1, .iload_n 1, 1), (2, .invokevirtual 194, 3), (5, .ifCond .ne 5, 3), (8, .iconst (-1), 1), (9, .ireturn, 1), (10, .aload_n 0, 1), (11, .getfield 165, 3), (14, .iload_n 1, 1), (15, .ishr, 1), (16, .iconst 1, 1), (17, .iand, 1), (18, .ifCond .ne 6, 3), (21, .bipush (-4), 2), (23, .ireturn, 1), (24, .aload_n 0, 1), (25, .dup, 1), (26, .getfield 165, 3), (29, .iconst 1, 1), (30, .iload_n 1, 1), (31, .ishl, 1), (32, .iconst (-1), 1), (33, .ixor, 1), (34, .iand, 1), (35, .putfield 165, 3), (38, .aload_n 0, 1), (39, .invokevirtual 197, 3), (42, .ireturn, 1)]
theorem d_m_open_0 : t_m_open_0.all (fun q => decide (decode prog_10_method_46_code q.1 = .ok q.2)) = true := by decide +kernel
theorem cm_m_open : CM m_open 1 := ⟨by decide +kernel, lw_in (i := 1096) (by decide +kernel) (by decide +kernel), in_m, by decide +kernel⟩
theorem cv_m_open : CV m_open 1 8 := ⟨cm_m_open, lw_in (i := 1094) (by decide +kernel) (by decide +kernel), lw_in (i := 1095) (by decide +kernel) (by decide +kernel), ⟨_, rfl, rfl⟩, by decide⟩
abbrev m_go : pY := (⟨"DoorRoundsModel", "go", "(I)I"⟩, prog_10_method_50_code, 3, (Option.some Jvm.ClassFile.FieldType.int), 3, 75)
def t_m_go_0 : List (Nat × Instr × Nat) := [(0, .iload_n 1, 1), (1, .iconst 0, 1), (2, .sipush 400, 3), (5, .invokestatic 78, 3), (8, .ifCond .ne 5, 3), (11, .iconst (-1), 1), (12, .ireturn, 1), (13, .aload_n 0, 1), (14, .getfield 153, 3), (17, .ifCond .ne 6, 3), (20, .bipush (-4), 2), (22, .ireturn, 1), (23, .aload_n 0, 1), (24, .getfield 162, 3), (27, .iload_n 1, 1), (28, .iadd, 1), (29, .ldc 204, 2), (31, .if_icmp .le 6, 3), (34, .bipush (-6), 2), (36, .ireturn, 1), (37, .aload_n 0, 1), (38, .invokevirtual 205, 3), (41, .iconst 0, 1), (42, .istore_n 2, 1), (43, .iload_n 2, 1), (44, .iload_n 1, 1), (45, .if_icmp .ge 23, 3), (48, .aload_n 0, 1), (49, .aload_n 0, 1), (50, .getfield 162, 3)]
theorem d_m_go_0 : t_m_go_0.all (fun q => decide (decode prog_10_method_50_code q.1 = .ok q.2)) = true := by decide +kernel
def t_m_go_1 : List (Nat × Instr × Nat) := [(53, .iload_n 2, 1), (54, .iadd, 1), (55, .aload_n 0, 1), (56, .getfield 165, 3), (59, .invokevirtual 208, 3), (62, .iinc 2 1, 3), (65, .goto (-22), 3), (68, .iconst 0, 1), (69, .istore_n 2, 1), (70, .iload_n 2, 1), (71, .aload_n 0, 1), (72, .getfield 156, 3), (75, .if_icmp .ge 21, 3), (78, .aload_n 0, 1), (79, .getfield 35, 3), (82, .iload_n 2, 1), (83, .aload_n 0, 1), (84, .getfield 38, 3), (87, .iload_n 2, 1), (88, .iaload, 1), (89, .iastore, 1), (90, .iinc 2 1, 3), (93, .goto (-23), 3), (96, .aload_n 0, 1), (97, .dup, 1), (98, .getfield 162, 3), (101, .iload_n 1, 1), (102, .iadd, 1), (103, .putfield 162, 3), (106, .aload_n 0, 1)]
theorem d_m_go_1 : t_m_go_1.all (fun q => decide (decode prog_10_method_50_code q.1 = .ok q.2)) = true := by decide +kernel
def t_m_go_2 : List (Nat × Instr × Nat) := [(107, .getfield 162, 3), (110, .ireturn, 1)]
theorem d_m_go_2 : t_m_go_2.all (fun q => decide (decode prog_10_method_50_code q.1 = .ok q.2)) = true := by decide +kernel
theorem cm_m_go : CM m_go 1 := ⟨by decide +kernel, lw_in (i := 1100) (by decide +kernel) (by decide +kernel), in_m, by decide +kernel⟩
theorem cv_m_go : CV m_go 1 8 := ⟨cm_m_go, lw_in (i := 1098) (by decide +kernel) (by decide +kernel), lw_in (i := 1099) (by decide +kernel) (by decide +kernel), ⟨_, rfl, rfl⟩, by decide⟩
abbrev m_fromNow : pY := (⟨"DoorRoundsModel", "fromNow", "()V"⟩, prog_10_method_49_code, 2, (Option.none : Option Jvm.ClassFile.FieldType), 0, 0)
def t_m_fromNow_0 : List (Nat × Instr × Nat) := [(0, .iconst 0, 1), (1, .istore_n 1, 1), (2, .iload_n 1, 1), (3, .aload_n 0, 1), (4, .getfield 156, 3), (7, .if_icmp .ge 21, 3), (10, .aload_n 0, 1), (11, .getfield 38, 3), (14, .iload_n 1, 1), (15, .aload_n 0, 1), (16, .getfield 35, 3), (19, .iload_n 1, 1), (20, .iaload, 1), (21, .iastore, 1), (22, .iinc 1 1, 3), (25, .goto (-23), 3), (28, .return_, 1)]
theorem d_m_fromNow_0 : t_m_fromNow_0.all (fun q => decide (decode prog_10_method_49_code q.1 = .ok q.2)) = true := by decide +kernel
theorem cm_m_fromNow : CM m_fromNow 0 := ⟨by decide +kernel, lw_in (i := 1105) (by decide +kernel) (by decide +kernel), in_m, by decide +kernel⟩
theorem cv_m_fromNow : CV m_fromNow 0 8 := ⟨cm_m_fromNow, lw_in (i := 1104) (by decide +kernel) (by decide +kernel), lw_insel (q := (⟨"DoorRoundsModel", "fromNow", "()V"⟩, 33)) (i := 42) (by decide +kernel) (by decide +kernel), ⟨_, rfl, rfl⟩, by decide⟩
abbrev m_passOne : pY := (⟨"DoorRoundsModel", "passOne", "(II)V"⟩, prog_10_method_48_code, 9, (Option.none : Option Jvm.ClassFile.FieldType), 2, 47)
def t_m_passOne_0 : List (Nat × Instr × Nat) := [(0, .iconst 0, 1), (1, .istore_n 3, 1), (2, .iload_n 2, 1), (3, .istore 4, 2), (5, .iconst 0, 1), (6, .istore 5, 2), (8, .iload 5, 2), (10, .aload_n 0, 1), (11, .getfield 156, 3), (14, .if_icmp .ge 23, 3), (17, .aload_n 0, 1), (18, .getfield 41, 3), (21, .iload 5, 2), (23, .aload_n 0, 1), (24, .getfield 38, 3), (27, .iload 5, 2), (29, .iaload, 1), (30, .iastore, 1), (31, .iinc 5 1, 3), (34, .goto (-26), 3), (37, .iconst 0, 1), (38, .istore 5, 2), (40, .iload 5, 2), (42, .aload_n 0, 1), (43, .getfield 156, 3), (46, .if_icmp .ge 101, 3), (49, .aload_n 0, 1), (50, .iload_n 3, 1), (51, .invokevirtual 201, 3), (54, .istore 6, 2)]
theorem d_m_passOne_0 : t_m_passOne_0.all (fun q => decide (decode prog_10_method_48_code q.1 = .ok q.2)) = true := by decide +kernel
def t_m_passOne_1 : List (Nat × Instr × Nat) := [(56, .aload_n 0, 1), (57, .iload 6, 2), (59, .iload_n 1, 1), (60, .invokevirtual 191, 3), (63, .istore 7, 2), (65, .aload_n 0, 1), (66, .aload_n 0, 1), (67, .getfield 41, 3), (70, .iload 6, 2), (72, .iaload, 1), (73, .iload 7, 2), (75, .iadd, 1), (76, .i2l, 1), (77, .invokevirtual 181, 3), (80, .istore 8, 2), (82, .iload 4, 2), (84, .iload 8, 2), (86, .ishr, 1), (87, .iconst 1, 1), (88, .iand, 1), (89, .iconst 1, 1), (90, .if_icmp .ne 26, 3), (93, .aload_n 0, 1), (94, .iload 8, 2), (96, .iload 7, 2), (98, .ifCond .ge 7, 3), (101, .iconst (-1), 1), (102, .goto 4, 3), (105, .iconst 1, 1), (106, .iadd, 1)]
theorem d_m_passOne_1 : t_m_passOne_1.all (fun q => decide (decode prog_10_method_48_code q.1 = .ok q.2)) = true := by decide +kernel
def t_m_passOne_2 : List (Nat × Instr × Nat) := [(107, .i2l, 1), (108, .invokevirtual 181, 3), (111, .istore 8, 2), (113, .goto (-31), 3), (116, .aload_n 0, 1), (117, .getfield 38, 3), (120, .iload 6, 2), (122, .iload 8, 2), (124, .iastore, 1), (125, .iload 4, 2), (127, .iconst 1, 1), (128, .iload 8, 2), (130, .ishl, 1), (131, .ior, 1), (132, .istore 4, 2), (134, .iload_n 3, 1), (135, .iconst 1, 1), (136, .iload 6, 2), (138, .ishl, 1), (139, .ior, 1), (140, .istore_n 3, 1), (141, .iinc 5 1, 3), (144, .goto (-104), 3), (147, .return_, 1)]
theorem d_m_passOne_2 : t_m_passOne_2.all (fun q => decide (decode prog_10_method_48_code q.1 = .ok q.2)) = true := by decide +kernel
theorem cm_m_passOne : CM m_passOne 2 := ⟨by decide +kernel, lw_in (i := 1109) (by decide +kernel) (by decide +kernel), in_m, by decide +kernel⟩
theorem cv_m_passOne : CV m_passOne 2 8 := ⟨cm_m_passOne, lw_in (i := 1108) (by decide +kernel) (by decide +kernel), lw_insel (q := (⟨"DoorRoundsModel", "passOne", "(II)V"⟩, 33)) (i := 43) (by decide +kernel) (by decide +kernel), ⟨_, rfl, rfl⟩, by decide⟩
abbrev m_taker : pY := (⟨"DoorRoundsModel", "taker", "(I)I"⟩, prog_10_method_47_code, 6, (Option.some Jvm.ClassFile.FieldType.int), 1, 22)
def t_m_taker_0 : List (Nat × Instr × Nat) := [(0, .bipush (-9), 2), (2, .istore_n 2, 1), (3, .iconst 0, 1), (4, .istore_n 3, 1), (5, .iload_n 3, 1), (6, .aload_n 0, 1), (7, .getfield 156, 3), (10, .if_icmp .ge 96, 3), (13, .iload_n 1, 1), (14, .iload_n 3, 1), (15, .ishr, 1), (16, .iconst 1, 1), (17, .iand, 1), (18, .ifCond .ne 82, 3), (21, .aload_n 0, 1), (22, .iload_n 3, 1), (23, .iconst 0, 1), (24, .invokevirtual 159, 3), (27, .iconst 2, 1), (28, .if_icmp .ne 7, 3), (31, .iconst 0, 1), (32, .goto 6, 3), (35, .sipush 1000, 3), (38, .aload_n 0, 1), (39, .iload_n 3, 1), (40, .iconst 3, 1), (41, .invokevirtual 159, 3), (44, .iadd, 1), (45, .istore 4, 2), (47, .iload_n 2, 1)]
theorem d_m_taker_0 : t_m_taker_0.all (fun q => decide (decode prog_10_method_47_code q.1 = .ok q.2)) = true := by decide +kernel
def t_m_taker_1 : List (Nat × Instr × Nat) := [(48, .bipush (-9), 2), (50, .if_icmp .eq 32, 3), (53, .iload 4, 2), (55, .aload_n 0, 1), (56, .iload_n 2, 1), (57, .iconst 0, 1), (58, .invokevirtual 159, 3), (61, .iconst 2, 1), (62, .if_icmp .ne 7, 3), (65, .iconst 0, 1), (66, .goto 6, 3), (69, .sipush 1000, 3), (72, .aload_n 0, 1), (73, .iload_n 2, 1), (74, .iconst 3, 1), (75, .invokevirtual 159, 3), (78, .iadd, 1), (79, .if_icmp .le 7, 3), (82, .iconst 1, 1), (83, .goto 4, 3), (86, .iconst 0, 1), (87, .istore 5, 2), (89, .iload 5, 2), (91, .ifCond .eq 7, 3), (94, .iload_n 3, 1), (95, .goto 4, 3), (98, .iload_n 2, 1), (99, .istore_n 2, 1), (100, .iinc 3 1, 3), (103, .goto (-98), 3)]
theorem d_m_taker_1 : t_m_taker_1.all (fun q => decide (decode prog_10_method_47_code q.1 = .ok q.2)) = true := by decide +kernel
def t_m_taker_2 : List (Nat × Instr × Nat) := [(106, .iload_n 2, 1), (107, .ireturn, 1)]
theorem d_m_taker_2 : t_m_taker_2.all (fun q => decide (decode prog_10_method_47_code q.1 = .ok q.2)) = true := by decide +kernel
theorem cm_m_taker : CM m_taker 1 := ⟨by decide +kernel, lw_in (i := 1113) (by decide +kernel) (by decide +kernel), in_m, by decide +kernel⟩
theorem cv_m_taker : CV m_taker 1 8 := ⟨cm_m_taker, lw_in (i := 1112) (by decide +kernel) (by decide +kernel), lw_insel (q := (⟨"DoorRoundsModel", "taker", "(I)I"⟩, 33)) (i := 44) (by decide +kernel) (by decide +kernel), ⟨_, rfl, rfl⟩, by decide⟩
abbrev m_doors : pY := (⟨"DoorRoundsModel", "doors", "(I)I"⟩, prog_10_method_51_code, 3, (Option.some Jvm.ClassFile.FieldType.int), 3, 65)
def t_m_doors_0 : List (Nat × Instr × Nat) := [(0, .iload_n 1, 1), (1, .invokestatic 82, 3), (4, .ifCond .ne 5, 3), (7, .iconst (-1), 1), (8, .ireturn, 1), (9, .aload_n 0, 1), (10, .iload_n 1, 1), (11, .aload_n 0, 1), (12, .getfield 156, 3), (15, .invokevirtual 212, 3), (18, .pop, 1), (19, .iconst 0, 1), (20, .istore_n 2, 1), (21, .iload_n 2, 1), (22, .aload_n 0, 1), (23, .getfield 156, 3), (26, .if_icmp .ge 21, 3), (29, .aload_n 0, 1), (30, .iload_n 1, 1), (31, .iload_n 2, 1), (32, .aload_n 0, 1), (33, .getfield 35, 3), (36, .iload_n 2, 1), (37, .iaload, 1), (38, .invokevirtual 93, 3), (41, .iinc 2 1, 3), (44, .goto (-23), 3), (47, .aload_n 0, 1), (48, .getfield 156, 3), (51, .ireturn, 1)]
theorem d_m_doors_0 : t_m_doors_0.all (fun q => decide (decode prog_10_method_51_code q.1 = .ok q.2)) = true := by decide +kernel
theorem cm_m_doors : CM m_doors 1 := ⟨by decide +kernel, lw_in (i := 1117) (by decide +kernel) (by decide +kernel), in_m, by decide +kernel⟩
theorem cv_m_doors : CV m_doors 1 8 := ⟨cm_m_doors, lw_in (i := 1115) (by decide +kernel) (by decide +kernel), lw_in (i := 1116) (by decide +kernel) (by decide +kernel), ⟨_, rfl, rfl⟩, by decide⟩
abbrev m_who : pY := (⟨"DoorRoundsModel", "who", "(I)I"⟩, prog_10_method_52_code, 4, (Option.some Jvm.ClassFile.FieldType.int), 2, 43)
def t_m_who_0 : List (Nat × Instr × Nat) := [(0, .aload_n 0, 1), (1, .iload_n 1, 1), (2, .invokevirtual 194, 3), (5, .ifCond .ne 5, 3), (8, .iconst (-1), 1), (9, .ireturn, 1), (10, .bipush (-9), 2), (12, .istore_n 2, 1), (13, .iconst 0, 1), (14, .istore_n 3, 1), (15, .iload_n 3, 1), (16, .aload_n 0, 1), (17, .getfield 156, 3), (20, .if_icmp .ge 25, 3), (23, .aload_n 0, 1), (24, .getfield 35, 3), (27, .iload_n 3, 1), (28, .iaload, 1), (29, .iload_n 1, 1), (30, .if_icmp .ne 7, 3), (33, .iload_n 3, 1), (34, .goto 4, 3), (37, .iload_n 2, 1), (38, .istore_n 2, 1), (39, .iinc 3 1, 3), (42, .goto (-27), 3), (45, .iload_n 2, 1), (46, .ireturn, 1)]
theorem d_m_who_0 : t_m_who_0.all (fun q => decide (decode prog_10_method_52_code q.1 = .ok q.2)) = true := by decide +kernel
theorem cm_m_who : CM m_who 1 := ⟨by decide +kernel, lw_in (i := 1122) (by decide +kernel) (by decide +kernel), in_m, by decide +kernel⟩
theorem cv_m_who : CV m_who 1 8 := ⟨cm_m_who, lw_in (i := 1120) (by decide +kernel) (by decide +kernel), lw_in (i := 1121) (by decide +kernel) (by decide +kernel), ⟨_, rfl, rfl⟩, by decide⟩
abbrev m_wants : pY := (⟨"DoorRoundsModel", "wants", "(I)I"⟩, prog_10_method_53_code, 2, (Option.some Jvm.ClassFile.FieldType.int), 3, 75)
def t_m_wants_0 : List (Nat × Instr × Nat) := [(0, .aload_n 0, 1), (1, .iload_n 1, 1), (2, .invokevirtual 171, 3), (5, .ifCond .ne 5, 3), (8, .iconst (-1), 1), (9, .ireturn, 1), (10, .aload_n 0, 1), (11, .invokevirtual 205, 3), (14, .aload_n 0, 1), (15, .aload_n 0, 1), (16, .getfield 162, 3), (19, .aload_n 0, 1), (20, .getfield 165, 3), (23, .invokevirtual 208, 3), (26, .aload_n 0, 1), (27, .aload_n 0, 1), (28, .getfield 38, 3), (31, .iload_n 1, 1), (32, .iaload, 1), (33, .aload_n 0, 1), (34, .aload_n 0, 1), (35, .getfield 35, 3), (38, .iload_n 1, 1), (39, .iaload, 1), (40, .aload_n 0, 1), (41, .iload_n 1, 1), (42, .aload_n 0, 1), (43, .getfield 162, 3), (46, .invokevirtual 191, 3), (49, .iadd, 1)]
theorem d_m_wants_0 : t_m_wants_0.all (fun q => decide (decode prog_10_method_53_code q.1 = .ok q.2)) = true := by decide +kernel
def t_m_wants_1 : List (Nat × Instr × Nat) := [(50, .i2l, 1), (51, .invokevirtual 181, 3), (54, .invokevirtual 104, 3), (57, .ireturn, 1)]
theorem d_m_wants_1 : t_m_wants_1.all (fun q => decide (decode prog_10_method_53_code q.1 = .ok q.2)) = true := by decide +kernel
theorem cm_m_wants : CM m_wants 1 := ⟨by decide +kernel, lw_in (i := 1126) (by decide +kernel) (by decide +kernel), in_m, by decide +kernel⟩
theorem cv_m_wants : CV m_wants 1 8 := ⟨cm_m_wants, lw_in (i := 1124) (by decide +kernel) (by decide +kernel), lw_in (i := 1125) (by decide +kernel) (by decide +kernel), ⟨_, rfl, rfl⟩, by decide⟩
abbrev m_where : pY := (⟨"DoorRoundsModel", "where", "(II)I"⟩, prog_10_method_54_code, 4, (Option.some Jvm.ClassFile.FieldType.int), 3, 75)
def t_m_where_0 : List (Nat × Instr × Nat) := [(0, .aload_n 0, 1), (1, .iload_n 1, 1), (2, .invokevirtual 171, 3), (5, .ifCond .eq 14, 3), (8, .iload_n 2, 1), (9, .iconst 0, 1), (10, .sipush 400, 3), (13, .invokestatic 78, 3), (16, .ifCond .ne 5, 3), (19, .iconst (-1), 1), (20, .ireturn, 1), (21, .aload_n 0, 1), (22, .invokevirtual 205, 3), (25, .iconst 0, 1), (26, .istore_n 3, 1), (27, .iload_n 3, 1), (28, .iload_n 2, 1), (29, .if_icmp .ge 23, 3), (32, .aload_n 0, 1), (33, .aload_n 0, 1), (34, .getfield 162, 3), (37, .iload_n 3, 1), (38, .iadd, 1), (39, .aload_n 0, 1), (40, .getfield 165, 3), (43, .invokevirtual 208, 3), (46, .iinc 3 1, 3), (49, .goto (-22), 3), (52, .aload_n 0, 1), (53, .getfield 38, 3)]
theorem d_m_where_0 : t_m_where_0.all (fun q => decide (decode prog_10_method_54_code q.1 = .ok q.2)) = true := by decide +kernel
def t_m_where_1 : List (Nat × Instr × Nat) := [(56, .iload_n 1, 1), (57, .iaload, 1), (58, .ireturn, 1)]
theorem d_m_where_1 : t_m_where_1.all (fun q => decide (decode prog_10_method_54_code q.1 = .ok q.2)) = true := by decide +kernel
theorem cm_m_where : CM m_where 2 := ⟨by decide +kernel, lw_in (i := 1130) (by decide +kernel) (by decide +kernel), in_m, by decide +kernel⟩
theorem cv_m_where : CV m_where 2 8 := ⟨cm_m_where, lw_in (i := 1128) (by decide +kernel) (by decide +kernel), lw_in (i := 1129) (by decide +kernel) (by decide +kernel), ⟨_, rfl, rfl⟩, by decide⟩
abbrev m_plainly : pY := (⟨"DoorRoundsModel", "plainly", "(II)I"⟩, prog_10_method_57_code, 3, (Option.some Jvm.ClassFile.FieldType.int), 2, 53)
def t_m_plainly_0 : List (Nat × Instr × Nat) := [(0, .aload_n 0, 1), (1, .iload_n 1, 1), (2, .invokevirtual 171, 3), (5, .ifCond .eq 13, 3), (8, .iload_n 2, 1), (9, .iconst 0, 1), (10, .ldc 221, 2), (12, .invokestatic 78, 3), (15, .ifCond .ne 5, 3), (18, .iconst (-1), 1), (19, .ireturn, 1), (20, .aload_n 0, 1), (21, .aload_n 0, 1), (22, .getfield 35, 3), (25, .iload_n 1, 1), (26, .iaload, 1), (27, .aload_n 0, 1), (28, .iload_n 1, 1), (29, .iconst 0, 1), (30, .invokevirtual 159, 3), (33, .aload_n 0, 1), (34, .iload_n 1, 1), (35, .iconst 2, 1), (36, .invokevirtual 159, 3), (39, .aload_n 0, 1), (40, .iload_n 1, 1), (41, .iconst 4, 1), (42, .invokevirtual 159, 3), (45, .aload_n 0, 1), (46, .getfield 162, 3)]
theorem d_m_plainly_0 : t_m_plainly_0.all (fun q => decide (decode prog_10_method_57_code q.1 = .ok q.2)) = true := by decide +kernel
def t_m_plainly_1 : List (Nat × Instr × Nat) := [(49, .i2l, 1), (50, .iload_n 2, 1), (51, .i2l, 1), (52, .invokevirtual 222, 3), (55, .ireturn, 1)]
theorem d_m_plainly_1 : t_m_plainly_1.all (fun q => decide (decode prog_10_method_57_code q.1 = .ok q.2)) = true := by decide +kernel
theorem cm_m_plainly : CM m_plainly 2 := ⟨by decide +kernel, lw_in (i := 1134) (by decide +kernel) (by decide +kernel), in_m, by decide +kernel⟩
theorem cv_m_plainly : CV m_plainly 2 8 := ⟨cm_m_plainly, lw_in (i := 1132) (by decide +kernel) (by decide +kernel), lw_in (i := 1133) (by decide +kernel) (by decide +kernel), ⟨_, rfl, rfl⟩, by decide⟩
abbrev m_plainBy : pY := (⟨"DoorRoundsModel", "plainBy", "(IIIIJJ)I"⟩, prog_10_method_56_code, 9, (Option.some Jvm.ClassFile.FieldType.int), 1, 25)
def t_m_plainBy_0 : List (Nat × Instr × Nat) := [(0, .aload_n 0, 1), (1, .iload_n 1, 1), (2, .i2l, 1), (3, .iload_n 3, 1), (4, .i2l, 1), (5, .iload_n 2, 1), (6, .iload 4, 2), (8, .lload 5, 2), (10, .lload 7, 2), (12, .ladd, 1), (13, .invokestatic 217, 3), (16, .iload_n 2, 1), (17, .iload 4, 2), (19, .lload 5, 2), (21, .invokestatic 217, 3), (24, .lsub, 1), (25, .lmul, 1), (26, .ladd, 1), (27, .invokevirtual 181, 3), (30, .ireturn, 1)]
theorem d_m_plainBy_0 : t_m_plainBy_0.all (fun q => decide (decode prog_10_method_56_code q.1 = .ok q.2)) = true := by decide +kernel
theorem cm_m_plainBy : CM m_plainBy 6 := ⟨by decide +kernel, lw_in (i := 1139) (by decide +kernel) (by decide +kernel), in_m, by decide +kernel⟩
theorem cv_m_plainBy : CV m_plainBy 6 8 := ⟨cm_m_plainBy, lw_in (i := 1138) (by decide +kernel) (by decide +kernel), lw_insel (q := (⟨"DoorRoundsModel", "plainBy", "(IIIIJJ)I"⟩, 33)) (i := 45) (by decide +kernel) (by decide +kernel), ⟨_, rfl, rfl⟩, by decide⟩
abbrev m_ways : pY := (⟨"DoorRoundsModel", "ways", "(IIJ)J"⟩, prog_10_method_55_code, 6, (Option.some Jvm.ClassFile.FieldType.long), 0, 0)
def t_m_ways_0 : List (Nat × Instr × Nat) := [(0, .iload_n 0, 1), (1, .iconst 1, 1), (2, .if_icmp .ne 5, 3), (5, .lconst 0, 1), (6, .lreturn, 1), (7, .iload_n 0, 1), (8, .iconst 3, 1), (9, .if_icmp .ge 5, 3), (12, .lload_n 2, 1), (13, .lreturn, 1), (14, .iload_n 0, 1), (15, .iconst 4, 1), (16, .if_icmp .ne 36, 3), (19, .lload_n 2, 1), (20, .ldc2_w 215, 3), (23, .iload_n 1, 1), (24, .i2l, 1), (25, .lmul, 1), (26, .lrem, 1), (27, .lstore 4, 2), (29, .lload 4, 2), (31, .iload_n 1, 1), (32, .i2l, 1), (33, .lcmp, 1), (34, .ifCond .gt 8, 3), (37, .lload 4, 2), (39, .goto 12, 3), (42, .ldc2_w 215, 3), (45, .iload_n 1, 1), (46, .i2l, 1)]
theorem d_m_ways_0 : t_m_ways_0.all (fun q => decide (decode prog_10_method_55_code q.1 = .ok q.2)) = true := by decide +kernel
def t_m_ways_1 : List (Nat × Instr × Nat) := [(47, .lmul, 1), (48, .lload 4, 2), (50, .lsub, 1), (51, .lreturn, 1), (52, .lload_n 2, 1), (53, .iload_n 1, 1), (54, .i2l, 1), (55, .ldiv, 1), (56, .lstore 4, 2), (58, .iload_n 0, 1), (59, .iconst 3, 1), (60, .if_icmp .ne 10, 3), (63, .lload_n 2, 1), (64, .lload 4, 2), (66, .lsub, 1), (67, .goto 11, 3), (70, .lload_n 2, 1), (71, .ldc2_w 215, 3), (74, .lload 4, 2), (76, .lmul, 1), (77, .lsub, 1), (78, .lreturn, 1)]
theorem d_m_ways_1 : t_m_ways_1.all (fun q => decide (decode prog_10_method_55_code q.1 = .ok q.2)) = true := by decide +kernel
theorem cm_m_ways : CM m_ways 3 := ⟨by decide +kernel, lw_in (i := 1142) (by decide +kernel) (by decide +kernel), in_m, by decide +kernel⟩
theorem cs_m_ways : CS m_ways 3 := ⟨cm_m_ways, lw_in (i := 1141) (by decide +kernel) (by decide +kernel)⟩
abbrev m_again : pY := (⟨"DoorRoundsModel", "again", "()I"⟩, prog_10_method_58_code, 4, (Option.some Jvm.ClassFile.FieldType.int), 3, 75)
def t_m_again_0 : List (Nat × Instr × Nat) := [(0, .aload_n 0, 1), (1, .getfield 153, 3), (4, .ifCond .ne 6, 3), (7, .bipush (-4), 2), (9, .ireturn, 1), (10, .aload_n 0, 1), (11, .invokevirtual 205, 3), (14, .iconst 1, 1), (15, .istore_n 1, 1), (16, .iload_n 1, 1), (17, .sipush 600, 3), (20, .if_icmp .gt 74, 3), (23, .aload_n 0, 1), (24, .aload_n 0, 1), (25, .getfield 162, 3), (28, .iload_n 1, 1), (29, .iadd, 1), (30, .iconst 1, 1), (31, .isub, 1), (32, .aload_n 0, 1), (33, .getfield 165, 3), (36, .invokevirtual 208, 3), (39, .iconst 1, 1), (40, .istore_n 2, 1), (41, .iconst 0, 1), (42, .istore_n 3, 1), (43, .iload_n 3, 1), (44, .aload_n 0, 1), (45, .getfield 156, 3), (48, .if_icmp .ge 34, 3)]
theorem d_m_again_0 : t_m_again_0.all (fun q => decide (decode prog_10_method_58_code q.1 = .ok q.2)) = true := by decide +kernel
def t_m_again_1 : List (Nat × Instr × Nat) := [(51, .iload_n 2, 1), (52, .ifCond .eq 22, 3), (55, .aload_n 0, 1), (56, .getfield 38, 3), (59, .iload_n 3, 1), (60, .iaload, 1), (61, .aload_n 0, 1), (62, .getfield 35, 3), (65, .iload_n 3, 1), (66, .iaload, 1), (67, .if_icmp .ne 7, 3), (70, .iconst 1, 1), (71, .goto 4, 3), (74, .iconst 0, 1), (75, .istore_n 2, 1), (76, .iinc 3 1, 3), (79, .goto (-36), 3), (82, .iload_n 2, 1), (83, .ifCond .eq 5, 3), (86, .iload_n 1, 1), (87, .ireturn, 1), (88, .iinc 1 1, 3), (91, .goto (-75), 3), (94, .bipush (-9), 2), (96, .ireturn, 1)]
theorem d_m_again_1 : t_m_again_1.all (fun q => decide (decode prog_10_method_58_code q.1 = .ok q.2)) = true := by decide +kernel
theorem cm_m_again : CM m_again 0 := ⟨by decide +kernel, lw_in (i := 1147) (by decide +kernel) (by decide +kernel), in_m, by decide +kernel⟩
theorem cv_m_again : CV m_again 0 8 := ⟨cm_m_again, lw_in (i := 1145) (by decide +kernel) (by decide +kernel), lw_in (i := 1146) (by decide +kernel) (by decide +kernel), ⟨_, rfl, rfl⟩, by decide⟩
abbrev m_keep : pY := (⟨"DoorRoundsModel", "keep", "(I)I"⟩, prog_10_method_59_code, 3, (Option.some Jvm.ClassFile.FieldType.int), 1, 22)
def t_m_keep_0 : List (Nat × Instr × Nat) := [(0, .iload_n 1, 1), (1, .iconst 0, 1), (2, .iconst 2, 1), (3, .invokestatic 78, 3), (6, .ifCond .ne 5, 3), (9, .iconst (-1), 1), (10, .ireturn, 1), (11, .aload_n 0, 1), (12, .getfield 153, 3), (15, .ifCond .ne 6, 3), (18, .bipush (-4), 2), (20, .ireturn, 1), (21, .aload_n 0, 1), (22, .getfield 44, 3), (25, .bipush 10, 2), (27, .iload_n 1, 1), (28, .imul, 1), (29, .aload_n 0, 1), (30, .getfield 162, 3), (33, .iastore, 1), (34, .aload_n 0, 1), (35, .getfield 44, 3), (38, .bipush 10, 2), (40, .iload_n 1, 1), (41, .imul, 1), (42, .iconst 1, 1), (43, .iadd, 1), (44, .aload_n 0, 1), (45, .getfield 165, 3), (48, .iastore, 1)]
theorem d_m_keep_0 : t_m_keep_0.all (fun q => decide (decode prog_10_method_59_code q.1 = .ok q.2)) = true := by decide +kernel
def t_m_keep_1 : List (Nat × Instr × Nat) := [(49, .iconst 0, 1), (50, .istore_n 2, 1), (51, .iload_n 2, 1), (52, .aload_n 0, 1), (53, .getfield 156, 3), (56, .if_icmp .ge 28, 3), (59, .aload_n 0, 1), (60, .getfield 44, 3), (63, .bipush 10, 2), (65, .iload_n 1, 1), (66, .imul, 1), (67, .iconst 2, 1), (68, .iadd, 1), (69, .iload_n 2, 1), (70, .iadd, 1), (71, .aload_n 0, 1), (72, .getfield 35, 3), (75, .iload_n 2, 1), (76, .iaload, 1), (77, .iastore, 1), (78, .iinc 2 1, 3), (81, .goto (-30), 3), (84, .aload_n 0, 1), (85, .getfield 162, 3), (88, .ireturn, 1)]
theorem d_m_keep_1 : t_m_keep_1.all (fun q => decide (decode prog_10_method_59_code q.1 = .ok q.2)) = true := by decide +kernel
theorem cm_m_keep : CM m_keep 1 := ⟨by decide +kernel, lw_in (i := 1151) (by decide +kernel) (by decide +kernel), in_m, by decide +kernel⟩
theorem cv_m_keep : CV m_keep 1 8 := ⟨cm_m_keep, lw_in (i := 1149) (by decide +kernel) (by decide +kernel), lw_in (i := 1150) (by decide +kernel) (by decide +kernel), ⟨_, rfl, rfl⟩, by decide⟩
abbrev m_on : pY := (⟨"DoorRoundsModel", "on", "(I)I"⟩, prog_10_method_60_code, 3, (Option.some Jvm.ClassFile.FieldType.int), 1, 22)
def t_m_on_0 : List (Nat × Instr × Nat) := [(0, .iload_n 1, 1), (1, .iconst 0, 1), (2, .iconst 2, 1), (3, .invokestatic 78, 3), (6, .ifCond .ne 5, 3), (9, .iconst (-1), 1), (10, .ireturn, 1), (11, .aload_n 0, 1), (12, .getfield 44, 3), (15, .bipush 10, 2), (17, .iload_n 1, 1), (18, .imul, 1), (19, .iaload, 1), (20, .bipush (-9), 2), (22, .if_icmp .ne 9, 3), (25, .aload_n 0, 1), (26, .iconst 1, 1), (27, .invokevirtual 86, 3), (30, .ireturn, 1), (31, .aload_n 0, 1), (32, .aload_n 0, 1), (33, .getfield 44, 3), (36, .bipush 10, 2), (38, .iload_n 1, 1), (39, .imul, 1), (40, .iaload, 1), (41, .putfield 162, 3), (44, .aload_n 0, 1), (45, .aload_n 0, 1), (46, .getfield 44, 3)]
theorem d_m_on_0 : t_m_on_0.all (fun q => decide (decode prog_10_method_60_code q.1 = .ok q.2)) = true := by decide +kernel
def t_m_on_1 : List (Nat × Instr × Nat) := [(49, .bipush 10, 2), (51, .iload_n 1, 1), (52, .imul, 1), (53, .iconst 1, 1), (54, .iadd, 1), (55, .iaload, 1), (56, .putfield 165, 3), (59, .iconst 0, 1), (60, .istore_n 2, 1), (61, .iload_n 2, 1), (62, .aload_n 0, 1), (63, .getfield 156, 3), (66, .if_icmp .ge 28, 3), (69, .aload_n 0, 1), (70, .getfield 35, 3), (73, .iload_n 2, 1), (74, .aload_n 0, 1), (75, .getfield 44, 3), (78, .bipush 10, 2), (80, .iload_n 1, 1), (81, .imul, 1), (82, .iconst 2, 1), (83, .iadd, 1), (84, .iload_n 2, 1), (85, .iadd, 1), (86, .iaload, 1), (87, .iastore, 1), (88, .iinc 2 1, 3), (91, .goto (-30), 3), (94, .aload_n 0, 1)]
theorem d_m_on_1 : t_m_on_1.all (fun q => decide (decode prog_10_method_60_code q.1 = .ok q.2)) = true := by decide +kernel
def t_m_on_2 : List (Nat × Instr × Nat) := [(95, .getfield 162, 3), (98, .ireturn, 1)]
theorem d_m_on_2 : t_m_on_2.all (fun q => decide (decode prog_10_method_60_code q.1 = .ok q.2)) = true := by decide +kernel
theorem cm_m_on : CM m_on 1 := ⟨by decide +kernel, lw_in (i := 1155) (by decide +kernel) (by decide +kernel), in_m, by decide +kernel⟩
theorem cv_m_on : CV m_on 1 8 := ⟨cm_m_on, lw_in (i := 1153) (by decide +kernel) (by decide +kernel), lw_in (i := 1154) (by decide +kernel) (by decide +kernel), ⟨_, rfl, rfl⟩, by decide⟩
end
section
abbrev m_beside : pY := (⟨"DoorRoundsModel", "beside", "(II)I"⟩, prog_10_method_61_code, 4, (Option.some Jvm.ClassFile.FieldType.int), 3, 75)
def t_m_beside_0 : List (Nat × Instr × Nat) := [(0, .aload_n 0, 1), (1, .iload_n 1, 1), (2, .invokevirtual 171, 3), (5, .ifCond .eq 16, 3), (8, .aload_n 0, 1), (9, .iload_n 2, 1), (10, .invokevirtual 171, 3), (13, .ifCond .eq 8, 3), (16, .iload_n 1, 1), (17, .iload_n 2, 1), (18, .if_icmp .ne 5, 3), (21, .iconst (-1), 1), (22, .ireturn, 1), (23, .aload_n 0, 1), (24, .invokevirtual 205, 3), (27, .iconst 0, 1), (28, .istore_n 3, 1), (29, .iload_n 3, 1), (30, .sipush 600, 3), (33, .if_icmp .gt 44, 3), (36, .aload_n 0, 1), (37, .aload_n 0, 1), (38, .getfield 38, 3), (41, .iload_n 1, 1), (42, .iaload, 1), (43, .aload_n 0, 1), (44, .getfield 38, 3), (47, .iload_n 2, 1), (48, .iaload, 1), (49, .invokevirtual 188, 3)]
theorem d_m_beside_0 : t_m_beside_0.all (fun q => decide (decode prog_10_method_61_code q.1 = .ok q.2)) = true := by decide +kernel
def t_m_beside_1 : List (Nat × Instr × Nat) := [(52, .ifCond .eq 5, 3), (55, .iload_n 3, 1), (56, .ireturn, 1), (57, .aload_n 0, 1), (58, .aload_n 0, 1), (59, .getfield 162, 3), (62, .iload_n 3, 1), (63, .iadd, 1), (64, .aload_n 0, 1), (65, .getfield 165, 3), (68, .invokevirtual 208, 3), (71, .iinc 3 1, 3), (74, .goto (-45), 3), (77, .bipush (-9), 2), (79, .ireturn, 1)]
theorem d_m_beside_1 : t_m_beside_1.all (fun q => decide (decode prog_10_method_61_code q.1 = .ok q.2)) = true := by decide +kernel
theorem cm_m_beside : CM m_beside 2 := ⟨by decide +kernel, lw_in (i := 1159) (by decide +kernel) (by decide +kernel), in_m, by decide +kernel⟩
theorem cv_m_beside : CV m_beside 2 8 := ⟨cm_m_beside, lw_in (i := 1157) (by decide +kernel) (by decide +kernel), lw_in (i := 1158) (by decide +kernel) (by decide +kernel), ⟨_, rfl, rfl⟩, by decide⟩
abbrev m_comes : pY := (⟨"DoorRoundsModel", "comes", "(II)I"⟩, prog_10_method_62_code, 4, (Option.some Jvm.ClassFile.FieldType.int), 3, 75)
def t_m_comes_0 : List (Nat × Instr × Nat) := [(0, .aload_n 0, 1), (1, .iload_n 1, 1), (2, .invokevirtual 171, 3), (5, .ifCond .eq 11, 3), (8, .aload_n 0, 1), (9, .iload_n 2, 1), (10, .invokevirtual 194, 3), (13, .ifCond .ne 5, 3), (16, .iconst (-1), 1), (17, .ireturn, 1), (18, .aload_n 0, 1), (19, .invokevirtual 205, 3), (22, .iconst 0, 1), (23, .istore_n 3, 1), (24, .iload_n 3, 1), (25, .sipush 600, 3), (28, .if_icmp .gt 35, 3), (31, .aload_n 0, 1), (32, .getfield 38, 3), (35, .iload_n 1, 1), (36, .iaload, 1), (37, .iload_n 2, 1), (38, .if_icmp .ne 5, 3), (41, .iload_n 3, 1), (42, .ireturn, 1), (43, .aload_n 0, 1), (44, .aload_n 0, 1), (45, .getfield 162, 3), (48, .iload_n 3, 1), (49, .iadd, 1)]
theorem d_m_comes_0 : t_m_comes_0.all (fun q => decide (decode prog_10_method_62_code q.1 = .ok q.2)) = true := by decide +kernel
def t_m_comes_1 : List (Nat × Instr × Nat) := [(50, .aload_n 0, 1), (51, .getfield 165, 3), (54, .invokevirtual 208, 3), (57, .iinc 3 1, 3), (60, .goto (-36), 3), (63, .bipush (-9), 2), (65, .ireturn, 1)]
theorem d_m_comes_1 : t_m_comes_1.all (fun q => decide (decode prog_10_method_62_code q.1 = .ok q.2)) = true := by decide +kernel
theorem cm_m_comes : CM m_comes 2 := ⟨by decide +kernel, lw_in (i := 1163) (by decide +kernel) (by decide +kernel), in_m, by decide +kernel⟩
theorem cv_m_comes : CV m_comes 2 8 := ⟨cm_m_comes, lw_in (i := 1161) (by decide +kernel) (by decide +kernel), lw_in (i := 1162) (by decide +kernel) (by decide +kernel), ⟨_, rfl, rfl⟩, by decide⟩
abbrev m_meets : pY := (⟨"DoorRoundsModel", "meets", "(III)I"⟩, prog_10_method_65_code, 6, (Option.some Jvm.ClassFile.FieldType.int), 3, 66)
def t_m_meets_0 : List (Nat × Instr × Nat) := [(0, .aload_n 0, 1), (1, .iload_n 1, 1), (2, .iload_n 2, 1), (3, .iload_n 3, 1), (4, .invokevirtual 226, 3), (7, .ifCond .ne 5, 3), (10, .iconst (-1), 1), (11, .ireturn, 1), (12, .aload_n 0, 1), (13, .iload_n 2, 1), (14, .iconst 2, 1), (15, .invokevirtual 159, 3), (18, .aload_n 0, 1), (19, .iload_n 1, 1), (20, .iconst 2, 1), (21, .invokevirtual 159, 3), (24, .isub, 1), (25, .istore 4, 2), (27, .iconst 0, 1), (28, .istore 5, 2), (30, .iload 5, 2), (32, .aload_n 0, 1), (33, .getfield 153, 3), (36, .if_icmp .ge 57, 3), (39, .aload_n 0, 1), (40, .aload_n 0, 1), (41, .getfield 35, 3), (44, .iload_n 2, 1), (45, .iaload, 1), (46, .aload_n 0, 1)]
theorem d_m_meets_0 : t_m_meets_0.all (fun q => decide (decode prog_10_method_65_code q.1 = .ok q.2)) = true := by decide +kernel
def t_m_meets_1 : List (Nat × Instr × Nat) := [(47, .getfield 35, 3), (50, .iload_n 1, 1), (51, .iaload, 1), (52, .isub, 1), (53, .i2l, 1), (54, .iload 4, 2), (56, .i2l, 1), (57, .iload 5, 2), (59, .i2l, 1), (60, .lmul, 1), (61, .ladd, 1), (62, .invokevirtual 181, 3), (65, .iload_n 3, 1), (66, .if_icmp .ne 21, 3), (69, .aload_n 0, 1), (70, .aload_n 0, 1), (71, .getfield 153, 3), (74, .aload_n 0, 1), (75, .iload 4, 2), (77, .invokevirtual 229, 3), (80, .idiv, 1), (81, .iload 5, 2), (83, .invokevirtual 104, 3), (86, .ireturn, 1), (87, .iinc 5 1, 3), (90, .goto (-60), 3), (93, .bipush (-9), 2), (95, .ireturn, 1)]
theorem d_m_meets_1 : t_m_meets_1.all (fun q => decide (decode prog_10_method_65_code q.1 = .ok q.2)) = true := by decide +kernel
theorem cm_m_meets : CM m_meets 3 := ⟨by decide +kernel, lw_in (i := 1167) (by decide +kernel) (by decide +kernel), in_m, by decide +kernel⟩
theorem cv_m_meets : CV m_meets 3 8 := ⟨cm_m_meets, lw_in (i := 1165) (by decide +kernel) (by decide +kernel), lw_in (i := 1166) (by decide +kernel) (by decide +kernel), ⟨_, rfl, rfl⟩, by decide⟩
abbrev m_isPair : pY := (⟨"DoorRoundsModel", "isPair", "(III)Z"⟩, prog_10_method_64_code, 4, (Option.some Jvm.ClassFile.FieldType.boolean), 2, 43)
def t_m_isPair_0 : List (Nat × Instr × Nat) := [(0, .aload_n 0, 1), (1, .iload_n 1, 1), (2, .invokevirtual 171, 3), (5, .ifCond .eq 28, 3), (8, .aload_n 0, 1), (9, .iload_n 2, 1), (10, .invokevirtual 171, 3), (13, .ifCond .eq 20, 3), (16, .iload_n 1, 1), (17, .iload_n 2, 1), (18, .if_icmp .eq 15, 3), (21, .aload_n 0, 1), (22, .iload_n 3, 1), (23, .invokevirtual 194, 3), (26, .ifCond .eq 7, 3), (29, .iconst 1, 1), (30, .goto 4, 3), (33, .iconst 0, 1), (34, .ireturn, 1)]
theorem d_m_isPair_0 : t_m_isPair_0.all (fun q => decide (decode prog_10_method_64_code q.1 = .ok q.2)) = true := by decide +kernel
theorem cm_m_isPair : CM m_isPair 3 := ⟨by decide +kernel, lw_in (i := 1171) (by decide +kernel) (by decide +kernel), in_m, by decide +kernel⟩
theorem cv_m_isPair : CV m_isPair 3 8 := ⟨cm_m_isPair, lw_in (i := 1170) (by decide +kernel) (by decide +kernel), lw_insel (q := (⟨"DoorRoundsModel", "isPair", "(III)Z"⟩, 33)) (i := 46) (by decide +kernel) (by decide +kernel), ⟨_, rfl, rfl⟩, by decide⟩
abbrev m_divisor : pY := (⟨"DoorRoundsModel", "divisor", "(I)I"⟩, prog_10_method_63_code, 5, (Option.some Jvm.ClassFile.FieldType.int), 0, 0)
def t_m_divisor_0 : List (Nat × Instr × Nat) := [(0, .aload_n 0, 1), (1, .getfield 153, 3), (4, .istore_n 2, 1), (5, .iload_n 1, 1), (6, .ifCond .ge 8, 3), (9, .iload_n 1, 1), (10, .ineg, 1), (11, .goto 4, 3), (14, .iload_n 1, 1), (15, .istore_n 3, 1), (16, .iload_n 3, 1), (17, .ifCond .eq 16, 3), (20, .iload_n 2, 1), (21, .iload_n 3, 1), (22, .irem, 1), (23, .istore 4, 2), (25, .iload_n 3, 1), (26, .istore_n 2, 1), (27, .iload 4, 2), (29, .istore_n 3, 1), (30, .goto (-14), 3), (33, .iload_n 2, 1), (34, .ireturn, 1)]
theorem d_m_divisor_0 : t_m_divisor_0.all (fun q => decide (decode prog_10_method_63_code q.1 = .ok q.2)) = true := by decide +kernel
theorem cm_m_divisor : CM m_divisor 1 := ⟨by decide +kernel, lw_in (i := 1175) (by decide +kernel) (by decide +kernel), in_m, by decide +kernel⟩
theorem cv_m_divisor : CV m_divisor 1 8 := ⟨cm_m_divisor, lw_in (i := 1174) (by decide +kernel) (by decide +kernel), lw_insel (q := (⟨"DoorRoundsModel", "divisor", "(I)I"⟩, 33)) (i := 47) (by decide +kernel) (by decide +kernel), ⟨_, rfl, rfl⟩, by decide⟩
abbrev m_never : pY := (⟨"DoorRoundsModel", "never", "(III)I"⟩, prog_10_method_66_code, 5, (Option.some Jvm.ClassFile.FieldType.int), 3, 66)
def t_m_never_0 : List (Nat × Instr × Nat) := [(0, .aload_n 0, 1), (1, .iload_n 1, 1), (2, .iload_n 2, 1), (3, .iload_n 3, 1), (4, .invokevirtual 226, 3), (7, .ifCond .ne 5, 3), (10, .iconst (-1), 1), (11, .ireturn, 1), (12, .aload_n 0, 1), (13, .aload_n 0, 1), (14, .iload_n 2, 1), (15, .iconst 2, 1), (16, .invokevirtual 159, 3), (19, .aload_n 0, 1), (20, .iload_n 1, 1), (21, .iconst 2, 1), (22, .invokevirtual 159, 3), (25, .isub, 1), (26, .invokevirtual 229, 3), (29, .istore 4, 2), (31, .aload_n 0, 1), (32, .iload 4, 2), (34, .aload_n 0, 1), (35, .iload_n 3, 1), (36, .i2l, 1), (37, .aload_n 0, 1), (38, .getfield 35, 3), (41, .iload_n 2, 1), (42, .iaload, 1), (43, .i2l, 1)]
theorem d_m_never_0 : t_m_never_0.all (fun q => decide (decode prog_10_method_66_code q.1 = .ok q.2)) = true := by decide +kernel
def t_m_never_1 : List (Nat × Instr × Nat) := [(44, .lsub, 1), (45, .aload_n 0, 1), (46, .getfield 35, 3), (49, .iload_n 1, 1), (50, .iaload, 1), (51, .i2l, 1), (52, .ladd, 1), (53, .invokevirtual 181, 3), (56, .iload 4, 2), (58, .irem, 1), (59, .ifCond .ne 7, 3), (62, .iconst 0, 1), (63, .goto 4, 3), (66, .iconst 1, 1), (67, .invokevirtual 104, 3), (70, .ireturn, 1)]
theorem d_m_never_1 : t_m_never_1.all (fun q => decide (decode prog_10_method_66_code q.1 = .ok q.2)) = true := by decide +kernel
theorem cm_m_never : CM m_never 3 := ⟨by decide +kernel, lw_in (i := 1179) (by decide +kernel) (by decide +kernel), in_m, by decide +kernel⟩
theorem cv_m_never : CV m_never 3 8 := ⟨cm_m_never, lw_in (i := 1177) (by decide +kernel) (by decide +kernel), lw_in (i := 1178) (by decide +kernel) (by decide +kernel), ⟨_, rfl, rfl⟩, by decide⟩
abbrev m_walk : pY := (⟨"DoorRoundsModel", "walk", "(II)I"⟩, prog_10_method_68_code, 3, (Option.some Jvm.ClassFile.FieldType.int), 2, 47)
def t_m_walk_0 : List (Nat × Instr × Nat) := [(0, .aload_n 0, 1), (1, .iload_n 1, 1), (2, .invokevirtual 194, 3), (5, .ifCond .eq 20, 3), (8, .aload_n 0, 1), (9, .iload_n 2, 1), (10, .invokevirtual 194, 3), (13, .ifCond .eq 12, 3), (16, .aload_n 0, 1), (17, .iload_n 1, 1), (18, .iload_n 2, 1), (19, .invokevirtual 232, 3), (22, .goto 4, 3), (25, .iconst (-1), 1), (26, .ireturn, 1)]
theorem d_m_walk_0 : t_m_walk_0.all (fun q => decide (decode prog_10_method_68_code q.1 = .ok q.2)) = true := by decide +kernel
theorem cm_m_walk : CM m_walk 2 := ⟨by decide +kernel, lw_in (i := 1183) (by decide +kernel) (by decide +kernel), in_m, by decide +kernel⟩
theorem cv_m_walk : CV m_walk 2 8 := ⟨cm_m_walk, lw_in (i := 1181) (by decide +kernel) (by decide +kernel), lw_in (i := 1182) (by decide +kernel) (by decide +kernel), ⟨_, rfl, rfl⟩, by decide⟩
abbrev m_walkOf : pY := (⟨"DoorRoundsModel", "walkOf", "(II)I"⟩, prog_10_method_67_code, 4, (Option.some Jvm.ClassFile.FieldType.int), 1, 24)
def t_m_walkOf_0 : List (Nat × Instr × Nat) := [(0, .aload_n 0, 1), (1, .iload_n 2, 1), (2, .i2l, 1), (3, .iload_n 1, 1), (4, .i2l, 1), (5, .lsub, 1), (6, .invokevirtual 181, 3), (9, .istore_n 3, 1), (10, .iload_n 3, 1), (11, .aload_n 0, 1), (12, .getfield 153, 3), (15, .iload_n 3, 1), (16, .isub, 1), (17, .if_icmp .ge 7, 3), (20, .iload_n 3, 1), (21, .goto 9, 3), (24, .aload_n 0, 1), (25, .getfield 153, 3), (28, .iload_n 3, 1), (29, .isub, 1), (30, .ireturn, 1)]
theorem d_m_walkOf_0 : t_m_walkOf_0.all (fun q => decide (decode prog_10_method_67_code q.1 = .ok q.2)) = true := by decide +kernel
theorem cm_m_walkOf : CM m_walkOf 2 := ⟨by decide +kernel, lw_in (i := 1187) (by decide +kernel) (by decide +kernel), in_m, by decide +kernel⟩
theorem cv_m_walkOf : CV m_walkOf 2 8 := ⟨cm_m_walkOf, lw_in (i := 1186) (by decide +kernel) (by decide +kernel), lw_insel (q := (⟨"DoorRoundsModel", "walkOf", "(II)I"⟩, 33)) (i := 48) (by decide +kernel) (by decide +kernel), ⟨_, rfl, rfl⟩, by decide⟩
abbrev m_round : pY := (⟨"DoorRoundsModel", "round", "(II)I"⟩, prog_10_method_70_code, 3, (Option.some Jvm.ClassFile.FieldType.int), 2, 53)
def t_m_round_0 : List (Nat × Instr × Nat) := [(0, .aload_n 0, 1), (1, .iload_n 1, 1), (2, .invokevirtual 194, 3), (5, .ifCond .eq 11, 3), (8, .aload_n 0, 1), (9, .iload_n 2, 1), (10, .invokevirtual 235, 3), (13, .ifCond .ne 5, 3), (16, .iconst (-1), 1), (17, .ireturn, 1), (18, .aload_n 0, 1), (19, .invokevirtual 205, 3), (22, .aload_n 0, 1), (23, .iload_n 1, 1), (24, .iload_n 2, 1), (25, .invokevirtual 238, 3), (28, .ireturn, 1)]
theorem d_m_round_0 : t_m_round_0.all (fun q => decide (decode prog_10_method_70_code q.1 = .ok q.2)) = true := by decide +kernel
theorem cm_m_round : CM m_round 2 := ⟨by decide +kernel, lw_in (i := 1191) (by decide +kernel) (by decide +kernel), in_m, by decide +kernel⟩
theorem cv_m_round : CV m_round 2 8 := ⟨cm_m_round, lw_in (i := 1189) (by decide +kernel) (by decide +kernel), lw_in (i := 1190) (by decide +kernel) (by decide +kernel), ⟨_, rfl, rfl⟩, by decide⟩
abbrev m_isSet : pY := (⟨"DoorRoundsModel", "isSet", "(I)Z"⟩, prog_10_method_34_code, 2, (Option.some Jvm.ClassFile.FieldType.boolean), 1, 22)
def t_m_isSet_0 : List (Nat × Instr × Nat) := [(0, .iload_n 1, 1), (1, .iconst 0, 1), (2, .iconst 1, 1), (3, .aload_n 0, 1), (4, .getfield 156, 3), (7, .ishl, 1), (8, .iconst 1, 1), (9, .isub, 1), (10, .invokestatic 78, 3), (13, .ireturn, 1)]
theorem d_m_isSet_0 : t_m_isSet_0.all (fun q => decide (decode prog_10_method_34_code q.1 = .ok q.2)) = true := by decide +kernel
theorem cm_m_isSet : CM m_isSet 1 := ⟨by decide +kernel, lw_in (i := 1195) (by decide +kernel) (by decide +kernel), in_m, by decide +kernel⟩
theorem cv_m_isSet : CV m_isSet 1 8 := ⟨cm_m_isSet, lw_in (i := 1194) (by decide +kernel) (by decide +kernel), lw_insel (q := (⟨"DoorRoundsModel", "isSet", "(I)Z"⟩, 33)) (i := 49) (by decide +kernel) (by decide +kernel), ⟨_, rfl, rfl⟩, by decide⟩
abbrev m_roundOf : pY := (⟨"DoorRoundsModel", "roundOf", "(II)I"⟩, prog_10_method_69_code, 10, (Option.some Jvm.ClassFile.FieldType.int), 1, 24)
def t_m_roundOf_0 : List (Nat × Instr × Nat) := [(0, .aload_n 0, 1), (1, .getfield 153, 3), (4, .istore_n 3, 1), (5, .iconst 0, 1), (6, .istore 4, 2), (8, .iload 4, 2), (10, .iload_n 2, 1), (11, .if_icmp .gt 156, 3), (14, .iload 4, 2), (16, .iload_n 2, 1), (17, .iconst (-1), 1), (18, .ixor, 1), (19, .iand, 1), (20, .ifCond .ne 141, 3), (23, .iconst 0, 1), (24, .istore 5, 2), (26, .iconst 0, 1), (27, .istore 6, 2), (29, .iconst 0, 1), (30, .istore 7, 2), (32, .iload 7, 2), (34, .aload_n 0, 1), (35, .getfield 156, 3), (38, .if_icmp .ge 100, 3), (41, .aload_n 0, 1), (42, .aload_n 0, 1), (43, .getfield 38, 3), (46, .iload 7, 2), (48, .iaload, 1), (49, .i2l, 1)]
theorem d_m_roundOf_0 : t_m_roundOf_0.all (fun q => decide (decode prog_10_method_69_code q.1 = .ok q.2)) = true := by decide +kernel
def t_m_roundOf_1 : List (Nat × Instr × Nat) := [(50, .iload_n 1, 1), (51, .i2l, 1), (52, .lsub, 1), (53, .invokevirtual 181, 3), (56, .istore 8, 2), (58, .iload 4, 2), (60, .iload 7, 2), (62, .ishr, 1), (63, .iconst 1, 1), (64, .iand, 1), (65, .iconst 1, 1), (66, .if_icmp .ne 22, 3), (69, .iload 8, 2), (71, .iload 5, 2), (73, .if_icmp .le 8, 3), (76, .iload 8, 2), (78, .goto 5, 3), (81, .iload 5, 2), (83, .istore 5, 2), (85, .goto 47, 3), (88, .iload_n 2, 1), (89, .iload 7, 2), (91, .ishr, 1), (92, .iconst 1, 1), (93, .iand, 1), (94, .iconst 1, 1), (95, .if_icmp .ne 37, 3), (98, .iload 8, 2), (100, .ifCond .ne 7, 3), (103, .iconst 0, 1)]
theorem d_m_roundOf_1 : t_m_roundOf_1.all (fun q => decide (decode prog_10_method_69_code q.1 = .ok q.2)) = true := by decide +kernel
def t_m_roundOf_2 : List (Nat × Instr × Nat) := [(104, .goto 10, 3), (107, .aload_n 0, 1), (108, .getfield 153, 3), (111, .iload 8, 2), (113, .isub, 1), (114, .istore 9, 2), (116, .iload 9, 2), (118, .iload 6, 2), (120, .if_icmp .le 8, 3), (123, .iload 9, 2), (125, .goto 5, 3), (128, .iload 6, 2), (130, .istore 6, 2), (132, .iinc 7 1, 3), (135, .goto (-103), 3), (138, .iconst 2, 1), (139, .iload 5, 2), (141, .iload 6, 2), (143, .iadd, 1), (144, .imul, 1), (145, .iload_n 3, 1), (146, .if_icmp .ge 13, 3), (149, .iconst 2, 1), (150, .iload 5, 2), (152, .iload 6, 2), (154, .iadd, 1), (155, .imul, 1), (156, .goto 4, 3), (159, .iload_n 3, 1), (160, .istore_n 3, 1)]
theorem d_m_roundOf_2 : t_m_roundOf_2.all (fun q => decide (decode prog_10_method_69_code q.1 = .ok q.2)) = true := by decide +kernel
def t_m_roundOf_3 : List (Nat × Instr × Nat) := [(161, .iinc 4 1, 3), (164, .goto (-156), 3), (167, .iload_n 2, 1), (168, .ifCond .ne 7, 3), (171, .iconst 0, 1), (172, .goto 4, 3), (175, .iload_n 3, 1), (176, .ireturn, 1)]
theorem d_m_roundOf_3 : t_m_roundOf_3.all (fun q => decide (decode prog_10_method_69_code q.1 = .ok q.2)) = true := by decide +kernel
theorem cm_m_roundOf : CM m_roundOf 2 := ⟨by decide +kernel, lw_in (i := 1199) (by decide +kernel) (by decide +kernel), in_m, by decide +kernel⟩
theorem cv_m_roundOf : CV m_roundOf 2 8 := ⟨cm_m_roundOf, lw_in (i := 1198) (by decide +kernel) (by decide +kernel), lw_insel (q := (⟨"DoorRoundsModel", "roundOf", "(II)I"⟩, 33)) (i := 50) (by decide +kernel) (by decide +kernel), ⟨_, rfl, rfl⟩, by decide⟩
abbrev m_best : pY := (⟨"DoorRoundsModel", "best", "(III)I"⟩, prog_10_method_71_code, 8, (Option.some Jvm.ClassFile.FieldType.int), 3, 75)
def t_m_best_0 : List (Nat × Instr × Nat) := [(0, .aload_n 0, 1), (1, .iload_n 1, 1), (2, .invokevirtual 194, 3), (5, .ifCond .eq 21, 3), (8, .aload_n 0, 1), (9, .iload_n 2, 1), (10, .invokevirtual 235, 3), (13, .ifCond .eq 13, 3), (16, .iload_n 3, 1), (17, .iconst 0, 1), (18, .bipush 60, 2), (20, .invokestatic 78, 3), (23, .ifCond .ne 5, 3), (26, .iconst (-1), 1), (27, .ireturn, 1), (28, .aload_n 0, 1), (29, .invokevirtual 205, 3), (32, .iconst 0, 1), (33, .istore 4, 2), (35, .ldc 241, 2), (37, .istore 5, 2), (39, .iconst 0, 1), (40, .istore 6, 2), (42, .iload 6, 2), (44, .iload_n 3, 1), (45, .if_icmp .gt 64, 3), (48, .aload_n 0, 1), (49, .iload_n 1, 1), (50, .iload_n 2, 1), (51, .invokevirtual 238, 3)]
theorem d_m_best_0 : t_m_best_0.all (fun q => decide (decode prog_10_method_71_code q.1 = .ok q.2)) = true := by decide +kernel
def t_m_best_1 : List (Nat × Instr × Nat) := [(54, .istore 7, 2), (56, .iload 7, 2), (58, .iload 5, 2), (60, .if_icmp .ge 8, 3), (63, .iload 6, 2), (65, .goto 5, 3), (68, .iload 4, 2), (70, .istore 4, 2), (72, .iload 7, 2), (74, .iload 5, 2), (76, .if_icmp .ge 8, 3), (79, .iload 7, 2), (81, .goto 5, 3), (84, .iload 5, 2), (86, .istore 5, 2), (88, .aload_n 0, 1), (89, .aload_n 0, 1), (90, .getfield 162, 3), (93, .iload 6, 2), (95, .iadd, 1), (96, .aload_n 0, 1), (97, .getfield 165, 3), (100, .invokevirtual 208, 3), (103, .iinc 6 1, 3), (106, .goto (-64), 3), (109, .aload_n 0, 1), (110, .iload 5, 2), (112, .iload 4, 2), (114, .invokevirtual 104, 3), (117, .ireturn, 1)]
theorem d_m_best_1 : t_m_best_1.all (fun q => decide (decode prog_10_method_71_code q.1 = .ok q.2)) = true := by decide +kernel
theorem cm_m_best : CM m_best 3 := ⟨by decide +kernel, lw_in (i := 1203) (by decide +kernel) (by decide +kernel), in_m, by decide +kernel⟩
theorem cv_m_best : CV m_best 3 8 := ⟨cm_m_best, lw_in (i := 1201) (by decide +kernel) (by decide +kernel), lw_in (i := 1202) (by decide +kernel) (by decide +kernel), ⟨_, rfl, rfl⟩, by decide⟩
abbrev m_errands : pY := (⟨"DoorRoundsModel", "errands", "(IIII)I"⟩, prog_10_method_74_code, 8, (Option.some Jvm.ClassFile.FieldType.int), 3, 75)
def t_m_errands_0 : List (Nat × Instr × Nat) := [(0, .aload_n 0, 1), (1, .iload_n 1, 1), (2, .invokevirtual 194, 3), (5, .ifCond .eq 29, 3), (8, .aload_n 0, 1), (9, .iload_n 2, 1), (10, .invokevirtual 235, 3), (13, .ifCond .eq 21, 3), (16, .iload_n 3, 1), (17, .iconst 0, 1), (18, .bipush 30, 2), (20, .invokestatic 78, 3), (23, .ifCond .eq 11, 3), (26, .iload 4, 2), (28, .invokestatic 82, 3), (31, .ifCond .ne 5, 3), (34, .iconst (-1), 1), (35, .ireturn, 1), (36, .aload_n 0, 1), (37, .invokevirtual 205, 3), (40, .iconst 0, 1), (41, .istore 5, 2), (43, .iload 5, 2), (45, .iload_n 3, 1), (46, .if_icmp .gt 74, 3), (49, .iconst 0, 1), (50, .istore 6, 2), (52, .iload 6, 2), (54, .iload_n 2, 1), (55, .if_icmp .gt 44, 3)]
theorem d_m_errands_0 : t_m_errands_0.all (fun q => decide (decode prog_10_method_74_code q.1 = .ok q.2)) = true := by decide +kernel
def t_m_errands_1 : List (Nat × Instr × Nat) := [(58, .aload_n 0, 1), (59, .getfield 47, 3), (62, .sipush 128, 3), (65, .iload 5, 2), (67, .imul, 1), (68, .iload 6, 2), (70, .iadd, 1), (71, .iload 6, 2), (73, .iload_n 2, 1), (74, .iconst (-1), 1), (75, .ixor, 1), (76, .iand, 1), (77, .ifCond .ne 13, 3), (80, .aload_n 0, 1), (81, .iload_n 1, 1), (82, .iload 6, 2), (84, .invokevirtual 238, 3), (87, .goto 5, 3), (90, .ldc 241, 2), (92, .iastore, 1), (93, .iinc 6 1, 3), (96, .goto (-44), 3), (99, .aload_n 0, 1), (100, .aload_n 0, 1), (101, .getfield 162, 3), (104, .iload 5, 2), (106, .iadd, 1), (107, .aload_n 0, 1), (108, .getfield 165, 3), (111, .invokevirtual 208, 3)]
theorem d_m_errands_1 : t_m_errands_1.all (fun q => decide (decode prog_10_method_74_code q.1 = .ok q.2)) = true := by decide +kernel
def t_m_errands_2 : List (Nat × Instr × Nat) := [(114, .iinc 5 1, 3), (117, .goto (-74), 3), (120, .iconst 0, 1), (121, .istore 5, 2), (123, .iload 5, 2), (125, .bipush 7, 2), (127, .if_icmp .ge 18, 3), (130, .aload_n 0, 1), (131, .getfield 56, 3), (134, .iload 5, 2), (136, .bipush (-9), 2), (138, .iastore, 1), (139, .iinc 5 1, 3), (142, .goto (-19), 3), (145, .aload_n 0, 1), (146, .iload_n 2, 1), (147, .iload_n 3, 1), (148, .invokevirtual 245, 3), (151, .istore 5, 2), (153, .iconst 0, 1), (154, .istore 6, 2), (156, .iconst 0, 1), (157, .istore 7, 2), (159, .iload 7, 2), (161, .aload_n 0, 1), (162, .getfield 156, 3), (165, .if_icmp .ge 55, 3), (168, .iload_n 2, 1), (169, .iload 7, 2), (171, .ishr, 1)]
theorem d_m_errands_2 : t_m_errands_2.all (fun q => decide (decode prog_10_method_74_code q.1 = .ok q.2)) = true := by decide +kernel
def t_m_errands_3 : List (Nat × Instr × Nat) := [(172, .iconst 1, 1), (173, .iand, 1), (174, .iconst 1, 1), (175, .if_icmp .ne 39, 3), (178, .aload_n 0, 1), (179, .getfield 56, 3), (182, .iload 7, 2), (184, .iconst 0, 1), (185, .iastore, 1), (186, .aload_n 0, 1), (187, .iload_n 2, 1), (188, .iload_n 3, 1), (189, .invokevirtual 245, 3), (192, .iload 5, 2), (194, .if_icmp .eq 17, 3), (197, .aload_n 0, 1), (198, .getfield 56, 3), (201, .iload 7, 2), (203, .dup2, 1), (204, .iaload, 1), (205, .iconst 1, 1), (206, .iadd, 1), (207, .iastore, 1), (208, .goto (-22), 3), (211, .iinc 6 1, 3), (214, .iinc 7 1, 3), (217, .goto (-58), 3), (220, .aload_n 0, 1), (221, .iload 4, 2), (223, .iload 6, 2)]
theorem d_m_errands_3 : t_m_errands_3.all (fun q => decide (decode prog_10_method_74_code q.1 = .ok q.2)) = true := by decide +kernel
def t_m_errands_4 : List (Nat × Instr × Nat) := [(225, .invokevirtual 212, 3), (228, .pop, 1), (229, .iconst 0, 1), (230, .istore 6, 2), (232, .iconst 0, 1), (233, .istore 7, 2), (235, .iload 7, 2), (237, .aload_n 0, 1), (238, .getfield 156, 3), (241, .if_icmp .ge 37, 3), (244, .iload_n 2, 1), (245, .iload 7, 2), (247, .ishr, 1), (248, .iconst 1, 1), (249, .iand, 1), (250, .iconst 1, 1), (251, .if_icmp .ne 21, 3), (254, .aload_n 0, 1), (255, .iload 4, 2), (257, .iload 6, 2), (259, .aload_n 0, 1), (260, .getfield 56, 3), (263, .iload 7, 2), (265, .iaload, 1), (266, .invokevirtual 93, 3), (269, .iinc 6 1, 3), (272, .iinc 7 1, 3), (275, .goto (-40), 3), (278, .iload 5, 2), (280, .ireturn, 1)]
theorem d_m_errands_4 : t_m_errands_4.all (fun q => decide (decode prog_10_method_74_code q.1 = .ok q.2)) = true := by decide +kernel
theorem cm_m_errands : CM m_errands 4 := ⟨by decide +kernel, lw_in (i := 1208) (by decide +kernel) (by decide +kernel), in_m, by decide +kernel⟩
theorem cv_m_errands : CV m_errands 4 8 := ⟨cm_m_errands, lw_in (i := 1206) (by decide +kernel) (by decide +kernel), lw_in (i := 1207) (by decide +kernel) (by decide +kernel), ⟨_, rfl, rfl⟩, by decide⟩
abbrev m_leastFor : pY := (⟨"DoorRoundsModel", "leastFor", "(II)I"⟩, prog_10_method_72_code, 7, (Option.some Jvm.ClassFile.FieldType.int), 1, 24)
def t_m_leastFor_0 : List (Nat × Instr × Nat) := [(0, .iconst 0, 1), (1, .istore_n 3, 1), (2, .iload_n 3, 1), (3, .iload_n 1, 1), (4, .if_icmp .gt 25, 3), (7, .aload_n 0, 1), (8, .getfield 50, 3), (11, .iload_n 3, 1), (12, .iload_n 3, 1), (13, .ifCond .ne 7, 3), (16, .iconst 0, 1), (17, .goto 5, 3), (20, .ldc 241, 2), (22, .iastore, 1), (23, .iinc 3 1, 3), (26, .goto (-24), 3), (29, .iload_n 2, 1), (30, .istore_n 3, 1), (31, .iload_n 3, 1), (32, .ifCond .lt 175, 3), (35, .iconst 0, 1), (36, .istore 4, 2), (38, .iload 4, 2), (40, .iload_n 1, 1), (41, .if_icmp .gt 131, 3), (44, .aload_n 0, 1), (45, .getfield 53, 3), (48, .iload 4, 2), (50, .ldc 241, 2), (52, .iastore, 1)]
theorem d_m_leastFor_0 : t_m_leastFor_0.all (fun q => decide (decode prog_10_method_72_code q.1 = .ok q.2)) = true := by decide +kernel
def t_m_leastFor_1 : List (Nat × Instr × Nat) := [(53, .iload 4, 2), (55, .istore 5, 2), (57, .iload 4, 2), (59, .iload_n 1, 1), (60, .iconst (-1), 1), (61, .ixor, 1), (62, .iand, 1), (63, .ifCond .ne 103, 3), (66, .iload 5, 2), (68, .ifCond .lt 98, 3), (71, .aload_n 0, 1), (72, .iload 5, 2), (74, .iload_n 3, 1), (75, .invokevirtual 242, 3), (78, .ifCond .eq 32, 3), (81, .aload_n 0, 1), (82, .getfield 47, 3), (85, .sipush 128, 3), (88, .iload_n 3, 1), (89, .imul, 1), (90, .iload 5, 2), (92, .iadd, 1), (93, .iaload, 1), (94, .aload_n 0, 1), (95, .getfield 50, 3), (98, .iload 4, 2), (100, .iload 5, 2), (102, .iconst (-1), 1), (103, .ixor, 1), (104, .iand, 1)]
theorem d_m_leastFor_1 : t_m_leastFor_1.all (fun q => decide (decode prog_10_method_72_code q.1 = .ok q.2)) = true := by decide +kernel
def t_m_leastFor_2 : List (Nat × Instr × Nat) := [(105, .iaload, 1), (106, .iadd, 1), (107, .goto 5, 3), (110, .ldc 241, 2), (112, .istore 6, 2), (114, .aload_n 0, 1), (115, .getfield 53, 3), (118, .iload 4, 2), (120, .iload 6, 2), (122, .aload_n 0, 1), (123, .getfield 53, 3), (126, .iload 4, 2), (128, .iaload, 1), (129, .if_icmp .ge 8, 3), (132, .iload 6, 2), (134, .goto 10, 3), (137, .aload_n 0, 1), (138, .getfield 53, 3), (141, .iload 4, 2), (143, .iaload, 1), (144, .iastore, 1), (145, .iload 5, 2), (147, .ifCond .ne 7, 3), (150, .iconst (-1), 1), (151, .goto 10, 3), (154, .iload 5, 2), (156, .iconst 1, 1), (157, .isub, 1), (158, .iload 4, 2), (160, .iand, 1)]
theorem d_m_leastFor_2 : t_m_leastFor_2.all (fun q => decide (decode prog_10_method_72_code q.1 = .ok q.2)) = true := by decide +kernel
def t_m_leastFor_3 : List (Nat × Instr × Nat) := [(161, .istore 5, 2), (163, .goto (-106), 3), (166, .iinc 4 1, 3), (169, .goto (-131), 3), (172, .iconst 0, 1), (173, .istore 4, 2), (175, .iload 4, 2), (177, .iload_n 1, 1), (178, .if_icmp .gt 23, 3), (181, .aload_n 0, 1), (182, .getfield 50, 3), (185, .iload 4, 2), (187, .aload_n 0, 1), (188, .getfield 53, 3), (191, .iload 4, 2), (193, .iaload, 1), (194, .iastore, 1), (195, .iinc 4 1, 3), (198, .goto (-23), 3), (201, .iinc 3 (-1), 3), (204, .goto (-173), 3), (207, .aload_n 0, 1), (208, .getfield 50, 3), (211, .iload_n 1, 1), (212, .iaload, 1), (213, .ireturn, 1)]
theorem d_m_leastFor_3 : t_m_leastFor_3.all (fun q => decide (decode prog_10_method_72_code q.1 = .ok q.2)) = true := by decide +kernel
theorem cm_m_leastFor : CM m_leastFor 2 := ⟨by decide +kernel, lw_in (i := 1212) (by decide +kernel) (by decide +kernel), in_m, by decide +kernel⟩
theorem cv_m_leastFor : CV m_leastFor 2 8 := ⟨cm_m_leastFor, lw_in (i := 1211) (by decide +kernel) (by decide +kernel), lw_insel (q := (⟨"DoorRoundsModel", "leastFor", "(II)I"⟩, 33)) (i := 51) (by decide +kernel) (by decide +kernel), ⟨_, rfl, rfl⟩, by decide⟩
abbrev m_mayIn : pY := (⟨"DoorRoundsModel", "mayIn", "(II)Z"⟩, prog_10_method_73_code, 5, (Option.some Jvm.ClassFile.FieldType.boolean), 0, 0)
def t_m_mayIn_0 : List (Nat × Instr × Nat) := [(0, .iconst 1, 1), (1, .istore_n 3, 1), (2, .iconst 0, 1), (3, .istore 4, 2), (5, .iload 4, 2), (7, .aload_n 0, 1), (8, .getfield 156, 3), (11, .if_icmp .ge 51, 3), (14, .iload_n 3, 1), (15, .ifCond .eq 39, 3), (18, .iload_n 1, 1), (19, .iload 4, 2), (21, .ishr, 1), (22, .iconst 1, 1), (23, .iand, 1), (24, .ifCond .eq 26, 3), (27, .aload_n 0, 1), (28, .getfield 56, 3), (31, .iload 4, 2), (33, .iaload, 1), (34, .bipush (-9), 2), (36, .if_icmp .eq 14, 3), (39, .aload_n 0, 1), (40, .getfield 56, 3), (43, .iload 4, 2), (45, .iaload, 1), (46, .iload_n 2, 1), (47, .if_icmp .ne 7, 3), (50, .iconst 1, 1), (51, .goto 4, 3)]
theorem d_m_mayIn_0 : t_m_mayIn_0.all (fun q => decide (decode prog_10_method_73_code q.1 = .ok q.2)) = true := by decide +kernel
def t_m_mayIn_1 : List (Nat × Instr × Nat) := [(54, .iconst 0, 1), (55, .istore_n 3, 1), (56, .iinc 4 1, 3), (59, .goto (-54), 3), (62, .iload_n 3, 1), (63, .ireturn, 1)]
theorem d_m_mayIn_1 : t_m_mayIn_1.all (fun q => decide (decode prog_10_method_73_code q.1 = .ok q.2)) = true := by decide +kernel
theorem cm_m_mayIn : CM m_mayIn 2 := ⟨by decide +kernel, lw_in (i := 1216) (by decide +kernel) (by decide +kernel), in_m, by decide +kernel⟩
theorem cv_m_mayIn : CV m_mayIn 2 8 := ⟨cm_m_mayIn, lw_in (i := 1215) (by decide +kernel) (by decide +kernel), lw_insel (q := (⟨"DoorRoundsModel", "mayIn", "(II)Z"⟩, 33)) (i := 52) (by decide +kernel) (by decide +kernel), ⟨_, rfl, rfl⟩, by decide⟩
abbrev m_agree : pY := (⟨"DoorRoundsModel", "agree", "(III)I"⟩, prog_10_method_75_code, 9, (Option.some Jvm.ClassFile.FieldType.int), 3, 75)
def t_m_agree_0 : List (Nat × Instr × Nat) := [(0, .aload_n 0, 1), (1, .iload_n 1, 1), (2, .invokevirtual 194, 3), (5, .ifCond .eq 21, 3), (8, .aload_n 0, 1), (9, .iload_n 2, 1), (10, .invokevirtual 194, 3), (13, .ifCond .eq 13, 3), (16, .iload_n 3, 1), (17, .iconst 0, 1), (18, .bipush 60, 2), (20, .invokestatic 78, 3), (23, .ifCond .ne 5, 3), (26, .iconst (-1), 1), (27, .ireturn, 1), (28, .aload_n 0, 1), (29, .getfield 156, 3), (32, .ifCond .ne 9, 3), (35, .aload_n 0, 1), (36, .iconst 4, 1), (37, .invokevirtual 86, 3), (40, .ireturn, 1), (41, .aload_n 0, 1), (42, .invokevirtual 205, 3), (45, .iconst 0, 1), (46, .istore 4, 2), (48, .ldc 241, 2), (50, .istore 5, 2), (52, .iconst 0, 1), (53, .istore 6, 2)]
theorem d_m_agree_0 : t_m_agree_0.all (fun q => decide (decode prog_10_method_75_code q.1 = .ok q.2)) = true := by decide +kernel
def t_m_agree_1 : List (Nat × Instr × Nat) := [(55, .iload 6, 2), (57, .iload_n 3, 1), (58, .if_icmp .gt 107, 3), (61, .iconst 0, 1), (62, .istore 7, 2), (64, .iload 7, 2), (66, .aload_n 0, 1), (67, .getfield 156, 3), (70, .if_icmp .ge 74, 3), (73, .aload_n 0, 1), (74, .iload_n 1, 1), (75, .aload_n 0, 1), (76, .getfield 38, 3), (79, .iload 7, 2), (81, .iaload, 1), (82, .invokevirtual 232, 3), (85, .aload_n 0, 1), (86, .iload_n 2, 1), (87, .aload_n 0, 1), (88, .getfield 38, 3), (91, .iload 7, 2), (93, .iaload, 1), (94, .invokevirtual 232, 3), (97, .iadd, 1), (98, .istore 8, 2), (100, .iload 8, 2), (102, .iload 5, 2), (104, .if_icmp .ge 14, 3), (107, .bipush 10, 2), (109, .iload 6, 2)]
theorem d_m_agree_1 : t_m_agree_1.all (fun q => decide (decode prog_10_method_75_code q.1 = .ok q.2)) = true := by decide +kernel
def t_m_agree_2 : List (Nat × Instr × Nat) := [(111, .imul, 1), (112, .iload 7, 2), (114, .iadd, 1), (115, .goto 5, 3), (118, .iload 4, 2), (120, .istore 4, 2), (122, .iload 8, 2), (124, .iload 5, 2), (126, .if_icmp .ge 8, 3), (129, .iload 8, 2), (131, .goto 5, 3), (134, .iload 5, 2), (136, .istore 5, 2), (138, .iinc 7 1, 3), (141, .goto (-77), 3), (144, .aload_n 0, 1), (145, .aload_n 0, 1), (146, .getfield 162, 3), (149, .iload 6, 2), (151, .iadd, 1), (152, .aload_n 0, 1), (153, .getfield 165, 3), (156, .invokevirtual 208, 3), (159, .iinc 6 1, 3), (162, .goto (-107), 3), (165, .aload_n 0, 1), (166, .iload 5, 2), (168, .iload 4, 2), (170, .invokevirtual 104, 3), (173, .ireturn, 1)]
theorem d_m_agree_2 : t_m_agree_2.all (fun q => decide (decode prog_10_method_75_code q.1 = .ok q.2)) = true := by decide +kernel
theorem cm_m_agree : CM m_agree 3 := ⟨by decide +kernel, lw_in (i := 1220) (by decide +kernel) (by decide +kernel), in_m, by decide +kernel⟩
theorem cv_m_agree : CV m_agree 3 8 := ⟨cm_m_agree, lw_in (i := 1218) (by decide +kernel) (by decide +kernel), lw_in (i := 1219) (by decide +kernel) (by decide +kernel), ⟨_, rfl, rfl⟩, by decide⟩
abbrev m_joins : pY := (⟨"DoorRoundsModel", "joins", "(II)I"⟩, prog_10_method_78_code, 3, (Option.some Jvm.ClassFile.FieldType.int), 2, 49)
def t_m_joins_0 : List (Nat × Instr × Nat) := [(0, .aload_n 0, 1), (1, .iload_n 1, 1), (2, .invokevirtual 194, 3), (5, .ifCond .eq 23, 3), (8, .iload_n 2, 1), (9, .bipush (-9), 2), (11, .bipush 9, 2), (13, .invokestatic 78, 3), (16, .ifCond .eq 12, 3), (19, .aload_n 0, 1), (20, .iload_n 1, 1), (21, .iload_n 2, 1), (22, .invokevirtual 248, 3), (25, .goto 4, 3), (28, .iconst (-1), 1), (29, .ireturn, 1)]
theorem d_m_joins_0 : t_m_joins_0.all (fun q => decide (decode prog_10_method_78_code q.1 = .ok q.2)) = true := by decide +kernel
theorem cm_m_joins : CM m_joins 2 := ⟨by decide +kernel, lw_in (i := 1224) (by decide +kernel) (by decide +kernel), in_m, by decide +kernel⟩
theorem cv_m_joins : CV m_joins 2 8 := ⟨cm_m_joins, lw_in (i := 1222) (by decide +kernel) (by decide +kernel), lw_in (i := 1223) (by decide +kernel) (by decide +kernel), ⟨_, rfl, rfl⟩, by decide⟩
abbrev m_joinsOf : pY := (⟨"DoorRoundsModel", "joinsOf", "(II)I"⟩, prog_10_method_76_code, 6, (Option.some Jvm.ClassFile.FieldType.int), 1, 24)
def t_m_joinsOf_0 : List (Nat × Instr × Nat) := [(0, .iconst 0, 1), (1, .istore_n 3, 1), (2, .iconst 0, 1), (3, .istore 4, 2), (5, .iload 4, 2), (7, .aload_n 0, 1), (8, .getfield 156, 3), (11, .if_icmp .ge 56, 3), (14, .aload_n 0, 1), (15, .aload_n 0, 1), (16, .iload 4, 2), (18, .iconst 2, 1), (19, .invokevirtual 159, 3), (22, .iload_n 2, 1), (23, .isub, 1), (24, .invokevirtual 229, 3), (27, .istore 5, 2), (29, .iload_n 3, 1), (30, .aload_n 0, 1), (31, .aload_n 0, 1), (32, .getfield 35, 3), (35, .iload 4, 2), (37, .iaload, 1), (38, .i2l, 1), (39, .iload_n 1, 1), (40, .i2l, 1), (41, .lsub, 1), (42, .invokevirtual 181, 3), (45, .iload 5, 2), (47, .irem, 1)]
theorem d_m_joinsOf_0 : t_m_joinsOf_0.all (fun q => decide (decode prog_10_method_76_code q.1 = .ok q.2)) = true := by decide +kernel
def t_m_joinsOf_1 : List (Nat × Instr × Nat) := [(48, .ifCond .ne 10, 3), (51, .iconst 1, 1), (52, .iload 4, 2), (54, .ishl, 1), (55, .goto 4, 3), (58, .iconst 0, 1), (59, .ior, 1), (60, .istore_n 3, 1), (61, .iinc 4 1, 3), (64, .goto (-59), 3), (67, .iload_n 3, 1), (68, .ireturn, 1)]
theorem d_m_joinsOf_1 : t_m_joinsOf_1.all (fun q => decide (decode prog_10_method_76_code q.1 = .ok q.2)) = true := by decide +kernel
theorem cm_m_joinsOf : CM m_joinsOf 2 := ⟨by decide +kernel, lw_in (i := 1228) (by decide +kernel) (by decide +kernel), in_m, by decide +kernel⟩
theorem cv_m_joinsOf : CV m_joinsOf 2 8 := ⟨cm_m_joinsOf, lw_in (i := 1227) (by decide +kernel) (by decide +kernel), lw_insel (q := (⟨"DoorRoundsModel", "joinsOf", "(II)I"⟩, 33)) (i := 53) (by decide +kernel) (by decide +kernel), ⟨_, rfl, rfl⟩, by decide⟩
abbrev m_quiet : pY := (⟨"DoorRoundsModel", "quiet", "()I"⟩, prog_10_method_79_code, 6, (Option.some Jvm.ClassFile.FieldType.int), 2, 49)
def t_m_quiet_0 : List (Nat × Instr × Nat) := [(0, .aload_n 0, 1), (1, .getfield 153, 3), (4, .ifCond .ne 6, 3), (7, .bipush (-4), 2), (9, .ireturn, 1), (10, .bipush (-9), 2), (12, .istore_n 1, 1), (13, .iconst 0, 1), (14, .istore_n 2, 1), (15, .iconst 0, 1), (16, .istore_n 3, 1), (17, .iload_n 3, 1), (18, .aload_n 0, 1), (19, .getfield 153, 3), (22, .if_icmp .ge 80, 3), (25, .bipush (-9), 2), (27, .istore 4, 2), (29, .iload 4, 2), (31, .bipush 9, 2), (33, .if_icmp .gt 63, 3), (36, .aload_n 0, 1), (37, .iload_n 3, 1), (38, .iload 4, 2), (40, .invokevirtual 248, 3), (43, .ifCond .ne 7, 3), (46, .iconst 1, 1), (47, .goto 4, 3), (50, .iconst 0, 1), (51, .istore 5, 2), (53, .iload 5, 2)]
theorem d_m_quiet_0 : t_m_quiet_0.all (fun q => decide (decode prog_10_method_79_code q.1 = .ok q.2)) = true := by decide +kernel
def t_m_quiet_1 : List (Nat × Instr × Nat) := [(55, .ifCond .eq 20, 3), (58, .iload_n 2, 1), (59, .ifCond .ne 16, 3), (62, .bipush 100, 2), (64, .iload_n 3, 1), (65, .imul, 1), (66, .iload 4, 2), (68, .iadd, 1), (69, .bipush 9, 2), (71, .iadd, 1), (72, .goto 4, 3), (75, .iload_n 1, 1), (76, .istore_n 1, 1), (77, .iload_n 2, 1), (78, .iload 5, 2), (80, .ifCond .eq 7, 3), (83, .iconst 1, 1), (84, .goto 4, 3), (87, .iconst 0, 1), (88, .iadd, 1), (89, .istore_n 2, 1), (90, .iinc 4 1, 3), (93, .goto (-64), 3), (96, .iinc 3 1, 3), (99, .goto (-82), 3), (102, .iload_n 1, 1), (103, .bipush (-9), 2), (105, .if_icmp .ne 8, 3), (108, .bipush (-9), 2), (110, .goto 9, 3)]
theorem d_m_quiet_1 : t_m_quiet_1.all (fun q => decide (decode prog_10_method_79_code q.1 = .ok q.2)) = true := by decide +kernel
def t_m_quiet_2 : List (Nat × Instr × Nat) := [(113, .aload_n 0, 1), (114, .iload_n 2, 1), (115, .iload_n 1, 1), (116, .invokevirtual 104, 3), (119, .ireturn, 1)]
theorem d_m_quiet_2 : t_m_quiet_2.all (fun q => decide (decode prog_10_method_79_code q.1 = .ok q.2)) = true := by decide +kernel
theorem cm_m_quiet : CM m_quiet 0 := ⟨by decide +kernel, lw_in (i := 1232) (by decide +kernel) (by decide +kernel), in_m, by decide +kernel⟩
theorem cv_m_quiet : CV m_quiet 0 8 := ⟨cm_m_quiet, lw_in (i := 1230) (by decide +kernel) (by decide +kernel), lw_in (i := 1231) (by decide +kernel) (by decide +kernel), ⟨_, rfl, rfl⟩, by decide⟩
abbrev m_busy : pY := (⟨"DoorRoundsModel", "busy", "()I"⟩, prog_10_method_80_code, 6, (Option.some Jvm.ClassFile.FieldType.int), 2, 49)
def t_m_busy_0 : List (Nat × Instr × Nat) := [(0, .aload_n 0, 1), (1, .getfield 153, 3), (4, .ifCond .ne 6, 3), (7, .bipush (-4), 2), (9, .ireturn, 1), (10, .iconst 0, 1), (11, .istore_n 1, 1), (12, .iconst (-1), 1), (13, .istore_n 2, 1), (14, .iconst 0, 1), (15, .istore_n 3, 1), (16, .iload_n 3, 1), (17, .aload_n 0, 1), (18, .getfield 153, 3), (21, .if_icmp .ge 72, 3), (24, .bipush (-9), 2), (26, .istore 4, 2), (28, .iload 4, 2), (30, .bipush 9, 2), (32, .if_icmp .gt 55, 3), (35, .aload_n 0, 1), (36, .iload_n 3, 1), (37, .iload 4, 2), (39, .invokevirtual 248, 3), (42, .invokestatic 251, 3), (45, .istore 5, 2), (47, .iload 5, 2), (49, .iload_n 2, 1), (50, .if_icmp .le 16, 3), (53, .bipush 100, 2)]
theorem d_m_busy_0 : t_m_busy_0.all (fun q => decide (decode prog_10_method_80_code q.1 = .ok q.2)) = true := by decide +kernel
def t_m_busy_1 : List (Nat × Instr × Nat) := [(55, .iload_n 3, 1), (56, .imul, 1), (57, .iload 4, 2), (59, .iadd, 1), (60, .bipush 9, 2), (62, .iadd, 1), (63, .goto 4, 3), (66, .iload_n 1, 1), (67, .istore_n 1, 1), (68, .iload 5, 2), (70, .iload_n 2, 1), (71, .if_icmp .le 8, 3), (74, .iload 5, 2), (76, .goto 4, 3), (79, .iload_n 2, 1), (80, .istore_n 2, 1), (81, .iinc 4 1, 3), (84, .goto (-56), 3), (87, .iinc 3 1, 3), (90, .goto (-74), 3), (93, .aload_n 0, 1), (94, .iload_n 2, 1), (95, .iload_n 1, 1), (96, .invokevirtual 104, 3), (99, .ireturn, 1)]
theorem d_m_busy_1 : t_m_busy_1.all (fun q => decide (decode prog_10_method_80_code q.1 = .ok q.2)) = true := by decide +kernel
theorem cm_m_busy : CM m_busy 0 := ⟨by decide +kernel, lw_in (i := 1236) (by decide +kernel) (by decide +kernel), in_m, by decide +kernel⟩
theorem cv_m_busy : CV m_busy 0 8 := ⟨cm_m_busy, lw_in (i := 1234) (by decide +kernel) (by decide +kernel), lw_in (i := 1235) (by decide +kernel) (by decide +kernel), ⟨_, rfl, rfl⟩, by decide⟩
abbrev m_sizeOf : pY := (⟨"DoorRoundsModel", "sizeOf", "(I)I"⟩, prog_10_method_77_code, 3, (Option.some Jvm.ClassFile.FieldType.int), 0, 0)
def t_m_sizeOf_0 : List (Nat × Instr × Nat) := [(0, .iconst 0, 1), (1, .istore_n 1, 1), (2, .iconst 0, 1), (3, .istore_n 2, 1), (4, .iload_n 2, 1), (5, .bipush 31, 2), (7, .if_icmp .ge 17, 3), (10, .iload_n 1, 1), (11, .iload_n 0, 1), (12, .iload_n 2, 1), (13, .ishr, 1), (14, .iconst 1, 1), (15, .iand, 1), (16, .iadd, 1), (17, .istore_n 1, 1), (18, .iinc 2 1, 3), (21, .goto (-17), 3), (24, .iload_n 1, 1), (25, .ireturn, 1)]
theorem d_m_sizeOf_0 : t_m_sizeOf_0.all (fun q => decide (decode prog_10_method_77_code q.1 = .ok q.2)) = true := by decide +kernel
theorem cm_m_sizeOf : CM m_sizeOf 1 := ⟨by decide +kernel, lw_in (i := 1239) (by decide +kernel) (by decide +kernel), in_m, by decide +kernel⟩
theorem cs_m_sizeOf : CS m_sizeOf 1 := ⟨cm_m_sizeOf, lw_in (i := 1238) (by decide +kernel) (by decide +kernel)⟩
abbrev m_note : pY := (⟨"DoorRoundsModel", "note", "(III)I"⟩, prog_10_method_81_code, 4, (Option.some Jvm.ClassFile.FieldType.int), 2, 43)
def t_m_note_0 : List (Nat × Instr × Nat) := [(0, .iload_n 1, 1), (1, .iconst 0, 1), (2, .bipush 99, 2), (4, .invokestatic 78, 3), (7, .ifCond .eq 19, 3), (10, .aload_n 0, 1), (11, .iload_n 2, 1), (12, .invokevirtual 171, 3), (15, .ifCond .eq 11, 3), (18, .aload_n 0, 1), (19, .iload_n 3, 1), (20, .invokevirtual 194, 3), (23, .ifCond .ne 5, 3), (26, .iconst (-1), 1), (27, .ireturn, 1), (28, .aload_n 0, 1), (29, .getfield 168, 3), (32, .bipush 12, 2), (34, .if_icmp .ne 6, 3), (37, .bipush (-2), 2), (39, .ireturn, 1), (40, .aload_n 0, 1), (41, .getfield 59, 3), (44, .iconst 3, 1), (45, .aload_n 0, 1), (46, .getfield 168, 3), (49, .imul, 1), (50, .iload_n 1, 1), (51, .iastore, 1), (52, .aload_n 0, 1)]
theorem d_m_note_0 : t_m_note_0.all (fun q => decide (decode prog_10_method_81_code q.1 = .ok q.2)) = true := by decide +kernel
def t_m_note_1 : List (Nat × Instr × Nat) := [(53, .getfield 59, 3), (56, .iconst 3, 1), (57, .aload_n 0, 1), (58, .getfield 168, 3), (61, .imul, 1), (62, .iconst 1, 1), (63, .iadd, 1), (64, .iload_n 2, 1), (65, .iastore, 1), (66, .aload_n 0, 1), (67, .getfield 59, 3), (70, .iconst 3, 1), (71, .aload_n 0, 1), (72, .getfield 168, 3), (75, .imul, 1), (76, .iconst 2, 1), (77, .iadd, 1), (78, .iload_n 3, 1), (79, .iastore, 1), (80, .aload_n 0, 1), (81, .dup, 1), (82, .getfield 168, 3), (85, .iconst 1, 1), (86, .iadd, 1), (87, .putfield 168, 3), (90, .aload_n 0, 1), (91, .getfield 168, 3), (94, .iconst 1, 1), (95, .isub, 1), (96, .ireturn, 1)]
theorem d_m_note_1 : t_m_note_1.all (fun q => decide (decode prog_10_method_81_code q.1 = .ok q.2)) = true := by decide +kernel
theorem cm_m_note : CM m_note 3 := ⟨by decide +kernel, lw_in (i := 1243) (by decide +kernel) (by decide +kernel), in_m, by decide +kernel⟩
theorem cv_m_note : CV m_note 3 8 := ⟨cm_m_note, lw_in (i := 1241) (by decide +kernel) (by decide +kernel), lw_in (i := 1242) (by decide +kernel) (by decide +kernel), ⟨_, rfl, rfl⟩, by decide⟩
abbrev m_back : pY := (⟨"DoorRoundsModel", "back", "(I)I"⟩, prog_10_method_82_code, 3, (Option.some Jvm.ClassFile.FieldType.int), 1, 22)
def t_m_back_0 : List (Nat × Instr × Nat) := [(0, .iload_n 1, 1), (1, .iconst 0, 1), (2, .aload_n 0, 1), (3, .getfield 168, 3), (6, .invokestatic 78, 3), (9, .ifCond .ne 5, 3), (12, .iconst (-1), 1), (13, .ireturn, 1), (14, .aload_n 0, 1), (15, .getfield 168, 3), (18, .iload_n 1, 1), (19, .isub, 1), (20, .istore_n 2, 1), (21, .aload_n 0, 1), (22, .iload_n 1, 1), (23, .putfield 168, 3), (26, .iload_n 2, 1), (27, .ireturn, 1)]
theorem d_m_back_0 : t_m_back_0.all (fun q => decide (decode prog_10_method_82_code q.1 = .ok q.2)) = true := by decide +kernel
theorem cm_m_back : CM m_back 1 := ⟨by decide +kernel, lw_in (i := 1247) (by decide +kernel) (by decide +kernel), in_m, by decide +kernel⟩
theorem cv_m_back : CV m_back 1 8 := ⟨cm_m_back, lw_in (i := 1245) (by decide +kernel) (by decide +kernel), lw_in (i := 1246) (by decide +kernel) (by decide +kernel), ⟨_, rfl, rfl⟩, by decide⟩
abbrev m_steps : pY := (⟨"DoorRoundsModel", "steps", "(I)I"⟩, prog_10_method_84_code, 4, (Option.some Jvm.ClassFile.FieldType.int), 3, 79)
def t_m_steps_0 : List (Nat × Instr × Nat) := [(0, .aload_n 0, 1), (1, .iload_n 1, 1), (2, .invokevirtual 171, 3), (5, .ifCond .ne 5, 3), (8, .iconst (-1), 1), (9, .ireturn, 1), (10, .iconst 0, 1), (11, .istore_n 2, 1), (12, .bipush (-9), 2), (14, .istore_n 3, 1), (15, .iload_n 3, 1), (16, .bipush 9, 2), (18, .if_icmp .gt 43, 3), (21, .iload_n 2, 1), (22, .aload_n 0, 1), (23, .iload_n 1, 1), (24, .aload_n 0, 1), (25, .iload_n 1, 1), (26, .iconst 0, 1), (27, .invokevirtual 159, 3), (30, .iload_n 3, 1), (31, .aload_n 0, 1), (32, .iload_n 1, 1), (33, .iconst 4, 1), (34, .invokevirtual 159, 3), (37, .invokevirtual 254, 3), (40, .ifCond .eq 12, 3), (43, .iconst 1, 1), (44, .iload_n 3, 1), (45, .bipush 9, 2)]
theorem d_m_steps_0 : t_m_steps_0.all (fun q => decide (decode prog_10_method_84_code q.1 = .ok q.2)) = true := by decide +kernel
def t_m_steps_1 : List (Nat × Instr × Nat) := [(47, .iadd, 1), (48, .ishl, 1), (49, .goto 4, 3), (52, .iconst 0, 1), (53, .ior, 1), (54, .istore_n 2, 1), (55, .iinc 3 1, 3), (58, .goto (-43), 3), (61, .aload_n 0, 1), (62, .iload_n 2, 1), (63, .invokestatic 251, 3), (66, .iload_n 2, 1), (67, .invokevirtual 104, 3), (70, .ireturn, 1)]
theorem d_m_steps_1 : t_m_steps_1.all (fun q => decide (decode prog_10_method_84_code q.1 = .ok q.2)) = true := by decide +kernel
theorem cm_m_steps : CM m_steps 1 := ⟨by decide +kernel, lw_in (i := 1251) (by decide +kernel) (by decide +kernel), in_m, by decide +kernel⟩
theorem cv_m_steps : CV m_steps 1 8 := ⟨cm_m_steps, lw_in (i := 1249) (by decide +kernel) (by decide +kernel), lw_in (i := 1250) (by decide +kernel) (by decide +kernel), ⟨_, rfl, rfl⟩, by decide⟩
abbrev m_fits : pY := (⟨"DoorRoundsModel", "fits", "(IIII)Z"⟩, prog_10_method_83_code, 7, (Option.some Jvm.ClassFile.FieldType.boolean), 2, 53)
def t_m_fits_0 : List (Nat × Instr × Nat) := [(0, .iconst 1, 1), (1, .istore 5, 2), (3, .iconst 0, 1), (4, .istore 6, 2), (6, .iload 6, 2), (8, .aload_n 0, 1), (9, .getfield 168, 3), (12, .if_icmp .ge 75, 3), (15, .iload 5, 2), (17, .ifCond .eq 61, 3), (20, .aload_n 0, 1), (21, .getfield 59, 3), (24, .iconst 3, 1), (25, .iload 6, 2), (27, .imul, 1), (28, .iconst 1, 1), (29, .iadd, 1), (30, .iaload, 1), (31, .iload_n 1, 1), (32, .if_icmp .ne 42, 3), (35, .aload_n 0, 1), (36, .aload_n 0, 1), (37, .iload_n 1, 1), (38, .iconst 1, 1), (39, .invokevirtual 159, 3), (42, .iload_n 2, 1), (43, .iload_n 3, 1), (44, .iload 4, 2), (46, .lconst 0, 1), (47, .aload_n 0, 1)]
theorem d_m_fits_0 : t_m_fits_0.all (fun q => decide (decode prog_10_method_83_code q.1 = .ok q.2)) = true := by decide +kernel
def t_m_fits_1 : List (Nat × Instr × Nat) := [(48, .getfield 59, 3), (51, .iconst 3, 1), (52, .iload 6, 2), (54, .imul, 1), (55, .iaload, 1), (56, .i2l, 1), (57, .invokevirtual 222, 3), (60, .aload_n 0, 1), (61, .getfield 59, 3), (64, .iconst 3, 1), (65, .iload 6, 2), (67, .imul, 1), (68, .iconst 2, 1), (69, .iadd, 1), (70, .iaload, 1), (71, .if_icmp .ne 7, 3), (74, .iconst 1, 1), (75, .goto 4, 3), (78, .iconst 0, 1), (79, .istore 5, 2), (81, .iinc 6 1, 3), (84, .goto (-78), 3), (87, .iload 5, 2), (89, .ireturn, 1)]
theorem d_m_fits_1 : t_m_fits_1.all (fun q => decide (decode prog_10_method_83_code q.1 = .ok q.2)) = true := by decide +kernel
theorem cm_m_fits : CM m_fits 4 := ⟨by decide +kernel, lw_in (i := 1255) (by decide +kernel) (by decide +kernel), in_m, by decide +kernel⟩
theorem cv_m_fits : CV m_fits 4 8 := ⟨cm_m_fits, lw_in (i := 1254) (by decide +kernel) (by decide +kernel), lw_insel (q := (⟨"DoorRoundsModel", "fits", "(IIII)Z"⟩, 33)) (i := 54) (by decide +kernel) (by decide +kernel), ⟨_, rfl, rfl⟩, by decide⟩
abbrev m_kinds : pY := (⟨"DoorRoundsModel", "kinds", "(I)I"⟩, prog_10_method_85_code, 7, (Option.some Jvm.ClassFile.FieldType.int), 3, 79)
def t_m_kinds_0 : List (Nat × Instr × Nat) := [(0, .aload_n 0, 1), (1, .iload_n 1, 1), (2, .invokevirtual 171, 3), (5, .ifCond .ne 5, 3), (8, .iconst (-1), 1), (9, .ireturn, 1), (10, .bipush (-9), 2), (12, .istore_n 2, 1), (13, .iconst 0, 1), (14, .istore_n 3, 1), (15, .iconst 0, 1), (16, .istore 4, 2), (18, .iload 4, 2), (20, .iconst 5, 1), (21, .if_icmp .gt 107, 3), (24, .iload 4, 2), (26, .ifCond .ne 7, 3), (29, .iconst 0, 1), (30, .goto 4, 3), (33, .iconst 2, 1), (34, .istore 5, 2), (36, .iload 5, 2), (38, .iload 4, 2), (40, .ifCond .ne 7, 3), (43, .iconst 0, 1), (44, .goto 5, 3), (47, .bipush 9, 2), (49, .if_icmp .gt 61, 3), (52, .aload_n 0, 1), (53, .iload_n 1, 1)]
theorem d_m_kinds_0 : t_m_kinds_0.all (fun q => decide (decode prog_10_method_85_code q.1 = .ok q.2)) = true := by decide +kernel
def t_m_kinds_1 : List (Nat × Instr × Nat) := [(54, .iload 4, 2), (56, .aload_n 0, 1), (57, .iload_n 1, 1), (58, .iconst 2, 1), (59, .invokevirtual 159, 3), (62, .iload 5, 2), (64, .invokevirtual 254, 3), (67, .istore 6, 2), (69, .iload 6, 2), (71, .ifCond .eq 18, 3), (74, .iload_n 3, 1), (75, .ifCond .ne 14, 3), (78, .bipush 10, 2), (80, .iload 4, 2), (82, .imul, 1), (83, .iload 5, 2), (85, .iadd, 1), (86, .goto 4, 3), (89, .iload_n 2, 1), (90, .istore_n 2, 1), (91, .iload_n 3, 1), (92, .iload 6, 2), (94, .ifCond .eq 7, 3), (97, .iconst 1, 1), (98, .goto 4, 3), (101, .iconst 0, 1), (102, .iadd, 1), (103, .istore_n 3, 1), (104, .iinc 5 1, 3), (107, .goto (-71), 3)]
theorem d_m_kinds_1 : t_m_kinds_1.all (fun q => decide (decode prog_10_method_85_code q.1 = .ok q.2)) = true := by decide +kernel
def t_m_kinds_2 : List (Nat × Instr × Nat) := [(110, .iload 4, 2), (112, .ifCond .ne 7, 3), (115, .iconst 3, 1), (116, .goto 7, 3), (119, .iload 4, 2), (121, .iconst 1, 1), (122, .iadd, 1), (123, .istore 4, 2), (125, .goto (-107), 3), (128, .iload_n 2, 1), (129, .bipush (-9), 2), (131, .if_icmp .ne 8, 3), (134, .bipush (-9), 2), (136, .goto 9, 3), (139, .aload_n 0, 1), (140, .iload_n 3, 1), (141, .iload_n 2, 1), (142, .invokevirtual 104, 3), (145, .ireturn, 1)]
theorem d_m_kinds_2 : t_m_kinds_2.all (fun q => decide (decode prog_10_method_85_code q.1 = .ok q.2)) = true := by decide +kernel
theorem cm_m_kinds : CM m_kinds 1 := ⟨by decide +kernel, lw_in (i := 1259) (by decide +kernel) (by decide +kernel), in_m, by decide +kernel⟩
theorem cv_m_kinds : CV m_kinds 1 8 := ⟨cm_m_kinds, lw_in (i := 1257) (by decide +kernel) (by decide +kernel), lw_in (i := 1258) (by decide +kernel) (by decide +kernel), ⟨_, rfl, rfl⟩, by decide⟩
abbrev m_rent : pY := (⟨"DoorRoundsModel", "rent", "(III)I"⟩, prog_10_method_88_code, 5, (Option.some Jvm.ClassFile.FieldType.int), 4, 99)
def t_m_rent_0 : List (Nat × Instr × Nat) := [(0, .iload_n 1, 1), (1, .invokestatic 82, 3), (4, .ifCond .eq 21, 3), (7, .aload_n 0, 1), (8, .iload_n 2, 1), (9, .invokevirtual 171, 3), (12, .ifCond .eq 13, 3), (15, .iload_n 3, 1), (16, .iconst 1, 1), (17, .bipush 60, 2), (19, .invokestatic 78, 3), (22, .ifCond .ne 5, 3), (25, .iconst (-1), 1), (26, .ireturn, 1), (27, .aload_n 0, 1), (28, .iload_n 1, 1), (29, .invokevirtual 258, 3), (32, .istore 4, 2), (34, .iload 4, 2), (36, .ifCond .ge 6, 3), (39, .iload 4, 2), (41, .ireturn, 1), (42, .aload_n 0, 1), (43, .iload_n 1, 1), (44, .iload_n 3, 1), (45, .invokevirtual 261, 3), (48, .aload_n 0, 1), (49, .getfield 62, 3), (52, .iload_n 2, 1), (53, .iaload, 1)]
theorem d_m_rent_0 : t_m_rent_0.all (fun q => decide (decode prog_10_method_88_code q.1 = .ok q.2)) = true := by decide +kernel
def t_m_rent_1 : List (Nat × Instr × Nat) := [(54, .ireturn, 1)]
theorem d_m_rent_1 : t_m_rent_1.all (fun q => decide (decode prog_10_method_88_code q.1 = .ok q.2)) = true := by decide +kernel
theorem cm_m_rent : CM m_rent 3 := ⟨by decide +kernel, lw_in (i := 1263) (by decide +kernel) (by decide +kernel), in_m, by decide +kernel⟩
theorem cv_m_rent : CV m_rent 3 8 := ⟨cm_m_rent, lw_in (i := 1261) (by decide +kernel) (by decide +kernel), lw_in (i := 1262) (by decide +kernel) (by decide +kernel), ⟨_, rfl, rfl⟩, by decide⟩
abbrev m_askedRents : pY := (⟨"DoorRoundsModel", "askedRents", "(I)I"⟩, prog_10_method_86_code, 3, (Option.some Jvm.ClassFile.FieldType.int), 1, 22)
def t_m_askedRents_0 : List (Nat × Instr × Nat) := [(0, .aload_n 0, 1), (1, .getfield 17, 3), (4, .iload_n 1, 1), (5, .iaload, 1), (6, .ifCond .ge 9, 3), (9, .aload_n 0, 1), (10, .iconst 1, 1), (11, .invokevirtual 86, 3), (14, .ireturn, 1), (15, .aload_n 0, 1), (16, .getfield 17, 3), (19, .iload_n 1, 1), (20, .iaload, 1), (21, .aload_n 0, 1), (22, .getfield 153, 3), (25, .if_icmp .eq 9, 3), (28, .aload_n 0, 1), (29, .iconst 5, 1), (30, .invokevirtual 86, 3), (33, .ireturn, 1), (34, .iconst 0, 1), (35, .istore_n 2, 1), (36, .iload_n 2, 1), (37, .aload_n 0, 1), (38, .getfield 153, 3), (41, .if_icmp .ge 30, 3), (44, .aload_n 0, 1), (45, .iload_n 1, 1), (46, .iload_n 2, 1), (47, .invokevirtual 100, 3)]
theorem d_m_askedRents_0 : t_m_askedRents_0.all (fun q => decide (decode prog_10_method_86_code q.1 = .ok q.2)) = true := by decide +kernel
def t_m_askedRents_1 : List (Nat × Instr × Nat) := [(50, .iconst 0, 1), (51, .bipush 99, 2), (53, .invokestatic 78, 3), (56, .ifCond .ne 9, 3), (59, .aload_n 0, 1), (60, .iconst 3, 1), (61, .invokevirtual 86, 3), (64, .ireturn, 1), (65, .iinc 2 1, 3), (68, .goto (-32), 3), (71, .iconst 0, 1), (72, .ireturn, 1)]
theorem d_m_askedRents_1 : t_m_askedRents_1.all (fun q => decide (decode prog_10_method_86_code q.1 = .ok q.2)) = true := by decide +kernel
theorem cm_m_askedRents : CM m_askedRents 1 := ⟨by decide +kernel, lw_in (i := 1267) (by decide +kernel) (by decide +kernel), in_m, by decide +kernel⟩
theorem cv_m_askedRents : CV m_askedRents 1 8 := ⟨cm_m_askedRents, lw_in (i := 1266) (by decide +kernel) (by decide +kernel), lw_insel (q := (⟨"DoorRoundsModel", "askedRents", "(I)I"⟩, 33)) (i := 55) (by decide +kernel) (by decide +kernel), ⟨_, rfl, rfl⟩, by decide⟩
abbrev m_setRents : pY := (⟨"DoorRoundsModel", "setRents", "(II)V"⟩, prog_10_method_87_code, 5, (Option.none : Option Jvm.ClassFile.FieldType), 3, 75)
def t_m_setRents_0 : List (Nat × Instr × Nat) := [(0, .aload_n 0, 1), (1, .invokevirtual 205, 3), (4, .iconst 0, 1), (5, .istore_n 3, 1), (6, .iload_n 3, 1), (7, .aload_n 0, 1), (8, .getfield 156, 3), (11, .if_icmp .ge 16, 3), (14, .aload_n 0, 1), (15, .getfield 62, 3), (18, .iload_n 3, 1), (19, .iconst 0, 1), (20, .iastore, 1), (21, .iinc 3 1, 3), (24, .goto (-18), 3), (27, .iconst 0, 1), (28, .istore_n 3, 1), (29, .iload_n 3, 1), (30, .iload_n 2, 1), (31, .if_icmp .ge 63, 3), (34, .iconst 0, 1), (35, .istore 4, 2), (37, .iload 4, 2), (39, .aload_n 0, 1), (40, .getfield 156, 3), (43, .if_icmp .ge 31, 3), (46, .aload_n 0, 1), (47, .getfield 62, 3), (50, .iload 4, 2), (52, .dup2, 1)]
theorem d_m_setRents_0 : t_m_setRents_0.all (fun q => decide (decode prog_10_method_87_code q.1 = .ok q.2)) = true := by decide +kernel
def t_m_setRents_1 : List (Nat × Instr × Nat) := [(53, .iaload, 1), (54, .aload_n 0, 1), (55, .iload_n 1, 1), (56, .aload_n 0, 1), (57, .getfield 38, 3), (60, .iload 4, 2), (62, .iaload, 1), (63, .invokevirtual 100, 3), (66, .iadd, 1), (67, .iastore, 1), (68, .iinc 4 1, 3), (71, .goto (-34), 3), (74, .aload_n 0, 1), (75, .aload_n 0, 1), (76, .getfield 162, 3), (79, .iload_n 3, 1), (80, .iadd, 1), (81, .aload_n 0, 1), (82, .getfield 165, 3), (85, .invokevirtual 208, 3), (88, .iinc 3 1, 3), (91, .goto (-62), 3), (94, .return_, 1)]
theorem d_m_setRents_1 : t_m_setRents_1.all (fun q => decide (decode prog_10_method_87_code q.1 = .ok q.2)) = true := by decide +kernel
theorem cm_m_setRents : CM m_setRents 2 := ⟨by decide +kernel, lw_in (i := 1271) (by decide +kernel) (by decide +kernel), in_m, by decide +kernel⟩
theorem cv_m_setRents : CV m_setRents 2 8 := ⟨cm_m_setRents, lw_in (i := 1270) (by decide +kernel) (by decide +kernel), lw_insel (q := (⟨"DoorRoundsModel", "setRents", "(II)V"⟩, 33)) (i := 56) (by decide +kernel) (by decide +kernel), ⟨_, rfl, rfl⟩, by decide⟩
abbrev m_dearest : pY := (⟨"DoorRoundsModel", "dearest", "(II)I"⟩, prog_10_method_89_code, 7, (Option.some Jvm.ClassFile.FieldType.int), 4, 99)
def t_m_dearest_0 : List (Nat × Instr × Nat) := [(0, .iload_n 1, 1), (1, .invokestatic 82, 3), (4, .ifCond .eq 13, 3), (7, .iload_n 2, 1), (8, .iconst 1, 1), (9, .bipush 60, 2), (11, .invokestatic 78, 3), (14, .ifCond .ne 5, 3), (17, .iconst (-1), 1), (18, .ireturn, 1), (19, .aload_n 0, 1), (20, .iload_n 1, 1), (21, .invokevirtual 258, 3), (24, .istore_n 3, 1), (25, .iload_n 3, 1), (26, .ifCond .ge 5, 3), (29, .iload_n 3, 1), (30, .ireturn, 1), (31, .aload_n 0, 1), (32, .iload_n 1, 1), (33, .iload_n 2, 1), (34, .invokevirtual 261, 3), (37, .iconst 0, 1), (38, .istore 4, 2), (40, .iconst 0, 1), (41, .istore 5, 2), (43, .iconst 0, 1), (44, .istore 6, 2), (46, .iload 6, 2), (48, .aload_n 0, 1)]
theorem d_m_dearest_0 : t_m_dearest_0.all (fun q => decide (decode prog_10_method_89_code q.1 = .ok q.2)) = true := by decide +kernel
def t_m_dearest_1 : List (Nat × Instr × Nat) := [(49, .getfield 156, 3), (52, .if_icmp .ge 47, 3), (55, .iload 4, 2), (57, .aload_n 0, 1), (58, .getfield 62, 3), (61, .iload 6, 2), (63, .iaload, 1), (64, .iadd, 1), (65, .istore 4, 2), (67, .aload_n 0, 1), (68, .getfield 62, 3), (71, .iload 6, 2), (73, .iaload, 1), (74, .aload_n 0, 1), (75, .getfield 62, 3), (78, .iload 5, 2), (80, .iaload, 1), (81, .if_icmp .le 8, 3), (84, .iload 6, 2), (86, .goto 5, 3), (89, .iload 5, 2), (91, .istore 5, 2), (93, .iinc 6 1, 3), (96, .goto (-50), 3), (99, .iload 4, 2), (101, .ifCond .ne 11, 3), (104, .aload_n 0, 1), (105, .iconst 4, 1), (106, .invokevirtual 86, 3), (109, .goto 20, 3)]
theorem d_m_dearest_1 : t_m_dearest_1.all (fun q => decide (decode prog_10_method_89_code q.1 = .ok q.2)) = true := by decide +kernel
def t_m_dearest_2 : List (Nat × Instr × Nat) := [(112, .aload_n 0, 1), (113, .aload_n 0, 1), (114, .getfield 62, 3), (117, .iload 5, 2), (119, .iaload, 1), (120, .i2l, 1), (121, .iload 4, 2), (123, .i2l, 1), (124, .iload 5, 2), (126, .invokevirtual 264, 3), (129, .ireturn, 1)]
theorem d_m_dearest_2 : t_m_dearest_2.all (fun q => decide (decode prog_10_method_89_code q.1 = .ok q.2)) = true := by decide +kernel
theorem cm_m_dearest : CM m_dearest 2 := ⟨by decide +kernel, lw_in (i := 1275) (by decide +kernel) (by decide +kernel), in_m, by decide +kernel⟩
theorem cv_m_dearest : CV m_dearest 2 8 := ⟨cm_m_dearest, lw_in (i := 1273) (by decide +kernel) (by decide +kernel), lw_in (i := 1274) (by decide +kernel) (by decide +kernel), ⟨_, rfl, rfl⟩, by decide⟩
abbrev m_part : pY := (⟨"DoorRoundsModel", "part", "(JJI)I"⟩, prog_10_method_6_code, 12, (Option.some Jvm.ClassFile.FieldType.int), 0, 0)
def t_m_part_0 : List (Nat × Instr × Nat) := [(0, .lload_n 1, 1), (1, .lstore 6, 2), (3, .lload_n 3, 1), (4, .lstore 8, 2), (6, .lload 8, 2), (8, .lconst 0, 1), (9, .lcmp, 1), (10, .ifCond .eq 21, 3), (13, .lload 6, 2), (15, .lload 8, 2), (17, .lrem, 1), (18, .lstore 10, 2), (20, .lload 8, 2), (22, .lstore 6, 2), (24, .lload 10, 2), (26, .lstore 8, 2), (28, .goto (-22), 3), (31, .aload_n 0, 1), (32, .lload_n 1, 1), (33, .lload 6, 2), (35, .ldiv, 1), (36, .putfield 75, 3), (39, .aload_n 0, 1), (40, .lload_n 3, 1), (41, .lload 6, 2), (43, .ldiv, 1), (44, .putfield 13, 3), (47, .iload 5, 2), (49, .ireturn, 1)]
theorem d_m_part_0 : t_m_part_0.all (fun q => decide (decode prog_10_method_6_code q.1 = .ok q.2)) = true := by decide +kernel
theorem cm_m_part : CM m_part 3 := ⟨by decide +kernel, lw_in (i := 1279) (by decide +kernel) (by decide +kernel), in_m, by decide +kernel⟩
theorem cv_m_part : CV m_part 3 8 := ⟨cm_m_part, lw_in (i := 1278) (by decide +kernel) (by decide +kernel), lw_insel (q := (⟨"DoorRoundsModel", "part", "(JJI)I"⟩, 33)) (i := 57) (by decide +kernel) (by decide +kernel), ⟨_, rfl, rfl⟩, by decide⟩
end
section
abbrev m_mends : pY := (⟨"DoorRoundsModel", "mends", "(II)I"⟩, prog_10_method_92_code, 4, (Option.some Jvm.ClassFile.FieldType.int), 4, 100)
def t_m_mends_0 : List (Nat × Instr × Nat) := [(0, .aload_n 0, 1), (1, .iload_n 1, 1), (2, .invokevirtual 194, 3), (5, .ifCond .eq 13, 3), (8, .iload_n 2, 1), (9, .iconst 1, 1), (10, .bipush 60, 2), (12, .invokestatic 78, 3), (15, .ifCond .ne 5, 3), (18, .iconst (-1), 1), (19, .ireturn, 1), (20, .aload_n 0, 1), (21, .getfield 165, 3), (24, .iload_n 1, 1), (25, .ishr, 1), (26, .iconst 1, 1), (27, .iand, 1), (28, .iconst 1, 1), (29, .if_icmp .ne 6, 3), (32, .bipush (-4), 2), (34, .ireturn, 1), (35, .aload_n 0, 1), (36, .invokevirtual 197, 3), (39, .iconst 3, 1), (40, .if_icmp .ne 6, 3), (43, .bipush (-2), 2), (45, .ireturn, 1), (46, .aload_n 0, 1), (47, .iload_n 2, 1), (48, .invokevirtual 271, 3)]
theorem d_m_mends_0 : t_m_mends_0.all (fun q => decide (decode prog_10_method_92_code q.1 = .ok q.2)) = true := by decide +kernel
def t_m_mends_1 : List (Nat × Instr × Nat) := [(51, .aload_n 0, 1), (52, .iload_n 1, 1), (53, .iload_n 2, 1), (54, .invokevirtual 275, 3), (57, .istore_n 3, 1), (58, .aload_n 0, 1), (59, .aload_n 0, 1), (60, .getfield 268, 3), (63, .iload_n 3, 1), (64, .invokevirtual 104, 3), (67, .ireturn, 1)]
theorem d_m_mends_1 : t_m_mends_1.all (fun q => decide (decode prog_10_method_92_code q.1 = .ok q.2)) = true := by decide +kernel
theorem cm_m_mends : CM m_mends 2 := ⟨by decide +kernel, lw_in (i := 1283) (by decide +kernel) (by decide +kernel), in_m, by decide +kernel⟩
theorem cv_m_mends : CV m_mends 2 8 := ⟨cm_m_mends, lw_in (i := 1281) (by decide +kernel) (by decide +kernel), lw_in (i := 1282) (by decide +kernel) (by decide +kernel), ⟨_, rfl, rfl⟩, by decide⟩
abbrev m_setPlans : pY := (⟨"DoorRoundsModel", "setPlans", "(I)V"⟩, prog_10_method_90_code, 4, (Option.none : Option Jvm.ClassFile.FieldType), 3, 75)
def t_m_setPlans_0 : List (Nat × Instr × Nat) := [(0, .aload_n 0, 1), (1, .invokevirtual 205, 3), (4, .iconst 0, 1), (5, .istore_n 2, 1), (6, .iload_n 2, 1), (7, .iload_n 1, 1), (8, .if_icmp .gt 56, 3), (11, .iconst 0, 1), (12, .istore_n 3, 1), (13, .iload_n 3, 1), (14, .aload_n 0, 1), (15, .getfield 156, 3), (18, .if_icmp .ge 26, 3), (21, .aload_n 0, 1), (22, .getfield 65, 3), (25, .bipush 7, 2), (27, .iload_n 2, 1), (28, .imul, 1), (29, .iload_n 3, 1), (30, .iadd, 1), (31, .aload_n 0, 1), (32, .getfield 38, 3), (35, .iload_n 3, 1), (36, .iaload, 1), (37, .iastore, 1), (38, .iinc 3 1, 3), (41, .goto (-28), 3), (44, .aload_n 0, 1), (45, .aload_n 0, 1), (46, .getfield 162, 3)]
theorem d_m_setPlans_0 : t_m_setPlans_0.all (fun q => decide (decode prog_10_method_90_code q.1 = .ok q.2)) = true := by decide +kernel
def t_m_setPlans_1 : List (Nat × Instr × Nat) := [(49, .iload_n 2, 1), (50, .iadd, 1), (51, .aload_n 0, 1), (52, .getfield 165, 3), (55, .invokevirtual 208, 3), (58, .iinc 2 1, 3), (61, .goto (-55), 3), (64, .return_, 1)]
theorem d_m_setPlans_1 : t_m_setPlans_1.all (fun q => decide (decode prog_10_method_90_code q.1 = .ok q.2)) = true := by decide +kernel
theorem cm_m_setPlans : CM m_setPlans 1 := ⟨by decide +kernel, lw_in (i := 1287) (by decide +kernel) (by decide +kernel), in_m, by decide +kernel⟩
theorem cv_m_setPlans : CV m_setPlans 1 8 := ⟨cm_m_setPlans, lw_in (i := 1286) (by decide +kernel) (by decide +kernel), lw_insel (q := (⟨"DoorRoundsModel", "setPlans", "(I)V"⟩, 33)) (i := 58) (by decide +kernel) (by decide +kernel), ⟨_, rfl, rfl⟩, by decide⟩
abbrev m_othersBy : pY := (⟨"DoorRoundsModel", "othersBy", "(II)I"⟩, prog_10_method_91_code, 6, (Option.some Jvm.ClassFile.FieldType.int), 3, 75)
def t_m_othersBy_0 : List (Nat × Instr × Nat) := [(0, .aload_n 0, 1), (1, .invokevirtual 205, 3), (4, .aload_n 0, 1), (5, .bipush (-9), 2), (7, .putfield 268, 3), (10, .iconst 0, 1), (11, .istore_n 3, 1), (12, .iconst 1, 1), (13, .istore 4, 2), (15, .iload 4, 2), (17, .iload_n 2, 1), (18, .if_icmp .gt 107, 3), (21, .aload_n 0, 1), (22, .aload_n 0, 1), (23, .getfield 162, 3), (26, .iload 4, 2), (28, .iadd, 1), (29, .iconst 1, 1), (30, .isub, 1), (31, .aload_n 0, 1), (32, .getfield 165, 3), (35, .iconst 1, 1), (36, .iload_n 1, 1), (37, .ishl, 1), (38, .ior, 1), (39, .invokevirtual 208, 3), (42, .iconst 0, 1), (43, .istore_n 3, 1), (44, .iconst 0, 1), (45, .istore 5, 2)]
theorem d_m_othersBy_0 : t_m_othersBy_0.all (fun q => decide (decode prog_10_method_91_code q.1 = .ok q.2)) = true := by decide +kernel
def t_m_othersBy_1 : List (Nat × Instr × Nat) := [(47, .iload 5, 2), (49, .aload_n 0, 1), (50, .getfield 156, 3), (53, .if_icmp .ge 40, 3), (56, .iload_n 3, 1), (57, .aload_n 0, 1), (58, .getfield 38, 3), (61, .iload 5, 2), (63, .iaload, 1), (64, .aload_n 0, 1), (65, .getfield 65, 3), (68, .bipush 7, 2), (70, .iload 4, 2), (72, .imul, 1), (73, .iload 5, 2), (75, .iadd, 1), (76, .iaload, 1), (77, .if_icmp .ne 7, 3), (80, .iconst 0, 1), (81, .goto 4, 3), (84, .iconst 1, 1), (85, .iadd, 1), (86, .istore_n 3, 1), (87, .iinc 5 1, 3), (90, .goto (-43), 3), (93, .aload_n 0, 1), (94, .iload_n 3, 1), (95, .ifCond .le 17, 3), (98, .aload_n 0, 1), (99, .getfield 268, 3)]
theorem d_m_othersBy_1 : t_m_othersBy_1.all (fun q => decide (decode prog_10_method_91_code q.1 = .ok q.2)) = true := by decide +kernel
def t_m_othersBy_2 : List (Nat × Instr × Nat) := [(102, .bipush (-9), 2), (104, .if_icmp .ne 8, 3), (107, .iload 4, 2), (109, .goto 7, 3), (112, .aload_n 0, 1), (113, .getfield 268, 3), (116, .putfield 268, 3), (119, .iinc 4 1, 3), (122, .goto (-107), 3), (125, .iload_n 3, 1), (126, .ireturn, 1)]
theorem d_m_othersBy_2 : t_m_othersBy_2.all (fun q => decide (decode prog_10_method_91_code q.1 = .ok q.2)) = true := by decide +kernel
theorem cm_m_othersBy : CM m_othersBy 2 := ⟨by decide +kernel, lw_in (i := 1291) (by decide +kernel) (by decide +kernel), in_m, by decide +kernel⟩
theorem cv_m_othersBy : CV m_othersBy 2 8 := ⟨cm_m_othersBy, lw_in (i := 1290) (by decide +kernel) (by decide +kernel), lw_insel (q := (⟨"DoorRoundsModel", "othersBy", "(II)I"⟩, 33)) (i := 59) (by decide +kernel) (by decide +kernel), ⟨_, rfl, rfl⟩, by decide⟩
abbrev m_worst : pY := (⟨"DoorRoundsModel", "worst", "(I)I"⟩, prog_10_method_93_code, 6, (Option.some Jvm.ClassFile.FieldType.int), 4, 100)
def t_m_worst_0 : List (Nat × Instr × Nat) := [(0, .iload_n 1, 1), (1, .iconst 1, 1), (2, .bipush 60, 2), (4, .invokestatic 78, 3), (7, .ifCond .ne 5, 3), (10, .iconst (-1), 1), (11, .ireturn, 1), (12, .aload_n 0, 1), (13, .getfield 153, 3), (16, .ifCond .ne 6, 3), (19, .bipush (-4), 2), (21, .ireturn, 1), (22, .aload_n 0, 1), (23, .invokevirtual 197, 3), (26, .iconst 3, 1), (27, .if_icmp .ne 6, 3), (30, .bipush (-2), 2), (32, .ireturn, 1), (33, .aload_n 0, 1), (34, .iload_n 1, 1), (35, .invokevirtual 271, 3), (38, .iconst 0, 1), (39, .istore_n 2, 1), (40, .iconst (-1), 1), (41, .istore_n 3, 1), (42, .iconst 0, 1), (43, .istore 4, 2), (45, .iload 4, 2), (47, .aload_n 0, 1), (48, .getfield 153, 3)]
theorem d_m_worst_0 : t_m_worst_0.all (fun q => decide (decode prog_10_method_93_code q.1 = .ok q.2)) = true := by decide +kernel
def t_m_worst_1 : List (Nat × Instr × Nat) := [(51, .if_icmp .ge 61, 3), (54, .aload_n 0, 1), (55, .getfield 165, 3), (58, .iload 4, 2), (60, .ishr, 1), (61, .iconst 1, 1), (62, .iand, 1), (63, .iconst 1, 1), (64, .if_icmp .ne 7, 3), (67, .iconst (-1), 1), (68, .goto 10, 3), (71, .aload_n 0, 1), (72, .iload 4, 2), (74, .iload_n 1, 1), (75, .invokevirtual 275, 3), (78, .istore 5, 2), (80, .iload 5, 2), (82, .iload_n 3, 1), (83, .if_icmp .le 8, 3), (86, .iload 4, 2), (88, .goto 4, 3), (91, .iload_n 2, 1), (92, .istore_n 2, 1), (93, .iload 5, 2), (95, .iload_n 3, 1), (96, .if_icmp .le 8, 3), (99, .iload 5, 2), (101, .goto 4, 3), (104, .iload_n 3, 1), (105, .istore_n 3, 1)]
theorem d_m_worst_1 : t_m_worst_1.all (fun q => decide (decode prog_10_method_93_code q.1 = .ok q.2)) = true := by decide +kernel
def t_m_worst_2 : List (Nat × Instr × Nat) := [(106, .iinc 4 1, 3), (109, .goto (-64), 3), (112, .aload_n 0, 1), (113, .iload_n 3, 1), (114, .iload_n 2, 1), (115, .invokevirtual 104, 3), (118, .ireturn, 1)]
theorem d_m_worst_2 : t_m_worst_2.all (fun q => decide (decode prog_10_method_93_code q.1 = .ok q.2)) = true := by decide +kernel
theorem cm_m_worst : CM m_worst 1 := ⟨by decide +kernel, lw_in (i := 1295) (by decide +kernel) (by decide +kernel), in_m, by decide +kernel⟩
theorem cv_m_worst : CV m_worst 1 8 := ⟨cm_m_worst, lw_in (i := 1293) (by decide +kernel) (by decide +kernel), lw_in (i := 1294) (by decide +kernel) (by decide +kernel), ⟨_, rfl, rfl⟩, by decide⟩
abbrev m_image : pY := (⟨"DoorRoundsModel", "image", "(I)I"⟩, prog_10_method_94_code, 3, (Option.some Jvm.ClassFile.FieldType.int), 3, 65)
def t_m_image_0 : List (Nat × Instr × Nat) := [(0, .iload_n 1, 1), (1, .invokestatic 82, 3), (4, .ifCond .ne 5, 3), (7, .iconst (-1), 1), (8, .ireturn, 1), (9, .aload_n 0, 1), (10, .getfield 153, 3), (13, .ifCond .ne 6, 3), (16, .bipush (-4), 2), (18, .ireturn, 1), (19, .aload_n 0, 1), (20, .iload_n 1, 1), (21, .aload_n 0, 1), (22, .getfield 156, 3), (25, .iconst 2, 1), (26, .iadd, 1), (27, .invokevirtual 212, 3), (30, .pop, 1), (31, .aload_n 0, 1), (32, .iload_n 1, 1), (33, .iconst 0, 1), (34, .aload_n 0, 1), (35, .getfield 162, 3), (38, .invokevirtual 93, 3), (41, .aload_n 0, 1), (42, .iload_n 1, 1), (43, .iconst 1, 1), (44, .aload_n 0, 1), (45, .getfield 165, 3), (48, .invokevirtual 93, 3)]
theorem d_m_image_0 : t_m_image_0.all (fun q => decide (decode prog_10_method_94_code q.1 = .ok q.2)) = true := by decide +kernel
def t_m_image_1 : List (Nat × Instr × Nat) := [(51, .iconst 0, 1), (52, .istore_n 2, 1), (53, .iload_n 2, 1), (54, .aload_n 0, 1), (55, .getfield 156, 3), (58, .if_icmp .ge 23, 3), (61, .aload_n 0, 1), (62, .iload_n 1, 1), (63, .iconst 2, 1), (64, .iload_n 2, 1), (65, .iadd, 1), (66, .aload_n 0, 1), (67, .getfield 35, 3), (70, .iload_n 2, 1), (71, .iaload, 1), (72, .invokevirtual 93, 3), (75, .iinc 2 1, 3), (78, .goto (-25), 3), (81, .aload_n 0, 1), (82, .getfield 156, 3), (85, .iconst 2, 1), (86, .iadd, 1), (87, .ireturn, 1)]
theorem d_m_image_1 : t_m_image_1.all (fun q => decide (decode prog_10_method_94_code q.1 = .ok q.2)) = true := by decide +kernel
theorem cm_m_image : CM m_image 1 := ⟨by decide +kernel, lw_in (i := 1299) (by decide +kernel) (by decide +kernel), in_m, by decide +kernel⟩
theorem cv_m_image : CV m_image 1 8 := ⟨cm_m_image, lw_in (i := 1297) (by decide +kernel) (by decide +kernel), lw_in (i := 1298) (by decide +kernel) (by decide +kernel), ⟨_, rfl, rfl⟩, by decide⟩
abbrev m_gone : pY := (⟨"DoorRoundsModel", "gone", "(I)I"⟩, prog_10_method_96_code, 3, (Option.some Jvm.ClassFile.FieldType.int), 3, 69)
def t_m_gone_0 : List (Nat × Instr × Nat) := [(0, .iload_n 1, 1), (1, .invokestatic 82, 3), (4, .ifCond .ne 5, 3), (7, .iconst (-1), 1), (8, .ireturn, 1), (9, .aload_n 0, 1), (10, .getfield 153, 3), (13, .ifCond .ne 6, 3), (16, .bipush (-4), 2), (18, .ireturn, 1), (19, .aload_n 0, 1), (20, .getfield 17, 3), (23, .iload_n 1, 1), (24, .iaload, 1), (25, .ifCond .ge 9, 3), (28, .aload_n 0, 1), (29, .iconst 1, 1), (30, .invokevirtual 86, 3), (33, .ireturn, 1), (34, .aload_n 0, 1), (35, .getfield 17, 3), (38, .iload_n 1, 1), (39, .iaload, 1), (40, .aload_n 0, 1), (41, .getfield 156, 3), (44, .iconst 2, 1), (45, .iadd, 1), (46, .if_icmp .eq 9, 3), (49, .aload_n 0, 1), (50, .iconst 5, 1)]
theorem d_m_gone_0 : t_m_gone_0.all (fun q => decide (decode prog_10_method_96_code q.1 = .ok q.2)) = true := by decide +kernel
def t_m_gone_1 : List (Nat × Instr × Nat) := [(51, .invokevirtual 86, 3), (54, .ireturn, 1), (55, .aload_n 0, 1), (56, .iload_n 1, 1), (57, .invokevirtual 278, 3), (60, .ifCond .ne 9, 3), (63, .aload_n 0, 1), (64, .iconst 3, 1), (65, .invokevirtual 86, 3), (68, .ireturn, 1), (69, .aload_n 0, 1), (70, .aload_n 0, 1), (71, .iload_n 1, 1), (72, .iconst 0, 1), (73, .invokevirtual 100, 3), (76, .putfield 162, 3), (79, .aload_n 0, 1), (80, .aload_n 0, 1), (81, .iload_n 1, 1), (82, .iconst 1, 1), (83, .invokevirtual 100, 3), (86, .putfield 165, 3), (89, .iconst 0, 1), (90, .istore_n 2, 1), (91, .iload_n 2, 1), (92, .aload_n 0, 1), (93, .getfield 156, 3), (96, .if_icmp .ge 23, 3), (99, .aload_n 0, 1), (100, .getfield 35, 3)]
theorem d_m_gone_1 : t_m_gone_1.all (fun q => decide (decode prog_10_method_96_code q.1 = .ok q.2)) = true := by decide +kernel
def t_m_gone_2 : List (Nat × Instr × Nat) := [(103, .iload_n 2, 1), (104, .aload_n 0, 1), (105, .iload_n 1, 1), (106, .iconst 2, 1), (107, .iload_n 2, 1), (108, .iadd, 1), (109, .invokevirtual 100, 3), (112, .iastore, 1), (113, .iinc 2 1, 3), (116, .goto (-25), 3), (119, .aload_n 0, 1), (120, .getfield 162, 3), (123, .ireturn, 1)]
theorem d_m_gone_2 : t_m_gone_2.all (fun q => decide (decode prog_10_method_96_code q.1 = .ok q.2)) = true := by decide +kernel
theorem cm_m_gone : CM m_gone 1 := ⟨by decide +kernel, lw_in (i := 1303) (by decide +kernel) (by decide +kernel), in_m, by decide +kernel⟩
theorem cv_m_gone : CV m_gone 1 8 := ⟨cm_m_gone, lw_in (i := 1301) (by decide +kernel) (by decide +kernel), lw_in (i := 1302) (by decide +kernel) (by decide +kernel), ⟨_, rfl, rfl⟩, by decide⟩
abbrev m_isImage : pY := (⟨"DoorRoundsModel", "isImage", "(I)Z"⟩, prog_10_method_95_code, 7, (Option.some Jvm.ClassFile.FieldType.boolean), 2, 43)
def t_m_isImage_0 : List (Nat × Instr × Nat) := [(0, .aload_n 0, 1), (1, .iload_n 1, 1), (2, .iconst 1, 1), (3, .invokevirtual 100, 3), (6, .istore_n 2, 1), (7, .aload_n 0, 1), (8, .iload_n 1, 1), (9, .iconst 0, 1), (10, .invokevirtual 100, 3), (13, .iconst 0, 1), (14, .ldc 204, 2), (16, .invokestatic 78, 3), (19, .ifCond .eq 31, 3), (22, .iload_n 2, 1), (23, .iconst 0, 1), (24, .iconst 1, 1), (25, .aload_n 0, 1), (26, .getfield 153, 3), (29, .ishl, 1), (30, .iconst 1, 1), (31, .isub, 1), (32, .invokestatic 78, 3), (35, .ifCond .eq 15, 3), (38, .iload_n 2, 1), (39, .invokestatic 251, 3), (42, .iconst 3, 1), (43, .if_icmp .gt 7, 3), (46, .iconst 1, 1), (47, .goto 4, 3), (50, .iconst 0, 1)]
theorem d_m_isImage_0 : t_m_isImage_0.all (fun q => decide (decode prog_10_method_95_code q.1 = .ok q.2)) = true := by decide +kernel
def t_m_isImage_1 : List (Nat × Instr × Nat) := [(51, .istore_n 3, 1), (52, .iconst 0, 1), (53, .istore 4, 2), (55, .iconst 0, 1), (56, .istore 5, 2), (58, .iload 5, 2), (60, .aload_n 0, 1), (61, .getfield 156, 3), (64, .if_icmp .ge 66, 3), (67, .iload_n 3, 1), (68, .ifCond .eq 62, 3), (71, .aload_n 0, 1), (72, .iload_n 1, 1), (73, .iconst 2, 1), (74, .iload 5, 2), (76, .iadd, 1), (77, .invokevirtual 100, 3), (80, .istore 6, 2), (82, .aload_n 0, 1), (83, .iload 6, 2), (85, .invokevirtual 194, 3), (88, .ifCond .eq 17, 3), (91, .iload 4, 2), (93, .iload 6, 2), (95, .ishr, 1), (96, .iconst 1, 1), (97, .iand, 1), (98, .ifCond .ne 7, 3), (101, .iconst 1, 1), (102, .goto 4, 3)]
theorem d_m_isImage_1 : t_m_isImage_1.all (fun q => decide (decode prog_10_method_95_code q.1 = .ok q.2)) = true := by decide +kernel
def t_m_isImage_2 : List (Nat × Instr × Nat) := [(105, .iconst 0, 1), (106, .istore_n 3, 1), (107, .iload 4, 2), (109, .iload_n 3, 1), (110, .ifCond .eq 10, 3), (113, .iconst 1, 1), (114, .iload 6, 2), (116, .ishl, 1), (117, .goto 4, 3), (120, .iconst 0, 1), (121, .ior, 1), (122, .istore 4, 2), (124, .iinc 5 1, 3), (127, .goto (-69), 3), (130, .iload_n 3, 1), (131, .ireturn, 1)]
theorem d_m_isImage_2 : t_m_isImage_2.all (fun q => decide (decode prog_10_method_95_code q.1 = .ok q.2)) = true := by decide +kernel
theorem cm_m_isImage : CM m_isImage 1 := ⟨by decide +kernel, lw_in (i := 1307) (by decide +kernel) (by decide +kernel), in_m, by decide +kernel⟩
theorem cv_m_isImage : CV m_isImage 1 8 := ⟨cm_m_isImage, lw_in (i := 1306) (by decide +kernel) (by decide +kernel), lw_insel (q := (⟨"DoorRoundsModel", "isImage", "(I)Z"⟩, 33)) (i := 60) (by decide +kernel) (by decide +kernel), ⟨_, rfl, rfl⟩, by decide⟩
abbrev m_asked : pY := (⟨"DoorRoundsModel", "asked", "()I"⟩, prog_10_method_97_code, 1, (Option.some Jvm.ClassFile.FieldType.int), 0, 0)
def t_m_asked_0 : List (Nat × Instr × Nat) := [(0, .aload_n 0, 1), (1, .getfield 72, 3), (4, .ireturn, 1)]
theorem d_m_asked_0 : t_m_asked_0.all (fun q => decide (decode prog_10_method_97_code q.1 = .ok q.2)) = true := by decide +kernel
theorem cm_m_asked : CM m_asked 0 := ⟨by decide +kernel, lw_in (i := 1311) (by decide +kernel) (by decide +kernel), in_m, by decide +kernel⟩
theorem cv_m_asked : CV m_asked 0 8 := ⟨cm_m_asked, lw_in (i := 1309) (by decide +kernel) (by decide +kernel), lw_in (i := 1310) (by decide +kernel) (by decide +kernel), ⟨_, rfl, rfl⟩, by decide⟩
abbrev m_upper : pY := (⟨"DoorRoundsModel", "upper", "()J"⟩, prog_10_method_98_code, 1, (Option.some Jvm.ClassFile.FieldType.long), 0, 0)
def t_m_upper_0 : List (Nat × Instr × Nat) := [(0, .aload_n 0, 1), (1, .getfield 75, 3), (4, .lreturn, 1)]
theorem d_m_upper_0 : t_m_upper_0.all (fun q => decide (decode prog_10_method_98_code q.1 = .ok q.2)) = true := by decide +kernel
theorem cm_m_upper : CM m_upper 0 := ⟨by decide +kernel, lw_in (i := 1315) (by decide +kernel) (by decide +kernel), in_m, by decide +kernel⟩
theorem cv_m_upper : CV m_upper 0 8 := ⟨cm_m_upper, lw_in (i := 1313) (by decide +kernel) (by decide +kernel), lw_in (i := 1314) (by decide +kernel) (by decide +kernel), ⟨_, rfl, rfl⟩, by decide⟩
abbrev m_lower : pY := (⟨"DoorRoundsModel", "lower", "()J"⟩, prog_10_method_99_code, 1, (Option.some Jvm.ClassFile.FieldType.long), 0, 0)
def t_m_lower_0 : List (Nat × Instr × Nat) := [(0, .aload_n 0, 1), (1, .getfield 13, 3), (4, .lreturn, 1)]
theorem d_m_lower_0 : t_m_lower_0.all (fun q => decide (decode prog_10_method_99_code q.1 = .ok q.2)) = true := by decide +kernel
theorem cm_m_lower : CM m_lower 0 := ⟨by decide +kernel, lw_in (i := 1319) (by decide +kernel) (by decide +kernel), in_m, by decide +kernel⟩
theorem cv_m_lower : CV m_lower 0 8 := ⟨cm_m_lower, lw_in (i := 1317) (by decide +kernel) (by decide +kernel), lw_in (i := 1318) (by decide +kernel) (by decide +kernel), ⟨_, rfl, rfl⟩, by decide⟩
abbrev m_count : pY := (⟨"DoorRoundsModel", "count", "(I)I"⟩, prog_10_method_101_code, 2, (Option.some Jvm.ClassFile.FieldType.int), 3, 66)
def t_m_count_0 : List (Nat × Instr × Nat) := [(0, .iload_n 1, 1), (1, .iconst 0, 1), (2, .bipush 7, 2), (4, .invokestatic 78, 3), (7, .ifCond .eq 11, 3), (10, .aload_n 0, 1), (11, .iload_n 1, 1), (12, .invokevirtual 281, 3), (15, .goto 4, 3), (18, .iconst (-1), 1), (19, .ireturn, 1)]
theorem d_m_count_0 : t_m_count_0.all (fun q => decide (decode prog_10_method_101_code q.1 = .ok q.2)) = true := by decide +kernel
theorem cm_m_count : CM m_count 1 := ⟨by decide +kernel, lw_in (i := 1323) (by decide +kernel) (by decide +kernel), in_m, by decide +kernel⟩
theorem cv_m_count : CV m_count 1 8 := ⟨cm_m_count, lw_in (i := 1321) (by decide +kernel) (by decide +kernel), lw_in (i := 1322) (by decide +kernel) (by decide +kernel), ⟨_, rfl, rfl⟩, by decide⟩
abbrev m_counts : pY := (⟨"DoorRoundsModel", "counts", "(I)I"⟩, prog_10_method_100_code, 4, (Option.some Jvm.ClassFile.FieldType.int), 2, 43)
def t_m_counts_0 : List (Nat × Instr × Nat) := [(0, .iconst 0, 1), (1, .istore_n 2, 1), (2, .iconst 0, 1), (3, .istore_n 3, 1), (4, .iload_n 3, 1), (5, .bipush 7, 2), (7, .if_icmp .ge 79, 3), (10, .iload_n 2, 1), (11, .iload_n 1, 1), (12, .iconst 3, 1), (13, .if_icmp .ne 19, 3), (16, .iload_n 3, 1), (17, .aload_n 0, 1), (18, .getfield 156, 3), (21, .if_icmp .ge 11, 3), (24, .aload_n 0, 1), (25, .iload_n 3, 1), (26, .invokevirtual 185, 3), (29, .ifCond .ne 44, 3), (32, .iload_n 1, 1), (33, .bipush 6, 2), (35, .if_icmp .ne 18, 3), (38, .iload_n 3, 1), (39, .bipush 6, 2), (41, .if_icmp .ge 12, 3), (44, .aload_n 0, 1), (45, .getfield 17, 3), (48, .iload_n 3, 1), (49, .iaload, 1), (50, .ifCond .ge 23, 3)]
theorem d_m_counts_0 : t_m_counts_0.all (fun q => decide (decode prog_10_method_100_code q.1 = .ok q.2)) = true := by decide +kernel
def t_m_counts_1 : List (Nat × Instr × Nat) := [(53, .iload_n 1, 1), (54, .bipush 7, 2), (56, .if_icmp .ne 21, 3), (59, .iload_n 3, 1), (60, .iconst 4, 1), (61, .if_icmp .ge 16, 3), (64, .aload_n 0, 1), (65, .getfield 26, 3), (68, .iload_n 3, 1), (69, .iaload, 1), (70, .ifCond .lt 7, 3), (73, .iconst 1, 1), (74, .goto 4, 3), (77, .iconst 0, 1), (78, .iadd, 1), (79, .istore_n 2, 1), (80, .iinc 3 1, 3), (83, .goto (-79), 3), (86, .iload_n 1, 1), (87, .tableswitch 62 0 5 #[37, 42, 47, 62, 52, 57], 37), (124, .aload_n 0, 1), (125, .getfield 153, 3), (128, .ireturn, 1), (129, .aload_n 0, 1), (130, .getfield 156, 3), (133, .ireturn, 1), (134, .aload_n 0, 1), (135, .getfield 162, 3), (138, .ireturn, 1), (139, .aload_n 0, 1)]
theorem d_m_counts_1 : t_m_counts_1.all (fun q => decide (decode prog_10_method_100_code q.1 = .ok q.2)) = true := by decide +kernel
def t_m_counts_2 : List (Nat × Instr × Nat) := [(140, .invokevirtual 197, 3), (143, .ireturn, 1), (144, .aload_n 0, 1), (145, .getfield 168, 3), (148, .ireturn, 1), (149, .iload_n 2, 1), (150, .ireturn, 1)]
theorem d_m_counts_2 : t_m_counts_2.all (fun q => decide (decode prog_10_method_100_code q.1 = .ok q.2)) = true := by decide +kernel
theorem cm_m_counts : CM m_counts 1 := ⟨by decide +kernel, lw_in (i := 1327) (by decide +kernel) (by decide +kernel), in_m, by decide +kernel⟩
theorem cv_m_counts : CV m_counts 1 8 := ⟨cm_m_counts, lw_in (i := 1326) (by decide +kernel) (by decide +kernel), lw_insel (q := (⟨"DoorRoundsModel", "counts", "(I)I"⟩, 33)) (i := 61) (by decide +kernel) (by decide +kernel), ⟨_, rfl, rfl⟩, by decide⟩
abbrev m_finding : pY := (⟨"DoorRoundsModel", "finding", "()I"⟩, prog_10_method_102_code, 1, (Option.some Jvm.ClassFile.FieldType.int), 0, 0)
def t_m_finding_0 : List (Nat × Instr × Nat) := [(0, .aload_n 0, 1), (1, .getfield 68, 3), (4, .ireturn, 1)]
theorem d_m_finding_0 : t_m_finding_0.all (fun q => decide (decode prog_10_method_102_code q.1 = .ok q.2)) = true := by decide +kernel
theorem cm_m_finding : CM m_finding 0 := ⟨by decide +kernel, lw_in (i := 1331) (by decide +kernel) (by decide +kernel), in_m, by decide +kernel⟩
theorem cv_m_finding : CV m_finding 0 8 := ⟨cm_m_finding, lw_in (i := 1329) (by decide +kernel) (by decide +kernel), lw_in (i := 1330) (by decide +kernel) (by decide +kernel), ⟨_, rfl, rfl⟩, by decide⟩
abbrev m_findings : pY := (⟨"DoorRoundsModel", "findings", "(I)I"⟩, prog_10_method_103_code, 2, (Option.some Jvm.ClassFile.FieldType.int), 1, 22)
def t_m_findings_0 : List (Nat × Instr × Nat) := [(0, .iload_n 1, 1), (1, .iconst 1, 1), (2, .iconst 5, 1), (3, .invokestatic 78, 3), (6, .ifCond .eq 12, 3), (9, .aload_n 0, 1), (10, .getfield 7, 3), (13, .iload_n 1, 1), (14, .iaload, 1), (15, .goto 4, 3), (18, .iconst (-1), 1), (19, .ireturn, 1)]
theorem d_m_findings_0 : t_m_findings_0.all (fun q => decide (decode prog_10_method_103_code q.1 = .ok q.2)) = true := by decide +kernel
theorem cm_m_findings : CM m_findings 1 := ⟨by decide +kernel, lw_in (i := 1335) (by decide +kernel) (by decide +kernel), in_m, by decide +kernel⟩
theorem cv_m_findings : CV m_findings 1 8 := ⟨cm_m_findings, lw_in (i := 1333) (by decide +kernel) (by decide +kernel), lw_in (i := 1334) (by decide +kernel) (by decide +kernel), ⟨_, rfl, rfl⟩, by decide⟩
abbrev m_digest : pY := (⟨"DoorRoundsModel", "digest", "()J"⟩, prog_10_method_106_code, 3, (Option.some Jvm.ClassFile.FieldType.long), 3, 66)
def t_m_digest_0 : List (Nat × Instr × Nat) := [(0, .aload_n 0, 1), (1, .ldc2_w 292, 3), (4, .putfield 286, 3), (7, .iconst 0, 1), (8, .istore_n 1, 1), (9, .iload_n 1, 1), (10, .bipush 7, 2), (12, .if_icmp .gt 18, 3), (15, .aload_n 0, 1), (16, .aload_n 0, 1), (17, .iload_n 1, 1), (18, .invokevirtual 281, 3), (21, .invokevirtual 289, 3), (24, .iinc 1 1, 3), (27, .goto (-18), 3), (30, .aload_n 0, 1), (31, .invokevirtual 294, 3), (34, .iconst 0, 1), (35, .istore_n 1, 1), (36, .iload_n 1, 1), (37, .bipush 6, 2), (39, .if_icmp .ge 60, 3), (42, .aload_n 0, 1), (43, .aload_n 0, 1), (44, .getfield 17, 3), (47, .iload_n 1, 1), (48, .iaload, 1), (49, .ifCond .ge 7, 3), (52, .iconst (-1), 1), (53, .goto 9, 3)]
theorem d_m_digest_0 : t_m_digest_0.all (fun q => decide (decode prog_10_method_106_code q.1 = .ok q.2)) = true := by decide +kernel
def t_m_digest_1 : List (Nat × Instr × Nat) := [(56, .aload_n 0, 1), (57, .getfield 17, 3), (60, .iload_n 1, 1), (61, .iaload, 1), (62, .invokevirtual 289, 3), (65, .iconst 0, 1), (66, .istore_n 2, 1), (67, .iload_n 2, 1), (68, .aload_n 0, 1), (69, .getfield 17, 3), (72, .iload_n 1, 1), (73, .iaload, 1), (74, .if_icmp .ge 19, 3), (77, .aload_n 0, 1), (78, .aload_n 0, 1), (79, .iload_n 1, 1), (80, .iload_n 2, 1), (81, .invokevirtual 100, 3), (84, .invokevirtual 289, 3), (87, .iinc 2 1, 3), (90, .goto (-23), 3), (93, .iinc 1 1, 3), (96, .goto (-60), 3), (99, .iconst 0, 1), (100, .istore_n 1, 1), (101, .iload_n 1, 1), (102, .iconst 4, 1), (103, .if_icmp .ge 65, 3), (106, .aload_n 0, 1), (107, .aload_n 0, 1)]
theorem d_m_digest_1 : t_m_digest_1.all (fun q => decide (decode prog_10_method_106_code q.1 = .ok q.2)) = true := by decide +kernel
def t_m_digest_2 : List (Nat × Instr × Nat) := [(108, .getfield 26, 3), (111, .iload_n 1, 1), (112, .iaload, 1), (113, .ifCond .ge 7, 3), (116, .iconst (-1), 1), (117, .goto 9, 3), (120, .aload_n 0, 1), (121, .getfield 26, 3), (124, .iload_n 1, 1), (125, .iaload, 1), (126, .invokevirtual 289, 3), (129, .iconst 0, 1), (130, .istore_n 2, 1), (131, .iload_n 2, 1), (132, .aload_n 0, 1), (133, .getfield 26, 3), (136, .iload_n 1, 1), (137, .iaload, 1), (138, .if_icmp .ge 24, 3), (141, .aload_n 0, 1), (142, .aload_n 0, 1), (143, .getfield 29, 3), (146, .bipush 100, 2), (148, .iload_n 1, 1), (149, .imul, 1), (150, .iload_n 2, 1), (151, .iadd, 1), (152, .iaload, 1), (153, .invokevirtual 289, 3), (156, .iinc 2 1, 3)]
theorem d_m_digest_2 : t_m_digest_2.all (fun q => decide (decode prog_10_method_106_code q.1 = .ok q.2)) = true := by decide +kernel
def t_m_digest_3 : List (Nat × Instr × Nat) := [(159, .goto (-28), 3), (162, .iinc 1 1, 3), (165, .goto (-64), 3), (168, .aload_n 0, 1), (169, .getfield 286, 3), (172, .lreturn, 1)]
theorem d_m_digest_3 : t_m_digest_3.all (fun q => decide (decode prog_10_method_106_code q.1 = .ok q.2)) = true := by decide +kernel
theorem cm_m_digest : CM m_digest 0 := ⟨by decide +kernel, lw_in (i := 1339) (by decide +kernel) (by decide +kernel), in_m, by decide +kernel⟩
theorem cv_m_digest : CV m_digest 0 8 := ⟨cm_m_digest, lw_in (i := 1337) (by decide +kernel) (by decide +kernel), lw_in (i := 1338) (by decide +kernel) (by decide +kernel), ⟨_, rfl, rfl⟩, by decide⟩
abbrev m_mix : pY := (⟨"DoorRoundsModel", "mix", "(I)V"⟩, prog_10_method_104_code, 2, (Option.none : Option Jvm.ClassFile.FieldType), 0, 0)
def t_m_mix_0 : List (Nat × Instr × Nat) := [(0, .aload_n 0, 1), (1, .ldc2_w 284, 3), (4, .aload_n 0, 1), (5, .getfield 286, 3), (8, .lmul, 1), (9, .iload_n 1, 1), (10, .i2l, 1), (11, .ladd, 1), (12, .putfield 286, 3), (15, .return_, 1)]
theorem d_m_mix_0 : t_m_mix_0.all (fun q => decide (decode prog_10_method_104_code q.1 = .ok q.2)) = true := by decide +kernel
theorem cm_m_mix : CM m_mix 1 := ⟨by decide +kernel, lw_in (i := 1344) (by decide +kernel) (by decide +kernel), in_m, by decide +kernel⟩
theorem cv_m_mix : CV m_mix 1 8 := ⟨cm_m_mix, lw_in (i := 1343) (by decide +kernel) (by decide +kernel), lw_insel (q := (⟨"DoorRoundsModel", "mix", "(I)V"⟩, 33)) (i := 62) (by decide +kernel) (by decide +kernel), ⟨_, rfl, rfl⟩, by decide⟩
abbrev m_mixSquare : pY := (⟨"DoorRoundsModel", "mixSquare", "()V"⟩, prog_10_method_105_code, 3, (Option.none : Option Jvm.ClassFile.FieldType), 2, 44)
def t_m_mixSquare_0 : List (Nat × Instr × Nat) := [(0, .iconst 0, 1), (1, .istore_n 1, 1), (2, .iload_n 1, 1), (3, .aload_n 0, 1), (4, .getfield 156, 3), (7, .if_icmp .ge 32, 3), (10, .iconst 0, 1), (11, .istore_n 2, 1), (12, .iload_n 2, 1), (13, .iconst 5, 1), (14, .if_icmp .gt 19, 3), (17, .aload_n 0, 1), (18, .aload_n 0, 1), (19, .iload_n 1, 1), (20, .iload_n 2, 1), (21, .invokevirtual 174, 3), (24, .invokevirtual 289, 3), (27, .iinc 2 1, 3), (30, .goto (-18), 3), (33, .iinc 1 1, 3), (36, .goto (-34), 3), (39, .aload_n 0, 1), (40, .aload_n 0, 1), (41, .getfield 165, 3), (44, .invokevirtual 289, 3), (47, .iconst 0, 1), (48, .istore_n 1, 1), (49, .iload_n 1, 1), (50, .iconst 3, 1), (51, .aload_n 0, 1)]
theorem d_m_mixSquare_0 : t_m_mixSquare_0.all (fun q => decide (decode prog_10_method_105_code q.1 = .ok q.2)) = true := by decide +kernel
def t_m_mixSquare_1 : List (Nat × Instr × Nat) := [(52, .getfield 168, 3), (55, .imul, 1), (56, .if_icmp .ge 19, 3), (59, .aload_n 0, 1), (60, .aload_n 0, 1), (61, .getfield 59, 3), (64, .iload_n 1, 1), (65, .iaload, 1), (66, .invokevirtual 289, 3), (69, .iinc 1 1, 3), (72, .goto (-23), 3), (75, .iconst 0, 1), (76, .istore_n 1, 1), (77, .iload_n 1, 1), (78, .iconst 3, 1), (79, .if_icmp .ge 40, 3), (82, .aload_n 0, 1), (83, .aload_n 0, 1), (84, .getfield 44, 3), (87, .bipush 10, 2), (89, .iload_n 1, 1), (90, .imul, 1), (91, .iaload, 1), (92, .bipush (-9), 2), (94, .if_icmp .ne 7, 3), (97, .iconst (-1), 1), (98, .goto 12, 3), (101, .aload_n 0, 1), (102, .getfield 44, 3), (105, .bipush 10, 2)]
theorem d_m_mixSquare_1 : t_m_mixSquare_1.all (fun q => decide (decode prog_10_method_105_code q.1 = .ok q.2)) = true := by decide +kernel
def t_m_mixSquare_2 : List (Nat × Instr × Nat) := [(107, .iload_n 1, 1), (108, .imul, 1), (109, .iaload, 1), (110, .invokevirtual 289, 3), (113, .iinc 1 1, 3), (116, .goto (-39), 3), (119, .return_, 1)]
theorem d_m_mixSquare_2 : t_m_mixSquare_2.all (fun q => decide (decode prog_10_method_105_code q.1 = .ok q.2)) = true := by decide +kernel
theorem cm_m_mixSquare : CM m_mixSquare 0 := ⟨by decide +kernel, lw_in (i := 1349) (by decide +kernel) (by decide +kernel), in_m, by decide +kernel⟩
theorem cv_m_mixSquare : CV m_mixSquare 0 8 := ⟨cm_m_mixSquare, lw_in (i := 1348) (by decide +kernel) (by decide +kernel), lw_insel (q := (⟨"DoorRoundsModel", "mixSquare", "()V"⟩, 33)) (i := 63) (by decide +kernel) (by decide +kernel), ⟨_, rfl, rfl⟩, by decide⟩
end
section
abbrev L_law : pY := (x, code, 4, ret, 9, 310)
def t_L_law_0 : List (Nat × Instr × Nat) := [(0, .new 7, 3), (3, .dup, 1), (4, .invokespecial 9, 3), (7, .astore_n 1, 1), (8, .new 10, 3), (11, .dup, 1), (12, .invokespecial 12, 3), (15, .astore_n 2, 1)]
theorem d_L_law_0 : t_L_law_0.all (fun q => decide (decode code q.1 = .ok q.2)) = true := by decide +kernel
def t_L_law_1 : List (Nat × Instr × Nat) := [(16, .iconst 0, 1), (17, .istore_n 3, 1), (18, .iload_n 3, 1), (19, .aload_n 0, 1), (20, .arraylength, 1), (21, .bipush 6, 2), (23, .isub, 1), (24, .if_icmp .gt 1724, 3)]
theorem d_L_law_1 : t_L_law_1.all (fun q => decide (decode code q.1 = .ok q.2)) = true := by decide +kernel
def t_L_law_2 : List (Nat × Instr × Nat) := [(27, .aload_n 0, 1), (28, .iload_n 3, 1), (29, .iaload, 1), (30, .bipush 63, 2), (32, .iand, 1), (33, .tableswitch 1709 0 51 #[223, 256, 299, 332, 355, 418, 441, 474, 517, 540, 563, 596, 629, 652, 675, 698, 721, 744, 767, 800, 833, 846, 869, 892, 925, 958, 1001, 1044, 1077, 1110, 1153, 1206, 1249, 1282, 1295, 1308, 1351, 1374, 1397, 1420, 1463, 1496, 1529, 1552, 1575, 1598, 1611, 1624, 1637, 1660, 1673, 1696], 223), (256, .aload_n 1, 1), (257, .aload_n 0, 1)]
theorem d_L_law_2 : t_L_law_2.all (fun q => decide (decode code q.1 = .ok q.2)) = true := by decide +kernel
def t_L_law_3 : List (Nat × Instr × Nat) := [(258, .iload_n 3, 1), (259, .iconst 1, 1), (260, .iadd, 1), (261, .iaload, 1), (262, .aload_n 0, 1), (263, .iload_n 3, 1), (264, .iconst 2, 1), (265, .iadd, 1)]
theorem d_L_law_3 : t_L_law_3.all (fun q => decide (decode code q.1 = .ok q.2)) = true := by decide +kernel
def t_L_law_4 : List (Nat × Instr × Nat) := [(266, .iaload, 1), (267, .invokevirtual 13, 3), (270, .aload_n 2, 1), (271, .aload_n 0, 1), (272, .iload_n 3, 1), (273, .iconst 1, 1), (274, .iadd, 1), (275, .iaload, 1)]
theorem d_L_law_4 : t_L_law_4.all (fun q => decide (decode code q.1 = .ok q.2)) = true := by decide +kernel
def t_L_law_5 : List (Nat × Instr × Nat) := [(276, .aload_n 0, 1), (277, .iload_n 3, 1), (278, .iconst 2, 1), (279, .iadd, 1), (280, .iaload, 1), (281, .invokevirtual 17, 3), (284, .if_icmp .eq 1458, 3), (287, .iconst 0, 1)]
theorem d_L_law_5 : t_L_law_5.all (fun q => decide (decode code q.1 = .ok q.2)) = true := by decide +kernel
def t_L_law_6 : List (Nat × Instr × Nat) := [(288, .ireturn, 1), (289, .aload_n 1, 1), (290, .aload_n 0, 1), (291, .iload_n 3, 1), (292, .iconst 1, 1), (293, .iadd, 1), (294, .iaload, 1), (295, .aload_n 0, 1)]
theorem d_L_law_6 : t_L_law_6.all (fun q => decide (decode code q.1 = .ok q.2)) = true := by decide +kernel
def t_L_law_7 : List (Nat × Instr × Nat) := [(296, .iload_n 3, 1), (297, .iconst 2, 1), (298, .iadd, 1), (299, .iaload, 1), (300, .aload_n 0, 1), (301, .iload_n 3, 1), (302, .iconst 3, 1), (303, .iadd, 1)]
theorem d_L_law_7 : t_L_law_7.all (fun q => decide (decode code q.1 = .ok q.2)) = true := by decide +kernel
def t_L_law_8 : List (Nat × Instr × Nat) := [(304, .iaload, 1), (305, .invokevirtual 18, 3), (308, .pop, 1), (309, .aload_n 2, 1), (310, .aload_n 0, 1), (311, .iload_n 3, 1), (312, .iconst 1, 1), (313, .iadd, 1)]
theorem d_L_law_8 : t_L_law_8.all (fun q => decide (decode code q.1 = .ok q.2)) = true := by decide +kernel
def t_L_law_9 : List (Nat × Instr × Nat) := [(314, .iaload, 1), (315, .aload_n 0, 1), (316, .iload_n 3, 1), (317, .iconst 2, 1), (318, .iadd, 1), (319, .iaload, 1), (320, .aload_n 0, 1), (321, .iload_n 3, 1)]
theorem d_L_law_9 : t_L_law_9.all (fun q => decide (decode code q.1 = .ok q.2)) = true := by decide +kernel
def t_L_law_10 : List (Nat × Instr × Nat) := [(322, .iconst 3, 1), (323, .iadd, 1), (324, .iaload, 1), (325, .invokevirtual 22, 3), (328, .pop, 1), (329, .goto 1413, 3), (332, .aload_n 1, 1), (333, .aload_n 0, 1)]
theorem d_L_law_10 : t_L_law_10.all (fun q => decide (decode code q.1 = .ok q.2)) = true := by decide +kernel
def t_L_law_11 : List (Nat × Instr × Nat) := [(334, .iload_n 3, 1), (335, .iconst 1, 1), (336, .iadd, 1), (337, .iaload, 1), (338, .aload_n 0, 1), (339, .iload_n 3, 1), (340, .iconst 2, 1), (341, .iadd, 1)]
theorem d_L_law_11 : t_L_law_11.all (fun q => decide (decode code q.1 = .ok q.2)) = true := by decide +kernel
def t_L_law_12 : List (Nat × Instr × Nat) := [(342, .iaload, 1), (343, .invokevirtual 23, 3), (346, .pop, 1), (347, .aload_n 2, 1), (348, .aload_n 0, 1), (349, .iload_n 3, 1), (350, .iconst 1, 1), (351, .iadd, 1)]
theorem d_L_law_12 : t_L_law_12.all (fun q => decide (decode code q.1 = .ok q.2)) = true := by decide +kernel
def t_L_law_13 : List (Nat × Instr × Nat) := [(352, .iaload, 1), (353, .aload_n 0, 1), (354, .iload_n 3, 1), (355, .iconst 2, 1), (356, .iadd, 1), (357, .iaload, 1), (358, .invokevirtual 26, 3), (361, .pop, 1)]
theorem d_L_law_13 : t_L_law_13.all (fun q => decide (decode code q.1 = .ok q.2)) = true := by decide +kernel
def t_L_law_14 : List (Nat × Instr × Nat) := [(362, .goto 1380, 3), (365, .aload_n 1, 1), (366, .aload_n 0, 1), (367, .iload_n 3, 1), (368, .iconst 1, 1), (369, .iadd, 1), (370, .iaload, 1), (371, .invokevirtual 27, 3)]
theorem d_L_law_14 : t_L_law_14.all (fun q => decide (decode code q.1 = .ok q.2)) = true := by decide +kernel
def t_L_law_15 : List (Nat × Instr × Nat) := [(374, .pop, 1), (375, .aload_n 2, 1), (376, .aload_n 0, 1), (377, .iload_n 3, 1), (378, .iconst 1, 1), (379, .iadd, 1), (380, .iaload, 1), (381, .invokevirtual 31, 3)]
theorem d_L_law_15 : t_L_law_15.all (fun q => decide (decode code q.1 = .ok q.2)) = true := by decide +kernel
def t_L_law_16 : List (Nat × Instr × Nat) := [(384, .pop, 1), (385, .goto 1357, 3), (388, .aload_n 1, 1), (389, .aload_n 0, 1), (390, .iload_n 3, 1), (391, .iconst 1, 1), (392, .iadd, 1), (393, .iaload, 1)]
theorem d_L_law_16 : t_L_law_16.all (fun q => decide (decode code q.1 = .ok q.2)) = true := by decide +kernel
def t_L_law_17 : List (Nat × Instr × Nat) := [(394, .aload_n 0, 1), (395, .iload_n 3, 1), (396, .iconst 2, 1), (397, .iadd, 1), (398, .iaload, 1), (399, .aload_n 0, 1), (400, .iload_n 3, 1), (401, .iconst 3, 1)]
theorem d_L_law_17 : t_L_law_17.all (fun q => decide (decode code q.1 = .ok q.2)) = true := by decide +kernel
def t_L_law_18 : List (Nat × Instr × Nat) := [(402, .iadd, 1), (403, .iaload, 1), (404, .aload_n 0, 1), (405, .iload_n 3, 1), (406, .iconst 4, 1), (407, .iadd, 1), (408, .iaload, 1), (409, .aload_n 0, 1)]
theorem d_L_law_18 : t_L_law_18.all (fun q => decide (decode code q.1 = .ok q.2)) = true := by decide +kernel
def t_L_law_19 : List (Nat × Instr × Nat) := [(410, .iload_n 3, 1), (411, .iconst 5, 1), (412, .iadd, 1), (413, .iaload, 1), (414, .invokevirtual 32, 3), (417, .pop, 1), (418, .aload_n 2, 1), (419, .aload_n 0, 1)]
theorem d_L_law_19 : t_L_law_19.all (fun q => decide (decode code q.1 = .ok q.2)) = true := by decide +kernel
def t_L_law_20 : List (Nat × Instr × Nat) := [(420, .iload_n 3, 1), (421, .iconst 1, 1), (422, .iadd, 1), (423, .iaload, 1), (424, .aload_n 0, 1), (425, .iload_n 3, 1), (426, .iconst 2, 1), (427, .iadd, 1)]
theorem d_L_law_20 : t_L_law_20.all (fun q => decide (decode code q.1 = .ok q.2)) = true := by decide +kernel
def t_L_law_21 : List (Nat × Instr × Nat) := [(428, .iaload, 1), (429, .aload_n 0, 1), (430, .iload_n 3, 1), (431, .iconst 3, 1), (432, .iadd, 1), (433, .iaload, 1), (434, .aload_n 0, 1), (435, .iload_n 3, 1)]
theorem d_L_law_21 : t_L_law_21.all (fun q => decide (decode code q.1 = .ok q.2)) = true := by decide +kernel
def t_L_law_22 : List (Nat × Instr × Nat) := [(436, .iconst 4, 1), (437, .iadd, 1), (438, .iaload, 1), (439, .aload_n 0, 1), (440, .iload_n 3, 1), (441, .iconst 5, 1), (442, .iadd, 1), (443, .iaload, 1)]
theorem d_L_law_22 : t_L_law_22.all (fun q => decide (decode code q.1 = .ok q.2)) = true := by decide +kernel
def t_L_law_23 : List (Nat × Instr × Nat) := [(444, .invokevirtual 36, 3), (447, .pop, 1), (448, .goto 1294, 3), (451, .aload_n 1, 1), (452, .aload_n 0, 1), (453, .iload_n 3, 1), (454, .iconst 1, 1), (455, .iadd, 1)]
theorem d_L_law_23 : t_L_law_23.all (fun q => decide (decode code q.1 = .ok q.2)) = true := by decide +kernel
def t_L_law_24 : List (Nat × Instr × Nat) := [(456, .iaload, 1), (457, .invokevirtual 37, 3), (460, .pop, 1), (461, .aload_n 2, 1), (462, .aload_n 0, 1), (463, .iload_n 3, 1), (464, .iconst 1, 1), (465, .iadd, 1)]
theorem d_L_law_24 : t_L_law_24.all (fun q => decide (decode code q.1 = .ok q.2)) = true := by decide +kernel
def t_L_law_25 : List (Nat × Instr × Nat) := [(466, .iaload, 1), (467, .invokevirtual 40, 3), (470, .pop, 1), (471, .goto 1271, 3), (474, .aload_n 1, 1), (475, .aload_n 0, 1), (476, .iload_n 3, 1), (477, .iconst 1, 1)]
theorem d_L_law_25 : t_L_law_25.all (fun q => decide (decode code q.1 = .ok q.2)) = true := by decide +kernel
def t_L_law_26 : List (Nat × Instr × Nat) := [(478, .iadd, 1), (479, .iaload, 1), (480, .aload_n 0, 1), (481, .iload_n 3, 1), (482, .iconst 2, 1), (483, .iadd, 1), (484, .iaload, 1), (485, .invokevirtual 41, 3)]
theorem d_L_law_26 : t_L_law_26.all (fun q => decide (decode code q.1 = .ok q.2)) = true := by decide +kernel
def t_L_law_27 : List (Nat × Instr × Nat) := [(488, .pop, 1), (489, .aload_n 2, 1), (490, .aload_n 0, 1), (491, .iload_n 3, 1), (492, .iconst 1, 1), (493, .iadd, 1), (494, .iaload, 1), (495, .aload_n 0, 1)]
theorem d_L_law_27 : t_L_law_27.all (fun q => decide (decode code q.1 = .ok q.2)) = true := by decide +kernel
def t_L_law_28 : List (Nat × Instr × Nat) := [(496, .iload_n 3, 1), (497, .iconst 2, 1), (498, .iadd, 1), (499, .iaload, 1), (500, .invokevirtual 44, 3), (503, .pop, 1), (504, .goto 1238, 3), (507, .aload_n 1, 1)]
theorem d_L_law_28 : t_L_law_28.all (fun q => decide (decode code q.1 = .ok q.2)) = true := by decide +kernel
def t_L_law_29 : List (Nat × Instr × Nat) := [(508, .aload_n 0, 1), (509, .iload_n 3, 1), (510, .iconst 1, 1), (511, .iadd, 1), (512, .iaload, 1), (513, .aload_n 0, 1), (514, .iload_n 3, 1), (515, .iconst 2, 1)]
theorem d_L_law_29 : t_L_law_29.all (fun q => decide (decode code q.1 = .ok q.2)) = true := by decide +kernel
def t_L_law_30 : List (Nat × Instr × Nat) := [(516, .iadd, 1), (517, .iaload, 1), (518, .aload_n 0, 1), (519, .iload_n 3, 1), (520, .iconst 3, 1), (521, .iadd, 1), (522, .iaload, 1), (523, .invokevirtual 45, 3)]
theorem d_L_law_30 : t_L_law_30.all (fun q => decide (decode code q.1 = .ok q.2)) = true := by decide +kernel
def t_L_law_31 : List (Nat × Instr × Nat) := [(526, .pop, 1), (527, .aload_n 2, 1), (528, .aload_n 0, 1), (529, .iload_n 3, 1), (530, .iconst 1, 1), (531, .iadd, 1), (532, .iaload, 1), (533, .aload_n 0, 1)]
theorem d_L_law_31 : t_L_law_31.all (fun q => decide (decode code q.1 = .ok q.2)) = true := by decide +kernel
def t_L_law_32 : List (Nat × Instr × Nat) := [(534, .iload_n 3, 1), (535, .iconst 2, 1), (536, .iadd, 1), (537, .iaload, 1), (538, .aload_n 0, 1), (539, .iload_n 3, 1), (540, .iconst 3, 1), (541, .iadd, 1)]
theorem d_L_law_32 : t_L_law_32.all (fun q => decide (decode code q.1 = .ok q.2)) = true := by decide +kernel
def t_L_law_33 : List (Nat × Instr × Nat) := [(542, .iaload, 1), (543, .invokevirtual 48, 3), (546, .pop, 1), (547, .goto 1195, 3), (550, .aload_n 1, 1), (551, .aload_n 0, 1), (552, .iload_n 3, 1), (553, .iconst 1, 1)]
theorem d_L_law_33 : t_L_law_33.all (fun q => decide (decode code q.1 = .ok q.2)) = true := by decide +kernel
def t_L_law_34 : List (Nat × Instr × Nat) := [(554, .iadd, 1), (555, .iaload, 1), (556, .invokevirtual 49, 3), (559, .pop, 1), (560, .aload_n 2, 1), (561, .aload_n 0, 1), (562, .iload_n 3, 1), (563, .iconst 1, 1)]
theorem d_L_law_34 : t_L_law_34.all (fun q => decide (decode code q.1 = .ok q.2)) = true := by decide +kernel
def t_L_law_35 : List (Nat × Instr × Nat) := [(564, .iadd, 1), (565, .iaload, 1), (566, .invokevirtual 52, 3), (569, .pop, 1), (570, .goto 1172, 3), (573, .aload_n 1, 1), (574, .aload_n 0, 1), (575, .iload_n 3, 1)]
theorem d_L_law_35 : t_L_law_35.all (fun q => decide (decode code q.1 = .ok q.2)) = true := by decide +kernel
def t_L_law_36 : List (Nat × Instr × Nat) := [(576, .iconst 1, 1), (577, .iadd, 1), (578, .iaload, 1), (579, .invokevirtual 53, 3), (582, .pop, 1), (583, .aload_n 2, 1), (584, .aload_n 0, 1), (585, .iload_n 3, 1)]
theorem d_L_law_36 : t_L_law_36.all (fun q => decide (decode code q.1 = .ok q.2)) = true := by decide +kernel
def t_L_law_37 : List (Nat × Instr × Nat) := [(586, .iconst 1, 1), (587, .iadd, 1), (588, .iaload, 1), (589, .invokevirtual 56, 3), (592, .pop, 1), (593, .goto 1149, 3), (596, .aload_n 1, 1), (597, .aload_n 0, 1)]
theorem d_L_law_37 : t_L_law_37.all (fun q => decide (decode code q.1 = .ok q.2)) = true := by decide +kernel
def t_L_law_38 : List (Nat × Instr × Nat) := [(598, .iload_n 3, 1), (599, .iconst 1, 1), (600, .iadd, 1), (601, .iaload, 1), (602, .aload_n 0, 1), (603, .iload_n 3, 1), (604, .iconst 2, 1), (605, .iadd, 1)]
theorem d_L_law_38 : t_L_law_38.all (fun q => decide (decode code q.1 = .ok q.2)) = true := by decide +kernel
def t_L_law_39 : List (Nat × Instr × Nat) := [(606, .iaload, 1), (607, .invokevirtual 57, 3), (610, .pop, 1), (611, .aload_n 2, 1), (612, .aload_n 0, 1), (613, .iload_n 3, 1), (614, .iconst 1, 1), (615, .iadd, 1)]
theorem d_L_law_39 : t_L_law_39.all (fun q => decide (decode code q.1 = .ok q.2)) = true := by decide +kernel
def t_L_law_40 : List (Nat × Instr × Nat) := [(616, .iaload, 1), (617, .aload_n 0, 1), (618, .iload_n 3, 1), (619, .iconst 2, 1), (620, .iadd, 1), (621, .iaload, 1), (622, .invokevirtual 60, 3), (625, .pop, 1)]
theorem d_L_law_40 : t_L_law_40.all (fun q => decide (decode code q.1 = .ok q.2)) = true := by decide +kernel
def t_L_law_41 : List (Nat × Instr × Nat) := [(626, .goto 1116, 3), (629, .aload_n 1, 1), (630, .aload_n 0, 1), (631, .iload_n 3, 1), (632, .iconst 1, 1), (633, .iadd, 1), (634, .iaload, 1), (635, .aload_n 0, 1)]
theorem d_L_law_41 : t_L_law_41.all (fun q => decide (decode code q.1 = .ok q.2)) = true := by decide +kernel
def t_L_law_42 : List (Nat × Instr × Nat) := [(636, .iload_n 3, 1), (637, .iconst 2, 1), (638, .iadd, 1), (639, .iaload, 1), (640, .invokevirtual 61, 3), (643, .pop, 1), (644, .aload_n 2, 1), (645, .aload_n 0, 1)]
theorem d_L_law_42 : t_L_law_42.all (fun q => decide (decode code q.1 = .ok q.2)) = true := by decide +kernel
def t_L_law_43 : List (Nat × Instr × Nat) := [(646, .iload_n 3, 1), (647, .iconst 1, 1), (648, .iadd, 1), (649, .iaload, 1), (650, .aload_n 0, 1), (651, .iload_n 3, 1), (652, .iconst 2, 1), (653, .iadd, 1)]
theorem d_L_law_43 : t_L_law_43.all (fun q => decide (decode code q.1 = .ok q.2)) = true := by decide +kernel
def t_L_law_44 : List (Nat × Instr × Nat) := [(654, .iaload, 1), (655, .invokevirtual 64, 3), (658, .pop, 1), (659, .goto 1083, 3), (662, .aload_n 1, 1), (663, .aload_n 0, 1), (664, .iload_n 3, 1), (665, .iconst 1, 1)]
theorem d_L_law_44 : t_L_law_44.all (fun q => decide (decode code q.1 = .ok q.2)) = true := by decide +kernel
def t_L_law_45 : List (Nat × Instr × Nat) := [(666, .iadd, 1), (667, .iaload, 1), (668, .invokevirtual 65, 3), (671, .pop, 1), (672, .aload_n 2, 1), (673, .aload_n 0, 1), (674, .iload_n 3, 1), (675, .iconst 1, 1)]
theorem d_L_law_45 : t_L_law_45.all (fun q => decide (decode code q.1 = .ok q.2)) = true := by decide +kernel
def t_L_law_46 : List (Nat × Instr × Nat) := [(676, .iadd, 1), (677, .iaload, 1), (678, .invokevirtual 68, 3), (681, .pop, 1), (682, .goto 1060, 3), (685, .aload_n 1, 1), (686, .aload_n 0, 1), (687, .iload_n 3, 1)]
theorem d_L_law_46 : t_L_law_46.all (fun q => decide (decode code q.1 = .ok q.2)) = true := by decide +kernel
def t_L_law_47 : List (Nat × Instr × Nat) := [(688, .iconst 1, 1), (689, .iadd, 1), (690, .iaload, 1), (691, .invokevirtual 69, 3), (694, .pop, 1), (695, .aload_n 2, 1), (696, .aload_n 0, 1), (697, .iload_n 3, 1)]
theorem d_L_law_47 : t_L_law_47.all (fun q => decide (decode code q.1 = .ok q.2)) = true := by decide +kernel
def t_L_law_48 : List (Nat × Instr × Nat) := [(698, .iconst 1, 1), (699, .iadd, 1), (700, .iaload, 1), (701, .invokevirtual 72, 3), (704, .pop, 1), (705, .goto 1037, 3), (708, .aload_n 1, 1), (709, .aload_n 0, 1)]
theorem d_L_law_48 : t_L_law_48.all (fun q => decide (decode code q.1 = .ok q.2)) = true := by decide +kernel
def t_L_law_49 : List (Nat × Instr × Nat) := [(710, .iload_n 3, 1), (711, .iconst 1, 1), (712, .iadd, 1), (713, .iaload, 1), (714, .invokevirtual 73, 3), (717, .pop, 1), (718, .aload_n 2, 1), (719, .aload_n 0, 1)]
theorem d_L_law_49 : t_L_law_49.all (fun q => decide (decode code q.1 = .ok q.2)) = true := by decide +kernel
def t_L_law_50 : List (Nat × Instr × Nat) := [(720, .iload_n 3, 1), (721, .iconst 1, 1), (722, .iadd, 1), (723, .iaload, 1), (724, .invokevirtual 76, 3), (727, .pop, 1), (728, .goto 1014, 3), (731, .aload_n 1, 1)]
theorem d_L_law_50 : t_L_law_50.all (fun q => decide (decode code q.1 = .ok q.2)) = true := by decide +kernel
def t_L_law_51 : List (Nat × Instr × Nat) := [(732, .aload_n 0, 1), (733, .iload_n 3, 1), (734, .iconst 1, 1), (735, .iadd, 1), (736, .iaload, 1), (737, .invokevirtual 77, 3), (740, .pop, 1), (741, .aload_n 2, 1)]
theorem d_L_law_51 : t_L_law_51.all (fun q => decide (decode code q.1 = .ok q.2)) = true := by decide +kernel
def t_L_law_52 : List (Nat × Instr × Nat) := [(742, .aload_n 0, 1), (743, .iload_n 3, 1), (744, .iconst 1, 1), (745, .iadd, 1), (746, .iaload, 1), (747, .invokevirtual 80, 3), (750, .pop, 1), (751, .goto 991, 3)]
theorem d_L_law_52 : t_L_law_52.all (fun q => decide (decode code q.1 = .ok q.2)) = true := by decide +kernel
def t_L_law_53 : List (Nat × Instr × Nat) := [(754, .aload_n 1, 1), (755, .aload_n 0, 1), (756, .iload_n 3, 1), (757, .iconst 1, 1), (758, .iadd, 1), (759, .iaload, 1), (760, .invokevirtual 81, 3), (763, .pop, 1)]
theorem d_L_law_53 : t_L_law_53.all (fun q => decide (decode code q.1 = .ok q.2)) = true := by decide +kernel
def t_L_law_54 : List (Nat × Instr × Nat) := [(764, .aload_n 2, 1), (765, .aload_n 0, 1), (766, .iload_n 3, 1), (767, .iconst 1, 1), (768, .iadd, 1), (769, .iaload, 1), (770, .invokevirtual 84, 3), (773, .pop, 1)]
theorem d_L_law_54 : t_L_law_54.all (fun q => decide (decode code q.1 = .ok q.2)) = true := by decide +kernel
def t_L_law_55 : List (Nat × Instr × Nat) := [(774, .goto 968, 3), (777, .aload_n 1, 1), (778, .aload_n 0, 1), (779, .iload_n 3, 1), (780, .iconst 1, 1), (781, .iadd, 1), (782, .iaload, 1), (783, .invokevirtual 85, 3)]
theorem d_L_law_55 : t_L_law_55.all (fun q => decide (decode code q.1 = .ok q.2)) = true := by decide +kernel
def t_L_law_56 : List (Nat × Instr × Nat) := [(786, .pop, 1), (787, .aload_n 2, 1), (788, .aload_n 0, 1), (789, .iload_n 3, 1), (790, .iconst 1, 1), (791, .iadd, 1), (792, .iaload, 1), (793, .invokevirtual 88, 3)]
theorem d_L_law_56 : t_L_law_56.all (fun q => decide (decode code q.1 = .ok q.2)) = true := by decide +kernel
def t_L_law_57 : List (Nat × Instr × Nat) := [(796, .pop, 1), (797, .goto 945, 3), (800, .aload_n 1, 1), (801, .aload_n 0, 1), (802, .iload_n 3, 1), (803, .iconst 1, 1), (804, .iadd, 1), (805, .iaload, 1)]
theorem d_L_law_57 : t_L_law_57.all (fun q => decide (decode code q.1 = .ok q.2)) = true := by decide +kernel
def t_L_law_58 : List (Nat × Instr × Nat) := [(806, .aload_n 0, 1), (807, .iload_n 3, 1), (808, .iconst 2, 1), (809, .iadd, 1), (810, .iaload, 1), (811, .invokevirtual 89, 3), (814, .pop, 1), (815, .aload_n 2, 1)]
theorem d_L_law_58 : t_L_law_58.all (fun q => decide (decode code q.1 = .ok q.2)) = true := by decide +kernel
def t_L_law_59 : List (Nat × Instr × Nat) := [(816, .aload_n 0, 1), (817, .iload_n 3, 1), (818, .iconst 1, 1), (819, .iadd, 1), (820, .iaload, 1), (821, .aload_n 0, 1), (822, .iload_n 3, 1), (823, .iconst 2, 1)]
theorem d_L_law_59 : t_L_law_59.all (fun q => decide (decode code q.1 = .ok q.2)) = true := by decide +kernel
def t_L_law_60 : List (Nat × Instr × Nat) := [(824, .iadd, 1), (825, .iaload, 1), (826, .invokevirtual 92, 3), (829, .pop, 1), (830, .goto 912, 3), (833, .aload_n 1, 1), (834, .aload_n 0, 1), (835, .iload_n 3, 1)]
theorem d_L_law_60 : t_L_law_60.all (fun q => decide (decode code q.1 = .ok q.2)) = true := by decide +kernel
def t_L_law_61 : List (Nat × Instr × Nat) := [(836, .iconst 1, 1), (837, .iadd, 1), (838, .iaload, 1), (839, .aload_n 0, 1), (840, .iload_n 3, 1), (841, .iconst 2, 1), (842, .iadd, 1), (843, .iaload, 1)]
theorem d_L_law_61 : t_L_law_61.all (fun q => decide (decode code q.1 = .ok q.2)) = true := by decide +kernel
def t_L_law_62 : List (Nat × Instr × Nat) := [(844, .invokevirtual 93, 3), (847, .pop, 1), (848, .aload_n 2, 1), (849, .aload_n 0, 1), (850, .iload_n 3, 1), (851, .iconst 1, 1), (852, .iadd, 1), (853, .iaload, 1)]
theorem d_L_law_62 : t_L_law_62.all (fun q => decide (decode code q.1 = .ok q.2)) = true := by decide +kernel
def t_L_law_63 : List (Nat × Instr × Nat) := [(854, .aload_n 0, 1), (855, .iload_n 3, 1), (856, .iconst 2, 1), (857, .iadd, 1), (858, .iaload, 1), (859, .invokevirtual 96, 3), (862, .pop, 1), (863, .goto 879, 3)]
theorem d_L_law_63 : t_L_law_63.all (fun q => decide (decode code q.1 = .ok q.2)) = true := by decide +kernel
def t_L_law_64 : List (Nat × Instr × Nat) := [(866, .aload_n 1, 1), (867, .invokevirtual 97, 3), (870, .pop, 1), (871, .aload_n 2, 1), (872, .invokevirtual 101, 3), (875, .pop, 1), (876, .goto 866, 3), (879, .aload_n 1, 1)]
theorem d_L_law_64 : t_L_law_64.all (fun q => decide (decode code q.1 = .ok q.2)) = true := by decide +kernel
def t_L_law_65 : List (Nat × Instr × Nat) := [(880, .aload_n 0, 1), (881, .iload_n 3, 1), (882, .iconst 1, 1), (883, .iadd, 1), (884, .iaload, 1), (885, .invokevirtual 102, 3), (888, .pop, 1), (889, .aload_n 2, 1)]
theorem d_L_law_65 : t_L_law_65.all (fun q => decide (decode code q.1 = .ok q.2)) = true := by decide +kernel
def t_L_law_66 : List (Nat × Instr × Nat) := [(890, .aload_n 0, 1), (891, .iload_n 3, 1), (892, .iconst 1, 1), (893, .iadd, 1), (894, .iaload, 1), (895, .invokevirtual 105, 3), (898, .pop, 1), (899, .goto 843, 3)]
theorem d_L_law_66 : t_L_law_66.all (fun q => decide (decode code q.1 = .ok q.2)) = true := by decide +kernel
def t_L_law_67 : List (Nat × Instr × Nat) := [(902, .aload_n 1, 1), (903, .aload_n 0, 1), (904, .iload_n 3, 1), (905, .iconst 1, 1), (906, .iadd, 1), (907, .iaload, 1), (908, .invokevirtual 106, 3), (911, .pop, 1)]
theorem d_L_law_67 : t_L_law_67.all (fun q => decide (decode code q.1 = .ok q.2)) = true := by decide +kernel
def t_L_law_68 : List (Nat × Instr × Nat) := [(912, .aload_n 2, 1), (913, .aload_n 0, 1), (914, .iload_n 3, 1), (915, .iconst 1, 1), (916, .iadd, 1), (917, .iaload, 1), (918, .invokevirtual 109, 3), (921, .pop, 1)]
theorem d_L_law_68 : t_L_law_68.all (fun q => decide (decode code q.1 = .ok q.2)) = true := by decide +kernel
def t_L_law_69 : List (Nat × Instr × Nat) := [(922, .goto 820, 3), (925, .aload_n 1, 1), (926, .aload_n 0, 1), (927, .iload_n 3, 1), (928, .iconst 1, 1), (929, .iadd, 1), (930, .iaload, 1), (931, .aload_n 0, 1)]
theorem d_L_law_69 : t_L_law_69.all (fun q => decide (decode code q.1 = .ok q.2)) = true := by decide +kernel
def t_L_law_70 : List (Nat × Instr × Nat) := [(932, .iload_n 3, 1), (933, .iconst 2, 1), (934, .iadd, 1), (935, .iaload, 1), (936, .invokevirtual 110, 3), (939, .pop, 1), (940, .aload_n 2, 1), (941, .aload_n 0, 1)]
theorem d_L_law_70 : t_L_law_70.all (fun q => decide (decode code q.1 = .ok q.2)) = true := by decide +kernel
def t_L_law_71 : List (Nat × Instr × Nat) := [(942, .iload_n 3, 1), (943, .iconst 1, 1), (944, .iadd, 1), (945, .iaload, 1), (946, .aload_n 0, 1), (947, .iload_n 3, 1), (948, .iconst 2, 1), (949, .iadd, 1)]
theorem d_L_law_71 : t_L_law_71.all (fun q => decide (decode code q.1 = .ok q.2)) = true := by decide +kernel
def t_L_law_72 : List (Nat × Instr × Nat) := [(950, .iaload, 1), (951, .invokevirtual 113, 3), (954, .pop, 1), (955, .goto 787, 3), (958, .aload_n 1, 1), (959, .aload_n 0, 1), (960, .iload_n 3, 1), (961, .iconst 1, 1)]
theorem d_L_law_72 : t_L_law_72.all (fun q => decide (decode code q.1 = .ok q.2)) = true := by decide +kernel
def t_L_law_73 : List (Nat × Instr × Nat) := [(962, .iadd, 1), (963, .iaload, 1), (964, .aload_n 0, 1), (965, .iload_n 3, 1), (966, .iconst 2, 1), (967, .iadd, 1), (968, .iaload, 1), (969, .invokevirtual 114, 3)]
theorem d_L_law_73 : t_L_law_73.all (fun q => decide (decode code q.1 = .ok q.2)) = true := by decide +kernel
def t_L_law_74 : List (Nat × Instr × Nat) := [(972, .pop, 1), (973, .aload_n 2, 1), (974, .aload_n 0, 1), (975, .iload_n 3, 1), (976, .iconst 1, 1), (977, .iadd, 1), (978, .iaload, 1), (979, .aload_n 0, 1)]
theorem d_L_law_74 : t_L_law_74.all (fun q => decide (decode code q.1 = .ok q.2)) = true := by decide +kernel
def t_L_law_75 : List (Nat × Instr × Nat) := [(980, .iload_n 3, 1), (981, .iconst 2, 1), (982, .iadd, 1), (983, .iaload, 1), (984, .invokevirtual 117, 3), (987, .pop, 1), (988, .goto 754, 3), (991, .aload_n 1, 1)]
theorem d_L_law_75 : t_L_law_75.all (fun q => decide (decode code q.1 = .ok q.2)) = true := by decide +kernel
def t_L_law_76 : List (Nat × Instr × Nat) := [(992, .aload_n 0, 1), (993, .iload_n 3, 1), (994, .iconst 1, 1), (995, .iadd, 1), (996, .iaload, 1), (997, .aload_n 0, 1), (998, .iload_n 3, 1), (999, .iconst 2, 1)]
theorem d_L_law_76 : t_L_law_76.all (fun q => decide (decode code q.1 = .ok q.2)) = true := by decide +kernel
def t_L_law_77 : List (Nat × Instr × Nat) := [(1000, .iadd, 1), (1001, .iaload, 1), (1002, .aload_n 0, 1), (1003, .iload_n 3, 1), (1004, .iconst 3, 1), (1005, .iadd, 1), (1006, .iaload, 1), (1007, .invokevirtual 118, 3)]
theorem d_L_law_77 : t_L_law_77.all (fun q => decide (decode code q.1 = .ok q.2)) = true := by decide +kernel
def t_L_law_78 : List (Nat × Instr × Nat) := [(1010, .pop, 1), (1011, .aload_n 2, 1), (1012, .aload_n 0, 1), (1013, .iload_n 3, 1), (1014, .iconst 1, 1), (1015, .iadd, 1), (1016, .iaload, 1), (1017, .aload_n 0, 1)]
theorem d_L_law_78 : t_L_law_78.all (fun q => decide (decode code q.1 = .ok q.2)) = true := by decide +kernel
def t_L_law_79 : List (Nat × Instr × Nat) := [(1018, .iload_n 3, 1), (1019, .iconst 2, 1), (1020, .iadd, 1), (1021, .iaload, 1), (1022, .aload_n 0, 1), (1023, .iload_n 3, 1), (1024, .iconst 3, 1), (1025, .iadd, 1)]
theorem d_L_law_79 : t_L_law_79.all (fun q => decide (decode code q.1 = .ok q.2)) = true := by decide +kernel
def t_L_law_80 : List (Nat × Instr × Nat) := [(1026, .iaload, 1), (1027, .invokevirtual 121, 3), (1030, .pop, 1), (1031, .goto 711, 3), (1034, .aload_n 1, 1), (1035, .aload_n 0, 1), (1036, .iload_n 3, 1), (1037, .iconst 1, 1)]
theorem d_L_law_80 : t_L_law_80.all (fun q => decide (decode code q.1 = .ok q.2)) = true := by decide +kernel
def t_L_law_81 : List (Nat × Instr × Nat) := [(1038, .iadd, 1), (1039, .iaload, 1), (1040, .aload_n 0, 1), (1041, .iload_n 3, 1), (1042, .iconst 2, 1), (1043, .iadd, 1), (1044, .iaload, 1), (1045, .aload_n 0, 1)]
theorem d_L_law_81 : t_L_law_81.all (fun q => decide (decode code q.1 = .ok q.2)) = true := by decide +kernel
def t_L_law_82 : List (Nat × Instr × Nat) := [(1046, .iload_n 3, 1), (1047, .iconst 3, 1), (1048, .iadd, 1), (1049, .iaload, 1), (1050, .invokevirtual 122, 3), (1053, .pop, 1), (1054, .aload_n 2, 1), (1055, .aload_n 0, 1)]
theorem d_L_law_82 : t_L_law_82.all (fun q => decide (decode code q.1 = .ok q.2)) = true := by decide +kernel
def t_L_law_83 : List (Nat × Instr × Nat) := [(1056, .iload_n 3, 1), (1057, .iconst 1, 1), (1058, .iadd, 1), (1059, .iaload, 1), (1060, .aload_n 0, 1), (1061, .iload_n 3, 1), (1062, .iconst 2, 1), (1063, .iadd, 1)]
theorem d_L_law_83 : t_L_law_83.all (fun q => decide (decode code q.1 = .ok q.2)) = true := by decide +kernel
def t_L_law_84 : List (Nat × Instr × Nat) := [(1064, .iaload, 1), (1065, .aload_n 0, 1), (1066, .iload_n 3, 1), (1067, .iconst 3, 1), (1068, .iadd, 1), (1069, .iaload, 1), (1070, .invokevirtual 125, 3), (1073, .pop, 1)]
theorem d_L_law_84 : t_L_law_84.all (fun q => decide (decode code q.1 = .ok q.2)) = true := by decide +kernel
def t_L_law_85 : List (Nat × Instr × Nat) := [(1074, .goto 668, 3), (1077, .aload_n 1, 1), (1078, .aload_n 0, 1), (1079, .iload_n 3, 1), (1080, .iconst 1, 1), (1081, .iadd, 1), (1082, .iaload, 1), (1083, .aload_n 0, 1)]
theorem d_L_law_85 : t_L_law_85.all (fun q => decide (decode code q.1 = .ok q.2)) = true := by decide +kernel
def t_L_law_86 : List (Nat × Instr × Nat) := [(1084, .iload_n 3, 1), (1085, .iconst 2, 1), (1086, .iadd, 1), (1087, .iaload, 1), (1088, .invokevirtual 126, 3), (1091, .pop, 1), (1092, .aload_n 2, 1), (1093, .aload_n 0, 1)]
theorem d_L_law_86 : t_L_law_86.all (fun q => decide (decode code q.1 = .ok q.2)) = true := by decide +kernel
def t_L_law_87 : List (Nat × Instr × Nat) := [(1094, .iload_n 3, 1), (1095, .iconst 1, 1), (1096, .iadd, 1), (1097, .iaload, 1), (1098, .aload_n 0, 1), (1099, .iload_n 3, 1), (1100, .iconst 2, 1), (1101, .iadd, 1)]
theorem d_L_law_87 : t_L_law_87.all (fun q => decide (decode code q.1 = .ok q.2)) = true := by decide +kernel
def t_L_law_88 : List (Nat × Instr × Nat) := [(1102, .iaload, 1), (1103, .invokevirtual 129, 3), (1106, .pop, 1), (1107, .goto 635, 3), (1110, .aload_n 1, 1), (1111, .aload_n 0, 1), (1112, .iload_n 3, 1), (1113, .iconst 1, 1)]
theorem d_L_law_88 : t_L_law_88.all (fun q => decide (decode code q.1 = .ok q.2)) = true := by decide +kernel
def t_L_law_89 : List (Nat × Instr × Nat) := [(1114, .iadd, 1), (1115, .iaload, 1), (1116, .aload_n 0, 1), (1117, .iload_n 3, 1), (1118, .iconst 2, 1), (1119, .iadd, 1), (1120, .iaload, 1), (1121, .invokevirtual 130, 3)]
theorem d_L_law_89 : t_L_law_89.all (fun q => decide (decode code q.1 = .ok q.2)) = true := by decide +kernel
def t_L_law_90 : List (Nat × Instr × Nat) := [(1124, .pop, 1), (1125, .aload_n 2, 1), (1126, .aload_n 0, 1), (1127, .iload_n 3, 1), (1128, .iconst 1, 1), (1129, .iadd, 1), (1130, .iaload, 1), (1131, .aload_n 0, 1)]
theorem d_L_law_90 : t_L_law_90.all (fun q => decide (decode code q.1 = .ok q.2)) = true := by decide +kernel
def t_L_law_91 : List (Nat × Instr × Nat) := [(1132, .iload_n 3, 1), (1133, .iconst 2, 1), (1134, .iadd, 1), (1135, .iaload, 1), (1136, .invokevirtual 133, 3), (1139, .pop, 1), (1140, .goto 602, 3), (1143, .aload_n 1, 1)]
theorem d_L_law_91 : t_L_law_91.all (fun q => decide (decode code q.1 = .ok q.2)) = true := by decide +kernel
def t_L_law_92 : List (Nat × Instr × Nat) := [(1144, .aload_n 0, 1), (1145, .iload_n 3, 1), (1146, .iconst 1, 1), (1147, .iadd, 1), (1148, .iaload, 1), (1149, .aload_n 0, 1), (1150, .iload_n 3, 1), (1151, .iconst 2, 1)]
theorem d_L_law_92 : t_L_law_92.all (fun q => decide (decode code q.1 = .ok q.2)) = true := by decide +kernel
def t_L_law_93 : List (Nat × Instr × Nat) := [(1152, .iadd, 1), (1153, .iaload, 1), (1154, .aload_n 0, 1), (1155, .iload_n 3, 1), (1156, .iconst 3, 1), (1157, .iadd, 1), (1158, .iaload, 1), (1159, .invokevirtual 134, 3)]
theorem d_L_law_93 : t_L_law_93.all (fun q => decide (decode code q.1 = .ok q.2)) = true := by decide +kernel
def t_L_law_94 : List (Nat × Instr × Nat) := [(1162, .pop, 1), (1163, .aload_n 2, 1), (1164, .aload_n 0, 1), (1165, .iload_n 3, 1), (1166, .iconst 1, 1), (1167, .iadd, 1), (1168, .iaload, 1), (1169, .aload_n 0, 1)]
theorem d_L_law_94 : t_L_law_94.all (fun q => decide (decode code q.1 = .ok q.2)) = true := by decide +kernel
def t_L_law_95 : List (Nat × Instr × Nat) := [(1170, .iload_n 3, 1), (1171, .iconst 2, 1), (1172, .iadd, 1), (1173, .iaload, 1), (1174, .aload_n 0, 1), (1175, .iload_n 3, 1), (1176, .iconst 3, 1), (1177, .iadd, 1)]
theorem d_L_law_95 : t_L_law_95.all (fun q => decide (decode code q.1 = .ok q.2)) = true := by decide +kernel
def t_L_law_96 : List (Nat × Instr × Nat) := [(1178, .iaload, 1), (1179, .invokevirtual 137, 3), (1182, .pop, 1), (1183, .goto 559, 3), (1186, .aload_n 1, 1), (1187, .aload_n 0, 1), (1188, .iload_n 3, 1), (1189, .iconst 1, 1)]
theorem d_L_law_96 : t_L_law_96.all (fun q => decide (decode code q.1 = .ok q.2)) = true := by decide +kernel
def t_L_law_97 : List (Nat × Instr × Nat) := [(1190, .iadd, 1), (1191, .iaload, 1), (1192, .aload_n 0, 1), (1193, .iload_n 3, 1), (1194, .iconst 2, 1), (1195, .iadd, 1), (1196, .iaload, 1), (1197, .aload_n 0, 1)]
theorem d_L_law_97 : t_L_law_97.all (fun q => decide (decode code q.1 = .ok q.2)) = true := by decide +kernel
def t_L_law_98 : List (Nat × Instr × Nat) := [(1198, .iload_n 3, 1), (1199, .iconst 3, 1), (1200, .iadd, 1), (1201, .iaload, 1), (1202, .aload_n 0, 1), (1203, .iload_n 3, 1), (1204, .iconst 4, 1), (1205, .iadd, 1)]
theorem d_L_law_98 : t_L_law_98.all (fun q => decide (decode code q.1 = .ok q.2)) = true := by decide +kernel
def t_L_law_99 : List (Nat × Instr × Nat) := [(1206, .iaload, 1), (1207, .invokevirtual 138, 3), (1210, .pop, 1), (1211, .aload_n 2, 1), (1212, .aload_n 0, 1), (1213, .iload_n 3, 1), (1214, .iconst 1, 1), (1215, .iadd, 1)]
theorem d_L_law_99 : t_L_law_99.all (fun q => decide (decode code q.1 = .ok q.2)) = true := by decide +kernel
def t_L_law_100 : List (Nat × Instr × Nat) := [(1216, .iaload, 1), (1217, .aload_n 0, 1), (1218, .iload_n 3, 1), (1219, .iconst 2, 1), (1220, .iadd, 1), (1221, .iaload, 1), (1222, .aload_n 0, 1), (1223, .iload_n 3, 1)]
theorem d_L_law_100 : t_L_law_100.all (fun q => decide (decode code q.1 = .ok q.2)) = true := by decide +kernel
def t_L_law_101 : List (Nat × Instr × Nat) := [(1224, .iconst 3, 1), (1225, .iadd, 1), (1226, .iaload, 1), (1227, .aload_n 0, 1), (1228, .iload_n 3, 1), (1229, .iconst 4, 1), (1230, .iadd, 1), (1231, .iaload, 1)]
theorem d_L_law_101 : t_L_law_101.all (fun q => decide (decode code q.1 = .ok q.2)) = true := by decide +kernel
def t_L_law_102 : List (Nat × Instr × Nat) := [(1232, .invokevirtual 142, 3), (1235, .pop, 1), (1236, .goto 506, 3), (1239, .aload_n 1, 1), (1240, .aload_n 0, 1), (1241, .iload_n 3, 1), (1242, .iconst 1, 1), (1243, .iadd, 1)]
theorem d_L_law_102 : t_L_law_102.all (fun q => decide (decode code q.1 = .ok q.2)) = true := by decide +kernel
def t_L_law_103 : List (Nat × Instr × Nat) := [(1244, .iaload, 1), (1245, .aload_n 0, 1), (1246, .iload_n 3, 1), (1247, .iconst 2, 1), (1248, .iadd, 1), (1249, .iaload, 1), (1250, .aload_n 0, 1), (1251, .iload_n 3, 1)]
theorem d_L_law_103 : t_L_law_103.all (fun q => decide (decode code q.1 = .ok q.2)) = true := by decide +kernel
def t_L_law_104 : List (Nat × Instr × Nat) := [(1252, .iconst 3, 1), (1253, .iadd, 1), (1254, .iaload, 1), (1255, .invokevirtual 143, 3), (1258, .pop, 1), (1259, .aload_n 2, 1), (1260, .aload_n 0, 1), (1261, .iload_n 3, 1)]
theorem d_L_law_104 : t_L_law_104.all (fun q => decide (decode code q.1 = .ok q.2)) = true := by decide +kernel
def t_L_law_105 : List (Nat × Instr × Nat) := [(1262, .iconst 1, 1), (1263, .iadd, 1), (1264, .iaload, 1), (1265, .aload_n 0, 1), (1266, .iload_n 3, 1), (1267, .iconst 2, 1), (1268, .iadd, 1), (1269, .iaload, 1)]
theorem d_L_law_105 : t_L_law_105.all (fun q => decide (decode code q.1 = .ok q.2)) = true := by decide +kernel
def t_L_law_106 : List (Nat × Instr × Nat) := [(1270, .aload_n 0, 1), (1271, .iload_n 3, 1), (1272, .iconst 3, 1), (1273, .iadd, 1), (1274, .iaload, 1), (1275, .invokevirtual 146, 3), (1278, .pop, 1), (1279, .goto 463, 3)]
theorem d_L_law_106 : t_L_law_106.all (fun q => decide (decode code q.1 = .ok q.2)) = true := by decide +kernel
def t_L_law_107 : List (Nat × Instr × Nat) := [(1282, .aload_n 1, 1), (1283, .aload_n 0, 1), (1284, .iload_n 3, 1), (1285, .iconst 1, 1), (1286, .iadd, 1), (1287, .iaload, 1), (1288, .aload_n 0, 1), (1289, .iload_n 3, 1)]
theorem d_L_law_107 : t_L_law_107.all (fun q => decide (decode code q.1 = .ok q.2)) = true := by decide +kernel
def t_L_law_108 : List (Nat × Instr × Nat) := [(1290, .iconst 2, 1), (1291, .iadd, 1), (1292, .iaload, 1), (1293, .invokevirtual 147, 3), (1296, .pop, 1), (1297, .aload_n 2, 1), (1298, .aload_n 0, 1), (1299, .iload_n 3, 1)]
theorem d_L_law_108 : t_L_law_108.all (fun q => decide (decode code q.1 = .ok q.2)) = true := by decide +kernel
def t_L_law_109 : List (Nat × Instr × Nat) := [(1300, .iconst 1, 1), (1301, .iadd, 1), (1302, .iaload, 1), (1303, .aload_n 0, 1), (1304, .iload_n 3, 1), (1305, .iconst 2, 1), (1306, .iadd, 1), (1307, .iaload, 1)]
theorem d_L_law_109 : t_L_law_109.all (fun q => decide (decode code q.1 = .ok q.2)) = true := by decide +kernel
def t_L_law_110 : List (Nat × Instr × Nat) := [(1308, .invokevirtual 150, 3), (1311, .pop, 1), (1312, .goto 430, 3), (1315, .aload_n 1, 1), (1316, .invokevirtual 151, 3), (1319, .pop, 1), (1320, .aload_n 2, 1), (1321, .invokevirtual 154, 3)]
theorem d_L_law_110 : t_L_law_110.all (fun q => decide (decode code q.1 = .ok q.2)) = true := by decide +kernel
def t_L_law_111 : List (Nat × Instr × Nat) := [(1324, .pop, 1), (1325, .goto 417, 3), (1328, .aload_n 1, 1), (1329, .invokevirtual 155, 3), (1332, .pop, 1), (1333, .aload_n 2, 1), (1334, .invokevirtual 158, 3), (1337, .pop, 1)]
theorem d_L_law_111 : t_L_law_111.all (fun q => decide (decode code q.1 = .ok q.2)) = true := by decide +kernel
def t_L_law_112 : List (Nat × Instr × Nat) := [(1338, .goto 404, 3), (1341, .aload_n 1, 1), (1342, .aload_n 0, 1), (1343, .iload_n 3, 1), (1344, .iconst 1, 1), (1345, .iadd, 1), (1346, .iaload, 1), (1347, .aload_n 0, 1)]
theorem d_L_law_112 : t_L_law_112.all (fun q => decide (decode code q.1 = .ok q.2)) = true := by decide +kernel
def t_L_law_113 : List (Nat × Instr × Nat) := [(1348, .iload_n 3, 1), (1349, .iconst 2, 1), (1350, .iadd, 1), (1351, .iaload, 1), (1352, .aload_n 0, 1), (1353, .iload_n 3, 1), (1354, .iconst 3, 1), (1355, .iadd, 1)]
theorem d_L_law_113 : t_L_law_113.all (fun q => decide (decode code q.1 = .ok q.2)) = true := by decide +kernel
def t_L_law_114 : List (Nat × Instr × Nat) := [(1356, .iaload, 1), (1357, .invokevirtual 159, 3), (1360, .pop, 1), (1361, .aload_n 2, 1), (1362, .aload_n 0, 1), (1363, .iload_n 3, 1), (1364, .iconst 1, 1), (1365, .iadd, 1)]
theorem d_L_law_114 : t_L_law_114.all (fun q => decide (decode code q.1 = .ok q.2)) = true := by decide +kernel
def t_L_law_115 : List (Nat × Instr × Nat) := [(1366, .iaload, 1), (1367, .aload_n 0, 1), (1368, .iload_n 3, 1), (1369, .iconst 2, 1), (1370, .iadd, 1), (1371, .iaload, 1), (1372, .aload_n 0, 1), (1373, .iload_n 3, 1)]
theorem d_L_law_115 : t_L_law_115.all (fun q => decide (decode code q.1 = .ok q.2)) = true := by decide +kernel
def t_L_law_116 : List (Nat × Instr × Nat) := [(1374, .iconst 3, 1), (1375, .iadd, 1), (1376, .iaload, 1), (1377, .invokevirtual 162, 3), (1380, .pop, 1), (1381, .goto 361, 3), (1384, .aload_n 1, 1), (1385, .aload_n 0, 1)]
theorem d_L_law_116 : t_L_law_116.all (fun q => decide (decode code q.1 = .ok q.2)) = true := by decide +kernel
def t_L_law_117 : List (Nat × Instr × Nat) := [(1386, .iload_n 3, 1), (1387, .iconst 1, 1), (1388, .iadd, 1), (1389, .iaload, 1), (1390, .invokevirtual 163, 3), (1393, .pop, 1), (1394, .aload_n 2, 1), (1395, .aload_n 0, 1)]
theorem d_L_law_117 : t_L_law_117.all (fun q => decide (decode code q.1 = .ok q.2)) = true := by decide +kernel
def t_L_law_118 : List (Nat × Instr × Nat) := [(1396, .iload_n 3, 1), (1397, .iconst 1, 1), (1398, .iadd, 1), (1399, .iaload, 1), (1400, .invokevirtual 166, 3), (1403, .pop, 1), (1404, .goto 338, 3), (1407, .aload_n 1, 1)]
theorem d_L_law_118 : t_L_law_118.all (fun q => decide (decode code q.1 = .ok q.2)) = true := by decide +kernel
def t_L_law_119 : List (Nat × Instr × Nat) := [(1408, .aload_n 0, 1), (1409, .iload_n 3, 1), (1410, .iconst 1, 1), (1411, .iadd, 1), (1412, .iaload, 1), (1413, .invokevirtual 167, 3), (1416, .pop, 1), (1417, .aload_n 2, 1)]
theorem d_L_law_119 : t_L_law_119.all (fun q => decide (decode code q.1 = .ok q.2)) = true := by decide +kernel
def t_L_law_120 : List (Nat × Instr × Nat) := [(1418, .aload_n 0, 1), (1419, .iload_n 3, 1), (1420, .iconst 1, 1), (1421, .iadd, 1), (1422, .iaload, 1), (1423, .invokevirtual 170, 3), (1426, .pop, 1), (1427, .goto 315, 3)]
theorem d_L_law_120 : t_L_law_120.all (fun q => decide (decode code q.1 = .ok q.2)) = true := by decide +kernel
def t_L_law_121 : List (Nat × Instr × Nat) := [(1430, .aload_n 1, 1), (1431, .aload_n 0, 1), (1432, .iload_n 3, 1), (1433, .iconst 1, 1), (1434, .iadd, 1), (1435, .iaload, 1), (1436, .invokevirtual 171, 3), (1439, .pop, 1)]
theorem d_L_law_121 : t_L_law_121.all (fun q => decide (decode code q.1 = .ok q.2)) = true := by decide +kernel
def t_L_law_122 : List (Nat × Instr × Nat) := [(1440, .aload_n 2, 1), (1441, .aload_n 0, 1), (1442, .iload_n 3, 1), (1443, .iconst 1, 1), (1444, .iadd, 1), (1445, .iaload, 1), (1446, .invokevirtual 174, 3), (1449, .pop, 1)]
theorem d_L_law_122 : t_L_law_122.all (fun q => decide (decode code q.1 = .ok q.2)) = true := by decide +kernel
def t_L_law_123 : List (Nat × Instr × Nat) := [(1450, .goto 292, 3), (1453, .aload_n 1, 1), (1454, .aload_n 0, 1), (1455, .iload_n 3, 1), (1456, .iconst 1, 1), (1457, .iadd, 1), (1458, .iaload, 1), (1459, .aload_n 0, 1)]
theorem d_L_law_123 : t_L_law_123.all (fun q => decide (decode code q.1 = .ok q.2)) = true := by decide +kernel
def t_L_law_124 : List (Nat × Instr × Nat) := [(1460, .iload_n 3, 1), (1461, .iconst 2, 1), (1462, .iadd, 1), (1463, .iaload, 1), (1464, .aload_n 0, 1), (1465, .iload_n 3, 1), (1466, .iconst 3, 1), (1467, .iadd, 1)]
theorem d_L_law_124 : t_L_law_124.all (fun q => decide (decode code q.1 = .ok q.2)) = true := by decide +kernel
def t_L_law_125 : List (Nat × Instr × Nat) := [(1468, .iaload, 1), (1469, .invokevirtual 175, 3), (1472, .pop, 1), (1473, .aload_n 2, 1), (1474, .aload_n 0, 1), (1475, .iload_n 3, 1), (1476, .iconst 1, 1), (1477, .iadd, 1)]
theorem d_L_law_125 : t_L_law_125.all (fun q => decide (decode code q.1 = .ok q.2)) = true := by decide +kernel
def t_L_law_126 : List (Nat × Instr × Nat) := [(1478, .iaload, 1), (1479, .aload_n 0, 1), (1480, .iload_n 3, 1), (1481, .iconst 2, 1), (1482, .iadd, 1), (1483, .iaload, 1), (1484, .aload_n 0, 1), (1485, .iload_n 3, 1)]
theorem d_L_law_126 : t_L_law_126.all (fun q => decide (decode code q.1 = .ok q.2)) = true := by decide +kernel
def t_L_law_127 : List (Nat × Instr × Nat) := [(1486, .iconst 3, 1), (1487, .iadd, 1), (1488, .iaload, 1), (1489, .invokevirtual 178, 3), (1492, .pop, 1), (1493, .goto 249, 3), (1496, .aload_n 1, 1), (1497, .aload_n 0, 1)]
theorem d_L_law_127 : t_L_law_127.all (fun q => decide (decode code q.1 = .ok q.2)) = true := by decide +kernel
def t_L_law_128 : List (Nat × Instr × Nat) := [(1498, .iload_n 3, 1), (1499, .iconst 1, 1), (1500, .iadd, 1), (1501, .iaload, 1), (1502, .aload_n 0, 1), (1503, .iload_n 3, 1), (1504, .iconst 2, 1), (1505, .iadd, 1)]
theorem d_L_law_128 : t_L_law_128.all (fun q => decide (decode code q.1 = .ok q.2)) = true := by decide +kernel
def t_L_law_129 : List (Nat × Instr × Nat) := [(1506, .iaload, 1), (1507, .invokevirtual 179, 3), (1510, .pop, 1), (1511, .aload_n 2, 1), (1512, .aload_n 0, 1), (1513, .iload_n 3, 1), (1514, .iconst 1, 1), (1515, .iadd, 1)]
theorem d_L_law_129 : t_L_law_129.all (fun q => decide (decode code q.1 = .ok q.2)) = true := by decide +kernel
def t_L_law_130 : List (Nat × Instr × Nat) := [(1516, .iaload, 1), (1517, .aload_n 0, 1), (1518, .iload_n 3, 1), (1519, .iconst 2, 1), (1520, .iadd, 1), (1521, .iaload, 1), (1522, .invokevirtual 182, 3), (1525, .pop, 1)]
theorem d_L_law_130 : t_L_law_130.all (fun q => decide (decode code q.1 = .ok q.2)) = true := by decide +kernel
def t_L_law_131 : List (Nat × Instr × Nat) := [(1526, .goto 216, 3), (1529, .aload_n 1, 1), (1530, .aload_n 0, 1), (1531, .iload_n 3, 1), (1532, .iconst 1, 1), (1533, .iadd, 1), (1534, .iaload, 1), (1535, .aload_n 0, 1)]
theorem d_L_law_131 : t_L_law_131.all (fun q => decide (decode code q.1 = .ok q.2)) = true := by decide +kernel
def t_L_law_132 : List (Nat × Instr × Nat) := [(1536, .iload_n 3, 1), (1537, .iconst 2, 1), (1538, .iadd, 1), (1539, .iaload, 1), (1540, .invokevirtual 183, 3), (1543, .pop, 1), (1544, .aload_n 2, 1), (1545, .aload_n 0, 1)]
theorem d_L_law_132 : t_L_law_132.all (fun q => decide (decode code q.1 = .ok q.2)) = true := by decide +kernel
def t_L_law_133 : List (Nat × Instr × Nat) := [(1546, .iload_n 3, 1), (1547, .iconst 1, 1), (1548, .iadd, 1), (1549, .iaload, 1), (1550, .aload_n 0, 1), (1551, .iload_n 3, 1), (1552, .iconst 2, 1), (1553, .iadd, 1)]
theorem d_L_law_133 : t_L_law_133.all (fun q => decide (decode code q.1 = .ok q.2)) = true := by decide +kernel
def t_L_law_134 : List (Nat × Instr × Nat) := [(1554, .iaload, 1), (1555, .invokevirtual 186, 3), (1558, .pop, 1), (1559, .goto 183, 3), (1562, .aload_n 1, 1), (1563, .aload_n 0, 1), (1564, .iload_n 3, 1), (1565, .iconst 1, 1)]
theorem d_L_law_134 : t_L_law_134.all (fun q => decide (decode code q.1 = .ok q.2)) = true := by decide +kernel
def t_L_law_135 : List (Nat × Instr × Nat) := [(1566, .iadd, 1), (1567, .iaload, 1), (1568, .invokevirtual 187, 3), (1571, .pop, 1), (1572, .aload_n 2, 1), (1573, .aload_n 0, 1), (1574, .iload_n 3, 1), (1575, .iconst 1, 1)]
theorem d_L_law_135 : t_L_law_135.all (fun q => decide (decode code q.1 = .ok q.2)) = true := by decide +kernel
def t_L_law_136 : List (Nat × Instr × Nat) := [(1576, .iadd, 1), (1577, .iaload, 1), (1578, .invokevirtual 190, 3), (1581, .pop, 1), (1582, .goto 160, 3), (1585, .aload_n 1, 1), (1586, .aload_n 0, 1), (1587, .iload_n 3, 1)]
theorem d_L_law_136 : t_L_law_136.all (fun q => decide (decode code q.1 = .ok q.2)) = true := by decide +kernel
def t_L_law_137 : List (Nat × Instr × Nat) := [(1588, .iconst 1, 1), (1589, .iadd, 1), (1590, .iaload, 1), (1591, .invokevirtual 191, 3), (1594, .pop, 1), (1595, .aload_n 2, 1), (1596, .aload_n 0, 1), (1597, .iload_n 3, 1)]
theorem d_L_law_137 : t_L_law_137.all (fun q => decide (decode code q.1 = .ok q.2)) = true := by decide +kernel
def t_L_law_138 : List (Nat × Instr × Nat) := [(1598, .iconst 1, 1), (1599, .iadd, 1), (1600, .iaload, 1), (1601, .invokevirtual 194, 3), (1604, .pop, 1), (1605, .goto 137, 3), (1608, .aload_n 1, 1), (1609, .aload_n 0, 1)]
theorem d_L_law_138 : t_L_law_138.all (fun q => decide (decode code q.1 = .ok q.2)) = true := by decide +kernel
def t_L_law_139 : List (Nat × Instr × Nat) := [(1610, .iload_n 3, 1), (1611, .iconst 1, 1), (1612, .iadd, 1), (1613, .iaload, 1), (1614, .invokevirtual 195, 3), (1617, .pop, 1), (1618, .aload_n 2, 1), (1619, .aload_n 0, 1)]
theorem d_L_law_139 : t_L_law_139.all (fun q => decide (decode code q.1 = .ok q.2)) = true := by decide +kernel
def t_L_law_140 : List (Nat × Instr × Nat) := [(1620, .iload_n 3, 1), (1621, .iconst 1, 1), (1622, .iadd, 1), (1623, .iaload, 1), (1624, .invokevirtual 198, 3), (1627, .pop, 1), (1628, .goto 114, 3), (1631, .aload_n 1, 1)]
theorem d_L_law_140 : t_L_law_140.all (fun q => decide (decode code q.1 = .ok q.2)) = true := by decide +kernel
def t_L_law_141 : List (Nat × Instr × Nat) := [(1632, .invokevirtual 199, 3), (1635, .pop, 1), (1636, .aload_n 2, 1), (1637, .invokevirtual 202, 3), (1640, .pop, 1), (1641, .goto 101, 3), (1644, .aload_n 1, 1), (1645, .invokevirtual 203, 3)]
theorem d_L_law_141 : t_L_law_141.all (fun q => decide (decode code q.1 = .ok q.2)) = true := by decide +kernel
def t_L_law_142 : List (Nat × Instr × Nat) := [(1648, .pop2, 1), (1649, .aload_n 2, 1), (1650, .invokevirtual 207, 3), (1653, .pop2, 1), (1654, .goto 88, 3), (1657, .aload_n 1, 1), (1658, .invokevirtual 208, 3), (1661, .pop2, 1)]
theorem d_L_law_142 : t_L_law_142.all (fun q => decide (decode code q.1 = .ok q.2)) = true := by decide +kernel
def t_L_law_143 : List (Nat × Instr × Nat) := [(1662, .aload_n 2, 1), (1663, .invokevirtual 211, 3), (1666, .pop2, 1), (1667, .goto 75, 3), (1670, .aload_n 1, 1), (1671, .aload_n 0, 1), (1672, .iload_n 3, 1), (1673, .iconst 1, 1)]
theorem d_L_law_143 : t_L_law_143.all (fun q => decide (decode code q.1 = .ok q.2)) = true := by decide +kernel
def t_L_law_144 : List (Nat × Instr × Nat) := [(1674, .iadd, 1), (1675, .iaload, 1), (1676, .invokevirtual 212, 3), (1679, .pop, 1), (1680, .aload_n 2, 1), (1681, .aload_n 0, 1), (1682, .iload_n 3, 1), (1683, .iconst 1, 1)]
theorem d_L_law_144 : t_L_law_144.all (fun q => decide (decode code q.1 = .ok q.2)) = true := by decide +kernel
def t_L_law_145 : List (Nat × Instr × Nat) := [(1684, .iadd, 1), (1685, .iaload, 1), (1686, .invokevirtual 215, 3), (1689, .pop, 1), (1690, .goto 52, 3), (1693, .aload_n 1, 1), (1694, .invokevirtual 216, 3), (1697, .pop, 1)]
theorem d_L_law_145 : t_L_law_145.all (fun q => decide (decode code q.1 = .ok q.2)) = true := by decide +kernel
def t_L_law_146 : List (Nat × Instr × Nat) := [(1698, .aload_n 2, 1), (1699, .invokevirtual 219, 3), (1702, .pop, 1), (1703, .goto 39, 3), (1706, .aload_n 1, 1), (1707, .aload_n 0, 1), (1708, .iload_n 3, 1), (1709, .iconst 1, 1)]
theorem d_L_law_146 : t_L_law_146.all (fun q => decide (decode code q.1 = .ok q.2)) = true := by decide +kernel
def t_L_law_147 : List (Nat × Instr × Nat) := [(1710, .iadd, 1), (1711, .iaload, 1), (1712, .invokevirtual 220, 3), (1715, .pop, 1), (1716, .aload_n 2, 1), (1717, .aload_n 0, 1), (1718, .iload_n 3, 1), (1719, .iconst 1, 1)]
theorem d_L_law_147 : t_L_law_147.all (fun q => decide (decode code q.1 = .ok q.2)) = true := by decide +kernel
def t_L_law_148 : List (Nat × Instr × Nat) := [(1720, .iadd, 1), (1721, .iaload, 1), (1722, .invokevirtual 223, 3), (1725, .pop, 1), (1726, .goto 16, 3), (1729, .aload_n 1, 1), (1730, .invokevirtual 224, 3), (1733, .pop2, 1)]
theorem d_L_law_148 : t_L_law_148.all (fun q => decide (decode code q.1 = .ok q.2)) = true := by decide +kernel
def t_L_law_149 : List (Nat × Instr × Nat) := [(1734, .aload_n 2, 1), (1735, .invokevirtual 227, 3), (1738, .pop2, 1), (1739, .goto 3, 3), (1742, .iinc 3 6, 3), (1745, .goto (-1727), 3), (1748, .iconst 1, 1), (1749, .ireturn, 1)]
theorem d_L_law_149 : t_L_law_149.all (fun q => decide (decode code q.1 = .ok q.2)) = true := by decide +kernel
end
section
theorem ko_D_1 : Cond.methodLink "DoorRounds" 1 Lib.objectInit ∈ lw_g := lw_in (i := 19) (by decide +kernel) (by decide +kernel)
theorem k_D_18 : LK "DoorRounds" 18 Sp_init := Or.inl (lw_in (i := 25) (by decide +kernel) (by decide +kernel))
theorem k_D_27 : LK "DoorRounds" 27 Sn_init := Or.inr ⟨"DoorRounds", by decide +kernel⟩
theorem k_D_44 : LK "DoorRounds" 44 Di_init := Or.inr ⟨"DoorRounds", by decide +kernel⟩
theorem k_D_51 : LK "DoorRounds" 51 Er_init := Or.inr ⟨"DoorRounds", by decide +kernel⟩
theorem k_D_62 : LK "DoorRounds" 62 Pl_init := Or.inl (lw_in (i := 98) (by decide +kernel) (by decide +kernel))
theorem k_D_87 : LK "DoorRounds" 87 D_isRow := Or.inl (lw_in (i := 234) (by decide +kernel) (by decide +kernel))
theorem k_D_91 : LK "DoorRounds" 91 D_found := Or.inl (lw_in (i := 237) (by decide +kernel) (by decide +kernel))
theorem k_D_95 : LK "DoorRounds" 95 D_rowOf := Or.inl (lw_in (i := 241) (by decide +kernel) (by decide +kernel))
theorem k_D_99 : LK "DoorRounds" 99 Sp_renew := Or.inl (lw_in (i := 245) (by decide +kernel) (by decide +kernel))
theorem k_D_103 : LK "DoorRounds" 103 D_placeFinding := Or.inl (lw_in (i := 259) (by decide +kernel) (by decide +kernel))
theorem k_D_107 : LK "DoorRounds" 107 Sp_get := Or.inl (lw_in (i := 270) (by decide +kernel) (by decide +kernel))
theorem k_D_110 : LK "DoorRounds" 110 Sp_set := Or.inl (lw_in (i := 275) (by decide +kernel) (by decide +kernel))
theorem k_D_113 : LK "DoorRounds" 113 D_tell := Or.inl (lw_in (i := 279) (by decide +kernel) (by decide +kernel))
theorem k_D_117 : LK "DoorRounds" 117 Sp_isThere := Or.inl (lw_in (i := 262) (by decide +kernel) (by decide +kernel))
theorem k_D_124 : LK "DoorRounds" 124 Sp_holds := Or.inl (lw_in (i := 295) (by decide +kernel) (by decide +kernel))
theorem kc_D_131 : Cond.methodLink "DoorRounds" 131 arraycopyName ∈ lw_g := lw_in (i := 299) (by decide +kernel) (by decide +kernel)
theorem k_D_137 : LK "DoorRounds" 137 Sp_sum := Or.inl (lw_in (i := 306) (by decide +kernel) (by decide +kernel))
theorem k_D_141 : LK "DoorRounds" 141 D_isText := Or.inl (lw_in (i := 315) (by decide +kernel) (by decide +kernel))
theorem k_D_144 : LK "DoorRounds" 144 D_textOf := Or.inl (lw_in (i := 318) (by decide +kernel) (by decide +kernel))
theorem k_D_147 : LK "DoorRounds" 147 Pl_read := Or.inl (lw_in (i := 330) (by decide +kernel) (by decide +kernel))
theorem k_D_151 : LK "DoorRounds" 151 Pl_rank := Or.inl (lw_in (i := 391) (by decide +kernel) (by decide +kernel))
theorem k_D_154 : LK "DoorRounds" 154 Sn_begin := Or.inl (lw_in (i := 399) (by decide +kernel) (by decide +kernel))
theorem k_D_159 : LK "DoorRounds" 159 D_keptOf := Or.inl (lw_in (i := 408) (by decide +kernel) (by decide +kernel))
theorem k_D_164 : LK "DoorRounds" 164 Pl_hasShop := Or.inl (lw_in (i := 419) (by decide +kernel) (by decide +kernel))
theorem k_D_167 : LK "DoorRounds" 167 D_trait := Or.inl (lw_in (i := 420) (by decide +kernel) (by decide +kernel))
theorem k_D_170 : LK "DoorRounds" 170 Pl_shopOf := Or.inl (lw_in (i := 424) (by decide +kernel) (by decide +kernel))
theorem k_D_174 : LK "DoorRounds" 174 Sh_isOf := Or.inl (lw_in (i := 433) (by decide +kernel) (by decide +kernel))
theorem k_D_179 : LK "DoorRounds" 179 D_neighbours := Or.inl (lw_in (i := 437) (by decide +kernel) (by decide +kernel))
theorem k_D_182 : LK "DoorRounds" 182 D_rivals := Or.inl (lw_in (i := 453) (by decide +kernel) (by decide +kernel))
theorem k_D_185 : LK "DoorRounds" 185 Sh_weeksToSleep := Or.inl (lw_in (i := 470) (by decide +kernel) (by decide +kernel))
theorem k_D_188 : LK "DoorRounds" 188 Sh_weeksToTurn := Or.inl (lw_in (i := 474) (by decide +kernel) (by decide +kernel))
theorem k_D_194 : LK "DoorRounds" 194 Sh_way := Or.inl (lw_in (i := 478) (by decide +kernel) (by decide +kernel))
theorem k_D_198 : LK "DoorRounds" 198 Pl_hasDoor := Or.inl (lw_in (i := 489) (by decide +kernel) (by decide +kernel))
theorem k_D_201 : LK "DoorRounds" 201 Sn_isShut := Or.inl (lw_in (i := 493) (by decide +kernel) (by decide +kernel))
theorem k_D_204 : LK "DoorRounds" 204 Sn_shutCount := Or.inl (lw_in (i := 500) (by decide +kernel) (by decide +kernel))
theorem k_D_211 : LK "DoorRounds" 211 Pl_isThere := Or.inl (lw_in (i := 518) (by decide +kernel) (by decide +kernel))
theorem k_D_213 : LK "DoorRounds" 213 Sn_pass := Or.inl (lw_in (i := 523) (by decide +kernel) (by decide +kernel))
theorem k_D_217 : LK "DoorRounds" 217 Sn_doorOf := Or.inl (lw_in (i := 425) (by decide +kernel) (by decide +kernel))
theorem k_D_220 : LK "DoorRounds" 220 Sn_become := Or.inl (lw_in (i := 543) (by decide +kernel) (by decide +kernel))
theorem k_D_224 : LK "DoorRounds" 224 Sn_wanted := Or.inl (lw_in (i := 457) (by decide +kernel) (by decide +kernel))
theorem k_D_229 : LK "DoorRounds" 229 Pl_wrapped := Or.inl (lw_in (i := 557) (by decide +kernel) (by decide +kernel))
theorem k_D_233 : LK "DoorRounds" 233 Sn_differing := Or.inl (lw_in (i := 562) (by decide +kernel) (by decide +kernel))
theorem k_D_237 : LK "DoorRounds" 237 D_isKeptPlace := Or.inl (lw_in (i := 412) (by decide +kernel) (by decide +kernel))
theorem k_D_240 : LK "DoorRounds" 240 D_areTwo := Or.inl (lw_in (i := 578) (by decide +kernel) (by decide +kernel))
theorem k_D_243 : LK "DoorRounds" 243 Pl_walking := Or.inl (lw_in (i := 441) (by decide +kernel) (by decide +kernel))
theorem k_D_249 : LK "DoorRounds" 249 Pl_commonWith := Or.inl (lw_in (i := 590) (by decide +kernel) (by decide +kernel))
theorem k_D_255 : LK "DoorRounds" 255 Pl_canMeet := Or.inl (lw_in (i := 604) (by decide +kernel) (by decide +kernel))
theorem k_D_258 : LK "DoorRounds" 258 Pl_hasSet := Or.inl (lw_in (i := 617) (by decide +kernel) (by decide +kernel))
theorem k_D_261 : LK "DoorRounds" 261 Sn_roundOf := Or.inl (lw_in (i := 621) (by decide +kernel) (by decide +kernel))
theorem k_D_265 : LK "DoorRounds" 265 Er_begin := Or.inl (lw_in (i := 635) (by decide +kernel) (by decide +kernel))
theorem k_D_267 : LK "DoorRounds" 267 Er_look := Or.inl (lw_in (i := 643) (by decide +kernel) (by decide +kernel))
theorem k_D_271 : LK "DoorRounds" 271 Er_share := Or.inl (lw_in (i := 658) (by decide +kernel) (by decide +kernel))
theorem k_D_274 : LK "DoorRounds" 274 ji_bitCount := Or.inl (lw_in (i := 666) (by decide +kernel) (by decide +kernel))
theorem k_D_279 : LK "DoorRounds" 279 D_isIn := Or.inl (lw_in (i := 667) (by decide +kernel) (by decide +kernel))
theorem k_D_282 : LK "DoorRounds" 282 Er_weekFor := Or.inl (lw_in (i := 668) (by decide +kernel) (by decide +kernel))
theorem k_D_285 : LK "DoorRounds" 285 Er_walkingFor := Or.inl (lw_in (i := 672) (by decide +kernel) (by decide +kernel))
theorem k_D_288 : LK "DoorRounds" 288 D_metBy := Or.inl (lw_in (i := 684) (by decide +kernel) (by decide +kernel))
theorem k_D_291 : LK "DoorRounds" 291 D_pairCode := Or.inl (lw_in (i := 692) (by decide +kernel) (by decide +kernel))
theorem k_D_294 : LK "DoorRounds" 294 Di_write := Or.inl (lw_in (i := 703) (by decide +kernel) (by decide +kernel))
theorem k_D_301 : LK "DoorRounds" 301 Di_fits := Or.inl (lw_in (i := 715) (by decide +kernel) (by decide +kernel))
theorem k_D_305 : LK "DoorRounds" 305 D_isLook := Or.inl (lw_in (i := 730) (by decide +kernel) (by decide +kernel))
theorem k_D_308 : LK "DoorRounds" 308 D_passersFinding := Or.inl (lw_in (i := 733) (by decide +kernel) (by decide +kernel))
theorem k_D_311 : LK "DoorRounds" 311 D_rentOf := Or.inl (lw_in (i := 737) (by decide +kernel) (by decide +kernel))
theorem k_D_315 : LK "DoorRounds" 315 D_tellFraction := Or.inl (lw_in (i := 745) (by decide +kernel) (by decide +kernel))
theorem k_D_319 : LK "DoorRounds" 319 D_imageFinding := Or.inl (lw_in (i := 766) (by decide +kernel) (by decide +kernel))
theorem k_D_322 : LK "DoorRounds" 322 Sn_setDoor := Or.inl (lw_in (i := 774) (by decide +kernel) (by decide +kernel))
theorem k_D_325 : LK "DoorRounds" 325 D_countOf := Or.inl (lw_in (i := 791) (by decide +kernel) (by decide +kernel))
theorem k_D_332 : LK "DoorRounds" 332 Di_mixedInto := Or.inl (lw_in (i := 817) (by decide +kernel) (by decide +kernel))
theorem k_D_336 : LK "DoorRounds" 336 Sp_mixedInto := Or.inl (lw_in (i := 822) (by decide +kernel) (by decide +kernel))
theorem k_D_337 : LK "DoorRounds" 337 D_greatestCommon := Or.inl (lw_in (i := 749) (by decide +kernel) (by decide +kernel))
theorem k_D_341 : LK "DoorRounds" 341 Sp_has := Or.inl (lw_in (i := 266) (by decide +kernel) (by decide +kernel))
theorem k_D_344 : LK "DoorRounds" 344 Pl_hasDoorSet := Or.inl (lw_in (i := 770) (by decide +kernel) (by decide +kernel))
theorem k_D_353 : LK "DoorRounds" 353 Pl_sleepers := Or.inl (lw_in (i := 795) (by decide +kernel) (by decide +kernel))
theorem k_D_356 : LK "DoorRounds" 356 D_countThere := Or.inl (lw_in (i := 800) (by decide +kernel) (by decide +kernel))
theorem km_D_360 : Cond.methodLink "DoorRounds" 360 Lib.MathLoose.abs_long.x ∈ lw_g := lw_in (i := 597) (by decide +kernel) (by decide +kernel)
theorem ko_Di_3 : Cond.methodLink "DoorRounds$Diary" 3 Lib.objectInit ∈ lw_g := lw_in (i := 67) (by decide +kernel) (by decide +kernel)
theorem k_Di_25 : LK "DoorRounds$Diary" 25 Pl_shopOf := Or.inl (lw_in (i := 719) (by decide +kernel) (by decide +kernel))
theorem k_Di_36 : LK "DoorRounds$Diary" 36 Sh_wayOf := Or.inl (lw_in (i := 720) (by decide +kernel) (by decide +kernel))
theorem k_Di_40 : LK "DoorRounds$Diary" 40 Pl_wrapped := Or.inl (lw_in (i := 721) (by decide +kernel) (by decide +kernel))
theorem ko_Er_5 : Cond.methodLink "DoorRounds$Errands" 5 Lib.objectInit ∈ lw_g := lw_in (i := 87) (by decide +kernel) (by decide +kernel)
theorem k_Er_20 : LK "DoorRounds$Errands" 20 ja_fillJ := Or.inl (lw_in (i := 640) (by decide +kernel) (by decide +kernel))
theorem k_Er_26 : LK "DoorRounds$Errands" 26 Sn_roundOf := Or.inl (lw_in (i := 647) (by decide +kernel) (by decide +kernel))
theorem k_Er_32 : LK "DoorRounds$Errands" 32 Er_weeksCode := Or.inl (lw_in (i := 648) (by decide +kernel) (by decide +kernel))
theorem km_Er_36 : Cond.methodLink "DoorRounds$Errands" 36 Lib.MathLoose.min_long.x ∈ lw_g := lw_in (i := 655) (by decide +kernel) (by decide +kernel)
theorem k_Er_42 : LK "DoorRounds$Errands" 42 D_isIn := Or.inr ⟨"DoorRounds", by decide +kernel⟩
theorem k_Er_46 : LK "DoorRounds$Errands" 46 Er_shiftOf := Or.inl (lw_in (i := 652) (by decide +kernel) (by decide +kernel))
theorem k_Er_50 : LK "DoorRounds$Errands" 50 Er_leastOf := Or.inl (lw_in (i := 662) (by decide +kernel) (by decide +kernel))
theorem ko_Pl_3 : Cond.methodLink "DoorRounds$Plan" 3 Lib.objectInit ∈ lw_g := lw_in (i := 101) (by decide +kernel) (by decide +kernel)
theorem k_Pl_24 : LK "DoorRounds$Plan" 24 Sh_init := Or.inr ⟨"DoorRounds", by decide +kernel⟩
theorem k_Pl_35 : LK "DoorRounds$Plan" 35 Rd_init := Or.inr ⟨"DoorRounds", by decide +kernel⟩
theorem k_Pl_40 : LK "DoorRounds$Plan" 40 Pl_hasShop := Or.inl (lw_in (i := 378) (by decide +kernel) (by decide +kernel))
theorem k_Pl_44 : LK "DoorRounds$Plan" 44 Pl_shopOf := Or.inl (lw_in (i := 374) (by decide +kernel) (by decide +kernel))
theorem k_Pl_48 : LK "DoorRounds$Plan" 48 Sh_isOf := Or.inl (lw_in (i := 799) (by decide +kernel) (by decide +kernel))
theorem km_Pl_51 : Cond.methodLink "DoorRounds$Plan" 51 fm_x ∈ lw_g := lw_in (i := 449) (by decide +kernel) (by decide +kernel)
theorem k_Pl_57 : LK "DoorRounds$Plan" 57 Pl_wrapped := Or.inl (lw_in (i := 445) (by decide +kernel) (by decide +kernel))
theorem km_Pl_61 : Cond.methodLink "DoorRounds$Plan" 61 Lib.Math.min.name ∈ lw_g := lw_in (i := 452) (by decide +kernel) (by decide +kernel)
theorem k_Pl_65 : LK "DoorRounds$Plan" 65 D_greatestCommon := Or.inr ⟨"DoorRounds", by decide +kernel⟩
theorem k_Pl_68 : LK "DoorRounds$Plan" 68 Pl_commonWith := Or.inl (lw_in (i := 608) (by decide +kernel) (by decide +kernel))
theorem k_Pl_75 : LK "DoorRounds$Plan" 75 Rd_begin := Or.inl (lw_in (i := 334) (by decide +kernel) (by decide +kernel))
theorem k_Pl_79 : LK "DoorRounds$Plan" 79 Rd_skipBlanks := Or.inl (lw_in (i := 338) (by decide +kernel) (by decide +kernel))
theorem k_Pl_82 : LK "DoorRounds$Plan" 82 Rd_passes := Or.inl (lw_in (i := 343) (by decide +kernel) (by decide +kernel))
theorem k_Pl_85 : LK "DoorRounds$Plan" 85 Rd_readNumber := Or.inl (lw_in (i := 351) (by decide +kernel) (by decide +kernel))
theorem k_Pl_95 : LK "DoorRounds$Plan" 95 Rd_isAtEnd := Or.inl (lw_in (i := 358) (by decide +kernel) (by decide +kernel))
theorem k_Pl_99 : LK "DoorRounds$Plan" 99 Pl_readShop := Or.inl (lw_in (i := 359) (by decide +kernel) (by decide +kernel))
theorem k_Pl_103 : LK "DoorRounds$Plan" 103 Rd_readKind := Or.inl (lw_in (i := 363) (by decide +kernel) (by decide +kernel))
theorem k_Pl_109 : LK "DoorRounds$Plan" 109 Pl_isFirstDoor := Or.inl (lw_in (i := 370) (by decide +kernel) (by decide +kernel))
theorem k_Pl_112 : LK "DoorRounds$Plan" 112 Rd_readStep := Or.inl (lw_in (i := 382) (by decide +kernel) (by decide +kernel))
theorem k_Pl_124 : LK "DoorRounds$Plan" 124 Pl_isAhead := Or.inl (lw_in (i := 395) (by decide +kernel) (by decide +kernel))
theorem ko_Rd_3 : Cond.methodLink "DoorRounds$Reader" 3 Lib.objectInit ∈ lw_g := lw_in (i := 142) (by decide +kernel) (by decide +kernel)
theorem k_Rd_11 : LK "DoorRounds$Reader" 11 Sp_init := Or.inl (lw_in (i := 144) (by decide +kernel) (by decide +kernel))
theorem k_Rd_30 : LK "DoorRounds$Reader" 30 Sp_get := Or.inl (lw_in (i := 342) (by decide +kernel) (by decide +kernel))
theorem k_Rd_34 : LK "DoorRounds$Reader" 34 Rd_isAtEnd := Or.inl (lw_in (i := 347) (by decide +kernel) (by decide +kernel))
theorem k_Rd_38 : LK "DoorRounds$Reader" 38 Rd_isFigure := Or.inl (lw_in (i := 355) (by decide +kernel) (by decide +kernel))
theorem k_Rd_46 : LK "DoorRounds$Reader" 46 Rd_passes := Or.inl (lw_in (i := 369) (by decide +kernel) (by decide +kernel))
theorem k_Rd_49 : LK "DoorRounds$Reader" 49 Rd_readNumber := Or.inl (lw_in (i := 386) (by decide +kernel) (by decide +kernel))
theorem ko_Sh_3 : Cond.methodLink "DoorRounds$Shop" 3 Lib.objectInit ∈ lw_g := lw_in (i := 108) (by decide +kernel) (by decide +kernel)
theorem k_Sh_27 : LK "DoorRounds$Shop" 27 Sh_going := Or.inl (lw_in (i := 466) (by decide +kernel) (by decide +kernel))
theorem k_Sh_31 : LK "DoorRounds$Shop" 31 Sh_wayOf := Or.inl (lw_in (i := 482) (by decide +kernel) (by decide +kernel))
theorem ko_Sn_3 : Cond.methodLink "DoorRounds$Standing" 3 Lib.objectInit ∈ lw_g := lw_in (i := 48) (by decide +kernel) (by decide +kernel)
theorem k_Sn_27 : LK "DoorRounds$Standing" 27 Pl_shopOf := Or.inl (lw_in (i := 403) (by decide +kernel) (by decide +kernel))
theorem k_Sn_36 : LK "DoorRounds$Standing" 36 Sn_setDoor := Or.inl (lw_in (i := 404) (by decide +kernel) (by decide +kernel))
theorem kc_Sn_40 : Cond.methodLink "DoorRounds$Standing" 40 arraycopyName ∈ lw_g := lw_in (i := 547) (by decide +kernel) (by decide +kernel)
theorem k_Sn_46 : LK "DoorRounds$Standing" 46 D_isIn := Or.inr ⟨"DoorRounds", by decide +kernel⟩
theorem k_Sn_50 : LK "DoorRounds$Standing" 50 ji_bitCount := Or.inl (lw_in (i := 504) (by decide +kernel) (by decide +kernel))
theorem k_Sn_56 : LK "DoorRounds$Standing" 56 Sn_doorOf := Or.inl (lw_in (i := 461) (by decide +kernel) (by decide +kernel))
theorem k_Sn_59 : LK "DoorRounds$Standing" 59 Sh_goingIn := Or.inl (lw_in (i := 462) (by decide +kernel) (by decide +kernel))
theorem k_Sn_62 : LK "DoorRounds$Standing" 62 Pl_wrapped := Or.inl (lw_in (i := 469) (by decide +kernel) (by decide +kernel))
theorem k_Sn_66 : LK "DoorRounds$Standing" 66 Sn_passOne := Or.inl (lw_in (i := 527) (by decide +kernel) (by decide +kernel))
theorem km_Sn_75 : Cond.methodLink "DoorRounds$Standing" 75 Lib.Math.max.name ∈ lw_g := lw_in (i := 625) (by decide +kernel) (by decide +kernel)
theorem km_Sn_81 : Cond.methodLink "DoorRounds$Standing" 81 Lib.Math.min.name ∈ lw_g := lw_in (i := 626) (by decide +kernel) (by decide +kernel)
theorem ko_Sp_3 : Cond.methodLink "DoorRounds$Strip" 3 Lib.objectInit ∈ lw_g := lw_in (i := 28) (by decide +kernel) (by decide +kernel)
theorem km_Sp_15 : Cond.methodLink "DoorRounds$Strip" 15 Lib.Math.max.name ∈ lw_g := lw_in (i := 29) (by decide +kernel) (by decide +kernel)
theorem k_Sp_25 : LK "DoorRounds$Strip" 25 Sp_has := Or.inl (lw_in (i := 274) (by decide +kernel) (by decide +kernel))
theorem km_Sp_29 : Cond.methodLink "DoorRounds$Strip" 29 Lib.Math.min.name ∈ lw_g := lw_in (i := 249) (by decide +kernel) (by decide +kernel)
theorem k_Sp_32 : LK "DoorRounds$Strip" 32 ja_fill := Or.inl (lw_in (i := 252) (by decide +kernel) (by decide +kernel))
theorem k_Sp_38 : LK "DoorRounds$Strip" 38 Sp_get := Or.inl (lw_in (i := 310) (by decide +kernel) (by decide +kernel))
theorem k_L_9 : LK "DoorRoundsLaw" 9 D_init := Or.inl (lw_in (i := 16) (by decide +kernel) (by decide +kernel))
theorem k_L_12 : LK "DoorRoundsLaw" 12 m_init := Or.inl (lw_in (i := 829) (by decide +kernel) (by decide +kernel))
theorem k_L_13 : LK "DoorRoundsLaw" 13 D_row := Or.inl (lw_in (i := 230) (by decide +kernel) (by decide +kernel))
theorem k_L_17 : LK "DoorRoundsLaw" 17 m_row := Or.inl (lw_in (i := 933) (by decide +kernel) (by decide +kernel))
theorem k_L_18 : LK "DoorRoundsLaw" 18 D_lay := Or.inl (lw_in (i := 255) (by decide +kernel) (by decide +kernel))
theorem k_L_22 : LK "DoorRoundsLaw" 22 m_lay := Or.inl (lw_in (i := 967) (by decide +kernel) (by decide +kernel))
theorem k_L_23 : LK "DoorRoundsLaw" 23 D_at := Or.inl (lw_in (i := 283) (by decide +kernel) (by decide +kernel))
theorem k_L_26 : LK "DoorRoundsLaw" 26 m_at := Or.inl (lw_in (i := 951) (by decide +kernel) (by decide +kernel))
theorem k_L_27 : LK "DoorRoundsLaw" 27 D_tear := Or.inl (lw_in (i := 287) (by decide +kernel) (by decide +kernel))
theorem k_L_31 : LK "DoorRoundsLaw" 31 m_tear := Or.inl (lw_in (i := 972) (by decide +kernel) (by decide +kernel))
theorem k_L_32 : LK "DoorRoundsLaw" 32 D_copy := Or.inl (lw_in (i := 291) (by decide +kernel) (by decide +kernel))
theorem k_L_36 : LK "DoorRoundsLaw" 36 m_copy := Or.inl (lw_in (i := 976) (by decide +kernel) (by decide +kernel))
theorem k_L_37 : LK "DoorRoundsLaw" 37 D_mean := Or.inl (lw_in (i := 302) (by decide +kernel) (by decide +kernel))
theorem k_L_40 : LK "DoorRoundsLaw" 40 m_mean := Or.inl (lw_in (i := 980) (by decide +kernel) (by decide +kernel))
theorem k_L_41 : LK "DoorRoundsLaw" 41 D_text := Or.inl (lw_in (i := 311) (by decide +kernel) (by decide +kernel))
theorem k_L_44 : LK "DoorRoundsLaw" 44 m_text := Or.inl (lw_in (i := 984) (by decide +kernel) (by decide +kernel))
theorem k_L_45 : LK "DoorRoundsLaw" 45 D_put := Or.inl (lw_in (i := 322) (by decide +kernel) (by decide +kernel))
theorem k_L_48 : LK "DoorRoundsLaw" 48 m_put := Or.inl (lw_in (i := 991) (by decide +kernel) (by decide +kernel))
theorem k_L_49 : LK "DoorRoundsLaw" 49 D_fault := Or.inl (lw_in (i := 326) (by decide +kernel) (by decide +kernel))
theorem k_L_52 : LK "DoorRoundsLaw" 52 m_fault := Or.inl (lw_in (i := 999) (by decide +kernel) (by decide +kernel))
theorem k_L_53 : LK "DoorRoundsLaw" 53 D_square := Or.inl (lw_in (i := 387) (by decide +kernel) (by decide +kernel))
theorem k_L_56 : LK "DoorRoundsLaw" 56 m_square := Or.inl (lw_in (i := 1038) (by decide +kernel) (by decide +kernel))
theorem k_L_57 : LK "DoorRoundsLaw" 57 D_about := Or.inl (lw_in (i := 415) (by decide +kernel) (by decide +kernel))
theorem k_L_60 : LK "DoorRoundsLaw" 60 m_about := Or.inl (lw_in (i := 1046) (by decide +kernel) (by decide +kernel))
theorem k_L_61 : LK "DoorRoundsLaw" 61 D_mark := Or.inl (lw_in (i := 429) (by decide +kernel) (by decide +kernel))
theorem k_L_64 : LK "DoorRoundsLaw" 64 m_mark := Or.inl (lw_in (i := 1058) (by decide +kernel) (by decide +kernel))
theorem k_L_65 : LK "DoorRoundsLaw" 65 D_shut := Or.inl (lw_in (i := 485) (by decide +kernel) (by decide +kernel))
theorem k_L_68 : LK "DoorRoundsLaw" 68 m_shut := Or.inl (lw_in (i := 1081) (by decide +kernel) (by decide +kernel))
theorem k_L_69 : LK "DoorRoundsLaw" 69 D_open := Or.inl (lw_in (i := 510) (by decide +kernel) (by decide +kernel))
theorem k_L_72 : LK "DoorRoundsLaw" 72 m_open := Or.inl (lw_in (i := 1093) (by decide +kernel) (by decide +kernel))
theorem k_L_73 : LK "DoorRoundsLaw" 73 D_go := Or.inl (lw_in (i := 514) (by decide +kernel) (by decide +kernel))
theorem k_L_76 : LK "DoorRoundsLaw" 76 m_go := Or.inl (lw_in (i := 1097) (by decide +kernel) (by decide +kernel))
theorem k_L_77 : LK "DoorRoundsLaw" 77 D_doors := Or.inl (lw_in (i := 531) (by decide +kernel) (by decide +kernel))
theorem k_L_80 : LK "DoorRoundsLaw" 80 m_doors := Or.inl (lw_in (i := 1114) (by decide +kernel) (by decide +kernel))
theorem k_L_81 : LK "DoorRoundsLaw" 81 D_who := Or.inl (lw_in (i := 535) (by decide +kernel) (by decide +kernel))
theorem k_L_84 : LK "DoorRoundsLaw" 84 m_who := Or.inl (lw_in (i := 1119) (by decide +kernel) (by decide +kernel))
theorem k_L_85 : LK "DoorRoundsLaw" 85 D_wants := Or.inl (lw_in (i := 539) (by decide +kernel) (by decide +kernel))
theorem k_L_88 : LK "DoorRoundsLaw" 88 m_wants := Or.inl (lw_in (i := 1123) (by decide +kernel) (by decide +kernel))
theorem k_L_89 : LK "DoorRoundsLaw" 89 D_where := Or.inl (lw_in (i := 548) (by decide +kernel) (by decide +kernel))
theorem k_L_92 : LK "DoorRoundsLaw" 92 m_where := Or.inl (lw_in (i := 1127) (by decide +kernel) (by decide +kernel))
theorem k_L_93 : LK "DoorRoundsLaw" 93 D_plainly := Or.inl (lw_in (i := 552) (by decide +kernel) (by decide +kernel))
theorem k_L_96 : LK "DoorRoundsLaw" 96 m_plainly := Or.inl (lw_in (i := 1131) (by decide +kernel) (by decide +kernel))
theorem k_L_97 : LK "DoorRoundsLaw" 97 D_again := Or.inl (lw_in (i := 558) (by decide +kernel) (by decide +kernel))
theorem k_L_101 : LK "DoorRoundsLaw" 101 m_again := Or.inl (lw_in (i := 1144) (by decide +kernel) (by decide +kernel))
theorem k_L_102 : LK "DoorRoundsLaw" 102 D_keep := Or.inl (lw_in (i := 566) (by decide +kernel) (by decide +kernel))
theorem k_L_105 : LK "DoorRoundsLaw" 105 m_keep := Or.inl (lw_in (i := 1148) (by decide +kernel) (by decide +kernel))
theorem k_L_106 : LK "DoorRoundsLaw" 106 D_on := Or.inl (lw_in (i := 570) (by decide +kernel) (by decide +kernel))
theorem k_L_109 : LK "DoorRoundsLaw" 109 m_on := Or.inl (lw_in (i := 1152) (by decide +kernel) (by decide +kernel))
theorem k_L_110 : LK "DoorRoundsLaw" 110 D_beside := Or.inl (lw_in (i := 574) (by decide +kernel) (by decide +kernel))
theorem k_L_113 : LK "DoorRoundsLaw" 113 m_beside := Or.inl (lw_in (i := 1156) (by decide +kernel) (by decide +kernel))
theorem k_L_114 : LK "DoorRoundsLaw" 114 D_comes := Or.inl (lw_in (i := 582) (by decide +kernel) (by decide +kernel))
theorem k_L_117 : LK "DoorRoundsLaw" 117 m_comes := Or.inl (lw_in (i := 1160) (by decide +kernel) (by decide +kernel))
theorem k_L_118 : LK "DoorRoundsLaw" 118 D_meets := Or.inl (lw_in (i := 586) (by decide +kernel) (by decide +kernel))
theorem k_L_121 : LK "DoorRoundsLaw" 121 m_meets := Or.inl (lw_in (i := 1164) (by decide +kernel) (by decide +kernel))
theorem k_L_122 : LK "DoorRoundsLaw" 122 D_never := Or.inl (lw_in (i := 600) (by decide +kernel) (by decide +kernel))
theorem k_L_125 : LK "DoorRoundsLaw" 125 m_never := Or.inl (lw_in (i := 1176) (by decide +kernel) (by decide +kernel))
theorem k_L_126 : LK "DoorRoundsLaw" 126 D_walk := Or.inl (lw_in (i := 609) (by decide +kernel) (by decide +kernel))
theorem k_L_129 : LK "DoorRoundsLaw" 129 m_walk := Or.inl (lw_in (i := 1180) (by decide +kernel) (by decide +kernel))
theorem k_L_130 : LK "DoorRoundsLaw" 130 D_round := Or.inl (lw_in (i := 613) (by decide +kernel) (by decide +kernel))
theorem k_L_133 : LK "DoorRoundsLaw" 133 m_round := Or.inl (lw_in (i := 1188) (by decide +kernel) (by decide +kernel))
theorem k_L_134 : LK "DoorRoundsLaw" 134 D_best := Or.inl (lw_in (i := 627) (by decide +kernel) (by decide +kernel))
theorem k_L_137 : LK "DoorRoundsLaw" 137 m_best := Or.inl (lw_in (i := 1200) (by decide +kernel) (by decide +kernel))
theorem k_L_138 : LK "DoorRoundsLaw" 138 D_errands := Or.inl (lw_in (i := 631) (by decide +kernel) (by decide +kernel))
theorem k_L_142 : LK "DoorRoundsLaw" 142 m_errands := Or.inl (lw_in (i := 1205) (by decide +kernel) (by decide +kernel))
theorem k_L_143 : LK "DoorRoundsLaw" 143 D_agree := Or.inl (lw_in (i := 676) (by decide +kernel) (by decide +kernel))
theorem k_L_146 : LK "DoorRoundsLaw" 146 m_agree := Or.inl (lw_in (i := 1217) (by decide +kernel) (by decide +kernel))
theorem k_L_147 : LK "DoorRoundsLaw" 147 D_joins := Or.inl (lw_in (i := 680) (by decide +kernel) (by decide +kernel))
theorem k_L_150 : LK "DoorRoundsLaw" 150 m_joins := Or.inl (lw_in (i := 1221) (by decide +kernel) (by decide +kernel))
theorem k_L_151 : LK "DoorRoundsLaw" 151 D_quiet := Or.inl (lw_in (i := 688) (by decide +kernel) (by decide +kernel))
theorem k_L_154 : LK "DoorRoundsLaw" 154 m_quiet := Or.inl (lw_in (i := 1229) (by decide +kernel) (by decide +kernel))
theorem k_L_155 : LK "DoorRoundsLaw" 155 D_busy := Or.inl (lw_in (i := 695) (by decide +kernel) (by decide +kernel))
theorem k_L_158 : LK "DoorRoundsLaw" 158 m_busy := Or.inl (lw_in (i := 1233) (by decide +kernel) (by decide +kernel))
theorem k_L_159 : LK "DoorRoundsLaw" 159 D_note := Or.inl (lw_in (i := 699) (by decide +kernel) (by decide +kernel))
theorem k_L_162 : LK "DoorRoundsLaw" 162 m_note := Or.inl (lw_in (i := 1240) (by decide +kernel) (by decide +kernel))
theorem k_L_163 : LK "DoorRoundsLaw" 163 D_back := Or.inl (lw_in (i := 707) (by decide +kernel) (by decide +kernel))
theorem k_L_166 : LK "DoorRoundsLaw" 166 m_back := Or.inl (lw_in (i := 1244) (by decide +kernel) (by decide +kernel))
theorem k_L_167 : LK "DoorRoundsLaw" 167 D_steps := Or.inl (lw_in (i := 711) (by decide +kernel) (by decide +kernel))
theorem k_L_170 : LK "DoorRoundsLaw" 170 m_steps := Or.inl (lw_in (i := 1248) (by decide +kernel) (by decide +kernel))
theorem k_L_171 : LK "DoorRoundsLaw" 171 D_kinds := Or.inl (lw_in (i := 722) (by decide +kernel) (by decide +kernel))
theorem k_L_174 : LK "DoorRoundsLaw" 174 m_kinds := Or.inl (lw_in (i := 1256) (by decide +kernel) (by decide +kernel))
theorem k_L_175 : LK "DoorRoundsLaw" 175 D_rent := Or.inl (lw_in (i := 726) (by decide +kernel) (by decide +kernel))
theorem k_L_178 : LK "DoorRoundsLaw" 178 m_rent := Or.inl (lw_in (i := 1260) (by decide +kernel) (by decide +kernel))
theorem k_L_179 : LK "DoorRoundsLaw" 179 D_dearest := Or.inl (lw_in (i := 741) (by decide +kernel) (by decide +kernel))
theorem k_L_182 : LK "DoorRoundsLaw" 182 m_dearest := Or.inl (lw_in (i := 1272) (by decide +kernel) (by decide +kernel))
theorem k_L_183 : LK "DoorRoundsLaw" 183 D_mends := Or.inl (lw_in (i := 750) (by decide +kernel) (by decide +kernel))
theorem k_L_186 : LK "DoorRoundsLaw" 186 m_mends := Or.inl (lw_in (i := 1280) (by decide +kernel) (by decide +kernel))
theorem k_L_187 : LK "DoorRoundsLaw" 187 D_worst := Or.inl (lw_in (i := 754) (by decide +kernel) (by decide +kernel))
theorem k_L_190 : LK "DoorRoundsLaw" 190 m_worst := Or.inl (lw_in (i := 1292) (by decide +kernel) (by decide +kernel))
theorem k_L_191 : LK "DoorRoundsLaw" 191 D_image := Or.inl (lw_in (i := 758) (by decide +kernel) (by decide +kernel))
theorem k_L_194 : LK "DoorRoundsLaw" 194 m_image := Or.inl (lw_in (i := 1296) (by decide +kernel) (by decide +kernel))
theorem k_L_195 : LK "DoorRoundsLaw" 195 D_gone := Or.inl (lw_in (i := 762) (by decide +kernel) (by decide +kernel))
theorem k_L_198 : LK "DoorRoundsLaw" 198 m_gone := Or.inl (lw_in (i := 1300) (by decide +kernel) (by decide +kernel))
theorem k_L_199 : LK "DoorRoundsLaw" 199 D_asked := Or.inl (lw_in (i := 775) (by decide +kernel) (by decide +kernel))
theorem k_L_202 : LK "DoorRoundsLaw" 202 m_asked := Or.inl (lw_in (i := 1308) (by decide +kernel) (by decide +kernel))
theorem k_L_203 : LK "DoorRoundsLaw" 203 D_upper := Or.inl (lw_in (i := 779) (by decide +kernel) (by decide +kernel))
theorem k_L_207 : LK "DoorRoundsLaw" 207 m_upper := Or.inl (lw_in (i := 1312) (by decide +kernel) (by decide +kernel))
theorem k_L_208 : LK "DoorRoundsLaw" 208 D_lower := Or.inl (lw_in (i := 783) (by decide +kernel) (by decide +kernel))
theorem k_L_211 : LK "DoorRoundsLaw" 211 m_lower := Or.inl (lw_in (i := 1316) (by decide +kernel) (by decide +kernel))
theorem k_L_212 : LK "DoorRoundsLaw" 212 D_count := Or.inl (lw_in (i := 787) (by decide +kernel) (by decide +kernel))
theorem k_L_215 : LK "DoorRoundsLaw" 215 m_count := Or.inl (lw_in (i := 1320) (by decide +kernel) (by decide +kernel))
theorem k_L_216 : LK "DoorRoundsLaw" 216 D_finding := Or.inl (lw_in (i := 803) (by decide +kernel) (by decide +kernel))
theorem k_L_219 : LK "DoorRoundsLaw" 219 m_finding := Or.inl (lw_in (i := 1328) (by decide +kernel) (by decide +kernel))
theorem k_L_220 : LK "DoorRoundsLaw" 220 D_findings := Or.inl (lw_in (i := 807) (by decide +kernel) (by decide +kernel))
theorem k_L_223 : LK "DoorRoundsLaw" 223 m_findings := Or.inl (lw_in (i := 1332) (by decide +kernel) (by decide +kernel))
theorem k_L_224 : LK "DoorRoundsLaw" 224 D_digest := Or.inl (lw_in (i := 811) (by decide +kernel) (by decide +kernel))
theorem k_L_227 : LK "DoorRoundsLaw" 227 m_digest := Or.inl (lw_in (i := 1336) (by decide +kernel) (by decide +kernel))
theorem ko_m_1 : Cond.methodLink "DoorRoundsModel" 1 Lib.objectInit ∈ lw_g := lw_in (i := 832) (by decide +kernel) (by decide +kernel)
theorem k_m_78 : LK "DoorRoundsModel" 78 m_in := Or.inl (lw_in (i := 940) (by decide +kernel) (by decide +kernel))
theorem k_m_82 : LK "DoorRoundsModel" 82 m_isRow := Or.inl (lw_in (i := 937) (by decide +kernel) (by decide +kernel))
theorem k_m_86 : LK "DoorRoundsModel" 86 m_meet := Or.inl (lw_in (i := 943) (by decide +kernel) (by decide +kernel))
theorem k_m_90 : LK "DoorRoundsModel" 90 m_isText := Or.inl (lw_in (i := 988) (by decide +kernel) (by decide +kernel))
theorem k_m_93 : LK "DoorRoundsModel" 93 m_setRow := Or.inl (lw_in (i := 947) (by decide +kernel) (by decide +kernel))
theorem k_m_97 : LK "DoorRoundsModel" 97 m_askedRow := Or.inl (lw_in (i := 955) (by decide +kernel) (by decide +kernel))
theorem k_m_100 : LK "DoorRoundsModel" 100 m_rowAt := Or.inl (lw_in (i := 959) (by decide +kernel) (by decide +kernel))
theorem k_m_104 : LK "DoorRoundsModel" 104 m_ask := Or.inl (lw_in (i := 963) (by decide +kernel) (by decide +kernel))
theorem k_m_107 : LK "DoorRoundsModel" 107 m_at := Or.inl (lw_in (i := 971) (by decide +kernel) (by decide +kernel))
theorem k_m_110 : LK "DoorRoundsModel" 110 m_askedText := Or.inl (lw_in (i := 995) (by decide +kernel) (by decide +kernel))
theorem k_m_116 : LK "DoorRoundsModel" 116 m_here := Or.inl (lw_in (i := 1007) (by decide +kernel) (by decide +kernel))
theorem k_m_125 : LK "DoorRoundsModel" 125 m_kindOf := Or.inl (lw_in (i := 1027) (by decide +kernel) (by decide +kernel))
theorem k_m_131 : LK "DoorRoundsModel" 131 m_readsNumber := Or.inl (lw_in (i := 1019) (by decide +kernel) (by decide +kernel))
theorem k_m_134 : LK "DoorRoundsModel" 134 m_isTold := Or.inl (lw_in (i := 1030) (by decide +kernel) (by decide +kernel))
theorem k_m_137 : LK "DoorRoundsModel" 137 m_sees := Or.inl (lw_in (i := 1015) (by decide +kernel) (by decide +kernel))
theorem k_m_141 : LK "DoorRoundsModel" 141 m_readsFigure := Or.inl (lw_in (i := 1034) (by decide +kernel) (by decide +kernel))
theorem k_m_144 : LK "DoorRoundsModel" 144 m_readsDoors := Or.inl (lw_in (i := 1011) (by decide +kernel) (by decide +kernel))
theorem k_m_147 : LK "DoorRoundsModel" 147 m_readsShop := Or.inl (lw_in (i := 1023) (by decide +kernel) (by decide +kernel))
theorem k_m_150 : LK "DoorRoundsModel" 150 m_goesOn := Or.inl (lw_in (i := 1003) (by decide +kernel) (by decide +kernel))
theorem k_m_159 : LK "DoorRoundsModel" 159 m_tell := Or.inl (lw_in (i := 1042) (by decide +kernel) (by decide +kernel))
theorem k_m_171 : LK "DoorRoundsModel" 171 m_isShop := Or.inl (lw_in (i := 1050) (by decide +kernel) (by decide +kernel))
theorem k_m_174 : LK "DoorRoundsModel" 174 m_aboutOf := Or.inl (lw_in (i := 1054) (by decide +kernel) (by decide +kernel))
theorem k_m_177 : LK "DoorRoundsModel" 177 m_goingBy := Or.inl (lw_in (i := 1078) (by decide +kernel) (by decide +kernel))
theorem k_m_181 : LK "DoorRoundsModel" 181 m_doorAt := Or.inl (lw_in (i := 1070) (by decide +kernel) (by decide +kernel))
theorem k_m_185 : LK "DoorRoundsModel" 185 m_isSleeper := Or.inl (lw_in (i := 1062) (by decide +kernel) (by decide +kernel))
theorem k_m_188 : LK "DoorRoundsModel" 188 m_areBeside := Or.inl (lw_in (i := 1066) (by decide +kernel) (by decide +kernel))
theorem k_m_191 : LK "DoorRoundsModel" 191 m_going := Or.inl (lw_in (i := 1074) (by decide +kernel) (by decide +kernel))
theorem k_m_194 : LK "DoorRoundsModel" 194 m_isDoor := Or.inl (lw_in (i := 1085) (by decide +kernel) (by decide +kernel))
theorem k_m_197 : LK "DoorRoundsModel" 197 m_shutMany := Or.inl (lw_in (i := 1089) (by decide +kernel) (by decide +kernel))
theorem k_m_201 : LK "DoorRoundsModel" 201 m_taker := Or.inl (lw_in (i := 1110) (by decide +kernel) (by decide +kernel))
theorem k_m_205 : LK "DoorRoundsModel" 205 m_fromNow := Or.inl (lw_in (i := 1102) (by decide +kernel) (by decide +kernel))
theorem k_m_208 : LK "DoorRoundsModel" 208 m_passOne := Or.inl (lw_in (i := 1106) (by decide +kernel) (by decide +kernel))
theorem k_m_212 : LK "DoorRoundsModel" 212 m_row := Or.inl (lw_in (i := 1118) (by decide +kernel) (by decide +kernel))
theorem k_m_217 : LK "DoorRoundsModel" 217 m_ways := Or.inl (lw_in (i := 1140) (by decide +kernel) (by decide +kernel))
theorem k_m_222 : LK "DoorRoundsModel" 222 m_plainBy := Or.inl (lw_in (i := 1136) (by decide +kernel) (by decide +kernel))
theorem k_m_226 : LK "DoorRoundsModel" 226 m_isPair := Or.inl (lw_in (i := 1168) (by decide +kernel) (by decide +kernel))
theorem k_m_229 : LK "DoorRoundsModel" 229 m_divisor := Or.inl (lw_in (i := 1172) (by decide +kernel) (by decide +kernel))
theorem k_m_232 : LK "DoorRoundsModel" 232 m_walkOf := Or.inl (lw_in (i := 1184) (by decide +kernel) (by decide +kernel))
theorem k_m_235 : LK "DoorRoundsModel" 235 m_isSet := Or.inl (lw_in (i := 1192) (by decide +kernel) (by decide +kernel))
theorem k_m_238 : LK "DoorRoundsModel" 238 m_roundOf := Or.inl (lw_in (i := 1196) (by decide +kernel) (by decide +kernel))
theorem k_m_242 : LK "DoorRoundsModel" 242 m_mayIn := Or.inl (lw_in (i := 1213) (by decide +kernel) (by decide +kernel))
theorem k_m_245 : LK "DoorRoundsModel" 245 m_leastFor := Or.inl (lw_in (i := 1209) (by decide +kernel) (by decide +kernel))
theorem k_m_248 : LK "DoorRoundsModel" 248 m_joinsOf := Or.inl (lw_in (i := 1225) (by decide +kernel) (by decide +kernel))
theorem k_m_251 : LK "DoorRoundsModel" 251 m_sizeOf := Or.inl (lw_in (i := 1237) (by decide +kernel) (by decide +kernel))
theorem k_m_254 : LK "DoorRoundsModel" 254 m_fits := Or.inl (lw_in (i := 1252) (by decide +kernel) (by decide +kernel))
theorem k_m_258 : LK "DoorRoundsModel" 258 m_askedRents := Or.inl (lw_in (i := 1264) (by decide +kernel) (by decide +kernel))
theorem k_m_261 : LK "DoorRoundsModel" 261 m_setRents := Or.inl (lw_in (i := 1268) (by decide +kernel) (by decide +kernel))
theorem k_m_264 : LK "DoorRoundsModel" 264 m_part := Or.inl (lw_in (i := 1276) (by decide +kernel) (by decide +kernel))
theorem k_m_271 : LK "DoorRoundsModel" 271 m_setPlans := Or.inl (lw_in (i := 1284) (by decide +kernel) (by decide +kernel))
theorem k_m_275 : LK "DoorRoundsModel" 275 m_othersBy := Or.inl (lw_in (i := 1288) (by decide +kernel) (by decide +kernel))
theorem k_m_278 : LK "DoorRoundsModel" 278 m_isImage := Or.inl (lw_in (i := 1304) (by decide +kernel) (by decide +kernel))
theorem k_m_281 : LK "DoorRoundsModel" 281 m_counts := Or.inl (lw_in (i := 1324) (by decide +kernel) (by decide +kernel))
theorem k_m_289 : LK "DoorRoundsModel" 289 m_mix := Or.inl (lw_in (i := 1341) (by decide +kernel) (by decide +kernel))
theorem k_m_294 : LK "DoorRoundsModel" 294 m_mixSquare := Or.inl (lw_in (i := 1346) (by decide +kernel) (by decide +kernel))
theorem kc_n : Cond.native arraycopyName ∈ lw_g := lw_in (i := 301) (by decide +kernel) (by decide +kernel)
theorem kc_s : Cond.static arraycopyName ∈ lw_g := lw_in (i := 300) (by decide +kernel) (by decide +kernel)
theorem kc_i : Cond.initialized "java/lang/System" ∈ lw_g := lw_in (i := 12) (by decide +kernel) (by decide +kernel)
theorem ko_i : Cond.instanceMethod Lib.objectInit ∈ lw_g := lw_in (i := 20) (by decide +kernel) (by decide +kernel)
theorem ko_c : Cond.code Lib.objectInit ⟨#[0xb1]⟩ 1 none ∈ lw_g := lw_in (i := 21) (by decide +kernel) (by decide +kernel)
theorem ms_maxI : Cond.static Lib.Math.max.name ∈ lw_g := lw_in (i := 30) (by decide +kernel) (by decide +kernel)
theorem mc_maxI : Cond.code Lib.Math.max.name Lib.Math.max.code 2 (some .int) ∈ lw_g := lw_in (i := 31) (by decide +kernel) (by decide +kernel)
theorem ms_minI : Cond.static Lib.Math.min.name ∈ lw_g := lw_in (i := 250) (by decide +kernel) (by decide +kernel)
theorem mc_minI : Cond.code Lib.Math.min.name Lib.Math.min.code 2 (some .int) ∈ lw_g := lw_in (i := 251) (by decide +kernel) (by decide +kernel)
theorem ms_minJ : Cond.static Lib.MathLoose.min_long.x ∈ lw_g := lw_in (i := 656) (by decide +kernel) (by decide +kernel)
theorem mc_minJ : Cond.code Lib.MathLoose.min_long.x Lib.MathLoose.min_long.code 4 (some .long) ∈ lw_g := lw_in (i := 657) (by decide +kernel) (by decide +kernel)
theorem ms_absJ : Cond.static Lib.MathLoose.abs_long.x ∈ lw_g := lw_in (i := 598) (by decide +kernel) (by decide +kernel)
theorem mc_absJ : Cond.code Lib.MathLoose.abs_long.x Lib.MathLoose.abs_long.code 2 (some .long) ∈ lw_g := lw_in (i := 599) (by decide +kernel) (by decide +kernel)
theorem ms_fm : Cond.static fm_x ∈ lw_g := lw_in (i := 450) (by decide +kernel) (by decide +kernel)
theorem mc_fm : Cond.code fm_x fm_c 6 (some .long) ∈ lw_g := lw_in (i := 451) (by decide +kernel) (by decide +kernel)
theorem f_D_11 : FL "DoorRounds" 11 7 0 := ⟨_, _, cl_7, by decide, by decide, lw_in (i := 181) (by decide +kernel) (by decide +kernel)⟩
theorem f_D_15 : FL "DoorRounds" 15 7 1 := ⟨_, _, cl_7, by decide, by decide, lw_in (i := 182) (by decide +kernel) (by decide +kernel)⟩
theorem f_D_21 : FL "DoorRounds" 21 7 2 := ⟨_, _, cl_7, by decide, by decide, lw_in (i := 183) (by decide +kernel) (by decide +kernel)⟩
theorem f_D_28 : FL "DoorRounds" 28 7 3 := ⟨_, _, cl_7, by decide, by decide, lw_in (i := 184) (by decide +kernel) (by decide +kernel)⟩
theorem f_D_32 : FL "DoorRounds" 32 7 4 := ⟨_, _, cl_7, by decide, by decide, lw_in (i := 185) (by decide +kernel) (by decide +kernel)⟩
theorem f_D_36 : FL "DoorRounds" 36 7 5 := ⟨_, _, cl_7, by decide, by decide, lw_in (i := 186) (by decide +kernel) (by decide +kernel)⟩
theorem f_D_39 : FL "DoorRounds" 39 7 6 := ⟨_, _, cl_7, by decide, by decide, lw_in (i := 187) (by decide +kernel) (by decide +kernel)⟩
theorem f_D_45 : FL "DoorRounds" 45 7 7 := ⟨_, _, cl_7, by decide, by decide, lw_in (i := 188) (by decide +kernel) (by decide +kernel)⟩
theorem f_D_52 : FL "DoorRounds" 52 7 8 := ⟨_, _, cl_7, by decide, by decide, lw_in (i := 189) (by decide +kernel) (by decide +kernel)⟩
theorem f_D_56 : FL "DoorRounds" 56 7 9 := ⟨_, _, cl_7, by decide, by decide, lw_in (i := 190) (by decide +kernel) (by decide +kernel)⟩
theorem f_D_63 : FL "DoorRounds" 63 7 10 := ⟨_, _, cl_7, by decide, by decide, lw_in (i := 191) (by decide +kernel) (by decide +kernel)⟩
theorem f_D_67 : FL "DoorRounds" 67 7 11 := ⟨_, _, cl_7, by decide, by decide, lw_in (i := 192) (by decide +kernel) (by decide +kernel)⟩
theorem f_D_70 : FL "DoorRounds" 70 7 12 := ⟨_, _, cl_7, by decide, by decide, lw_in (i := 193) (by decide +kernel) (by decide +kernel)⟩
theorem f_D_74 : FL "DoorRounds" 74 7 13 := ⟨_, _, cl_7, by decide, by decide, lw_in (i := 194) (by decide +kernel) (by decide +kernel)⟩
theorem f_D_78 : FL "DoorRounds" 78 7 14 := ⟨_, _, cl_7, by decide, by decide, lw_in (i := 195) (by decide +kernel) (by decide +kernel)⟩
theorem f_D_81 : FL "DoorRounds" 81 7 15 := ⟨_, _, cl_7, by decide, by decide, lw_in (i := 196) (by decide +kernel) (by decide +kernel)⟩
theorem f_D_84 : FL "DoorRounds" 84 5 0 := ⟨_, _, cl_5, by decide, by decide, lw_in (i := 50) (by decide +kernel) (by decide +kernel)⟩
theorem f_D_121 : FL "DoorRounds" 121 6 1 := ⟨_, _, cl_6, by decide, by decide, lw_in (i := 36) (by decide +kernel) (by decide +kernel)⟩
theorem f_D_128 : FL "DoorRounds" 128 6 0 := ⟨_, _, cl_6, by decide, by decide, lw_in (i := 33) (by decide +kernel) (by decide +kernel)⟩
theorem f_D_158 : FL "DoorRounds" 158 0 0 := ⟨_, _, cl_0, by decide, by decide, lw_in (i := 69) (by decide +kernel) (by decide +kernel)⟩
theorem f_D_163 : FL "DoorRounds" 163 2 1 := ⟨_, _, cl_2, by decide, by decide, lw_in (i := 162) (by decide +kernel) (by decide +kernel)⟩
theorem f_D_191 : FL "DoorRounds" 191 4 4 := ⟨_, _, cl_4, by decide, by decide, lw_in (i := 124) (by decide +kernel) (by decide +kernel)⟩
theorem f_D_208 : FL "DoorRounds" 208 5 1 := ⟨_, _, cl_5, by decide, by decide, lw_in (i := 52) (by decide +kernel) (by decide +kernel)⟩
theorem f_D_246 : FL "DoorRounds" 246 4 2 := ⟨_, _, cl_4, by decide, by decide, lw_in (i := 119) (by decide +kernel) (by decide +kernel)⟩
theorem f_D_252 : FL "DoorRounds" 252 2 0 := ⟨_, _, cl_2, by decide, by decide, lw_in (i := 159) (by decide +kernel) (by decide +kernel)⟩
theorem f_D_298 : FL "DoorRounds" 298 4 0 := ⟨_, _, cl_4, by decide, by decide, lw_in (i := 111) (by decide +kernel) (by decide +kernel)⟩
theorem f_D_347 : FL "DoorRounds" 347 4 3 := ⟨_, _, cl_4, by decide, by decide, lw_in (i := 122) (by decide +kernel) (by decide +kernel)⟩
theorem f_D_350 : FL "DoorRounds" 350 4 1 := ⟨_, _, cl_4, by decide, by decide, lw_in (i := 116) (by decide +kernel) (by decide +kernel)⟩
theorem f_Di_9 : FL "DoorRounds$Diary" 9 0 0 := ⟨_, _, cl_0, by decide, by decide, lw_in (i := 68) (by decide +kernel) (by decide +kernel)⟩
theorem f_Di_15 : FL "DoorRounds$Diary" 15 0 1 := ⟨_, _, cl_0, by decide, by decide, lw_in (i := 70) (by decide +kernel) (by decide +kernel)⟩
theorem f_Di_19 : FL "DoorRounds$Diary" 19 0 2 := ⟨_, _, cl_0, by decide, by decide, lw_in (i := 71) (by decide +kernel) (by decide +kernel)⟩
theorem f_Di_22 : FL "DoorRounds$Diary" 22 0 3 := ⟨_, _, cl_0, by decide, by decide, lw_in (i := 72) (by decide +kernel) (by decide +kernel)⟩
theorem f_Di_31 : FL "DoorRounds$Diary" 31 4 1 := ⟨_, _, cl_4, by decide, by decide, lw_in (i := 114) (by decide +kernel) (by decide +kernel)⟩
theorem f_Er_11 : FL "DoorRounds$Errands" 11 1 0 := ⟨_, _, cl_1, by decide, by decide, lw_in (i := 88) (by decide +kernel) (by decide +kernel)⟩
theorem f_Er_15 : FL "DoorRounds$Errands" 15 1 1 := ⟨_, _, cl_1, by decide, by decide, lw_in (i := 89) (by decide +kernel) (by decide +kernel)⟩
theorem f_Pl_9 : FL "DoorRounds$Plan" 9 2 0 := ⟨_, _, cl_2, by decide, by decide, lw_in (i := 157) (by decide +kernel) (by decide +kernel)⟩
theorem f_Pl_15 : FL "DoorRounds$Plan" 15 2 1 := ⟨_, _, cl_2, by decide, by decide, lw_in (i := 160) (by decide +kernel) (by decide +kernel)⟩
theorem f_Pl_20 : FL "DoorRounds$Plan" 20 2 2 := ⟨_, _, cl_2, by decide, by decide, lw_in (i := 163) (by decide +kernel) (by decide +kernel)⟩
theorem f_Pl_25 : FL "DoorRounds$Plan" 25 2 3 := ⟨_, _, cl_2, by decide, by decide, lw_in (i := 164) (by decide +kernel) (by decide +kernel)⟩
theorem f_Pl_29 : FL "DoorRounds$Plan" 29 2 4 := ⟨_, _, cl_2, by decide, by decide, lw_in (i := 165) (by decide +kernel) (by decide +kernel)⟩
theorem f_Pl_36 : FL "DoorRounds$Plan" 36 2 5 := ⟨_, _, cl_2, by decide, by decide, lw_in (i := 167) (by decide +kernel) (by decide +kernel)⟩
theorem f_Pl_72 : FL "DoorRounds$Plan" 72 4 1 := ⟨_, _, cl_4, by decide, by decide, lw_in (i := 115) (by decide +kernel) (by decide +kernel)⟩
theorem f_Pl_89 : FL "DoorRounds$Plan" 89 3 1 := ⟨_, _, cl_3, by decide, by decide, lw_in (i := 147) (by decide +kernel) (by decide +kernel)⟩
theorem f_Pl_92 : FL "DoorRounds$Plan" 92 3 2 := ⟨_, _, cl_3, by decide, by decide, lw_in (i := 149) (by decide +kernel) (by decide +kernel)⟩
theorem f_Pl_106 : FL "DoorRounds$Plan" 106 4 0 := ⟨_, _, cl_4, by decide, by decide, lw_in (i := 110) (by decide +kernel) (by decide +kernel)⟩
theorem f_Pl_115 : FL "DoorRounds$Plan" 115 4 2 := ⟨_, _, cl_4, by decide, by decide, lw_in (i := 118) (by decide +kernel) (by decide +kernel)⟩
theorem f_Pl_118 : FL "DoorRounds$Plan" 118 4 3 := ⟨_, _, cl_4, by decide, by decide, lw_in (i := 121) (by decide +kernel) (by decide +kernel)⟩
theorem f_Pl_121 : FL "DoorRounds$Plan" 121 4 4 := ⟨_, _, cl_4, by decide, by decide, lw_in (i := 125) (by decide +kernel) (by decide +kernel)⟩
theorem f_Rd_14 : FL "DoorRounds$Reader" 14 3 0 := ⟨_, _, cl_3, by decide, by decide, lw_in (i := 145) (by decide +kernel) (by decide +kernel)⟩
theorem f_Rd_20 : FL "DoorRounds$Reader" 20 3 1 := ⟨_, _, cl_3, by decide, by decide, lw_in (i := 146) (by decide +kernel) (by decide +kernel)⟩
theorem f_Rd_24 : FL "DoorRounds$Reader" 24 3 2 := ⟨_, _, cl_3, by decide, by decide, lw_in (i := 148) (by decide +kernel) (by decide +kernel)⟩
theorem f_Rd_27 : FL "DoorRounds$Reader" 27 6 1 := ⟨_, _, cl_6, by decide, by decide, lw_in (i := 35) (by decide +kernel) (by decide +kernel)⟩
theorem f_Sh_9 : FL "DoorRounds$Shop" 9 4 0 := ⟨_, _, cl_4, by decide, by decide, lw_in (i := 109) (by decide +kernel) (by decide +kernel)⟩
theorem f_Sh_15 : FL "DoorRounds$Shop" 15 4 1 := ⟨_, _, cl_4, by decide, by decide, lw_in (i := 112) (by decide +kernel) (by decide +kernel)⟩
theorem f_Sh_18 : FL "DoorRounds$Shop" 18 4 2 := ⟨_, _, cl_4, by decide, by decide, lw_in (i := 117) (by decide +kernel) (by decide +kernel)⟩
theorem f_Sh_21 : FL "DoorRounds$Shop" 21 4 3 := ⟨_, _, cl_4, by decide, by decide, lw_in (i := 120) (by decide +kernel) (by decide +kernel)⟩
theorem f_Sh_24 : FL "DoorRounds$Shop" 24 4 4 := ⟨_, _, cl_4, by decide, by decide, lw_in (i := 123) (by decide +kernel) (by decide +kernel)⟩
theorem f_Sn_9 : FL "DoorRounds$Standing" 9 5 0 := ⟨_, _, cl_5, by decide, by decide, lw_in (i := 49) (by decide +kernel) (by decide +kernel)⟩
theorem f_Sn_15 : FL "DoorRounds$Standing" 15 5 1 := ⟨_, _, cl_5, by decide, by decide, lw_in (i := 51) (by decide +kernel) (by decide +kernel)⟩
theorem f_Sn_18 : FL "DoorRounds$Standing" 18 5 2 := ⟨_, _, cl_5, by decide, by decide, lw_in (i := 53) (by decide +kernel) (by decide +kernel)⟩
theorem f_Sn_22 : FL "DoorRounds$Standing" 22 2 1 := ⟨_, _, cl_2, by decide, by decide, lw_in (i := 161) (by decide +kernel) (by decide +kernel)⟩
theorem f_Sn_31 : FL "DoorRounds$Standing" 31 4 1 := ⟨_, _, cl_4, by decide, by decide, lw_in (i := 113) (by decide +kernel) (by decide +kernel)⟩
theorem f_Sn_70 : FL "DoorRounds$Standing" 70 2 4 := ⟨_, _, cl_2, by decide, by decide, lw_in (i := 166) (by decide +kernel) (by decide +kernel)⟩
theorem f_Sn_73 : FL "DoorRounds$Standing" 73 2 0 := ⟨_, _, cl_2, by decide, by decide, lw_in (i := 158) (by decide +kernel) (by decide +kernel)⟩
theorem f_Sp_9 : FL "DoorRounds$Strip" 9 6 1 := ⟨_, _, cl_6, by decide, by decide, lw_in (i := 34) (by decide +kernel) (by decide +kernel)⟩
theorem f_Sp_21 : FL "DoorRounds$Strip" 21 6 0 := ⟨_, _, cl_6, by decide, by decide, lw_in (i := 32) (by decide +kernel) (by decide +kernel)⟩
theorem f_m_7 : FL "DoorRoundsModel" 7 8 1 := ⟨_, _, cl_8, by decide, by decide, lw_in (i := 834) (by decide +kernel) (by decide +kernel)⟩
theorem f_m_13 : FL "DoorRoundsModel" 13 8 4 := ⟨_, _, cl_8, by decide, by decide, lw_in (i := 837) (by decide +kernel) (by decide +kernel)⟩
theorem f_m_17 : FL "DoorRoundsModel" 17 8 5 := ⟨_, _, cl_8, by decide, by decide, lw_in (i := 838) (by decide +kernel) (by decide +kernel)⟩
theorem f_m_20 : FL "DoorRoundsModel" 20 8 6 := ⟨_, _, cl_8, by decide, by decide, lw_in (i := 839) (by decide +kernel) (by decide +kernel)⟩
theorem f_m_23 : FL "DoorRoundsModel" 23 8 7 := ⟨_, _, cl_8, by decide, by decide, lw_in (i := 840) (by decide +kernel) (by decide +kernel)⟩
theorem f_m_26 : FL "DoorRoundsModel" 26 8 8 := ⟨_, _, cl_8, by decide, by decide, lw_in (i := 841) (by decide +kernel) (by decide +kernel)⟩
theorem f_m_29 : FL "DoorRoundsModel" 29 8 9 := ⟨_, _, cl_8, by decide, by decide, lw_in (i := 842) (by decide +kernel) (by decide +kernel)⟩
theorem f_m_32 : FL "DoorRoundsModel" 32 8 12 := ⟨_, _, cl_8, by decide, by decide, lw_in (i := 845) (by decide +kernel) (by decide +kernel)⟩
theorem f_m_35 : FL "DoorRoundsModel" 35 8 17 := ⟨_, _, cl_8, by decide, by decide, lw_in (i := 850) (by decide +kernel) (by decide +kernel)⟩
theorem f_m_38 : FL "DoorRoundsModel" 38 8 20 := ⟨_, _, cl_8, by decide, by decide, lw_in (i := 853) (by decide +kernel) (by decide +kernel)⟩
theorem f_m_41 : FL "DoorRoundsModel" 41 8 21 := ⟨_, _, cl_8, by decide, by decide, lw_in (i := 854) (by decide +kernel) (by decide +kernel)⟩
theorem f_m_44 : FL "DoorRoundsModel" 44 8 22 := ⟨_, _, cl_8, by decide, by decide, lw_in (i := 855) (by decide +kernel) (by decide +kernel)⟩
theorem f_m_47 : FL "DoorRoundsModel" 47 8 23 := ⟨_, _, cl_8, by decide, by decide, lw_in (i := 856) (by decide +kernel) (by decide +kernel)⟩
theorem f_m_50 : FL "DoorRoundsModel" 50 8 24 := ⟨_, _, cl_8, by decide, by decide, lw_in (i := 857) (by decide +kernel) (by decide +kernel)⟩
theorem f_m_53 : FL "DoorRoundsModel" 53 8 25 := ⟨_, _, cl_8, by decide, by decide, lw_in (i := 858) (by decide +kernel) (by decide +kernel)⟩
theorem f_m_56 : FL "DoorRoundsModel" 56 8 26 := ⟨_, _, cl_8, by decide, by decide, lw_in (i := 859) (by decide +kernel) (by decide +kernel)⟩
theorem f_m_59 : FL "DoorRoundsModel" 59 8 27 := ⟨_, _, cl_8, by decide, by decide, lw_in (i := 860) (by decide +kernel) (by decide +kernel)⟩
theorem f_m_62 : FL "DoorRoundsModel" 62 8 29 := ⟨_, _, cl_8, by decide, by decide, lw_in (i := 862) (by decide +kernel) (by decide +kernel)⟩
theorem f_m_65 : FL "DoorRoundsModel" 65 8 30 := ⟨_, _, cl_8, by decide, by decide, lw_in (i := 863) (by decide +kernel) (by decide +kernel)⟩
theorem f_m_68 : FL "DoorRoundsModel" 68 8 0 := ⟨_, _, cl_8, by decide, by decide, lw_in (i := 833) (by decide +kernel) (by decide +kernel)⟩
theorem f_m_72 : FL "DoorRoundsModel" 72 8 2 := ⟨_, _, cl_8, by decide, by decide, lw_in (i := 835) (by decide +kernel) (by decide +kernel)⟩
theorem f_m_75 : FL "DoorRoundsModel" 75 8 3 := ⟨_, _, cl_8, by decide, by decide, lw_in (i := 836) (by decide +kernel) (by decide +kernel)⟩
theorem f_m_113 : FL "DoorRoundsModel" 113 8 13 := ⟨_, _, cl_8, by decide, by decide, lw_in (i := 846) (by decide +kernel) (by decide +kernel)⟩
theorem f_m_119 : FL "DoorRoundsModel" 119 8 14 := ⟨_, _, cl_8, by decide, by decide, lw_in (i := 847) (by decide +kernel) (by decide +kernel)⟩
theorem f_m_122 : FL "DoorRoundsModel" 122 8 16 := ⟨_, _, cl_8, by decide, by decide, lw_in (i := 849) (by decide +kernel) (by decide +kernel)⟩
theorem f_m_128 : FL "DoorRoundsModel" 128 8 15 := ⟨_, _, cl_8, by decide, by decide, lw_in (i := 848) (by decide +kernel) (by decide +kernel)⟩
theorem f_m_153 : FL "DoorRoundsModel" 153 8 10 := ⟨_, _, cl_8, by decide, by decide, lw_in (i := 843) (by decide +kernel) (by decide +kernel)⟩
theorem f_m_156 : FL "DoorRoundsModel" 156 8 11 := ⟨_, _, cl_8, by decide, by decide, lw_in (i := 844) (by decide +kernel) (by decide +kernel)⟩
theorem f_m_162 : FL "DoorRoundsModel" 162 8 18 := ⟨_, _, cl_8, by decide, by decide, lw_in (i := 851) (by decide +kernel) (by decide +kernel)⟩
theorem f_m_165 : FL "DoorRoundsModel" 165 8 19 := ⟨_, _, cl_8, by decide, by decide, lw_in (i := 852) (by decide +kernel) (by decide +kernel)⟩
theorem f_m_168 : FL "DoorRoundsModel" 168 8 28 := ⟨_, _, cl_8, by decide, by decide, lw_in (i := 861) (by decide +kernel) (by decide +kernel)⟩
theorem f_m_268 : FL "DoorRoundsModel" 268 8 31 := ⟨_, _, cl_8, by decide, by decide, lw_in (i := 864) (by decide +kernel) (by decide +kernel)⟩
theorem f_m_286 : FL "DoorRoundsModel" 286 8 32 := ⟨_, _, cl_8, by decide, by decide, lw_in (i := 865) (by decide +kernel) (by decide +kernel)⟩
theorem q_D_212 : Cond.constant "DoorRounds" 212 100000 ∈ lw_g := lw_in (i := 522) (by decide +kernel) (by decide +kernel)
theorem q_D_228 : Cond.constant "DoorRounds" 228 1000000000 ∈ lw_g := lw_in (i := 556) (by decide +kernel) (by decide +kernel)
theorem q_D_328 : Cond.constantLong "DoorRounds" 328 17 ∈ lw_g := lw_in (i := 815) (by decide +kernel) (by decide +kernel)
theorem q_D_330 : Cond.constantLong "DoorRounds" 330 31 ∈ lw_g := lw_in (i := 816) (by decide +kernel) (by decide +kernel)
theorem q_Di_44 : Cond.constantLong "DoorRounds$Diary" 44 31 ∈ lw_g := lw_in (i := 821) (by decide +kernel) (by decide +kernel)
theorem q_Er_18 : Cond.constantLong "DoorRounds$Errands" 18 1152921504606846976 ∈ lw_g := lw_in (i := 639) (by decide +kernel) (by decide +kernel)
theorem q_Sp_42 : Cond.constantLong "DoorRounds$Strip" 42 31 ∈ lw_g := lw_in (i := 826) (by decide +kernel) (by decide +kernel)
theorem q_m_204 : Cond.constant "DoorRoundsModel" 204 100000 ∈ lw_g := lw_in (i := 1101) (by decide +kernel) (by decide +kernel)
theorem q_m_215 : Cond.constantLong "DoorRoundsModel" 215 2 ∈ lw_g := lw_in (i := 1143) (by decide +kernel) (by decide +kernel)
theorem q_m_221 : Cond.constant "DoorRoundsModel" 221 1000000000 ∈ lw_g := lw_in (i := 1135) (by decide +kernel) (by decide +kernel)
theorem q_m_241 : Cond.constant "DoorRoundsModel" 241 16777216 ∈ lw_g := lw_in (i := 1204) (by decide +kernel) (by decide +kernel)
theorem q_m_284 : Cond.constantLong "DoorRoundsModel" 284 31 ∈ lw_g := lw_in (i := 1345) (by decide +kernel) (by decide +kernel)
theorem q_m_292 : Cond.constantLong "DoorRoundsModel" 292 17 ∈ lw_g := lw_in (i := 1340) (by decide +kernel) (by decide +kernel)
theorem q_ji_265 : Cond.constant "java/lang/Integer" 265 1431655765 ∈ lw_g := lw_in (i := 507) (by decide +kernel) (by decide +kernel)
theorem q_ji_266 : Cond.constant "java/lang/Integer" 266 858993459 ∈ lw_g := lw_in (i := 508) (by decide +kernel) (by decide +kernel)
theorem q_ji_267 : Cond.constant "java/lang/Integer" 267 252645135 ∈ lw_g := lw_in (i := 509) (by decide +kernel) (by decide +kernel)
theorem c_D_9 : Cond.classLink "DoorRounds" 9 "DoorRounds$Strip" ∈ lw_g := lw_in (i := 22) (by decide +kernel) (by decide +kernel)
theorem c_D_25 : Cond.classLink "DoorRounds" 25 "DoorRounds$Standing" ∈ lw_g := lw_in (i := 43) (by decide +kernel) (by decide +kernel)
theorem c_D_42 : Cond.classLink "DoorRounds" 42 "DoorRounds$Diary" ∈ lw_g := lw_in (i := 62) (by decide +kernel) (by decide +kernel)
theorem c_D_49 : Cond.classLink "DoorRounds" 49 "DoorRounds$Errands" ∈ lw_g := lw_in (i := 82) (by decide +kernel) (by decide +kernel)
theorem c_D_60 : Cond.classLink "DoorRounds" 60 "DoorRounds$Plan" ∈ lw_g := lw_in (i := 96) (by decide +kernel) (by decide +kernel)
theorem c_Pl_18 : Cond.classLink "DoorRounds$Plan" 18 "DoorRounds$Shop" ∈ lw_g := lw_in (i := 102) (by decide +kernel) (by decide +kernel)
theorem c_Pl_33 : Cond.classLink "DoorRounds$Plan" 33 "DoorRounds$Reader" ∈ lw_g := lw_in (i := 137) (by decide +kernel) (by decide +kernel)
theorem c_Rd_9 : Cond.classLink "DoorRounds$Reader" 9 "DoorRounds$Strip" ∈ lw_g := lw_in (i := 143) (by decide +kernel) (by decide +kernel)
theorem c_L_7 : Cond.classLink "DoorRoundsLaw" 7 "DoorRounds" ∈ lw_g := lw_in (i := 14) (by decide +kernel) (by decide +kernel)
theorem c_L_10 : Cond.classLink "DoorRoundsLaw" 10 "DoorRoundsModel" ∈ lw_g := lw_in (i := 827) (by decide +kernel) (by decide +kernel)
theorem n_0 : Cond.instantiable "DoorRounds$Diary" 4 ∈ lw_g := lw_in (i := 63) (by decide +kernel) (by decide +kernel)
theorem nf_0_0 : ∀ r ty, clOK 0 r ty → (r.2.1 0).2.2.2 = false := fun r ty h => by have e := h.1; cases e; exact rfl
theorem nf_0_1 : ∀ r ty, clOK 0 r ty → ((r.2.1 1).2.2.2 = true ∧ r.1 = "DoorRounds$Diary") := fun r ty h => by have e := h.1; cases e; exact ⟨rfl, rfl⟩
theorem nf_0_2 : ∀ r ty, clOK 0 r ty → ((r.2.1 2).2.2.2 = true ∧ r.1 = "DoorRounds$Diary") := fun r ty h => by have e := h.1; cases e; exact ⟨rfl, rfl⟩
theorem nf_0_3 : ∀ r ty, clOK 0 r ty → ((r.2.1 3).2.2.2 = true ∧ r.1 = "DoorRounds$Diary") := fun r ty h => by have e := h.1; cases e; exact ⟨rfl, rfl⟩
theorem n_1 : Cond.instantiable "DoorRounds$Errands" 2 ∈ lw_g := lw_in (i := 83) (by decide +kernel) (by decide +kernel)
theorem nf_1_0 : ∀ r ty, clOK 1 r ty → ((r.2.1 0).2.2.2 = true ∧ r.1 = "DoorRounds$Errands") := fun r ty h => by have e := h.1; cases e; exact ⟨rfl, rfl⟩
theorem nf_1_1 : ∀ r ty, clOK 1 r ty → ((r.2.1 1).2.2.2 = true ∧ r.1 = "DoorRounds$Errands") := fun r ty h => by have e := h.1; cases e; exact ⟨rfl, rfl⟩
theorem n_2 : Cond.instantiable "DoorRounds$Plan" 6 ∈ lw_g := lw_in (i := 97) (by decide +kernel) (by decide +kernel)
theorem nf_2_0 : ∀ r ty, clOK 2 r ty → (r.2.1 0).2.2.2 = false := fun r ty h => by have e := h.1; cases e; exact rfl
theorem nf_2_1 : ∀ r ty, clOK 2 r ty → (r.2.1 1).2.2.2 = false := fun r ty h => by have e := h.1; cases e; exact rfl
theorem nf_2_2 : ∀ r ty, clOK 2 r ty → ((r.2.1 2).2.2.2 = true ∧ r.1 = "DoorRounds$Plan") := fun r ty h => by have e := h.1; cases e; exact ⟨rfl, rfl⟩
theorem nf_2_3 : ∀ r ty, clOK 2 r ty → ((r.2.1 3).2.2.2 = true ∧ r.1 = "DoorRounds$Plan") := fun r ty h => by have e := h.1; cases e; exact ⟨rfl, rfl⟩
theorem nf_2_4 : ∀ r ty, clOK 2 r ty → ((r.2.1 4).2.2.2 = true ∧ r.1 = "DoorRounds$Plan") := fun r ty h => by have e := h.1; cases e; exact ⟨rfl, rfl⟩
theorem nf_2_5 : ∀ r ty, clOK 2 r ty → ((r.2.1 5).2.2.2 = true ∧ r.1 = "DoorRounds$Plan") := fun r ty h => by have e := h.1; cases e; exact ⟨rfl, rfl⟩
theorem n_3 : Cond.instantiable "DoorRounds$Reader" 3 ∈ lw_g := lw_in (i := 138) (by decide +kernel) (by decide +kernel)
theorem nf_3_0 : ∀ r ty, clOK 3 r ty → (r.2.1 0).2.2.2 = false := fun r ty h => by have e := h.1; cases e; exact rfl
theorem nf_3_1 : ∀ r ty, clOK 3 r ty → (r.2.1 1).2.2.2 = false := fun r ty h => by have e := h.1; cases e; exact rfl
theorem nf_3_2 : ∀ r ty, clOK 3 r ty → (r.2.1 2).2.2.2 = false := fun r ty h => by have e := h.1; cases e; exact rfl
theorem n_4 : Cond.instantiable "DoorRounds$Shop" 5 ∈ lw_g := lw_in (i := 104) (by decide +kernel) (by decide +kernel)
theorem nf_4_0 : ∀ r ty, clOK 4 r ty → (r.2.1 0).2.2.2 = false := fun r ty h => by have e := h.1; cases e; exact rfl
theorem nf_4_1 : ∀ r ty, clOK 4 r ty → (r.2.1 1).2.2.2 = false := fun r ty h => by have e := h.1; cases e; exact rfl
theorem nf_4_2 : ∀ r ty, clOK 4 r ty → (r.2.1 2).2.2.2 = false := fun r ty h => by have e := h.1; cases e; exact rfl
theorem nf_4_3 : ∀ r ty, clOK 4 r ty → (r.2.1 3).2.2.2 = false := fun r ty h => by have e := h.1; cases e; exact rfl
theorem nf_4_4 : ∀ r ty, clOK 4 r ty → (r.2.1 4).2.2.2 = false := fun r ty h => by have e := h.1; cases e; exact rfl
theorem n_5 : Cond.instantiable "DoorRounds$Standing" 3 ∈ lw_g := lw_in (i := 44) (by decide +kernel) (by decide +kernel)
theorem nf_5_0 : ∀ r ty, clOK 5 r ty → (r.2.1 0).2.2.2 = false := fun r ty h => by have e := h.1; cases e; exact rfl
theorem nf_5_1 : ∀ r ty, clOK 5 r ty → (r.2.1 1).2.2.2 = false := fun r ty h => by have e := h.1; cases e; exact rfl
theorem nf_5_2 : ∀ r ty, clOK 5 r ty → ((r.2.1 2).2.2.2 = true ∧ r.1 = "DoorRounds$Standing") := fun r ty h => by have e := h.1; cases e; exact ⟨rfl, rfl⟩
theorem n_6 : Cond.instantiable "DoorRounds$Strip" 2 ∈ lw_g := lw_in (i := 24) (by decide +kernel) (by decide +kernel)
theorem nf_6_0 : ∀ r ty, clOK 6 r ty → ((r.2.1 0).2.2.2 = true ∧ r.1 = "DoorRounds$Strip") := fun r ty h => by have e := h.1; cases e; exact ⟨rfl, rfl⟩
theorem nf_6_1 : ∀ r ty, clOK 6 r ty → (r.2.1 1).2.2.2 = false := fun r ty h => by have e := h.1; cases e; exact rfl
theorem n_7 : Cond.instantiable "DoorRounds" 16 ∈ lw_g := lw_in (i := 15) (by decide +kernel) (by decide +kernel)
theorem nf_7_0 : ∀ r ty, clOK 7 r ty → ((r.2.1 0).2.2.2 = true ∧ r.1 = "DoorRounds") := fun r ty h => by have e := h.1; cases e; exact ⟨rfl, rfl⟩
theorem nf_7_1 : ∀ r ty, clOK 7 r ty → ((r.2.1 1).2.2.2 = true ∧ r.1 = "DoorRounds") := fun r ty h => by have e := h.1; cases e; exact ⟨rfl, rfl⟩
theorem nf_7_2 : ∀ r ty, clOK 7 r ty → ((r.2.1 2).2.2.2 = true ∧ r.1 = "DoorRounds") := fun r ty h => by have e := h.1; cases e; exact ⟨rfl, rfl⟩
theorem nf_7_3 : ∀ r ty, clOK 7 r ty → ((r.2.1 3).2.2.2 = true ∧ r.1 = "DoorRounds") := fun r ty h => by have e := h.1; cases e; exact ⟨rfl, rfl⟩
theorem nf_7_4 : ∀ r ty, clOK 7 r ty → ((r.2.1 4).2.2.2 = true ∧ r.1 = "DoorRounds") := fun r ty h => by have e := h.1; cases e; exact ⟨rfl, rfl⟩
theorem nf_7_5 : ∀ r ty, clOK 7 r ty → ((r.2.1 5).2.2.2 = true ∧ r.1 = "DoorRounds") := fun r ty h => by have e := h.1; cases e; exact ⟨rfl, rfl⟩
theorem nf_7_6 : ∀ r ty, clOK 7 r ty → ((r.2.1 6).2.2.2 = true ∧ r.1 = "DoorRounds") := fun r ty h => by have e := h.1; cases e; exact ⟨rfl, rfl⟩
theorem nf_7_7 : ∀ r ty, clOK 7 r ty → ((r.2.1 7).2.2.2 = true ∧ r.1 = "DoorRounds") := fun r ty h => by have e := h.1; cases e; exact ⟨rfl, rfl⟩
theorem nf_7_8 : ∀ r ty, clOK 7 r ty → ((r.2.1 8).2.2.2 = true ∧ r.1 = "DoorRounds") := fun r ty h => by have e := h.1; cases e; exact ⟨rfl, rfl⟩
theorem nf_7_9 : ∀ r ty, clOK 7 r ty → ((r.2.1 9).2.2.2 = true ∧ r.1 = "DoorRounds") := fun r ty h => by have e := h.1; cases e; exact ⟨rfl, rfl⟩
theorem nf_7_10 : ∀ r ty, clOK 7 r ty → (r.2.1 10).2.2.2 = false := fun r ty h => by have e := h.1; cases e; exact rfl
theorem nf_7_11 : ∀ r ty, clOK 7 r ty → (r.2.1 11).2.2.2 = false := fun r ty h => by have e := h.1; cases e; exact rfl
theorem nf_7_12 : ∀ r ty, clOK 7 r ty → (r.2.1 12).2.2.2 = false := fun r ty h => by have e := h.1; cases e; exact rfl
theorem nf_7_13 : ∀ r ty, clOK 7 r ty → (r.2.1 13).2.2.2 = false := fun r ty h => by have e := h.1; cases e; exact rfl
theorem nf_7_14 : ∀ r ty, clOK 7 r ty → (r.2.1 14).2.2.2 = false := fun r ty h => by have e := h.1; cases e; exact rfl
theorem nf_7_15 : ∀ r ty, clOK 7 r ty → (r.2.1 15).2.2.2 = false := fun r ty h => by have e := h.1; cases e; exact rfl
theorem n_8 : Cond.instantiable "DoorRoundsModel" 33 ∈ lw_g := lw_in (i := 828) (by decide +kernel) (by decide +kernel)
theorem nf_8_0 : ∀ r ty, clOK 8 r ty → (r.2.1 0).2.2.2 = false := fun r ty h => by have e := h.1; cases e; exact rfl
theorem nf_8_1 : ∀ r ty, clOK 8 r ty → ((r.2.1 1).2.2.2 = true ∧ r.1 = "DoorRoundsModel") := fun r ty h => by have e := h.1; cases e; exact ⟨rfl, rfl⟩
theorem nf_8_2 : ∀ r ty, clOK 8 r ty → (r.2.1 2).2.2.2 = false := fun r ty h => by have e := h.1; cases e; exact rfl
theorem nf_8_3 : ∀ r ty, clOK 8 r ty → (r.2.1 3).2.2.2 = false := fun r ty h => by have e := h.1; cases e; exact rfl
theorem nf_8_4 : ∀ r ty, clOK 8 r ty → (r.2.1 4).2.2.2 = false := fun r ty h => by have e := h.1; cases e; exact rfl
theorem nf_8_5 : ∀ r ty, clOK 8 r ty → ((r.2.1 5).2.2.2 = true ∧ r.1 = "DoorRoundsModel") := fun r ty h => by have e := h.1; cases e; exact ⟨rfl, rfl⟩
theorem nf_8_6 : ∀ r ty, clOK 8 r ty → ((r.2.1 6).2.2.2 = true ∧ r.1 = "DoorRoundsModel") := fun r ty h => by have e := h.1; cases e; exact ⟨rfl, rfl⟩
theorem nf_8_7 : ∀ r ty, clOK 8 r ty → ((r.2.1 7).2.2.2 = true ∧ r.1 = "DoorRoundsModel") := fun r ty h => by have e := h.1; cases e; exact ⟨rfl, rfl⟩
theorem nf_8_8 : ∀ r ty, clOK 8 r ty → ((r.2.1 8).2.2.2 = true ∧ r.1 = "DoorRoundsModel") := fun r ty h => by have e := h.1; cases e; exact ⟨rfl, rfl⟩
theorem nf_8_9 : ∀ r ty, clOK 8 r ty → ((r.2.1 9).2.2.2 = true ∧ r.1 = "DoorRoundsModel") := fun r ty h => by have e := h.1; cases e; exact ⟨rfl, rfl⟩
theorem nf_8_10 : ∀ r ty, clOK 8 r ty → (r.2.1 10).2.2.2 = false := fun r ty h => by have e := h.1; cases e; exact rfl
theorem nf_8_11 : ∀ r ty, clOK 8 r ty → (r.2.1 11).2.2.2 = false := fun r ty h => by have e := h.1; cases e; exact rfl
theorem nf_8_12 : ∀ r ty, clOK 8 r ty → ((r.2.1 12).2.2.2 = true ∧ r.1 = "DoorRoundsModel") := fun r ty h => by have e := h.1; cases e; exact ⟨rfl, rfl⟩
theorem nf_8_13 : ∀ r ty, clOK 8 r ty → (r.2.1 13).2.2.2 = false := fun r ty h => by have e := h.1; cases e; exact rfl
theorem nf_8_14 : ∀ r ty, clOK 8 r ty → (r.2.1 14).2.2.2 = false := fun r ty h => by have e := h.1; cases e; exact rfl
theorem nf_8_15 : ∀ r ty, clOK 8 r ty → (r.2.1 15).2.2.2 = false := fun r ty h => by have e := h.1; cases e; exact rfl
theorem nf_8_16 : ∀ r ty, clOK 8 r ty → (r.2.1 16).2.2.2 = false := fun r ty h => by have e := h.1; cases e; exact rfl
theorem nf_8_17 : ∀ r ty, clOK 8 r ty → ((r.2.1 17).2.2.2 = true ∧ r.1 = "DoorRoundsModel") := fun r ty h => by have e := h.1; cases e; exact ⟨rfl, rfl⟩
theorem nf_8_18 : ∀ r ty, clOK 8 r ty → (r.2.1 18).2.2.2 = false := fun r ty h => by have e := h.1; cases e; exact rfl
theorem nf_8_19 : ∀ r ty, clOK 8 r ty → (r.2.1 19).2.2.2 = false := fun r ty h => by have e := h.1; cases e; exact rfl
theorem nf_8_20 : ∀ r ty, clOK 8 r ty → ((r.2.1 20).2.2.2 = true ∧ r.1 = "DoorRoundsModel") := fun r ty h => by have e := h.1; cases e; exact ⟨rfl, rfl⟩
theorem nf_8_21 : ∀ r ty, clOK 8 r ty → ((r.2.1 21).2.2.2 = true ∧ r.1 = "DoorRoundsModel") := fun r ty h => by have e := h.1; cases e; exact ⟨rfl, rfl⟩
theorem nf_8_22 : ∀ r ty, clOK 8 r ty → ((r.2.1 22).2.2.2 = true ∧ r.1 = "DoorRoundsModel") := fun r ty h => by have e := h.1; cases e; exact ⟨rfl, rfl⟩
theorem nf_8_23 : ∀ r ty, clOK 8 r ty → ((r.2.1 23).2.2.2 = true ∧ r.1 = "DoorRoundsModel") := fun r ty h => by have e := h.1; cases e; exact ⟨rfl, rfl⟩
theorem nf_8_24 : ∀ r ty, clOK 8 r ty → ((r.2.1 24).2.2.2 = true ∧ r.1 = "DoorRoundsModel") := fun r ty h => by have e := h.1; cases e; exact ⟨rfl, rfl⟩
theorem nf_8_25 : ∀ r ty, clOK 8 r ty → ((r.2.1 25).2.2.2 = true ∧ r.1 = "DoorRoundsModel") := fun r ty h => by have e := h.1; cases e; exact ⟨rfl, rfl⟩
theorem nf_8_26 : ∀ r ty, clOK 8 r ty → ((r.2.1 26).2.2.2 = true ∧ r.1 = "DoorRoundsModel") := fun r ty h => by have e := h.1; cases e; exact ⟨rfl, rfl⟩
theorem nf_8_27 : ∀ r ty, clOK 8 r ty → ((r.2.1 27).2.2.2 = true ∧ r.1 = "DoorRoundsModel") := fun r ty h => by have e := h.1; cases e; exact ⟨rfl, rfl⟩
theorem nf_8_28 : ∀ r ty, clOK 8 r ty → (r.2.1 28).2.2.2 = false := fun r ty h => by have e := h.1; cases e; exact rfl
theorem nf_8_29 : ∀ r ty, clOK 8 r ty → ((r.2.1 29).2.2.2 = true ∧ r.1 = "DoorRoundsModel") := fun r ty h => by have e := h.1; cases e; exact ⟨rfl, rfl⟩
theorem nf_8_30 : ∀ r ty, clOK 8 r ty → ((r.2.1 30).2.2.2 = true ∧ r.1 = "DoorRoundsModel") := fun r ty h => by have e := h.1; cases e; exact ⟨rfl, rfl⟩
theorem nf_8_31 : ∀ r ty, clOK 8 r ty → (r.2.1 31).2.2.2 = false := fun r ty h => by have e := h.1; cases e; exact rfl
theorem nf_8_32 : ∀ r ty, clOK 8 r ty → (r.2.1 32).2.2.2 = false := fun r ty h => by have e := h.1; cases e; exact rfl
theorem ar_I : Cond.arrayClass .int ∈ lw_g := lw_in (i := 42) (by decide +kernel) (by decide +kernel)
theorem ar_J : Cond.arrayClass .long ∈ lw_g := lw_in (i := 95) (by decide +kernel) (by decide +kernel)
end
section
/-! pure words for what leaf methods answer and do -/
def mt (u : pM) (f : Int32) : pM := pI (pI u 76 0 f) 77 f.toNatClampNeg (mI (pI u 76 0 f) 77 f.toNatClampNeg + 1)
def hereV (u : pM) (t : Int32) : Int32 := if mI u 81 t.toNatClampNeg ≤ mI u 76 13 then -9 else mI u 82 (100 * t + mI u 76 13).toNatClampNeg
def kindV (c : Int32) : Int32 := if c = 115 then 0 else if c = 102 then 1 else if c = 121 then 2 else if c = 110 then 3 else if c = 111 then 4 else if c = 112 then 5 else -9
def goV (kind step k w : Int32) : Int32 := if kind = 1 then 0 else if kind = 4 then (if (w / k) - (w / k) / 2 * 2 = 0 then step else -step) else if kind < 3 then step else if w - w / k * k = k - 1 then (if kind = 3 then 0 else -step) else step
def dAt (n : Int32) (x : Int64) : Int32 := if 0 ≤ lg_cmp (x - x / n.toInt64 * n.toInt64) 0 then (x - x / n.toInt64 * n.toInt64).toInt32 else (x - x / n.toInt64 * n.toInt64 + n.toInt64).toInt32
def wayV (kind k : Int32) (w : Int64) : Int64 := if kind = 1 then 0 else if 3 ≤ kind then (if kind = 4 then (if 0 < lg_cmp (w - w / (2 * k.toInt64) * (2 * k.toInt64)) k.toInt64 then 2 * k.toInt64 - (w - w / (2 * k.toInt64) * (2 * k.toInt64)) else w - w / (2 * k.toInt64) * (2 * k.toInt64)) else if kind = 3 then w - w / k.toInt64 else w - 2 * (w / k.toInt64)) else w
def spH (u : pM) (o : Nat) (i : Int32) : Prop := 0 ≤ i ∧ i < mI u o 1 ∧ i < Int32.ofNat (S0 (o + 1)).2
def spG (u : pM) (o : Nat) (i : Int32) : Int32 := if 0 ≤ i ∧ i < mI u o 1 ∧ i < Int32.ofNat (S0 (o + 1)).2 then mI u (o + 1) i.toNatClampNeg else 0
def spS (u : pM) (o : Nat) (i v : Int32) : pM := if 0 ≤ i ∧ i < mI u o 1 ∧ i < Int32.ofNat (S0 (o + 1)).2 then pI u (o + 1) i.toNatClampNeg v else u
def goC (kind k step w : Int32) : Int32 := if kind = 1 then 0 else if ¬ 2 ≤ k then step else if kind = 3 then (if w - w / k * k = k - 1 then 0 else step) else if kind = 4 then (if (w / k) - (w / k) / 2 * 2 = 0 then step else -step) else if kind = 5 then (if w - w / k * k = k - 1 then -step else step) else step
def wtS (k w : Int32) : Int32 := if 2 ≤ k then k - 1 - (w - w / k * k) else 0
def wtT (k w : Int32) : Int32 := if 2 ≤ k then k - (w - w / k * k) else 0
def plS (u : pM) (o : Nat) (s : Int32) : Prop := 0 ≤ s ∧ s < mI u o 1 ∧ s < 7
def wrV (n : Int32) (x : Int64) : Int32 := if n ≤ 0 then 0 else (fm x n.toInt64).toInt32
def snD (u : pM) (o : Nat) (s : Int32) : Int32 := if 0 ≤ s ∧ s < 7 then mI u (o + 1) s.toNatClampNeg else 0
def snS (u : pM) (o : Nat) (s d : Int32) : pM := if 0 ≤ s ∧ s < 7 then pI u (o + 1) s.toNatClampNeg d else u
def snB (u : pM) (o p : Nat) : pM := cpI (pI (pI u o 0 (mI u p 0)) o 1 (mI (pI u o 0 (mI u p 0)) p 1)) (p + 1) (o + 1) (0 : Int32).toNatClampNeg (0 : Int32).toNatClampNeg (7 : Int32).toNatClampNeg
def dF (u : pM) (f : Int32) : pM := if 1 ≤ f ∧ f ≤ 5 then pI (pI u 2 15 f) 21 f.toNatClampNeg (mI (pI u 2 15 f) 21 f.toNatClampNeg + 1) else u
def isI (set i : Int32) : Prop := 0 ≤ i ∧ i < 31 ∧ (set >>> (i &&& 31)) &&& 1 = 1
def bc1 (x : Int32) : Int32 := x - ((x.toUInt32 >>> ((1 : Int32).toUInt32 &&& Int32.toUInt32 31)).toInt32 &&& 1431655765)
def bc2 (x : Int32) : Int32 := (x &&& 858993459) + ((x.toUInt32 >>> ((2 : Int32).toUInt32 &&& Int32.toUInt32 31)).toInt32 &&& 858993459)
def bc3 (x : Int32) : Int32 := (x + (x.toUInt32 >>> ((4 : Int32).toUInt32 &&& Int32.toUInt32 31)).toInt32) &&& 252645135
def bc4 (x : Int32) : Int32 := x + (x.toUInt32 >>> ((8 : Int32).toUInt32 &&& Int32.toUInt32 31)).toInt32
def bc5 (x : Int32) : Int32 := x + (x.toUInt32 >>> ((16 : Int32).toUInt32 &&& Int32.toUInt32 31)).toInt32
def bcV (x : Int32) : Int32 := bc5 (bc4 (bc3 (bc2 (bc1 x)))) &&& 63
def shO (u : pM) (o : Nat) (s : Int32) : Nat := if 0 ≤ s ∧ s < mI u o 1 ∧ s < 7 then R0 (o + 1) s.toNatClampNeg else o + 2
def wkV (n d e : Int32) : Int32 := if n - wrV n (e - d).toInt64 < wrV n (e - d).toInt64 then n - wrV n (e - d).toInt64 else wrV n (e - d).toInt64
def roV (r : Int32) : Nat := if 0 ≤ r ∧ r < 6 then R0 3 r.toNatClampNeg else 5
def txV (r : Int32) : Nat := if 0 ≤ r ∧ r < 4 then R0 4 r.toNatClampNeg else 5
def kpV (r : Int32) : Nat := if 0 ≤ r ∧ r < 3 then R0 9 r.toNatClampNeg else 10
/-! rules for closing -/
theorem rB1 {P : Prop} {u w : pM} : (RI fun x u' => u = u' ∧ (x = 1 ∧ P ∨ x = 0 ∧ ¬ P)) (some (.int 1)) w ↔ u = w ∧ P := by simp [RI]
theorem rB0 {P : Prop} {u w : pM} : (RI fun x u' => u = u' ∧ (x = 1 ∧ P ∨ x = 0 ∧ ¬ P)) (some (.int 0)) w ↔ u = w ∧ ¬ P := by simp [RI]
theorem rVi {a b : Int32} {m w : pM} : (RI fun x u' => a = x ∧ m = u') (some (.int b)) w ↔ a = b ∧ m = w := by simp [RI]
theorem rVj {a b : Int64} {m w : pM} : (RJ fun x u' => a = x ∧ m = u') (some (.long b)) w ↔ a = b ∧ m = w := by simp [RJ]
theorem rVr {a b : Nat} {m w : pM} : (RR fun x u' => a = x ∧ m = u') (some (.ref b)) w ↔ a = b ∧ m = w := by simp [RR]
theorem rVv {m w : pM} : (RV fun u' => m = u') none w ↔ m = w := by simp [RV]
theorem vin {i : Int32} {n : Nat} (h0 : 0 ≤ i) (h1 : i < Int32.ofNat n) (hn : n < 2 ^ 31) : vp_in i n := by
  rw [vp_in_iff]
  have a := Int32.le_iff_toInt_le.mp h0
  have b := Int32.lt_iff_toInt_lt.mp h1
  have c : (Int32.ofNat n).toInt = n := nI_toInt hn
  have d : (0 : Int32).toInt = 0 := by decide
  omega
theorem vin_lt {i : Int32} {n : Nat} (h : vp_in i n) (hn : n < 2 ^ 31) : 0 ≤ i ∧ i < Int32.ofNat n := by
  rw [vp_in_iff] at h
  have c : (Int32.ofNat n).toInt = n := nI_toInt hn
  have d : (0 : Int32).toInt = 0 := by decide
  exact ⟨Int32.le_iff_toInt_le.mpr (by omega), Int32.lt_iff_toInt_lt.mpr (by omega)⟩
theorem shO_ok {u : pM} {o : Nat} {s : Int32} (h : okS o 2) : okS (shO u o s) 4 := by
  unfold shO
  split
  · rename_i c
    exact (ra_ok (os_2_2 h) (by decide) (by rw [ol_2_2 h]; exact ix_lt (vin c.1 c.2.2 (by decide)))).2
  · exact os_2_3 h
theorem roV_ok (r : Int32) : okS (roV r) 6 := by
  unfold roV
  split
  · rename_i c; exact (ra_ok (n := 3) (kd := 102) (by decide) (by decide) (ix_lt (vin (n := 6) c.1 c.2 (by decide)))).2
  · decide
theorem txV_ok (r : Int32) : okS (txV r) 6 := by
  unfold txV
  split
  · rename_i c; exact (ra_ok (n := 4) (kd := 102) (by decide) (by decide) (ix_lt (vin (n := 4) c.1 c.2 (by decide)))).2
  · decide
theorem kpV_ok (r : Int32) : okS (kpV r) 5 := by
  unfold kpV
  split
  · rename_i c; exact (ra_ok (n := 9) (kd := 103) (by decide) (by decide) (ix_lt (vin (n := 3) c.1 c.2 (by decide)))).2
  · decide
end
section
theorem ok_2 : okS 2 7 := by decide
theorem ok_76 : okS 76 8 := by decide
theorem ok_14 : okS 14 0 := by decide
theorem ok_18 : okS 18 1 := by decide
abbrev vb (v : Int32) : Prop := narrow .boolean (.int v) = .int v
section SEG
variable {G : pG} {u : pM} {Q : Option Value → pM → Prop}
theorem sg_m_in_0 {x0 : Int32} {x1 : Int32} {x2 : Int32}  (h : ((x0 < x1 → Q (some (.int 0)) u) ∧ (¬ (x0 < x1) → ((x2 < x0 → Q (some (.int 0)) u) ∧ (¬ (x2 < x0) → Q (some (.int 1)) u))))) : Ws G m_in 0 [(0, .int x0), (1, .int x1), (2, .int x2)] [] u Q := by
  refine ws_iload_n 0 (dcd d_m_in_0 0 rfl) rfl ?_
  refine ws_iload_n 1 (dcd d_m_in_0 1 rfl) rfl ?_
  refine ws_icmp_lt (tgt := 14) (dcd d_m_in_0 2 rfl) (by decide) (fun c1 => ?_) (fun c1 => ?_)
  · have h := h.1 c1
    refine ws_iconst (v := 0) (dcd d_m_in_0 8 rfl) (by decide) ?_
    exact ws_iret (dcd d_m_in_0 9 rfl) ⟨_, rfl, by decide⟩ h
  · have h := h.2 c1
    refine ws_iload_n 0 (dcd d_m_in_0 3 rfl) rfl ?_
    refine ws_iload_n 2 (dcd d_m_in_0 4 rfl) rfl ?_
    refine ws_icmp_gt (tgt := 14) (dcd d_m_in_0 5 rfl) (by decide) (fun c2 => ?_) (fun c2 => ?_)
    · have h := h.1 c2
      refine ws_iconst (v := 0) (dcd d_m_in_0 8 rfl) (by decide) ?_
      exact ws_iret (dcd d_m_in_0 9 rfl) ⟨_, rfl, by decide⟩ h
    · have h := h.2 c2
      refine ws_iconst (v := 1) (dcd d_m_in_0 6 rfl) (by decide) ?_
      refine ws_goto (tgt := 15) (dcd d_m_in_0 7 rfl) (by decide) ?_
      exact ws_iret (dcd d_m_in_0 9 rfl) ⟨_, rfl, by decide⟩ h
theorem sg_m_meet_0 {x1 : Int32}  (h : (vp_in x1 6 ∧ (vp_in x1 6 ∧ Q (some (.int (-3))) (pI (pI u 76 0 x1) 77 (x1 : Int32).toNatClampNeg ((mI (pI u 76 0 x1) 77 (x1 : Int32).toNatClampNeg) + 1))))) : Ws G m_meet 0 [(0, .ref 76), (1, .int x1)] [] u Q := by
  refine ws_aload_n 0 (dcd d_m_meet_0 0 rfl) rfl ?_
  refine ws_iload_n 1 (dcd d_m_meet_0 1 rfl) rfl ?_
  refine ws_putI f_m_68 rfl nf_8_0 (dcd d_m_meet_0 2 rfl) ok_76 ?_
  refine ws_aload_n 0 (dcd d_m_meet_0 3 rfl) rfl ?_
  refine ws_getF (a := 77) f_m_7 rfl (dcd d_m_meet_0 4 rfl) ok_76 of_8_1 rfl ?_
  refine ws_iload_n 1 (dcd d_m_meet_0 5 rfl) rfl ?_
  refine ws_dup2 (dcd d_m_meet_0 6 rfl) rfl rfl ?_
  obtain ⟨e1, h⟩ := h
  refine ws_iald (L := 6) (dcd d_m_meet_0 7 rfl) (os_8_1 ok_76) (ol_8_1 ok_76) e1 ?_
  refine ws_iconst (v := 1) (dcd d_m_meet_0 8 rfl) (by decide) ?_
  refine ws_iadd (dcd d_m_meet_0 9 rfl) ?_
  obtain ⟨e2, h⟩ := h
  refine ws_iast (L := 6) (dcd d_m_meet_0 10 rfl) (os_8_1 ok_76) (ol_8_1 ok_76) e2 ?_
  refine ws_bipush (v := (-3)) (dcd d_m_meet_0 11 rfl) (by decide) ?_
  exact ws_iret (dcd d_m_meet_0 12 rfl) ⟨_, rfl, rfl⟩ h
theorem sg_m_ask_0 {x1 : Int32} {x2 : Int32}  (h : Q (some (.int x2)) (pI u 76 2 x1)) : Ws G m_ask 0 [(0, .ref 76), (1, .int x1), (2, .int x2)] [] u Q := by
  refine ws_aload_n 0 (dcd d_m_ask_0 0 rfl) rfl ?_
  refine ws_iload_n 1 (dcd d_m_ask_0 1 rfl) rfl ?_
  refine ws_putI f_m_72 rfl nf_8_2 (dcd d_m_ask_0 2 rfl) ok_76 ?_
  refine ws_iload_n 2 (dcd d_m_ask_0 3 rfl) rfl ?_
  exact ws_iret (dcd d_m_ask_0 4 rfl) ⟨_, rfl, rfl⟩ h
theorem sg_m_rowAt_0 {x1 : Int32} {x2 : Int32}  (h : (vp_in ((40 * x1) + x2) 240 ∧ Q (some (.int (mI u 79 (((40 * x1) + x2) : Int32).toNatClampNeg))) u)) : Ws G m_rowAt 0 [(0, .ref 76), (1, .int x1), (2, .int x2)] [] u Q := by
  refine ws_aload_n 0 (dcd d_m_rowAt_0 0 rfl) rfl ?_
  refine ws_getF (a := 79) f_m_20 rfl (dcd d_m_rowAt_0 1 rfl) ok_76 of_8_6 rfl ?_
  refine ws_bipush (v := 40) (dcd d_m_rowAt_0 2 rfl) (by decide) ?_
  refine ws_iload_n 1 (dcd d_m_rowAt_0 3 rfl) rfl ?_
  refine ws_imul (dcd d_m_rowAt_0 4 rfl) ?_
  refine ws_iload_n 2 (dcd d_m_rowAt_0 5 rfl) rfl ?_
  refine ws_iadd (dcd d_m_rowAt_0 6 rfl) ?_
  obtain ⟨e1, h⟩ := h
  refine ws_iald (L := 240) (dcd d_m_rowAt_0 7 rfl) (os_8_6 ok_76) (ol_8_6 ok_76) e1 ?_
  exact ws_iret (dcd d_m_rowAt_0 8 rfl) ⟨_, rfl, rfl⟩ h
theorem sg_m_setRow_0 {x1 : Int32} {x2 : Int32} {x3 : Int32}  (h : (vp_in ((40 * x1) + x2) 240 ∧ Q none (pI u 79 (((40 * x1) + x2) : Int32).toNatClampNeg x3))) : Ws G m_setRow 0 [(0, .ref 76), (1, .int x1), (2, .int x2), (3, .int x3)] [] u Q := by
  refine ws_aload_n 0 (dcd d_m_setRow_0 0 rfl) rfl ?_
  refine ws_getF (a := 79) f_m_20 rfl (dcd d_m_setRow_0 1 rfl) ok_76 of_8_6 rfl ?_
  refine ws_bipush (v := 40) (dcd d_m_setRow_0 2 rfl) (by decide) ?_
  refine ws_iload_n 1 (dcd d_m_setRow_0 3 rfl) rfl ?_
  refine ws_imul (dcd d_m_setRow_0 4 rfl) ?_
  refine ws_iload_n 2 (dcd d_m_setRow_0 5 rfl) rfl ?_
  refine ws_iadd (dcd d_m_setRow_0 6 rfl) ?_
  refine ws_iload_n 3 (dcd d_m_setRow_0 7 rfl) rfl ?_
  obtain ⟨e1, h⟩ := h
  refine ws_iast (L := 240) (dcd d_m_setRow_0 8 rfl) (os_8_6 ok_76) (ol_8_6 ok_76) e1 ?_
  exact ws_vret (dcd d_m_setRow_0 9 rfl) rfl h
theorem sg_m_here_0 {x1 : Int32}  (h : (vp_in x1 4 ∧ (((mI u 81 (x1 : Int32).toNatClampNeg) ≤ (mI u 76 13) → Q (some (.int (-9))) u) ∧ (¬ ((mI u 81 (x1 : Int32).toNatClampNeg) ≤ (mI u 76 13)) → (vp_in ((100 * x1) + (mI u 76 13)) 400 ∧ Q (some (.int (mI u 82 (((100 * x1) + (mI u 76 13)) : Int32).toNatClampNeg))) u))))) : Ws G m_here 0 [(0, .ref 76), (1, .int x1)] [] u Q := by
  refine ws_aload_n 0 (dcd d_m_here_0 0 rfl) rfl ?_
  refine ws_getI f_m_113 rfl (dcd d_m_here_0 1 rfl) ok_76 ?_
  refine ws_aload_n 0 (dcd d_m_here_0 2 rfl) rfl ?_
  refine ws_getF (a := 81) f_m_26 rfl (dcd d_m_here_0 3 rfl) ok_76 of_8_8 rfl ?_
  refine ws_iload_n 1 (dcd d_m_here_0 4 rfl) rfl ?_
  obtain ⟨e1, h⟩ := h
  refine ws_iald (L := 4) (dcd d_m_here_0 5 rfl) (os_8_8 ok_76) (ol_8_8 ok_76) e1 ?_
  refine ws_icmp_ge (tgt := 30) (dcd d_m_here_0 6 rfl) (by decide) (fun c2 => ?_) (fun c2 => ?_)
  · have h := h.1 c2
    refine ws_bipush (v := (-9)) (dcd d_m_here_0 17 rfl) (by decide) ?_
    exact ws_iret (dcd d_m_here_0 18 rfl) ⟨_, rfl, rfl⟩ h
  · have h := h.2 c2
    refine ws_aload_n 0 (dcd d_m_here_0 7 rfl) rfl ?_
    refine ws_getF (a := 82) f_m_29 rfl (dcd d_m_here_0 8 rfl) ok_76 of_8_9 rfl ?_
    refine ws_bipush (v := 100) (dcd d_m_here_0 9 rfl) (by decide) ?_
    refine ws_iload_n 1 (dcd d_m_here_0 10 rfl) rfl ?_
    refine ws_imul (dcd d_m_here_0 11 rfl) ?_
    refine ws_aload_n 0 (dcd d_m_here_0 12 rfl) rfl ?_
    refine ws_getI f_m_113 rfl (dcd d_m_here_0 13 rfl) ok_76 ?_
    refine ws_iadd (dcd d_m_here_0 14 rfl) ?_
    obtain ⟨e3, h⟩ := h
    refine ws_iald (L := 400) (dcd d_m_here_0 15 rfl) (os_8_9 ok_76) (ol_8_9 ok_76) e3 ?_
    refine ws_goto (tgt := 32) (dcd d_m_here_0 16 rfl) (by decide) ?_
    exact ws_iret (dcd d_m_here_0 18 rfl) ⟨_, rfl, rfl⟩ h
theorem sg_m_kindOf_0 {x0 : Int32}  (h : ((¬ x0 = 115 → ((¬ x0 = 102 → ((¬ x0 = 121 → ((¬ x0 = 110 → ((¬ x0 = 111 → ((¬ x0 = 112 → Q (some (.int (-9))) u) ∧ (x0 = 112 → Q (some (.int 5)) u))) ∧ (x0 = 111 → Q (some (.int 4)) u))) ∧ (x0 = 110 → Q (some (.int 3)) u))) ∧ (x0 = 121 → Q (some (.int 2)) u))) ∧ (x0 = 102 → Q (some (.int 1)) u))) ∧ (x0 = 115 → Q (some (.int 0)) u))) : Ws G m_kindOf 0 [(0, .int x0)] [] u Q := by
  refine ws_iload_n 0 (dcd d_m_kindOf_0 0 rfl) rfl ?_
  refine ws_bipush (v := 115) (dcd d_m_kindOf_0 1 rfl) (by decide) ?_
  refine ws_icmp_ne (tgt := 10) (dcd d_m_kindOf_0 2 rfl) (by decide) (fun c1 => ?_) (fun c1 => ?_)
  · have h := h.1 c1
    refine ws_iload_n 0 (dcd d_m_kindOf_0 5 rfl) rfl ?_
    refine ws_bipush (v := 102) (dcd d_m_kindOf_0 6 rfl) (by decide) ?_
    refine ws_icmp_ne (tgt := 20) (dcd d_m_kindOf_0 7 rfl) (by decide) (fun c2 => ?_) (fun c2 => ?_)
    · have h := h.1 c2
      refine ws_iload_n 0 (dcd d_m_kindOf_0 10 rfl) rfl ?_
      refine ws_bipush (v := 121) (dcd d_m_kindOf_0 11 rfl) (by decide) ?_
      refine ws_icmp_ne (tgt := 30) (dcd d_m_kindOf_0 12 rfl) (by decide) (fun c3 => ?_) (fun c3 => ?_)
      · have h := h.1 c3
        refine ws_iload_n 0 (dcd d_m_kindOf_0 15 rfl) rfl ?_
        refine ws_bipush (v := 110) (dcd d_m_kindOf_0 16 rfl) (by decide) ?_
        refine ws_icmp_ne (tgt := 40) (dcd d_m_kindOf_0 17 rfl) (by decide) (fun c4 => ?_) (fun c4 => ?_)
        · have h := h.1 c4
          refine ws_iload_n 0 (dcd d_m_kindOf_0 20 rfl) rfl ?_
          refine ws_bipush (v := 111) (dcd d_m_kindOf_0 21 rfl) (by decide) ?_
          refine ws_icmp_ne (tgt := 50) (dcd d_m_kindOf_0 22 rfl) (by decide) (fun c5 => ?_) (fun c5 => ?_)
          · have h := h.1 c5
            refine ws_iload_n 0 (dcd d_m_kindOf_0 25 rfl) rfl ?_
            refine ws_bipush (v := 112) (dcd d_m_kindOf_0 26 rfl) (by decide) ?_
            refine ws_icmp_ne (tgt := 60) (dcd d_m_kindOf_0 27 rfl) (by decide) (fun c6 => ?_) (fun c6 => ?_)
            · have h := h.1 c6
              refine ws_bipush (v := (-9)) (dcd d_m_kindOf_1 0 rfl) (by decide) ?_
              exact ws_iret (dcd d_m_kindOf_1 1 rfl) ⟨_, rfl, rfl⟩ h
            · have h := h.2 c6
              refine ws_iconst (v := 5) (dcd d_m_kindOf_0 28 rfl) (by decide) ?_
              refine ws_goto (tgt := 62) (dcd d_m_kindOf_0 29 rfl) (by decide) ?_
              exact ws_iret (dcd d_m_kindOf_1 1 rfl) ⟨_, rfl, rfl⟩ h
          · have h := h.2 c5
            refine ws_iconst (v := 4) (dcd d_m_kindOf_0 23 rfl) (by decide) ?_
            refine ws_goto (tgt := 62) (dcd d_m_kindOf_0 24 rfl) (by decide) ?_
            exact ws_iret (dcd d_m_kindOf_1 1 rfl) ⟨_, rfl, rfl⟩ h
        · have h := h.2 c4
          refine ws_iconst (v := 3) (dcd d_m_kindOf_0 18 rfl) (by decide) ?_
          refine ws_goto (tgt := 62) (dcd d_m_kindOf_0 19 rfl) (by decide) ?_
          exact ws_iret (dcd d_m_kindOf_1 1 rfl) ⟨_, rfl, rfl⟩ h
      · have h := h.2 c3
        refine ws_iconst (v := 2) (dcd d_m_kindOf_0 13 rfl) (by decide) ?_
        refine ws_goto (tgt := 62) (dcd d_m_kindOf_0 14 rfl) (by decide) ?_
        exact ws_iret (dcd d_m_kindOf_1 1 rfl) ⟨_, rfl, rfl⟩ h
    · have h := h.2 c2
      refine ws_iconst (v := 1) (dcd d_m_kindOf_0 8 rfl) (by decide) ?_
      refine ws_goto (tgt := 62) (dcd d_m_kindOf_0 9 rfl) (by decide) ?_
      exact ws_iret (dcd d_m_kindOf_1 1 rfl) ⟨_, rfl, rfl⟩ h
  · have h := h.2 c1
    refine ws_iconst (v := 0) (dcd d_m_kindOf_0 3 rfl) (by decide) ?_
    refine ws_goto (tgt := 62) (dcd d_m_kindOf_0 4 rfl) (by decide) ?_
    exact ws_iret (dcd d_m_kindOf_1 1 rfl) ⟨_, rfl, rfl⟩ h
theorem sg_m_tell_0 {x1 : Int32} {x2 : Int32}  (h : (vp_in ((5 * x1) + x2) 70 ∧ Q (some (.int (mI u 83 (((5 * x1) + x2) : Int32).toNatClampNeg))) u)) : Ws G m_tell 0 [(0, .ref 76), (1, .int x1), (2, .int x2)] [] u Q := by
  refine ws_aload_n 0 (dcd d_m_tell_0 0 rfl) rfl ?_
  refine ws_getF (a := 83) f_m_32 rfl (dcd d_m_tell_0 1 rfl) ok_76 of_8_12 rfl ?_
  refine ws_iconst (v := 5) (dcd d_m_tell_0 2 rfl) (by decide) ?_
  refine ws_iload_n 1 (dcd d_m_tell_0 3 rfl) rfl ?_
  refine ws_imul (dcd d_m_tell_0 4 rfl) ?_
  refine ws_iload_n 2 (dcd d_m_tell_0 5 rfl) rfl ?_
  refine ws_iadd (dcd d_m_tell_0 6 rfl) ?_
  obtain ⟨e1, h⟩ := h
  refine ws_iald (L := 70) (dcd d_m_tell_0 7 rfl) (os_8_12 ok_76) (ol_8_12 ok_76) e1 ?_
  exact ws_iret (dcd d_m_tell_0 8 rfl) ⟨_, rfl, rfl⟩ h
theorem sg_m_goingBy_0 {x0 : Int32} {x1 : Int32} {x2 : Int32} {x3 : Int32}  (h : ((¬ x0 = 1 → ((¬ x0 = 4 → ((x0 < 3 → Q (some (.int x1)) u) ∧ (¬ (x0 < 3) → (¬ x2 = 0 ∧ ((¬ (x3 - x3 / x2 * x2) = (x2 - 1) → Q (some (.int x1)) u) ∧ ((x3 - x3 / x2 * x2) = (x2 - 1) → ((¬ x0 = 3 → Q (some (.int (-x1))) u) ∧ (x0 = 3 → Q (some (.int 0)) u)))))))) ∧ (x0 = 4 → (¬ x2 = 0 ∧ ((¬ ((x3 / x2) - (x3 / x2) / 2 * 2) = 0 → Q (some (.int (-x1))) u) ∧ (((x3 / x2) - (x3 / x2) / 2 * 2) = 0 → Q (some (.int x1)) u)))))) ∧ (x0 = 1 → Q (some (.int 0)) u))) : Ws G m_goingBy 0 [(0, .int x0), (1, .int x1), (2, .int x2), (3, .int x3)] [] u Q := by
  refine ws_iload_n 0 (dcd d_m_goingBy_0 0 rfl) rfl ?_
  refine ws_iconst (v := 1) (dcd d_m_goingBy_0 1 rfl) (by decide) ?_
  refine ws_icmp_ne (tgt := 7) (dcd d_m_goingBy_0 2 rfl) (by decide) (fun c1 => ?_) (fun c1 => ?_)
  · have h := h.1 c1
    refine ws_iload_n 0 (dcd d_m_goingBy_0 5 rfl) rfl ?_
    refine ws_iconst (v := 4) (dcd d_m_goingBy_0 6 rfl) (by decide) ?_
    refine ws_icmp_ne (tgt := 27) (dcd d_m_goingBy_0 7 rfl) (by decide) (fun c2 => ?_) (fun c2 => ?_)
    · have h := h.1 c2
      refine ws_iload_n 0 (dcd d_m_goingBy_0 19 rfl) rfl ?_
      refine ws_iconst (v := 3) (dcd d_m_goingBy_0 20 rfl) (by decide) ?_
      refine ws_icmp_lt (tgt := 45) (dcd d_m_goingBy_0 21 rfl) (by decide) (fun c3 => ?_) (fun c3 => ?_)
      · have h := h.1 c3
        refine ws_iconst (v := 0) (dcd d_m_goingBy_1 1 rfl) (by decide) ?_
        refine ws_istore (l' := [(4, .int 0), (0, .int x0), (1, .int x1), (2, .int x2), (3, .int x3)]) (dcd d_m_goingBy_1 2 rfl) (by decide) rfl ?_
        refine ws_iload 0 (dcd d_m_goingBy_1 3 rfl) rfl ?_
        refine ws_if_ne (tgt := 57) (dcd d_m_goingBy_1 4 rfl) (by decide) (fun c => absurd (show (0 : Int32) = 0 from by decide) c) (fun _ => ?_)
        refine ws_iload_n 2 (dcd d_m_goingBy_1 5 rfl) rfl ?_
        refine ws_goto (tgt := 68) (dcd d_m_goingBy_1 6 rfl) (by decide) ?_
        exact ws_iret (dcd d_m_goingBy_1 14 rfl) ⟨_, rfl, rfl⟩ h
      · have h := h.2 c3
        refine ws_iload_n 3 (dcd d_m_goingBy_0 22 rfl) rfl ?_
        refine ws_iload_n 2 (dcd d_m_goingBy_0 23 rfl) rfl ?_
        obtain ⟨e5, h⟩ := h
        refine ws_irem (dcd d_m_goingBy_0 24 rfl) e5 ?_
        refine ws_iload_n 2 (dcd d_m_goingBy_0 25 rfl) rfl ?_
        refine ws_iconst (v := 1) (dcd d_m_goingBy_0 26 rfl) (by decide) ?_
        refine ws_isub (dcd d_m_goingBy_0 27 rfl) ?_
        refine ws_icmp_ne (tgt := 45) (dcd d_m_goingBy_0 28 rfl) (by decide) (fun c6 => ?_) (fun c6 => ?_)
        · have h := h.1 c6
          refine ws_iconst (v := 0) (dcd d_m_goingBy_1 1 rfl) (by decide) ?_
          refine ws_istore (l' := [(4, .int 0), (0, .int x0), (1, .int x1), (2, .int x2), (3, .int x3)]) (dcd d_m_goingBy_1 2 rfl) (by decide) rfl ?_
          refine ws_iload 0 (dcd d_m_goingBy_1 3 rfl) rfl ?_
          refine ws_if_ne (tgt := 57) (dcd d_m_goingBy_1 4 rfl) (by decide) (fun c => absurd (show (0 : Int32) = 0 from by decide) c) (fun _ => ?_)
          refine ws_iload_n 2 (dcd d_m_goingBy_1 5 rfl) rfl ?_
          refine ws_goto (tgt := 68) (dcd d_m_goingBy_1 6 rfl) (by decide) ?_
          exact ws_iret (dcd d_m_goingBy_1 14 rfl) ⟨_, rfl, rfl⟩ h
        · have h := h.2 c6
          refine ws_iconst (v := 1) (dcd d_m_goingBy_0 29 rfl) (by decide) ?_
          refine ws_goto (tgt := 46) (dcd d_m_goingBy_1 0 rfl) (by decide) ?_
          refine ws_istore (l' := [(4, .int 1), (0, .int x0), (1, .int x1), (2, .int x2), (3, .int x3)]) (dcd d_m_goingBy_1 2 rfl) (by decide) rfl ?_
          refine ws_iload 0 (dcd d_m_goingBy_1 3 rfl) rfl ?_
          refine ws_if_ne (tgt := 57) (dcd d_m_goingBy_1 4 rfl) (by decide) (fun _ => ?_) (fun c => absurd c (by decide))
          refine ws_iload_n 1 (dcd d_m_goingBy_1 7 rfl) rfl ?_
          refine ws_iconst (v := 3) (dcd d_m_goingBy_1 8 rfl) (by decide) ?_
          refine ws_icmp_ne (tgt := 66) (dcd d_m_goingBy_1 9 rfl) (by decide) (fun c9 => ?_) (fun c9 => ?_)
          · have h := h.1 c9
            refine ws_iload_n 2 (dcd d_m_goingBy_1 12 rfl) rfl ?_
            refine ws_ineg (dcd d_m_goingBy_1 13 rfl) ?_
            exact ws_iret (dcd d_m_goingBy_1 14 rfl) ⟨_, rfl, rfl⟩ h
          · have h := h.2 c9
            refine ws_iconst (v := 0) (dcd d_m_goingBy_1 10 rfl) (by decide) ?_
            refine ws_goto (tgt := 68) (dcd d_m_goingBy_1 11 rfl) (by decide) ?_
            exact ws_iret (dcd d_m_goingBy_1 14 rfl) ⟨_, rfl, rfl⟩ h
    · have h := h.2 c2
      refine ws_iload_n 3 (dcd d_m_goingBy_0 8 rfl) rfl ?_
      refine ws_iload_n 2 (dcd d_m_goingBy_0 9 rfl) rfl ?_
      obtain ⟨e10, h⟩ := h
      refine ws_idiv (dcd d_m_goingBy_0 10 rfl) e10 ?_
      refine ws_iconst (v := 2) (dcd d_m_goingBy_0 11 rfl) (by decide) ?_
      refine ws_irem (dcd d_m_goingBy_0 12 rfl) (by decide) ?_
      refine ws_if_ne (tgt := 24) (dcd d_m_goingBy_0 13 rfl) (by decide) (fun c11 => ?_) (fun c11 => ?_)
      · have h := h.1 c11
        refine ws_iload_n 1 (dcd d_m_goingBy_0 16 rfl) rfl ?_
        refine ws_ineg (dcd d_m_goingBy_0 17 rfl) ?_
        exact ws_iret (dcd d_m_goingBy_0 18 rfl) ⟨_, rfl, rfl⟩ h
      · have h := h.2 c11
        refine ws_iload_n 1 (dcd d_m_goingBy_0 14 rfl) rfl ?_
        refine ws_goto (tgt := 26) (dcd d_m_goingBy_0 15 rfl) (by decide) ?_
        exact ws_iret (dcd d_m_goingBy_0 18 rfl) ⟨_, rfl, rfl⟩ h
  · have h := h.2 c1
    refine ws_iconst (v := 0) (dcd d_m_goingBy_0 3 rfl) (by decide) ?_
    exact ws_iret (dcd d_m_goingBy_0 4 rfl) ⟨_, rfl, rfl⟩ h
theorem sg_m_doorAt_0 {x1 : Int64}  (h : (¬ ((mI u 76 10) : Int32).toInt64 = 0 ∧ ((0 ≤ (lg_cmp (x1 - x1 / ((mI u 76 10) : Int32).toInt64 * ((mI u 76 10) : Int32).toInt64) 0) → Q (some (.int ((x1 - x1 / ((mI u 76 10) : Int32).toInt64 * ((mI u 76 10) : Int32).toInt64) : Int64).toInt32)) u) ∧ (¬ (0 ≤ (lg_cmp (x1 - x1 / ((mI u 76 10) : Int32).toInt64 * ((mI u 76 10) : Int32).toInt64) 0)) → Q (some (.int (((x1 - x1 / ((mI u 76 10) : Int32).toInt64 * ((mI u 76 10) : Int32).toInt64) + ((mI u 76 10) : Int32).toInt64) : Int64).toInt32)) u)))) : Ws G m_doorAt 0 [(0, .ref 76), (1, .long x1)] [] u Q := by
  refine ws_lload_n 1 (dcd d_m_doorAt_0 0 rfl) rfl ?_
  refine ws_aload_n 0 (dcd d_m_doorAt_0 1 rfl) rfl ?_
  refine ws_getI f_m_153 rfl (dcd d_m_doorAt_0 2 rfl) ok_76 ?_
  refine ws_i2l (dcd d_m_doorAt_0 3 rfl) ?_
  obtain ⟨e1, h⟩ := h
  refine ws_lrem (dcd d_m_doorAt_0 4 rfl) e1 ?_
  refine ws_lstore_n (l' := [(3, .long (x1 - x1 / ((mI u 76 10) : Int32).toInt64 * ((mI u 76 10) : Int32).toInt64)), (0, .ref 76), (1, .long x1)]) (dcd d_m_doorAt_0 5 rfl) (by decide) rfl ?_
  refine ws_lload_n 0 (dcd d_m_doorAt_0 6 rfl) rfl ?_
  refine ws_lconst (v := 0) (dcd d_m_doorAt_0 7 rfl) (by decide) ?_
  refine ws_lcmp (dcd d_m_doorAt_0 8 rfl) ?_
  refine ws_if_ge (tgt := 24) (dcd d_m_doorAt_0 9 rfl) (by decide) (fun c2 => ?_) (fun c2 => ?_)
  · have h := h.1 c2
    refine ws_lload_n 0 (dcd d_m_doorAt_0 16 rfl) rfl ?_
    refine ws_l2i (dcd d_m_doorAt_0 17 rfl) ?_
    exact ws_iret (dcd d_m_doorAt_0 18 rfl) ⟨_, rfl, rfl⟩ h
  · have h := h.2 c2
    refine ws_lload_n 0 (dcd d_m_doorAt_0 10 rfl) rfl ?_
    refine ws_aload_n 1 (dcd d_m_doorAt_0 11 rfl) rfl ?_
    refine ws_getI f_m_153 rfl (dcd d_m_doorAt_0 12 rfl) ok_76 ?_
    refine ws_i2l (dcd d_m_doorAt_0 13 rfl) ?_
    refine ws_ladd (dcd d_m_doorAt_0 14 rfl) ?_
    refine ws_goto (tgt := 25) (dcd d_m_doorAt_0 15 rfl) (by decide) ?_
    refine ws_l2i (dcd d_m_doorAt_0 17 rfl) ?_
    exact ws_iret (dcd d_m_doorAt_0 18 rfl) ⟨_, rfl, rfl⟩ h
theorem sg_m_ways_0 {x0 : Int32} {x1 : Int32} {x2 : Int64}  (h : ((¬ x0 = 1 → ((3 ≤ x0 → ((¬ x0 = 4 → (¬ (x1 : Int32).toInt64 = 0 ∧ ((¬ x0 = 3 → Q (some (.long (x2 - (2 * (x2 / (x1 : Int32).toInt64))))) u) ∧ (x0 = 3 → Q (some (.long (x2 - (x2 / (x1 : Int32).toInt64)))) u)))) ∧ (x0 = 4 → (¬ (2 * (x1 : Int32).toInt64) = 0 ∧ ((0 < (lg_cmp (x2 - x2 / (2 * (x1 : Int32).toInt64) * (2 * (x1 : Int32).toInt64)) (x1 : Int32).toInt64) → Q (some (.long ((2 * (x1 : Int32).toInt64) - (x2 - x2 / (2 * (x1 : Int32).toInt64) * (2 * (x1 : Int32).toInt64))))) u) ∧ (¬ (0 < (lg_cmp (x2 - x2 / (2 * (x1 : Int32).toInt64) * (2 * (x1 : Int32).toInt64)) (x1 : Int32).toInt64)) → Q (some (.long (x2 - x2 / (2 * (x1 : Int32).toInt64) * (2 * (x1 : Int32).toInt64)))) u)))))) ∧ (¬ (3 ≤ x0) → Q (some (.long x2)) u))) ∧ (x0 = 1 → Q (some (.long 0)) u))) : Ws G m_ways 0 [(0, .int x0), (1, .int x1), (2, .long x2)] [] u Q := by
  refine ws_iload_n 0 (dcd d_m_ways_0 0 rfl) rfl ?_
  refine ws_iconst (v := 1) (dcd d_m_ways_0 1 rfl) (by decide) ?_
  refine ws_icmp_ne (tgt := 7) (dcd d_m_ways_0 2 rfl) (by decide) (fun c1 => ?_) (fun c1 => ?_)
  · have h := h.1 c1
    refine ws_iload_n 0 (dcd d_m_ways_0 5 rfl) rfl ?_
    refine ws_iconst (v := 3) (dcd d_m_ways_0 6 rfl) (by decide) ?_
    refine ws_icmp_ge (tgt := 14) (dcd d_m_ways_0 7 rfl) (by decide) (fun c2 => ?_) (fun c2 => ?_)
    · have h := h.1 c2
      refine ws_iload_n 0 (dcd d_m_ways_0 10 rfl) rfl ?_
      refine ws_iconst (v := 4) (dcd d_m_ways_0 11 rfl) (by decide) ?_
      refine ws_icmp_ne (tgt := 52) (dcd d_m_ways_0 12 rfl) (by decide) (fun c3 => ?_) (fun c3 => ?_)
      · have h := h.1 c3
        refine ws_lload_n 2 (dcd d_m_ways_1 4 rfl) rfl ?_
        refine ws_iload_n 1 (dcd d_m_ways_1 5 rfl) rfl ?_
        refine ws_i2l (dcd d_m_ways_1 6 rfl) ?_
        obtain ⟨e4, h⟩ := h
        refine ws_ldiv (dcd d_m_ways_1 7 rfl) e4 ?_
        refine ws_lstore (l' := [(4, .long (x2 / (x1 : Int32).toInt64)), (0, .int x0), (1, .int x1), (2, .long x2)]) (dcd d_m_ways_1 8 rfl) (by decide) rfl ?_
        refine ws_iload_n 1 (dcd d_m_ways_1 9 rfl) rfl ?_
        refine ws_iconst (v := 3) (dcd d_m_ways_1 10 rfl) (by decide) ?_
        refine ws_icmp_ne (tgt := 70) (dcd d_m_ways_1 11 rfl) (by decide) (fun c5 => ?_) (fun c5 => ?_)
        · have h := h.1 c5
          refine ws_lload_n 3 (dcd d_m_ways_1 16 rfl) rfl ?_
          refine ws_ldc2 (dcd d_m_ways_1 17 rfl) q_m_215 ?_
          refine ws_lload 0 (dcd d_m_ways_1 18 rfl) rfl ?_
          refine ws_lmul (dcd d_m_ways_1 19 rfl) ?_
          refine ws_lsub (dcd d_m_ways_1 20 rfl) ?_
          exact ws_lret (dcd d_m_ways_1 21 rfl) rfl h
        · have h := h.2 c5
          refine ws_lload_n 3 (dcd d_m_ways_1 12 rfl) rfl ?_
          refine ws_lload 0 (dcd d_m_ways_1 13 rfl) rfl ?_
          refine ws_lsub (dcd d_m_ways_1 14 rfl) ?_
          refine ws_goto (tgt := 78) (dcd d_m_ways_1 15 rfl) (by decide) ?_
          exact ws_lret (dcd d_m_ways_1 21 rfl) rfl h
      · have h := h.2 c3
        refine ws_lload_n 2 (dcd d_m_ways_0 13 rfl) rfl ?_
        refine ws_ldc2 (dcd d_m_ways_0 14 rfl) q_m_215 ?_
        refine ws_iload_n 1 (dcd d_m_ways_0 15 rfl) rfl ?_
        refine ws_i2l (dcd d_m_ways_0 16 rfl) ?_
        refine ws_lmul (dcd d_m_ways_0 17 rfl) ?_
        obtain ⟨e6, h⟩ := h
        refine ws_lrem (dcd d_m_ways_0 18 rfl) e6 ?_
        refine ws_lstore (l' := [(4, .long (x2 - x2 / (2 * (x1 : Int32).toInt64) * (2 * (x1 : Int32).toInt64))), (0, .int x0), (1, .int x1), (2, .long x2)]) (dcd d_m_ways_0 19 rfl) (by decide) rfl ?_
        refine ws_lload 0 (dcd d_m_ways_0 20 rfl) rfl ?_
        refine ws_iload_n 2 (dcd d_m_ways_0 21 rfl) rfl ?_
        refine ws_i2l (dcd d_m_ways_0 22 rfl) ?_
        refine ws_lcmp (dcd d_m_ways_0 23 rfl) ?_
        refine ws_if_gt (tgt := 42) (dcd d_m_ways_0 24 rfl) (by decide) (fun c7 => ?_) (fun c7 => ?_)
        · have h := h.1 c7
          refine ws_ldc2 (dcd d_m_ways_0 27 rfl) q_m_215 ?_
          refine ws_iload_n 2 (dcd d_m_ways_0 28 rfl) rfl ?_
          refine ws_i2l (dcd d_m_ways_0 29 rfl) ?_
          refine ws_lmul (dcd d_m_ways_1 0 rfl) ?_
          refine ws_lload 0 (dcd d_m_ways_1 1 rfl) rfl ?_
          refine ws_lsub (dcd d_m_ways_1 2 rfl) ?_
          exact ws_lret (dcd d_m_ways_1 3 rfl) rfl h
        · have h := h.2 c7
          refine ws_lload 0 (dcd d_m_ways_0 25 rfl) rfl ?_
          refine ws_goto (tgt := 51) (dcd d_m_ways_0 26 rfl) (by decide) ?_
          exact ws_lret (dcd d_m_ways_1 3 rfl) rfl h
    · have h := h.2 c2
      refine ws_lload_n 2 (dcd d_m_ways_0 8 rfl) rfl ?_
      exact ws_lret (dcd d_m_ways_0 9 rfl) rfl h
  · have h := h.2 c1
    refine ws_lconst (v := 0) (dcd d_m_ways_0 3 rfl) (by decide) ?_
    exact ws_lret (dcd d_m_ways_0 4 rfl) rfl h
theorem sg_m_mix_0 {x1 : Int32}  (h : Q none (pL u 76 32 ((31 * (mL u 76 32)) + (x1 : Int32).toInt64))) : Ws G m_mix 0 [(0, .ref 76), (1, .int x1)] [] u Q := by
  refine ws_aload_n 0 (dcd d_m_mix_0 0 rfl) rfl ?_
  refine ws_ldc2 (dcd d_m_mix_0 1 rfl) q_m_284 ?_
  refine ws_aload_n 0 (dcd d_m_mix_0 2 rfl) rfl ?_
  refine ws_getL f_m_286 rfl (dcd d_m_mix_0 3 rfl) ok_76 ?_
  refine ws_lmul (dcd d_m_mix_0 4 rfl) ?_
  refine ws_iload_n 1 (dcd d_m_mix_0 5 rfl) rfl ?_
  refine ws_i2l (dcd d_m_mix_0 6 rfl) ?_
  refine ws_ladd (dcd d_m_mix_0 7 rfl) ?_
  refine ws_putL f_m_286 rfl nf_8_32 (dcd d_m_mix_0 8 rfl) ok_76 ?_
  exact ws_vret (dcd d_m_mix_0 9 rfl) rfl h
theorem sg_Sp_isThere_0 {o0 : Nat} (k0 : okS o0 6) (h : (((mI u o0 1) < 0 → Q (some (.int 0)) u) ∧ (¬ ((mI u o0 1) < 0) → Q (some (.int 1)) u))) : Ws G Sp_isThere 0 [(0, .ref o0)] [] u Q := by
  refine ws_aload_n 0 (dcd d_Sp_isThere_0 0 rfl) rfl ?_
  refine ws_getI f_Sp_9 rfl (dcd d_Sp_isThere_0 1 rfl) k0 ?_
  refine ws_if_lt (tgt := 11) (dcd d_Sp_isThere_0 2 rfl) (by decide) (fun c1 => ?_) (fun c1 => ?_)
  · have h := h.1 c1
    refine ws_iconst (v := 0) (dcd d_Sp_isThere_0 5 rfl) (by decide) ?_
    exact ws_iret (dcd d_Sp_isThere_0 6 rfl) ⟨_, rfl, by decide⟩ h
  · have h := h.2 c1
    refine ws_iconst (v := 1) (dcd d_Sp_isThere_0 3 rfl) (by decide) ?_
    refine ws_goto (tgt := 12) (dcd d_Sp_isThere_0 4 rfl) (by decide) ?_
    exact ws_iret (dcd d_Sp_isThere_0 6 rfl) ⟨_, rfl, by decide⟩ h
theorem sg_Sp_has_0 {o0 : Nat} {x1 : Int32} (k0 : okS o0 6) (h : ((x1 < 0 → Q (some (.int 0)) u) ∧ (¬ (x1 < 0) → (((mI u o0 1) ≤ x1 → Q (some (.int 0)) u) ∧ (¬ ((mI u o0 1) ≤ x1) → (((Int32.ofNat (S0 (o0 + 1)).2) ≤ x1 → Q (some (.int 0)) u) ∧ (¬ ((Int32.ofNat (S0 (o0 + 1)).2) ≤ x1) → Q (some (.int 1)) u))))))) : Ws G Sp_has 0 [(0, .ref o0), (1, .int x1)] [] u Q := by
  refine ws_iload_n 1 (dcd d_Sp_has_0 0 rfl) rfl ?_
  refine ws_if_lt (tgt := 25) (dcd d_Sp_has_0 1 rfl) (by decide) (fun c1 => ?_) (fun c1 => ?_)
  · have h := h.1 c1
    refine ws_iconst (v := 0) (dcd d_Sp_has_0 13 rfl) (by decide) ?_
    exact ws_iret (dcd d_Sp_has_0 14 rfl) ⟨_, rfl, by decide⟩ h
  · have h := h.2 c1
    refine ws_iload_n 1 (dcd d_Sp_has_0 2 rfl) rfl ?_
    refine ws_aload_n 0 (dcd d_Sp_has_0 3 rfl) rfl ?_
    refine ws_getI f_Sp_9 rfl (dcd d_Sp_has_0 4 rfl) k0 ?_
    refine ws_icmp_ge (tgt := 25) (dcd d_Sp_has_0 5 rfl) (by decide) (fun c2 => ?_) (fun c2 => ?_)
    · have h := h.1 c2
      refine ws_iconst (v := 0) (dcd d_Sp_has_0 13 rfl) (by decide) ?_
      exact ws_iret (dcd d_Sp_has_0 14 rfl) ⟨_, rfl, by decide⟩ h
    · have h := h.2 c2
      refine ws_iload_n 1 (dcd d_Sp_has_0 6 rfl) rfl ?_
      refine ws_aload_n 0 (dcd d_Sp_has_0 7 rfl) rfl ?_
      refine ws_getF (a := (o0 + 1)) f_Sp_21 rfl (dcd d_Sp_has_0 8 rfl) k0 of_6_0 rfl ?_
      refine ws_alen (dcd d_Sp_has_0 9 rfl) (os_6_0 k0) (by decide) ?_
      refine ws_icmp_ge (tgt := 25) (dcd d_Sp_has_0 10 rfl) (by decide) (fun c3 => ?_) (fun c3 => ?_)
      · have h := h.1 c3
        refine ws_iconst (v := 0) (dcd d_Sp_has_0 13 rfl) (by decide) ?_
        exact ws_iret (dcd d_Sp_has_0 14 rfl) ⟨_, rfl, by decide⟩ h
      · have h := h.2 c3
        refine ws_iconst (v := 1) (dcd d_Sp_has_0 11 rfl) (by decide) ?_
        refine ws_goto (tgt := 26) (dcd d_Sp_has_0 12 rfl) (by decide) ?_
        exact ws_iret (dcd d_Sp_has_0 14 rfl) ⟨_, rfl, by decide⟩ h
theorem sg_Sp_holds_0 {o0 : Nat} {x1 : Int32} {x2 : Int32} (k0 : okS o0 6) (h : ((x1 < 0 → Q (some (.int 0)) u) ∧ (¬ (x1 < 0) → ((x2 < 0 → Q (some (.int 0)) u) ∧ (¬ (x2 < 0) → ((((mI u o0 1) - x2) < x1 → Q (some (.int 0)) u) ∧ (¬ (((mI u o0 1) - x2) < x1) → Q (some (.int 1)) u))))))) : Ws G Sp_holds 0 [(0, .ref o0), (1, .int x1), (2, .int x2)] [] u Q := by
  refine ws_iload_n 1 (dcd d_Sp_holds_0 0 rfl) rfl ?_
  refine ws_if_lt (tgt := 22) (dcd d_Sp_holds_0 1 rfl) (by decide) (fun c1 => ?_) (fun c1 => ?_)
  · have h := h.1 c1
    refine ws_iconst (v := 0) (dcd d_Sp_holds_0 12 rfl) (by decide) ?_
    exact ws_iret (dcd d_Sp_holds_0 13 rfl) ⟨_, rfl, by decide⟩ h
  · have h := h.2 c1
    refine ws_iload_n 2 (dcd d_Sp_holds_0 2 rfl) rfl ?_
    refine ws_if_lt (tgt := 22) (dcd d_Sp_holds_0 3 rfl) (by decide) (fun c2 => ?_) (fun c2 => ?_)
    · have h := h.1 c2
      refine ws_iconst (v := 0) (dcd d_Sp_holds_0 12 rfl) (by decide) ?_
      exact ws_iret (dcd d_Sp_holds_0 13 rfl) ⟨_, rfl, by decide⟩ h
    · have h := h.2 c2
      refine ws_iload_n 1 (dcd d_Sp_holds_0 4 rfl) rfl ?_
      refine ws_aload_n 0 (dcd d_Sp_holds_0 5 rfl) rfl ?_
      refine ws_getI f_Sp_9 rfl (dcd d_Sp_holds_0 6 rfl) k0 ?_
      refine ws_iload_n 2 (dcd d_Sp_holds_0 7 rfl) rfl ?_
      refine ws_isub (dcd d_Sp_holds_0 8 rfl) ?_
      refine ws_icmp_gt (tgt := 22) (dcd d_Sp_holds_0 9 rfl) (by decide) (fun c3 => ?_) (fun c3 => ?_)
      · have h := h.1 c3
        refine ws_iconst (v := 0) (dcd d_Sp_holds_0 12 rfl) (by decide) ?_
        exact ws_iret (dcd d_Sp_holds_0 13 rfl) ⟨_, rfl, by decide⟩ h
      · have h := h.2 c3
        refine ws_iconst (v := 1) (dcd d_Sp_holds_0 10 rfl) (by decide) ?_
        refine ws_goto (tgt := 23) (dcd d_Sp_holds_0 11 rfl) (by decide) ?_
        exact ws_iret (dcd d_Sp_holds_0 13 rfl) ⟨_, rfl, by decide⟩ h
theorem sg_Sh_isOf_0 {o0 : Nat} {x1 : Int32} (k0 : okS o0 4) (h : ((x1 = (mI u o0 0) → Q (some (.int 1)) u) ∧ (¬ x1 = (mI u o0 0) → ((¬ x1 = 3 → Q (some (.int 0)) u) ∧ (x1 = 3 → ((¬ (mI u o0 0) = 5 → Q (some (.int 0)) u) ∧ ((mI u o0 0) = 5 → Q (some (.int 1)) u))))))) : Ws G Sh_isOf 0 [(0, .ref o0), (1, .int x1)] [] u Q := by
  refine ws_iload_n 1 (dcd d_Sh_isOf_0 0 rfl) rfl ?_
  refine ws_aload_n 0 (dcd d_Sh_isOf_0 1 rfl) rfl ?_
  refine ws_getI f_Sh_9 rfl (dcd d_Sh_isOf_0 2 rfl) k0 ?_
  refine ws_icmp_eq (tgt := 21) (dcd d_Sh_isOf_0 3 rfl) (by decide) (fun c1 => ?_) (fun c1 => ?_)
  · have h := h.1 c1
    refine ws_iconst (v := 1) (dcd d_Sh_isOf_0 11 rfl) (by decide) ?_
    refine ws_goto (tgt := 26) (dcd d_Sh_isOf_0 12 rfl) (by decide) ?_
    exact ws_iret (dcd d_Sh_isOf_0 14 rfl) ⟨_, rfl, by decide⟩ h
  · have h := h.2 c1
    refine ws_iload_n 1 (dcd d_Sh_isOf_0 4 rfl) rfl ?_
    refine ws_iconst (v := 3) (dcd d_Sh_isOf_0 5 rfl) (by decide) ?_
    refine ws_icmp_ne (tgt := 25) (dcd d_Sh_isOf_0 6 rfl) (by decide) (fun c2 => ?_) (fun c2 => ?_)
    · have h := h.1 c2
      refine ws_iconst (v := 0) (dcd d_Sh_isOf_0 13 rfl) (by decide) ?_
      exact ws_iret (dcd d_Sh_isOf_0 14 rfl) ⟨_, rfl, by decide⟩ h
    · have h := h.2 c2
      refine ws_aload_n 0 (dcd d_Sh_isOf_0 7 rfl) rfl ?_
      refine ws_getI f_Sh_9 rfl (dcd d_Sh_isOf_0 8 rfl) k0 ?_
      refine ws_iconst (v := 5) (dcd d_Sh_isOf_0 9 rfl) (by decide) ?_
      refine ws_icmp_ne (tgt := 25) (dcd d_Sh_isOf_0 10 rfl) (by decide) (fun c3 => ?_) (fun c3 => ?_)
      · have h := h.1 c3
        refine ws_iconst (v := 0) (dcd d_Sh_isOf_0 13 rfl) (by decide) ?_
        exact ws_iret (dcd d_Sh_isOf_0 14 rfl) ⟨_, rfl, by decide⟩ h
      · have h := h.2 c3
        refine ws_iconst (v := 1) (dcd d_Sh_isOf_0 11 rfl) (by decide) ?_
        refine ws_goto (tgt := 26) (dcd d_Sh_isOf_0 12 rfl) (by decide) ?_
        exact ws_iret (dcd d_Sh_isOf_0 14 rfl) ⟨_, rfl, by decide⟩ h
theorem sg_Sh_going_0 {x0 : Int32} {x1 : Int32} {x2 : Int32} {x3 : Int32}  (h : ((¬ x0 = 1 → ((2 ≤ x1 → (¬ x1 = 0 ∧ ((¬ (x3 - x3 / x1 * x1) = (x1 - 1) → ((x0 = 3 → Q (some (.int x2)) u) ∧ (x0 = 4 → (¬ x1 = 0 ∧ ((¬ ((x3 / x1) - (x3 / x1) / 2 * 2) = 0 → Q (some (.int (-x2))) u) ∧ (((x3 / x1) - (x3 / x1) / 2 * 2) = 0 → Q (some (.int x2)) u)))) ∧ (x0 = 5 → Q (some (.int x2)) u) ∧ (¬ x0 = 3 ∧ ¬ x0 = 4 ∧ ¬ x0 = 5 → Q (some (.int x2)) u))) ∧ ((x3 - x3 / x1 * x1) = (x1 - 1) → ((x0 = 3 → Q (some (.int 0)) u) ∧ (x0 = 4 → (¬ x1 = 0 ∧ ((¬ ((x3 / x1) - (x3 / x1) / 2 * 2) = 0 → Q (some (.int (-x2))) u) ∧ (((x3 / x1) - (x3 / x1) / 2 * 2) = 0 → Q (some (.int x2)) u)))) ∧ (x0 = 5 → Q (some (.int (-x2))) u) ∧ (¬ x0 = 3 ∧ ¬ x0 = 4 ∧ ¬ x0 = 5 → Q (some (.int x2)) u)))))) ∧ (¬ (2 ≤ x1) → Q (some (.int x2)) u))) ∧ (x0 = 1 → Q (some (.int 0)) u))) : Ws G Sh_going 0 [(0, .int x0), (1, .int x1), (2, .int x2), (3, .int x3)] [] u Q := by
  refine ws_iload_n 0 (dcd d_Sh_going_0 0 rfl) rfl ?_
  refine ws_iconst (v := 1) (dcd d_Sh_going_0 1 rfl) (by decide) ?_
  refine ws_icmp_ne (tgt := 7) (dcd d_Sh_going_0 2 rfl) (by decide) (fun c1 => ?_) (fun c1 => ?_)
  · have h := h.1 c1
    refine ws_iload_n 1 (dcd d_Sh_going_0 5 rfl) rfl ?_
    refine ws_iconst (v := 2) (dcd d_Sh_going_0 6 rfl) (by decide) ?_
    refine ws_icmp_ge (tgt := 14) (dcd d_Sh_going_0 7 rfl) (by decide) (fun c2 => ?_) (fun c2 => ?_)
    · have h := h.1 c2
      refine ws_iload_n 3 (dcd d_Sh_going_0 10 rfl) rfl ?_
      refine ws_iload_n 1 (dcd d_Sh_going_0 11 rfl) rfl ?_
      obtain ⟨e3, h⟩ := h
      refine ws_irem (dcd d_Sh_going_0 12 rfl) e3 ?_
      refine ws_iload_n 1 (dcd d_Sh_going_0 13 rfl) rfl ?_
      refine ws_iconst (v := 1) (dcd d_Sh_going_0 14 rfl) (by decide) ?_
      refine ws_isub (dcd d_Sh_going_0 15 rfl) ?_
      refine ws_icmp_ne (tgt := 27) (dcd d_Sh_going_0 16 rfl) (by decide) (fun c4 => ?_) (fun c4 => ?_)
      · have h := h.1 c4
        refine ws_iconst (v := 0) (dcd d_Sh_going_0 19 rfl) (by decide) ?_
        refine ws_istore (l' := [(4, .int 0), (0, .int x0), (1, .int x1), (2, .int x2), (3, .int x3)]) (dcd d_Sh_going_0 20 rfl) (by decide) rfl ?_
        refine ws_iload_n 1 (dcd d_Sh_going_0 21 rfl) rfl ?_
        by_cases c6 : x0 = 3
        · have h := h.1 c6
          refine ws_tableIn (off := 25) (tgt := 56) 0 (dcd d_Sh_going_0 22 rfl) (by rw [c6]; decide) (by decide) rfl (by decide) ?_
          refine ws_iload 0 (dcd d_Sh_going_0 23 rfl) rfl ?_
          refine ws_if_eq (tgt := 65) (dcd d_Sh_going_0 24 rfl) (by decide) (fun _ => ?_) (fun c => absurd (show (0 : Int32) = 0 from by decide) c)
          refine ws_iload_n 3 (dcd d_Sh_going_0 27 rfl) rfl ?_
          exact ws_iret (dcd d_Sh_going_0 28 rfl) ⟨_, rfl, rfl⟩ h
        by_cases c8 : x0 = 4
        · have h := h.2.1 c8
          refine ws_tableIn (off := 36) (tgt := 67) 1 (dcd d_Sh_going_0 22 rfl) (by rw [c8]; decide) (by decide) rfl (by decide) ?_
          refine ws_iload_n 4 (dcd d_Sh_going_0 29 rfl) rfl ?_
          refine ws_iload_n 2 (dcd d_Sh_going_1 0 rfl) rfl ?_
          obtain ⟨e9, h⟩ := h
          refine ws_idiv (dcd d_Sh_going_1 1 rfl) e9 ?_
          refine ws_iconst (v := 2) (dcd d_Sh_going_1 2 rfl) (by decide) ?_
          refine ws_irem (dcd d_Sh_going_1 3 rfl) (by decide) ?_
          refine ws_if_ne (tgt := 79) (dcd d_Sh_going_1 4 rfl) (by decide) (fun c10 => ?_) (fun c10 => ?_)
          · have h := h.1 c10
            refine ws_iload_n 3 (dcd d_Sh_going_1 7 rfl) rfl ?_
            refine ws_ineg (dcd d_Sh_going_1 8 rfl) ?_
            exact ws_iret (dcd d_Sh_going_1 9 rfl) ⟨_, rfl, rfl⟩ h
          · have h := h.2 c10
            refine ws_iload_n 3 (dcd d_Sh_going_1 5 rfl) rfl ?_
            refine ws_goto (tgt := 81) (dcd d_Sh_going_1 6 rfl) (by decide) ?_
            exact ws_iret (dcd d_Sh_going_1 9 rfl) ⟨_, rfl, rfl⟩ h
        by_cases c11 : x0 = 5
        · have h := h.2.2.1 c11
          refine ws_tableIn (off := 51) (tgt := 82) 2 (dcd d_Sh_going_0 22 rfl) (by rw [c11]; decide) (by decide) rfl (by decide) ?_
          refine ws_iload 0 (dcd d_Sh_going_1 10 rfl) rfl ?_
          refine ws_if_eq (tgt := 92) (dcd d_Sh_going_1 11 rfl) (by decide) (fun _ => ?_) (fun c => absurd (show (0 : Int32) = 0 from by decide) c)
          refine ws_iload_n 3 (dcd d_Sh_going_1 15 rfl) rfl ?_
          exact ws_iret (dcd d_Sh_going_1 16 rfl) ⟨_, rfl, rfl⟩ h
        have h := h.2.2.2 ⟨c6, c8, c11⟩
        have nc6 := lv_neT c6 (a := 3) (by decide)
        have nc8 := lv_neT c8 (a := 4) (by decide)
        have nc11 := lv_neT c11 (a := 5) (by decide)
        refine ws_tableOut (tgt := 94) (dcd d_Sh_going_0 22 rfl) (by omega) (by decide) ?_
        refine ws_iload_n 3 (dcd d_Sh_going_1 17 rfl) rfl ?_
        exact ws_iret (dcd d_Sh_going_1 18 rfl) ⟨_, rfl, rfl⟩ h
      · have h := h.2 c4
        refine ws_iconst (v := 1) (dcd d_Sh_going_0 17 rfl) (by decide) ?_
        refine ws_goto (tgt := 28) (dcd d_Sh_going_0 18 rfl) (by decide) ?_
        refine ws_istore (l' := [(4, .int 1), (0, .int x0), (1, .int x1), (2, .int x2), (3, .int x3)]) (dcd d_Sh_going_0 20 rfl) (by decide) rfl ?_
        refine ws_iload_n 1 (dcd d_Sh_going_0 21 rfl) rfl ?_
        by_cases c14 : x0 = 3
        · have h := h.1 c14
          refine ws_tableIn (off := 25) (tgt := 56) 0 (dcd d_Sh_going_0 22 rfl) (by rw [c14]; decide) (by decide) rfl (by decide) ?_
          refine ws_iload 0 (dcd d_Sh_going_0 23 rfl) rfl ?_
          refine ws_if_eq (tgt := 65) (dcd d_Sh_going_0 24 rfl) (by decide) (fun c => absurd c (by decide)) (fun _ => ?_)
          refine ws_iconst (v := 0) (dcd d_Sh_going_0 25 rfl) (by decide) ?_
          refine ws_goto (tgt := 66) (dcd d_Sh_going_0 26 rfl) (by decide) ?_
          exact ws_iret (dcd d_Sh_going_0 28 rfl) ⟨_, rfl, rfl⟩ h
        by_cases c16 : x0 = 4
        · have h := h.2.1 c16
          refine ws_tableIn (off := 36) (tgt := 67) 1 (dcd d_Sh_going_0 22 rfl) (by rw [c16]; decide) (by decide) rfl (by decide) ?_
          refine ws_iload_n 4 (dcd d_Sh_going_0 29 rfl) rfl ?_
          refine ws_iload_n 2 (dcd d_Sh_going_1 0 rfl) rfl ?_
          obtain ⟨e17, h⟩ := h
          refine ws_idiv (dcd d_Sh_going_1 1 rfl) e17 ?_
          refine ws_iconst (v := 2) (dcd d_Sh_going_1 2 rfl) (by decide) ?_
          refine ws_irem (dcd d_Sh_going_1 3 rfl) (by decide) ?_
          refine ws_if_ne (tgt := 79) (dcd d_Sh_going_1 4 rfl) (by decide) (fun c18 => ?_) (fun c18 => ?_)
          · have h := h.1 c18
            refine ws_iload_n 3 (dcd d_Sh_going_1 7 rfl) rfl ?_
            refine ws_ineg (dcd d_Sh_going_1 8 rfl) ?_
            exact ws_iret (dcd d_Sh_going_1 9 rfl) ⟨_, rfl, rfl⟩ h
          · have h := h.2 c18
            refine ws_iload_n 3 (dcd d_Sh_going_1 5 rfl) rfl ?_
            refine ws_goto (tgt := 81) (dcd d_Sh_going_1 6 rfl) (by decide) ?_
            exact ws_iret (dcd d_Sh_going_1 9 rfl) ⟨_, rfl, rfl⟩ h
        by_cases c19 : x0 = 5
        · have h := h.2.2.1 c19
          refine ws_tableIn (off := 51) (tgt := 82) 2 (dcd d_Sh_going_0 22 rfl) (by rw [c19]; decide) (by decide) rfl (by decide) ?_
          refine ws_iload 0 (dcd d_Sh_going_1 10 rfl) rfl ?_
          refine ws_if_eq (tgt := 92) (dcd d_Sh_going_1 11 rfl) (by decide) (fun c => absurd c (by decide)) (fun _ => ?_)
          refine ws_iload_n 3 (dcd d_Sh_going_1 12 rfl) rfl ?_
          refine ws_ineg (dcd d_Sh_going_1 13 rfl) ?_
          refine ws_goto (tgt := 93) (dcd d_Sh_going_1 14 rfl) (by decide) ?_
          exact ws_iret (dcd d_Sh_going_1 16 rfl) ⟨_, rfl, rfl⟩ h
        have h := h.2.2.2 ⟨c14, c16, c19⟩
        have nc14 := lv_neT c14 (a := 3) (by decide)
        have nc16 := lv_neT c16 (a := 4) (by decide)
        have nc19 := lv_neT c19 (a := 5) (by decide)
        refine ws_tableOut (tgt := 94) (dcd d_Sh_going_0 22 rfl) (by omega) (by decide) ?_
        refine ws_iload_n 3 (dcd d_Sh_going_1 17 rfl) rfl ?_
        exact ws_iret (dcd d_Sh_going_1 18 rfl) ⟨_, rfl, rfl⟩ h
    · have h := h.2 c2
      refine ws_iload_n 2 (dcd d_Sh_going_0 8 rfl) rfl ?_
      exact ws_iret (dcd d_Sh_going_0 9 rfl) ⟨_, rfl, rfl⟩ h
  · have h := h.2 c1
    refine ws_iconst (v := 0) (dcd d_Sh_going_0 3 rfl) (by decide) ?_
    exact ws_iret (dcd d_Sh_going_0 4 rfl) ⟨_, rfl, rfl⟩ h
theorem sg_Sh_weeksToSleep_0 {o0 : Nat} {x1 : Int32} (k0 : okS o0 4) (h : ((2 ≤ (mI u o0 4) → (¬ (mI u o0 4) = 0 ∧ Q (some (.int (((mI u o0 4) - 1) - (x1 - x1 / (mI u o0 4) * (mI u o0 4))))) u)) ∧ (¬ (2 ≤ (mI u o0 4)) → Q (some (.int 0)) u))) : Ws G Sh_weeksToSleep 0 [(0, .ref o0), (1, .int x1)] [] u Q := by
  refine ws_aload_n 0 (dcd d_Sh_weeksToSleep_0 0 rfl) rfl ?_
  refine ws_getI f_Sh_24 rfl (dcd d_Sh_weeksToSleep_0 1 rfl) k0 ?_
  refine ws_iconst (v := 2) (dcd d_Sh_weeksToSleep_0 2 rfl) (by decide) ?_
  refine ws_icmp_ge (tgt := 12) (dcd d_Sh_weeksToSleep_0 3 rfl) (by decide) (fun c1 => ?_) (fun c1 => ?_)
  · have h := h.1 c1
    refine ws_aload_n 0 (dcd d_Sh_weeksToSleep_0 6 rfl) rfl ?_
    refine ws_getI f_Sh_24 rfl (dcd d_Sh_weeksToSleep_0 7 rfl) k0 ?_
    refine ws_iconst (v := 1) (dcd d_Sh_weeksToSleep_0 8 rfl) (by decide) ?_
    refine ws_isub (dcd d_Sh_weeksToSleep_0 9 rfl) ?_
    refine ws_iload_n 1 (dcd d_Sh_weeksToSleep_0 10 rfl) rfl ?_
    refine ws_aload_n 0 (dcd d_Sh_weeksToSleep_0 11 rfl) rfl ?_
    refine ws_getI f_Sh_24 rfl (dcd d_Sh_weeksToSleep_0 12 rfl) k0 ?_
    obtain ⟨e2, h⟩ := h
    refine ws_irem (dcd d_Sh_weeksToSleep_0 13 rfl) e2 ?_
    refine ws_isub (dcd d_Sh_weeksToSleep_0 14 rfl) ?_
    exact ws_iret (dcd d_Sh_weeksToSleep_0 15 rfl) ⟨_, rfl, rfl⟩ h
  · have h := h.2 c1
    refine ws_iconst (v := 0) (dcd d_Sh_weeksToSleep_0 4 rfl) (by decide) ?_
    refine ws_goto (tgt := 25) (dcd d_Sh_weeksToSleep_0 5 rfl) (by decide) ?_
    exact ws_iret (dcd d_Sh_weeksToSleep_0 15 rfl) ⟨_, rfl, rfl⟩ h
theorem sg_Sh_weeksToTurn_0 {o0 : Nat} {x1 : Int32} (k0 : okS o0 4) (h : ((2 ≤ (mI u o0 4) → (¬ (mI u o0 4) = 0 ∧ Q (some (.int ((mI u o0 4) - (x1 - x1 / (mI u o0 4) * (mI u o0 4))))) u)) ∧ (¬ (2 ≤ (mI u o0 4)) → Q (some (.int 0)) u))) : Ws G Sh_weeksToTurn 0 [(0, .ref o0), (1, .int x1)] [] u Q := by
  refine ws_aload_n 0 (dcd d_Sh_weeksToTurn_0 0 rfl) rfl ?_
  refine ws_getI f_Sh_24 rfl (dcd d_Sh_weeksToTurn_0 1 rfl) k0 ?_
  refine ws_iconst (v := 2) (dcd d_Sh_weeksToTurn_0 2 rfl) (by decide) ?_
  refine ws_icmp_ge (tgt := 12) (dcd d_Sh_weeksToTurn_0 3 rfl) (by decide) (fun c1 => ?_) (fun c1 => ?_)
  · have h := h.1 c1
    refine ws_aload_n 0 (dcd d_Sh_weeksToTurn_0 6 rfl) rfl ?_
    refine ws_getI f_Sh_24 rfl (dcd d_Sh_weeksToTurn_0 7 rfl) k0 ?_
    refine ws_iload_n 1 (dcd d_Sh_weeksToTurn_0 8 rfl) rfl ?_
    refine ws_aload_n 0 (dcd d_Sh_weeksToTurn_0 9 rfl) rfl ?_
    refine ws_getI f_Sh_24 rfl (dcd d_Sh_weeksToTurn_0 10 rfl) k0 ?_
    obtain ⟨e2, h⟩ := h
    refine ws_irem (dcd d_Sh_weeksToTurn_0 11 rfl) e2 ?_
    refine ws_isub (dcd d_Sh_weeksToTurn_0 12 rfl) ?_
    exact ws_iret (dcd d_Sh_weeksToTurn_0 13 rfl) ⟨_, rfl, rfl⟩ h
  · have h := h.2 c1
    refine ws_iconst (v := 0) (dcd d_Sh_weeksToTurn_0 4 rfl) (by decide) ?_
    refine ws_goto (tgt := 23) (dcd d_Sh_weeksToTurn_0 5 rfl) (by decide) ?_
    exact ws_iret (dcd d_Sh_weeksToTurn_0 13 rfl) ⟨_, rfl, rfl⟩ h
theorem sg_Pl_isThere_0 {o0 : Nat} (k0 : okS o0 2) (h : (((mI u o0 0) ≤ 0 → Q (some (.int 0)) u) ∧ (¬ ((mI u o0 0) ≤ 0) → Q (some (.int 1)) u))) : Ws G Pl_isThere 0 [(0, .ref o0)] [] u Q := by
  refine ws_aload_n 0 (dcd d_Pl_isThere_0 0 rfl) rfl ?_
  refine ws_getI f_Pl_9 rfl (dcd d_Pl_isThere_0 1 rfl) k0 ?_
  refine ws_if_le (tgt := 11) (dcd d_Pl_isThere_0 2 rfl) (by decide) (fun c1 => ?_) (fun c1 => ?_)
  · have h := h.1 c1
    refine ws_iconst (v := 0) (dcd d_Pl_isThere_0 5 rfl) (by decide) ?_
    exact ws_iret (dcd d_Pl_isThere_0 6 rfl) ⟨_, rfl, by decide⟩ h
  · have h := h.2 c1
    refine ws_iconst (v := 1) (dcd d_Pl_isThere_0 3 rfl) (by decide) ?_
    refine ws_goto (tgt := 12) (dcd d_Pl_isThere_0 4 rfl) (by decide) ?_
    exact ws_iret (dcd d_Pl_isThere_0 6 rfl) ⟨_, rfl, by decide⟩ h
theorem sg_Pl_hasDoor_0 {o0 : Nat} {x1 : Int32} (k0 : okS o0 2) (h : ((x1 < 0 → Q (some (.int 0)) u) ∧ (¬ (x1 < 0) → (((mI u o0 0) ≤ x1 → Q (some (.int 0)) u) ∧ (¬ ((mI u o0 0) ≤ x1) → Q (some (.int 1)) u))))) : Ws G Pl_hasDoor 0 [(0, .ref o0), (1, .int x1)] [] u Q := by
  refine ws_iload_n 1 (dcd d_Pl_hasDoor_0 0 rfl) rfl ?_
  refine ws_if_lt (tgt := 16) (dcd d_Pl_hasDoor_0 1 rfl) (by decide) (fun c1 => ?_) (fun c1 => ?_)
  · have h := h.1 c1
    refine ws_iconst (v := 0) (dcd d_Pl_hasDoor_0 8 rfl) (by decide) ?_
    exact ws_iret (dcd d_Pl_hasDoor_0 9 rfl) ⟨_, rfl, by decide⟩ h
  · have h := h.2 c1
    refine ws_iload_n 1 (dcd d_Pl_hasDoor_0 2 rfl) rfl ?_
    refine ws_aload_n 0 (dcd d_Pl_hasDoor_0 3 rfl) rfl ?_
    refine ws_getI f_Pl_9 rfl (dcd d_Pl_hasDoor_0 4 rfl) k0 ?_
    refine ws_icmp_ge (tgt := 16) (dcd d_Pl_hasDoor_0 5 rfl) (by decide) (fun c2 => ?_) (fun c2 => ?_)
    · have h := h.1 c2
      refine ws_iconst (v := 0) (dcd d_Pl_hasDoor_0 8 rfl) (by decide) ?_
      exact ws_iret (dcd d_Pl_hasDoor_0 9 rfl) ⟨_, rfl, by decide⟩ h
    · have h := h.2 c2
      refine ws_iconst (v := 1) (dcd d_Pl_hasDoor_0 6 rfl) (by decide) ?_
      refine ws_goto (tgt := 17) (dcd d_Pl_hasDoor_0 7 rfl) (by decide) ?_
      exact ws_iret (dcd d_Pl_hasDoor_0 9 rfl) ⟨_, rfl, by decide⟩ h
theorem sg_Pl_hasDoorSet_0 {o0 : Nat} {x1 : Int32} (k0 : okS o0 2) (h : ((x1 < 0 → Q (some (.int 0)) u) ∧ (¬ (x1 < 0) → ((¬ (x1 >>> ((mI u o0 0) &&& 31)) = 0 → Q (some (.int 0)) u) ∧ ((x1 >>> ((mI u o0 0) &&& 31)) = 0 → Q (some (.int 1)) u))))) : Ws G Pl_hasDoorSet 0 [(0, .ref o0), (1, .int x1)] [] u Q := by
  refine ws_iload_n 1 (dcd d_Pl_hasDoorSet_0 0 rfl) rfl ?_
  refine ws_if_lt (tgt := 17) (dcd d_Pl_hasDoorSet_0 1 rfl) (by decide) (fun c1 => ?_) (fun c1 => ?_)
  · have h := h.1 c1
    refine ws_iconst (v := 0) (dcd d_Pl_hasDoorSet_0 9 rfl) (by decide) ?_
    exact ws_iret (dcd d_Pl_hasDoorSet_0 10 rfl) ⟨_, rfl, by decide⟩ h
  · have h := h.2 c1
    refine ws_iload_n 1 (dcd d_Pl_hasDoorSet_0 2 rfl) rfl ?_
    refine ws_aload_n 0 (dcd d_Pl_hasDoorSet_0 3 rfl) rfl ?_
    refine ws_getI f_Pl_9 rfl (dcd d_Pl_hasDoorSet_0 4 rfl) k0 ?_
    refine ws_ishr (dcd d_Pl_hasDoorSet_0 5 rfl) ?_
    refine ws_if_ne (tgt := 17) (dcd d_Pl_hasDoorSet_0 6 rfl) (by decide) (fun c2 => ?_) (fun c2 => ?_)
    · have h := h.1 c2
      refine ws_iconst (v := 0) (dcd d_Pl_hasDoorSet_0 9 rfl) (by decide) ?_
      exact ws_iret (dcd d_Pl_hasDoorSet_0 10 rfl) ⟨_, rfl, by decide⟩ h
    · have h := h.2 c2
      refine ws_iconst (v := 1) (dcd d_Pl_hasDoorSet_0 7 rfl) (by decide) ?_
      refine ws_goto (tgt := 18) (dcd d_Pl_hasDoorSet_0 8 rfl) (by decide) ?_
      exact ws_iret (dcd d_Pl_hasDoorSet_0 10 rfl) ⟨_, rfl, by decide⟩ h
theorem sg_Pl_hasShop_0 {o0 : Nat} {x1 : Int32} (k0 : okS o0 2) (h : ((x1 < 0 → Q (some (.int 0)) u) ∧ (¬ (x1 < 0) → (((mI u o0 1) ≤ x1 → Q (some (.int 0)) u) ∧ (¬ ((mI u o0 1) ≤ x1) → ((7 ≤ x1 → Q (some (.int 0)) u) ∧ (¬ (7 ≤ x1) → Q (some (.int 1)) u))))))) : Ws G Pl_hasShop 0 [(0, .ref o0), (1, .int x1)] [] u Q := by
  refine ws_iload_n 1 (dcd d_Pl_hasShop_0 0 rfl) rfl ?_
  refine ws_if_lt (tgt := 22) (dcd d_Pl_hasShop_0 1 rfl) (by decide) (fun c1 => ?_) (fun c1 => ?_)
  · have h := h.1 c1
    refine ws_iconst (v := 0) (dcd d_Pl_hasShop_0 11 rfl) (by decide) ?_
    exact ws_iret (dcd d_Pl_hasShop_0 12 rfl) ⟨_, rfl, by decide⟩ h
  · have h := h.2 c1
    refine ws_iload_n 1 (dcd d_Pl_hasShop_0 2 rfl) rfl ?_
    refine ws_aload_n 0 (dcd d_Pl_hasShop_0 3 rfl) rfl ?_
    refine ws_getI f_Pl_15 rfl (dcd d_Pl_hasShop_0 4 rfl) k0 ?_
    refine ws_icmp_ge (tgt := 22) (dcd d_Pl_hasShop_0 5 rfl) (by decide) (fun c2 => ?_) (fun c2 => ?_)
    · have h := h.1 c2
      refine ws_iconst (v := 0) (dcd d_Pl_hasShop_0 11 rfl) (by decide) ?_
      exact ws_iret (dcd d_Pl_hasShop_0 12 rfl) ⟨_, rfl, by decide⟩ h
    · have h := h.2 c2
      refine ws_iload_n 1 (dcd d_Pl_hasShop_0 6 rfl) rfl ?_
      refine ws_bipush (v := 7) (dcd d_Pl_hasShop_0 7 rfl) (by decide) ?_
      refine ws_icmp_ge (tgt := 22) (dcd d_Pl_hasShop_0 8 rfl) (by decide) (fun c3 => ?_) (fun c3 => ?_)
      · have h := h.1 c3
        refine ws_iconst (v := 0) (dcd d_Pl_hasShop_0 11 rfl) (by decide) ?_
        exact ws_iret (dcd d_Pl_hasShop_0 12 rfl) ⟨_, rfl, by decide⟩ h
      · have h := h.2 c3
        refine ws_iconst (v := 1) (dcd d_Pl_hasShop_0 9 rfl) (by decide) ?_
        refine ws_goto (tgt := 23) (dcd d_Pl_hasShop_0 10 rfl) (by decide) ?_
        exact ws_iret (dcd d_Pl_hasShop_0 12 rfl) ⟨_, rfl, by decide⟩ h
theorem sg_Pl_hasSet_0 {o0 : Nat} {x1 : Int32} (k0 : okS o0 2) (h : ((x1 < 0 → Q (some (.int 0)) u) ∧ (¬ (x1 < 0) → ((¬ (x1 >>> ((mI u o0 1) &&& 31)) = 0 → Q (some (.int 0)) u) ∧ ((x1 >>> ((mI u o0 1) &&& 31)) = 0 → Q (some (.int 1)) u))))) : Ws G Pl_hasSet 0 [(0, .ref o0), (1, .int x1)] [] u Q := by
  refine ws_iload_n 1 (dcd d_Pl_hasSet_0 0 rfl) rfl ?_
  refine ws_if_lt (tgt := 17) (dcd d_Pl_hasSet_0 1 rfl) (by decide) (fun c1 => ?_) (fun c1 => ?_)
  · have h := h.1 c1
    refine ws_iconst (v := 0) (dcd d_Pl_hasSet_0 9 rfl) (by decide) ?_
    exact ws_iret (dcd d_Pl_hasSet_0 10 rfl) ⟨_, rfl, by decide⟩ h
  · have h := h.2 c1
    refine ws_iload_n 1 (dcd d_Pl_hasSet_0 2 rfl) rfl ?_
    refine ws_aload_n 0 (dcd d_Pl_hasSet_0 3 rfl) rfl ?_
    refine ws_getI f_Pl_15 rfl (dcd d_Pl_hasSet_0 4 rfl) k0 ?_
    refine ws_ishr (dcd d_Pl_hasSet_0 5 rfl) ?_
    refine ws_if_ne (tgt := 17) (dcd d_Pl_hasSet_0 6 rfl) (by decide) (fun c2 => ?_) (fun c2 => ?_)
    · have h := h.1 c2
      refine ws_iconst (v := 0) (dcd d_Pl_hasSet_0 9 rfl) (by decide) ?_
      exact ws_iret (dcd d_Pl_hasSet_0 10 rfl) ⟨_, rfl, by decide⟩ h
    · have h := h.2 c2
      refine ws_iconst (v := 1) (dcd d_Pl_hasSet_0 7 rfl) (by decide) ?_
      refine ws_goto (tgt := 18) (dcd d_Pl_hasSet_0 8 rfl) (by decide) ?_
      exact ws_iret (dcd d_Pl_hasSet_0 10 rfl) ⟨_, rfl, by decide⟩ h
theorem sg_Pl_wrapped_0 {o0 : Nat} {x1 : Int64} (k0 : okS o0 2) (h : (((mI u o0 0) ≤ 0 → Q (some (.int 0)) u) ∧ (¬ ((mI u o0 0) ≤ 0) → (¬ ((mI u o0 0) : Int32).toInt64 = 0 ∧ Q (some (.int ((fm x1 ((mI u o0 0) : Int32).toInt64) : Int64).toInt32)) u)))) : Ws G Pl_wrapped 0 [(0, .ref o0), (1, .long x1)] [] u Q := by
  refine ws_aload_n 0 (dcd d_Pl_wrapped_0 0 rfl) rfl ?_
  refine ws_getI f_Pl_9 rfl (dcd d_Pl_wrapped_0 1 rfl) k0 ?_
  refine ws_if_le (tgt := 20) (dcd d_Pl_wrapped_0 2 rfl) (by decide) (fun c1 => ?_) (fun c1 => ?_)
  · have h := h.1 c1
    refine ws_iconst (v := 0) (dcd d_Pl_wrapped_0 10 rfl) (by decide) ?_
    exact ws_iret (dcd d_Pl_wrapped_0 11 rfl) ⟨_, rfl, rfl⟩ h
  · have h := h.2 c1
    refine ws_lload_n 1 (dcd d_Pl_wrapped_0 3 rfl) rfl ?_
    refine ws_aload_n 0 (dcd d_Pl_wrapped_0 4 rfl) rfl ?_
    refine ws_getI f_Pl_9 rfl (dcd d_Pl_wrapped_0 5 rfl) k0 ?_
    refine ws_i2l (dcd d_Pl_wrapped_0 6 rfl) ?_
    obtain ⟨e2, h⟩ := h
    refine ws_fm (st := []) (dcd d_Pl_wrapped_0 7 rfl) km_Pl_51 ms_fm in_jm mc_fm ⟨by decide, Nat.le_of_ble_eq_true rfl⟩ e2 ?_
    refine ws_l2i (dcd d_Pl_wrapped_0 8 rfl) ?_
    refine ws_goto (tgt := 21) (dcd d_Pl_wrapped_0 9 rfl) (by decide) ?_
    exact ws_iret (dcd d_Pl_wrapped_0 11 rfl) ⟨_, rfl, rfl⟩ h
theorem sg_Sn_doorOf_0 {o0 : Nat} {x1 : Int32} (k0 : okS o0 5) (h : ((x1 < 0 → Q (some (.int 0)) u) ∧ (¬ (x1 < 0) → ((7 ≤ x1 → Q (some (.int 0)) u) ∧ (¬ (7 ≤ x1) → (vp_in x1 7 ∧ Q (some (.int (mI u (o0 + 1) (x1 : Int32).toNatClampNeg))) u)))))) : Ws G Sn_doorOf 0 [(0, .ref o0), (1, .int x1)] [] u Q := by
  refine ws_iload_n 1 (dcd d_Sn_doorOf_0 0 rfl) rfl ?_
  refine ws_if_lt (tgt := 19) (dcd d_Sn_doorOf_0 1 rfl) (by decide) (fun c1 => ?_) (fun c1 => ?_)
  · have h := h.1 c1
    refine ws_iconst (v := 0) (dcd d_Sn_doorOf_0 10 rfl) (by decide) ?_
    exact ws_iret (dcd d_Sn_doorOf_0 11 rfl) ⟨_, rfl, rfl⟩ h
  · have h := h.2 c1
    refine ws_iload_n 1 (dcd d_Sn_doorOf_0 2 rfl) rfl ?_
    refine ws_bipush (v := 7) (dcd d_Sn_doorOf_0 3 rfl) (by decide) ?_
    refine ws_icmp_ge (tgt := 19) (dcd d_Sn_doorOf_0 4 rfl) (by decide) (fun c2 => ?_) (fun c2 => ?_)
    · have h := h.1 c2
      refine ws_iconst (v := 0) (dcd d_Sn_doorOf_0 10 rfl) (by decide) ?_
      exact ws_iret (dcd d_Sn_doorOf_0 11 rfl) ⟨_, rfl, rfl⟩ h
    · have h := h.2 c2
      refine ws_aload_n 0 (dcd d_Sn_doorOf_0 5 rfl) rfl ?_
      refine ws_getF (a := (o0 + 1)) f_Sn_18 rfl (dcd d_Sn_doorOf_0 6 rfl) k0 of_5_2 rfl ?_
      refine ws_iload_n 1 (dcd d_Sn_doorOf_0 7 rfl) rfl ?_
      obtain ⟨e3, h⟩ := h
      refine ws_iald (L := 7) (dcd d_Sn_doorOf_0 8 rfl) (os_5_2 k0) (ol_5_2 k0) e3 ?_
      refine ws_goto (tgt := 20) (dcd d_Sn_doorOf_0 9 rfl) (by decide) ?_
      exact ws_iret (dcd d_Sn_doorOf_0 11 rfl) ⟨_, rfl, rfl⟩ h
theorem sg_Sn_setDoor_0 {o0 : Nat} {x1 : Int32} {x2 : Int32} (k0 : okS o0 5) (h : ((x1 < 0 → Q none u) ∧ (¬ (x1 < 0) → ((7 ≤ x1 → Q none u) ∧ (¬ (7 ≤ x1) → (vp_in x1 7 ∧ Q none (pI u (o0 + 1) (x1 : Int32).toNatClampNeg x2))))))) : Ws G Sn_setDoor 0 [(0, .ref o0), (1, .int x1), (2, .int x2)] [] u Q := by
  refine ws_iload_n 1 (dcd d_Sn_setDoor_0 0 rfl) rfl ?_
  refine ws_if_lt (tgt := 17) (dcd d_Sn_setDoor_0 1 rfl) (by decide) (fun c1 => ?_) (fun c1 => ?_)
  · have h := h.1 c1
    exact ws_vret (dcd d_Sn_setDoor_0 10 rfl) rfl h
  · have h := h.2 c1
    refine ws_iload_n 1 (dcd d_Sn_setDoor_0 2 rfl) rfl ?_
    refine ws_bipush (v := 7) (dcd d_Sn_setDoor_0 3 rfl) (by decide) ?_
    refine ws_icmp_ge (tgt := 17) (dcd d_Sn_setDoor_0 4 rfl) (by decide) (fun c2 => ?_) (fun c2 => ?_)
    · have h := h.1 c2
      exact ws_vret (dcd d_Sn_setDoor_0 10 rfl) rfl h
    · have h := h.2 c2
      refine ws_aload_n 0 (dcd d_Sn_setDoor_0 5 rfl) rfl ?_
      refine ws_getF (a := (o0 + 1)) f_Sn_18 rfl (dcd d_Sn_setDoor_0 6 rfl) k0 of_5_2 rfl ?_
      refine ws_iload_n 1 (dcd d_Sn_setDoor_0 7 rfl) rfl ?_
      refine ws_iload_n 2 (dcd d_Sn_setDoor_0 8 rfl) rfl ?_
      obtain ⟨e3, h⟩ := h
      refine ws_iast (L := 7) (dcd d_Sn_setDoor_0 9 rfl) (os_5_2 k0) (ol_5_2 k0) e3 ?_
      exact ws_vret (dcd d_Sn_setDoor_0 10 rfl) rfl h
theorem sg_Sn_become_0 {o0 : Nat} {o1 : Nat} (k0 : okS o0 5) (k1 : okS o1 5) (h : ((¬ (0 : Int32) < 0 ∧ ¬ (0 : Int32) < 0 ∧ ¬ (7 : Int32) < 0 ∧ (0 : Int32).toNatClampNeg + (7 : Int32).toNatClampNeg ≤ (S0 (o1 + 1)).2 ∧ (0 : Int32).toNatClampNeg + (7 : Int32).toNatClampNeg ≤ (S0 (o0 + 1)).2) ∧ Q none (cpI (pI (pI u o0 0 (mI u o1 0)) o0 1 (mI (pI u o0 0 (mI u o1 0)) o1 1)) (o1 + 1) (o0 + 1) (0 : Int32).toNatClampNeg (0 : Int32).toNatClampNeg (7 : Int32).toNatClampNeg))) : Ws G Sn_become 0 [(0, .ref o0), (1, .ref o1)] [] u Q := by
  refine ws_aload_n 0 (dcd d_Sn_become_0 0 rfl) rfl ?_
  refine ws_aload_n 1 (dcd d_Sn_become_0 1 rfl) rfl ?_
  refine ws_getI f_Sn_9 rfl (dcd d_Sn_become_0 2 rfl) k1 ?_
  refine ws_putI f_Sn_9 rfl nf_5_0 (dcd d_Sn_become_0 3 rfl) k0 ?_
  refine ws_aload_n 0 (dcd d_Sn_become_0 4 rfl) rfl ?_
  refine ws_aload_n 1 (dcd d_Sn_become_0 5 rfl) rfl ?_
  refine ws_getI f_Sn_15 rfl (dcd d_Sn_become_0 6 rfl) k1 ?_
  refine ws_putI f_Sn_15 rfl nf_5_1 (dcd d_Sn_become_0 7 rfl) k0 ?_
  refine ws_aload_n 1 (dcd d_Sn_become_0 8 rfl) rfl ?_
  refine ws_getF (a := (o1 + 1)) f_Sn_18 rfl (dcd d_Sn_become_0 9 rfl) k1 of_5_2 rfl ?_
  refine ws_iconst (v := 0) (dcd d_Sn_become_0 10 rfl) (by decide) ?_
  refine ws_aload_n 0 (dcd d_Sn_become_0 11 rfl) rfl ?_
  refine ws_getF (a := (o0 + 1)) f_Sn_18 rfl (dcd d_Sn_become_0 12 rfl) k0 of_5_2 rfl ?_
  refine ws_iconst (v := 0) (dcd d_Sn_become_0 13 rfl) (by decide) ?_
  refine ws_bipush (v := 7) (dcd d_Sn_become_0 14 rfl) (by decide) ?_
  obtain ⟨e1, h⟩ := h
  refine ws_copy (st := []) (dcd d_Sn_become_0 15 rfl) kc_Sn_40 kc_n kc_s kc_i (by decide) (Nat.le_of_ble_eq_true rfl) (os_5_2 k1) (os_5_2 k0) e1.1 e1.2.1 e1.2.2.1 e1.2.2.2.1 e1.2.2.2.2 ?_
  exact ws_vret (dcd d_Sn_become_0 16 rfl) rfl h
theorem sg_D_found_0 {x1 : Int32}  (h : ((x1 < 1 → Q (some (.int (-3))) u) ∧ (¬ (x1 < 1) → ((5 < x1 → Q (some (.int (-3))) u) ∧ (¬ (5 < x1) → (vp_in x1 6 ∧ (vp_in x1 6 ∧ Q (some (.int (-3))) (pI (pI u 2 15 x1) 21 (x1 : Int32).toNatClampNeg ((mI (pI u 2 15 x1) 21 (x1 : Int32).toNatClampNeg) + 1))))))))) : Ws G D_found 0 [(0, .ref 2), (1, .int x1)] [] u Q := by
  refine ws_iload_n 1 (dcd d_D_found_0 0 rfl) rfl ?_
  refine ws_iconst (v := 1) (dcd d_D_found_0 1 rfl) (by decide) ?_
  refine ws_icmp_lt (tgt := 25) (dcd d_D_found_0 2 rfl) (by decide) (fun c1 => ?_) (fun c1 => ?_)
  · have h := h.1 c1
    refine ws_bipush (v := (-3)) (dcd d_D_found_0 17 rfl) (by decide) ?_
    exact ws_iret (dcd d_D_found_0 18 rfl) ⟨_, rfl, rfl⟩ h
  · have h := h.2 c1
    refine ws_iload_n 1 (dcd d_D_found_0 3 rfl) rfl ?_
    refine ws_iconst (v := 5) (dcd d_D_found_0 4 rfl) (by decide) ?_
    refine ws_icmp_gt (tgt := 25) (dcd d_D_found_0 5 rfl) (by decide) (fun c2 => ?_) (fun c2 => ?_)
    · have h := h.1 c2
      refine ws_bipush (v := (-3)) (dcd d_D_found_0 17 rfl) (by decide) ?_
      exact ws_iret (dcd d_D_found_0 18 rfl) ⟨_, rfl, rfl⟩ h
    · have h := h.2 c2
      refine ws_aload_n 0 (dcd d_D_found_0 6 rfl) rfl ?_
      refine ws_iload_n 1 (dcd d_D_found_0 7 rfl) rfl ?_
      refine ws_putI f_D_81 rfl nf_7_15 (dcd d_D_found_0 8 rfl) ok_2 ?_
      refine ws_aload_n 0 (dcd d_D_found_0 9 rfl) rfl ?_
      refine ws_getF (a := 21) f_D_56 rfl (dcd d_D_found_0 10 rfl) ok_2 of_7_9 rfl ?_
      refine ws_iload_n 1 (dcd d_D_found_0 11 rfl) rfl ?_
      refine ws_dup2 (dcd d_D_found_0 12 rfl) rfl rfl ?_
      obtain ⟨e3, h⟩ := h
      refine ws_iald (L := 6) (dcd d_D_found_0 13 rfl) (os_7_9 ok_2) (ol_7_9 ok_2) e3 ?_
      refine ws_iconst (v := 1) (dcd d_D_found_0 14 rfl) (by decide) ?_
      refine ws_iadd (dcd d_D_found_0 15 rfl) ?_
      obtain ⟨e4, h⟩ := h
      refine ws_iast (L := 6) (dcd d_D_found_0 16 rfl) (os_7_9 ok_2) (ol_7_9 ok_2) e4 ?_
      refine ws_bipush (v := (-3)) (dcd d_D_found_0 17 rfl) (by decide) ?_
      exact ws_iret (dcd d_D_found_0 18 rfl) ⟨_, rfl, rfl⟩ h
theorem sg_D_tell_0 {x1 : Int32} {x2 : Int32}  (h : Q (some (.int x2)) (pI u 2 12 x1)) : Ws G D_tell 0 [(0, .ref 2), (1, .int x1), (2, .int x2)] [] u Q := by
  refine ws_aload_n 0 (dcd d_D_tell_0 0 rfl) rfl ?_
  refine ws_iload_n 1 (dcd d_D_tell_0 1 rfl) rfl ?_
  refine ws_putI f_D_70 rfl nf_7_12 (dcd d_D_tell_0 2 rfl) ok_2 ?_
  refine ws_iload_n 2 (dcd d_D_tell_0 3 rfl) rfl ?_
  exact ws_iret (dcd d_D_tell_0 4 rfl) ⟨_, rfl, rfl⟩ h
theorem sg_D_isRow_0 {x0 : Int32}  (h : ((x0 < 0 → Q (some (.int 0)) u) ∧ (¬ (x0 < 0) → ((6 ≤ x0 → Q (some (.int 0)) u) ∧ (¬ (6 ≤ x0) → Q (some (.int 1)) u))))) : Ws G D_isRow 0 [(0, .int x0)] [] u Q := by
  refine ws_iload_n 0 (dcd d_D_isRow_0 0 rfl) rfl ?_
  refine ws_if_lt (tgt := 14) (dcd d_D_isRow_0 1 rfl) (by decide) (fun c1 => ?_) (fun c1 => ?_)
  · have h := h.1 c1
    refine ws_iconst (v := 0) (dcd d_D_isRow_0 7 rfl) (by decide) ?_
    exact ws_iret (dcd d_D_isRow_0 8 rfl) ⟨_, rfl, by decide⟩ h
  · have h := h.2 c1
    refine ws_iload_n 0 (dcd d_D_isRow_0 2 rfl) rfl ?_
    refine ws_bipush (v := 6) (dcd d_D_isRow_0 3 rfl) (by decide) ?_
    refine ws_icmp_ge (tgt := 14) (dcd d_D_isRow_0 4 rfl) (by decide) (fun c2 => ?_) (fun c2 => ?_)
    · have h := h.1 c2
      refine ws_iconst (v := 0) (dcd d_D_isRow_0 7 rfl) (by decide) ?_
      exact ws_iret (dcd d_D_isRow_0 8 rfl) ⟨_, rfl, by decide⟩ h
    · have h := h.2 c2
      refine ws_iconst (v := 1) (dcd d_D_isRow_0 5 rfl) (by decide) ?_
      refine ws_goto (tgt := 15) (dcd d_D_isRow_0 6 rfl) (by decide) ?_
      exact ws_iret (dcd d_D_isRow_0 8 rfl) ⟨_, rfl, by decide⟩ h
theorem sg_D_isText_0 {x0 : Int32}  (h : ((x0 < 0 → Q (some (.int 0)) u) ∧ (¬ (x0 < 0) → ((4 ≤ x0 → Q (some (.int 0)) u) ∧ (¬ (4 ≤ x0) → Q (some (.int 1)) u))))) : Ws G D_isText 0 [(0, .int x0)] [] u Q := by
  refine ws_iload_n 0 (dcd d_D_isText_0 0 rfl) rfl ?_
  refine ws_if_lt (tgt := 13) (dcd d_D_isText_0 1 rfl) (by decide) (fun c1 => ?_) (fun c1 => ?_)
  · have h := h.1 c1
    refine ws_iconst (v := 0) (dcd d_D_isText_0 7 rfl) (by decide) ?_
    exact ws_iret (dcd d_D_isText_0 8 rfl) ⟨_, rfl, by decide⟩ h
  · have h := h.2 c1
    refine ws_iload_n 0 (dcd d_D_isText_0 2 rfl) rfl ?_
    refine ws_iconst (v := 4) (dcd d_D_isText_0 3 rfl) (by decide) ?_
    refine ws_icmp_ge (tgt := 13) (dcd d_D_isText_0 4 rfl) (by decide) (fun c2 => ?_) (fun c2 => ?_)
    · have h := h.1 c2
      refine ws_iconst (v := 0) (dcd d_D_isText_0 7 rfl) (by decide) ?_
      exact ws_iret (dcd d_D_isText_0 8 rfl) ⟨_, rfl, by decide⟩ h
    · have h := h.2 c2
      refine ws_iconst (v := 1) (dcd d_D_isText_0 5 rfl) (by decide) ?_
      refine ws_goto (tgt := 14) (dcd d_D_isText_0 6 rfl) (by decide) ?_
      exact ws_iret (dcd d_D_isText_0 8 rfl) ⟨_, rfl, by decide⟩ h
theorem sg_D_isKeptPlace_0 {x0 : Int32}  (h : ((x0 < 0 → Q (some (.int 0)) u) ∧ (¬ (x0 < 0) → ((3 ≤ x0 → Q (some (.int 0)) u) ∧ (¬ (3 ≤ x0) → Q (some (.int 1)) u))))) : Ws G D_isKeptPlace 0 [(0, .int x0)] [] u Q := by
  refine ws_iload_n 0 (dcd d_D_isKeptPlace_0 0 rfl) rfl ?_
  refine ws_if_lt (tgt := 13) (dcd d_D_isKeptPlace_0 1 rfl) (by decide) (fun c1 => ?_) (fun c1 => ?_)
  · have h := h.1 c1
    refine ws_iconst (v := 0) (dcd d_D_isKeptPlace_0 7 rfl) (by decide) ?_
    exact ws_iret (dcd d_D_isKeptPlace_0 8 rfl) ⟨_, rfl, by decide⟩ h
  · have h := h.2 c1
    refine ws_iload_n 0 (dcd d_D_isKeptPlace_0 2 rfl) rfl ?_
    refine ws_iconst (v := 3) (dcd d_D_isKeptPlace_0 3 rfl) (by decide) ?_
    refine ws_icmp_ge (tgt := 13) (dcd d_D_isKeptPlace_0 4 rfl) (by decide) (fun c2 => ?_) (fun c2 => ?_)
    · have h := h.1 c2
      refine ws_iconst (v := 0) (dcd d_D_isKeptPlace_0 7 rfl) (by decide) ?_
      exact ws_iret (dcd d_D_isKeptPlace_0 8 rfl) ⟨_, rfl, by decide⟩ h
    · have h := h.2 c2
      refine ws_iconst (v := 1) (dcd d_D_isKeptPlace_0 5 rfl) (by decide) ?_
      refine ws_goto (tgt := 14) (dcd d_D_isKeptPlace_0 6 rfl) (by decide) ?_
      exact ws_iret (dcd d_D_isKeptPlace_0 8 rfl) ⟨_, rfl, by decide⟩ h
theorem sg_D_isLook_0 {x0 : Int32}  (h : ((x0 < 1 → Q (some (.int 0)) u) ∧ (¬ (x0 < 1) → ((60 < x0 → Q (some (.int 0)) u) ∧ (¬ (60 < x0) → Q (some (.int 1)) u))))) : Ws G D_isLook 0 [(0, .int x0)] [] u Q := by
  refine ws_iload_n 0 (dcd d_D_isLook_0 0 rfl) rfl ?_
  refine ws_iconst (v := 1) (dcd d_D_isLook_0 1 rfl) (by decide) ?_
  refine ws_icmp_lt (tgt := 15) (dcd d_D_isLook_0 2 rfl) (by decide) (fun c1 => ?_) (fun c1 => ?_)
  · have h := h.1 c1
    refine ws_iconst (v := 0) (dcd d_D_isLook_0 8 rfl) (by decide) ?_
    exact ws_iret (dcd d_D_isLook_0 9 rfl) ⟨_, rfl, by decide⟩ h
  · have h := h.2 c1
    refine ws_iload_n 0 (dcd d_D_isLook_0 3 rfl) rfl ?_
    refine ws_bipush (v := 60) (dcd d_D_isLook_0 4 rfl) (by decide) ?_
    refine ws_icmp_gt (tgt := 15) (dcd d_D_isLook_0 5 rfl) (by decide) (fun c2 => ?_) (fun c2 => ?_)
    · have h := h.1 c2
      refine ws_iconst (v := 0) (dcd d_D_isLook_0 8 rfl) (by decide) ?_
      exact ws_iret (dcd d_D_isLook_0 9 rfl) ⟨_, rfl, by decide⟩ h
    · have h := h.2 c2
      refine ws_iconst (v := 1) (dcd d_D_isLook_0 6 rfl) (by decide) ?_
      refine ws_goto (tgt := 16) (dcd d_D_isLook_0 7 rfl) (by decide) ?_
      exact ws_iret (dcd d_D_isLook_0 9 rfl) ⟨_, rfl, by decide⟩ h
theorem sg_D_isIn_0 {x0 : Int32} {x1 : Int32}  (h : ((x1 < 0 → Q (some (.int 0)) u) ∧ (¬ (x1 < 0) → ((31 ≤ x1 → Q (some (.int 0)) u) ∧ (¬ (31 ≤ x1) → ((¬ ((x0 >>> (x1 &&& 31)) &&& 1) = 1 → Q (some (.int 0)) u) ∧ (((x0 >>> (x1 &&& 31)) &&& 1) = 1 → Q (some (.int 1)) u))))))) : Ws G D_isIn 0 [(0, .int x0), (1, .int x1)] [] u Q := by
  refine ws_iload_n 1 (dcd d_D_isIn_0 0 rfl) rfl ?_
  refine ws_if_lt (tgt := 23) (dcd d_D_isIn_0 1 rfl) (by decide) (fun c1 => ?_) (fun c1 => ?_)
  · have h := h.1 c1
    refine ws_iconst (v := 0) (dcd d_D_isIn_0 14 rfl) (by decide) ?_
    exact ws_iret (dcd d_D_isIn_0 15 rfl) ⟨_, rfl, by decide⟩ h
  · have h := h.2 c1
    refine ws_iload_n 1 (dcd d_D_isIn_0 2 rfl) rfl ?_
    refine ws_bipush (v := 31) (dcd d_D_isIn_0 3 rfl) (by decide) ?_
    refine ws_icmp_ge (tgt := 23) (dcd d_D_isIn_0 4 rfl) (by decide) (fun c2 => ?_) (fun c2 => ?_)
    · have h := h.1 c2
      refine ws_iconst (v := 0) (dcd d_D_isIn_0 14 rfl) (by decide) ?_
      exact ws_iret (dcd d_D_isIn_0 15 rfl) ⟨_, rfl, by decide⟩ h
    · have h := h.2 c2
      refine ws_iload_n 0 (dcd d_D_isIn_0 5 rfl) rfl ?_
      refine ws_iload_n 1 (dcd d_D_isIn_0 6 rfl) rfl ?_
      refine ws_ishr (dcd d_D_isIn_0 7 rfl) ?_
      refine ws_iconst (v := 1) (dcd d_D_isIn_0 8 rfl) (by decide) ?_
      refine ws_iand (dcd d_D_isIn_0 9 rfl) ?_
      refine ws_iconst (v := 1) (dcd d_D_isIn_0 10 rfl) (by decide) ?_
      refine ws_icmp_ne (tgt := 23) (dcd d_D_isIn_0 11 rfl) (by decide) (fun c3 => ?_) (fun c3 => ?_)
      · have h := h.1 c3
        refine ws_iconst (v := 0) (dcd d_D_isIn_0 14 rfl) (by decide) ?_
        exact ws_iret (dcd d_D_isIn_0 15 rfl) ⟨_, rfl, by decide⟩ h
      · have h := h.2 c3
        refine ws_iconst (v := 1) (dcd d_D_isIn_0 12 rfl) (by decide) ?_
        refine ws_goto (tgt := 24) (dcd d_D_isIn_0 13 rfl) (by decide) ?_
        exact ws_iret (dcd d_D_isIn_0 15 rfl) ⟨_, rfl, by decide⟩ h
theorem sg_D_pairCode_0 {x0 : Int32} {x1 : Int32}  (h : Q (some (.int (((100 * x0) + x1) + 9))) u) : Ws G D_pairCode 0 [(0, .int x0), (1, .int x1)] [] u Q := by
  refine ws_bipush (v := 100) (dcd d_D_pairCode_0 0 rfl) (by decide) ?_
  refine ws_iload_n 0 (dcd d_D_pairCode_0 1 rfl) rfl ?_
  refine ws_imul (dcd d_D_pairCode_0 2 rfl) ?_
  refine ws_iload_n 1 (dcd d_D_pairCode_0 3 rfl) rfl ?_
  refine ws_iadd (dcd d_D_pairCode_0 4 rfl) ?_
  refine ws_bipush (v := 9) (dcd d_D_pairCode_0 5 rfl) (by decide) ?_
  refine ws_iadd (dcd d_D_pairCode_0 6 rfl) ?_
  exact ws_iret (dcd d_D_pairCode_0 7 rfl) ⟨_, rfl, rfl⟩ h
theorem sg_Er_shiftOf_0 {x0 : Int32}  (h : Q (some (.int (5 * (6 - x0)))) u) : Ws G Er_shiftOf 0 [(0, .int x0)] [] u Q := by
  refine ws_iconst (v := 5) (dcd d_Er_shiftOf_0 0 rfl) (by decide) ?_
  refine ws_bipush (v := 6) (dcd d_Er_shiftOf_0 1 rfl) (by decide) ?_
  refine ws_iload_n 0 (dcd d_Er_shiftOf_0 2 rfl) rfl ?_
  refine ws_isub (dcd d_Er_shiftOf_0 3 rfl) ?_
  refine ws_imul (dcd d_Er_shiftOf_0 4 rfl) ?_
  exact ws_iret (dcd d_Er_shiftOf_0 5 rfl) ⟨_, rfl, rfl⟩ h
theorem sg_Rd_isFigure_0 {x0 : Int32}  (h : ((x0 < 48 → Q (some (.int 0)) u) ∧ (¬ (x0 < 48) → ((57 < x0 → Q (some (.int 0)) u) ∧ (¬ (57 < x0) → Q (some (.int 1)) u))))) : Ws G Rd_isFigure 0 [(0, .int x0)] [] u Q := by
  refine ws_iload_n 0 (dcd d_Rd_isFigure_0 0 rfl) rfl ?_
  refine ws_bipush (v := 48) (dcd d_Rd_isFigure_0 1 rfl) (by decide) ?_
  refine ws_icmp_lt (tgt := 16) (dcd d_Rd_isFigure_0 2 rfl) (by decide) (fun c1 => ?_) (fun c1 => ?_)
  · have h := h.1 c1
    refine ws_iconst (v := 0) (dcd d_Rd_isFigure_0 8 rfl) (by decide) ?_
    exact ws_iret (dcd d_Rd_isFigure_0 9 rfl) ⟨_, rfl, by decide⟩ h
  · have h := h.2 c1
    refine ws_iload_n 0 (dcd d_Rd_isFigure_0 3 rfl) rfl ?_
    refine ws_bipush (v := 57) (dcd d_Rd_isFigure_0 4 rfl) (by decide) ?_
    refine ws_icmp_gt (tgt := 16) (dcd d_Rd_isFigure_0 5 rfl) (by decide) (fun c2 => ?_) (fun c2 => ?_)
    · have h := h.1 c2
      refine ws_iconst (v := 0) (dcd d_Rd_isFigure_0 8 rfl) (by decide) ?_
      exact ws_iret (dcd d_Rd_isFigure_0 9 rfl) ⟨_, rfl, by decide⟩ h
    · have h := h.2 c2
      refine ws_iconst (v := 1) (dcd d_Rd_isFigure_0 6 rfl) (by decide) ?_
      refine ws_goto (tgt := 17) (dcd d_Rd_isFigure_0 7 rfl) (by decide) ?_
      exact ws_iret (dcd d_Rd_isFigure_0 9 rfl) ⟨_, rfl, by decide⟩ h
theorem sg_Rd_isAtEnd_0 {o0 : Nat} (k0 : okS o0 3) (h : (okS (mR u o0 0) 6 → (((mI u o0 1) < (mI u (mR u o0 0) 1) → Q (some (.int 0)) u) ∧ (¬ ((mI u o0 1) < (mI u (mR u o0 0) 1)) → Q (some (.int 1)) u)))) : Ws G Rd_isAtEnd 0 [(0, .ref o0)] [] u Q := by
  refine ws_aload_n 0 (dcd d_Rd_isAtEnd_0 0 rfl) rfl ?_
  refine ws_getI f_Rd_20 rfl (dcd d_Rd_isAtEnd_0 1 rfl) k0 ?_
  refine ws_aload_n 0 (dcd d_Rd_isAtEnd_0 2 rfl) rfl ?_
  refine ws_getT f_Rd_14 (dcd d_Rd_isAtEnd_0 3 rfl) k0 (fun j1 => ?_)
  have h := h j1
  refine ws_getI f_Rd_27 rfl (dcd d_Rd_isAtEnd_0 4 rfl) j1 ?_
  refine ws_icmp_lt (tgt := 18) (dcd d_Rd_isAtEnd_0 5 rfl) (by decide) (fun c2 => ?_) (fun c2 => ?_)
  · have h := h.1 c2
    refine ws_iconst (v := 0) (dcd d_Rd_isAtEnd_0 8 rfl) (by decide) ?_
    exact ws_iret (dcd d_Rd_isAtEnd_0 9 rfl) ⟨_, rfl, by decide⟩ h
  · have h := h.2 c2
    refine ws_iconst (v := 1) (dcd d_Rd_isAtEnd_0 6 rfl) (by decide) ?_
    refine ws_goto (tgt := 19) (dcd d_Rd_isAtEnd_0 7 rfl) (by decide) ?_
    exact ws_iret (dcd d_Rd_isAtEnd_0 9 rfl) ⟨_, rfl, by decide⟩ h
theorem sg_Rd_begin_0 {o0 : Nat} {o1 : Nat} (k0 : okS o0 3) (k1 : okS o1 6) (h : Q none (pI (pR u o0 0 o1) o0 1 0)) : Ws G Rd_begin 0 [(0, .ref o0), (1, .ref o1)] [] u Q := by
  refine ws_aload_n 0 (dcd d_Rd_begin_0 0 rfl) rfl ?_
  refine ws_aload_n 1 (dcd d_Rd_begin_0 1 rfl) rfl ?_
  refine ws_putT f_Rd_14 nf_3_0 (dcd d_Rd_begin_0 2 rfl) k0 k1 ?_
  refine ws_aload_n 0 (dcd d_Rd_begin_0 3 rfl) rfl ?_
  refine ws_iconst (v := 0) (dcd d_Rd_begin_0 4 rfl) (by decide) ?_
  refine ws_putI f_Rd_20 rfl nf_3_1 (dcd d_Rd_begin_0 5 rfl) k0 ?_
  exact ws_vret (dcd d_Rd_begin_0 6 rfl) rfl h
theorem sg_ji_bitCount_0 {x0 : Int32}  (h : Q (some (.int ((((((((x0 - (((x0 : Int32).toUInt32 >>> ((1 : Int32).toUInt32 &&& Int32.toUInt32 31)).toInt32 &&& 1431655765)) &&& 858993459) + ((((x0 - (((x0 : Int32).toUInt32 >>> ((1 : Int32).toUInt32 &&& Int32.toUInt32 31)).toInt32 &&& 1431655765)) : Int32).toUInt32 >>> ((2 : Int32).toUInt32 &&& Int32.toUInt32 31)).toInt32 &&& 858993459)) + (((((x0 - (((x0 : Int32).toUInt32 >>> ((1 : Int32).toUInt32 &&& Int32.toUInt32 31)).toInt32 &&& 1431655765)) &&& 858993459) + ((((x0 - (((x0 : Int32).toUInt32 >>> ((1 : Int32).toUInt32 &&& Int32.toUInt32 31)).toInt32 &&& 1431655765)) : Int32).toUInt32 >>> ((2 : Int32).toUInt32 &&& Int32.toUInt32 31)).toInt32 &&& 858993459)) : Int32).toUInt32 >>> ((4 : Int32).toUInt32 &&& Int32.toUInt32 31)).toInt32) &&& 252645135) + (((((((x0 - (((x0 : Int32).toUInt32 >>> ((1 : Int32).toUInt32 &&& Int32.toUInt32 31)).toInt32 &&& 1431655765)) &&& 858993459) + ((((x0 - (((x0 : Int32).toUInt32 >>> ((1 : Int32).toUInt32 &&& Int32.toUInt32 31)).toInt32 &&& 1431655765)) : Int32).toUInt32 >>> ((2 : Int32).toUInt32 &&& Int32.toUInt32 31)).toInt32 &&& 858993459)) + (((((x0 - (((x0 : Int32).toUInt32 >>> ((1 : Int32).toUInt32 &&& Int32.toUInt32 31)).toInt32 &&& 1431655765)) &&& 858993459) + ((((x0 - (((x0 : Int32).toUInt32 >>> ((1 : Int32).toUInt32 &&& Int32.toUInt32 31)).toInt32 &&& 1431655765)) : Int32).toUInt32 >>> ((2 : Int32).toUInt32 &&& Int32.toUInt32 31)).toInt32 &&& 858993459)) : Int32).toUInt32 >>> ((4 : Int32).toUInt32 &&& Int32.toUInt32 31)).toInt32) &&& 252645135) : Int32).toUInt32 >>> ((8 : Int32).toUInt32 &&& Int32.toUInt32 31)).toInt32) + ((((((((x0 - (((x0 : Int32).toUInt32 >>> ((1 : Int32).toUInt32 &&& Int32.toUInt32 31)).toInt32 &&& 1431655765)) &&& 858993459) + ((((x0 - (((x0 : Int32).toUInt32 >>> ((1 : Int32).toUInt32 &&& Int32.toUInt32 31)).toInt32 &&& 1431655765)) : Int32).toUInt32 >>> ((2 : Int32).toUInt32 &&& Int32.toUInt32 31)).toInt32 &&& 858993459)) + (((((x0 - (((x0 : Int32).toUInt32 >>> ((1 : Int32).toUInt32 &&& Int32.toUInt32 31)).toInt32 &&& 1431655765)) &&& 858993459) + ((((x0 - (((x0 : Int32).toUInt32 >>> ((1 : Int32).toUInt32 &&& Int32.toUInt32 31)).toInt32 &&& 1431655765)) : Int32).toUInt32 >>> ((2 : Int32).toUInt32 &&& Int32.toUInt32 31)).toInt32 &&& 858993459)) : Int32).toUInt32 >>> ((4 : Int32).toUInt32 &&& Int32.toUInt32 31)).toInt32) &&& 252645135) + (((((((x0 - (((x0 : Int32).toUInt32 >>> ((1 : Int32).toUInt32 &&& Int32.toUInt32 31)).toInt32 &&& 1431655765)) &&& 858993459) + ((((x0 - (((x0 : Int32).toUInt32 >>> ((1 : Int32).toUInt32 &&& Int32.toUInt32 31)).toInt32 &&& 1431655765)) : Int32).toUInt32 >>> ((2 : Int32).toUInt32 &&& Int32.toUInt32 31)).toInt32 &&& 858993459)) + (((((x0 - (((x0 : Int32).toUInt32 >>> ((1 : Int32).toUInt32 &&& Int32.toUInt32 31)).toInt32 &&& 1431655765)) &&& 858993459) + ((((x0 - (((x0 : Int32).toUInt32 >>> ((1 : Int32).toUInt32 &&& Int32.toUInt32 31)).toInt32 &&& 1431655765)) : Int32).toUInt32 >>> ((2 : Int32).toUInt32 &&& Int32.toUInt32 31)).toInt32 &&& 858993459)) : Int32).toUInt32 >>> ((4 : Int32).toUInt32 &&& Int32.toUInt32 31)).toInt32) &&& 252645135) : Int32).toUInt32 >>> ((8 : Int32).toUInt32 &&& Int32.toUInt32 31)).toInt32) : Int32).toUInt32 >>> ((16 : Int32).toUInt32 &&& Int32.toUInt32 31)).toInt32) &&& 63))) u) : Ws G ji_bitCount 0 [(0, .int x0)] [] u Q := by
  refine ws_iload_n 0 (dcd d_ji_bitCount_0 0 rfl) rfl ?_
  refine ws_iload_n 0 (dcd d_ji_bitCount_0 1 rfl) rfl ?_
  refine ws_iconst (v := 1) (dcd d_ji_bitCount_0 2 rfl) (by decide) ?_
  refine ws_iushr (dcd d_ji_bitCount_0 3 rfl) ?_
  refine ws_ldcw (dcd d_ji_bitCount_0 4 rfl) q_ji_265 ?_
  refine ws_iand (dcd d_ji_bitCount_0 5 rfl) ?_
  refine ws_isub (dcd d_ji_bitCount_0 6 rfl) ?_
  refine ws_istore_n (l' := [(0, .int (x0 - (((x0 : Int32).toUInt32 >>> ((1 : Int32).toUInt32 &&& Int32.toUInt32 31)).toInt32 &&& 1431655765)))]) (dcd d_ji_bitCount_0 7 rfl) (by decide) rfl ?_
  refine ws_iload_n 0 (dcd d_ji_bitCount_0 8 rfl) rfl ?_
  refine ws_ldcw (dcd d_ji_bitCount_0 9 rfl) q_ji_266 ?_
  refine ws_iand (dcd d_ji_bitCount_0 10 rfl) ?_
  refine ws_iload_n 0 (dcd d_ji_bitCount_0 11 rfl) rfl ?_
  refine ws_iconst (v := 2) (dcd d_ji_bitCount_0 12 rfl) (by decide) ?_
  refine ws_iushr (dcd d_ji_bitCount_0 13 rfl) ?_
  refine ws_ldcw (dcd d_ji_bitCount_0 14 rfl) q_ji_266 ?_
  refine ws_iand (dcd d_ji_bitCount_0 15 rfl) ?_
  refine ws_iadd (dcd d_ji_bitCount_0 16 rfl) ?_
  refine ws_istore_n (l' := [(0, .int (((x0 - (((x0 : Int32).toUInt32 >>> ((1 : Int32).toUInt32 &&& Int32.toUInt32 31)).toInt32 &&& 1431655765)) &&& 858993459) + ((((x0 - (((x0 : Int32).toUInt32 >>> ((1 : Int32).toUInt32 &&& Int32.toUInt32 31)).toInt32 &&& 1431655765)) : Int32).toUInt32 >>> ((2 : Int32).toUInt32 &&& Int32.toUInt32 31)).toInt32 &&& 858993459)))]) (dcd d_ji_bitCount_0 17 rfl) (by decide) rfl ?_
  refine ws_iload_n 0 (dcd d_ji_bitCount_0 18 rfl) rfl ?_
  refine ws_iload_n 0 (dcd d_ji_bitCount_0 19 rfl) rfl ?_
  refine ws_iconst (v := 4) (dcd d_ji_bitCount_0 20 rfl) (by decide) ?_
  refine ws_iushr (dcd d_ji_bitCount_0 21 rfl) ?_
  refine ws_iadd (dcd d_ji_bitCount_0 22 rfl) ?_
  refine ws_ldcw (dcd d_ji_bitCount_0 23 rfl) q_ji_267 ?_
  refine ws_iand (dcd d_ji_bitCount_0 24 rfl) ?_
  refine ws_istore_n (l' := [(0, .int (((((x0 - (((x0 : Int32).toUInt32 >>> ((1 : Int32).toUInt32 &&& Int32.toUInt32 31)).toInt32 &&& 1431655765)) &&& 858993459) + ((((x0 - (((x0 : Int32).toUInt32 >>> ((1 : Int32).toUInt32 &&& Int32.toUInt32 31)).toInt32 &&& 1431655765)) : Int32).toUInt32 >>> ((2 : Int32).toUInt32 &&& Int32.toUInt32 31)).toInt32 &&& 858993459)) + (((((x0 - (((x0 : Int32).toUInt32 >>> ((1 : Int32).toUInt32 &&& Int32.toUInt32 31)).toInt32 &&& 1431655765)) &&& 858993459) + ((((x0 - (((x0 : Int32).toUInt32 >>> ((1 : Int32).toUInt32 &&& Int32.toUInt32 31)).toInt32 &&& 1431655765)) : Int32).toUInt32 >>> ((2 : Int32).toUInt32 &&& Int32.toUInt32 31)).toInt32 &&& 858993459)) : Int32).toUInt32 >>> ((4 : Int32).toUInt32 &&& Int32.toUInt32 31)).toInt32) &&& 252645135))]) (dcd d_ji_bitCount_0 25 rfl) (by decide) rfl ?_
  refine ws_iload_n 0 (dcd d_ji_bitCount_0 26 rfl) rfl ?_
  refine ws_iload_n 0 (dcd d_ji_bitCount_0 27 rfl) rfl ?_
  refine ws_bipush (v := 8) (dcd d_ji_bitCount_0 28 rfl) (by decide) ?_
  refine ws_iushr (dcd d_ji_bitCount_0 29 rfl) ?_
  refine ws_iadd (dcd d_ji_bitCount_1 0 rfl) ?_
  refine ws_istore_n (l' := [(0, .int ((((((x0 - (((x0 : Int32).toUInt32 >>> ((1 : Int32).toUInt32 &&& Int32.toUInt32 31)).toInt32 &&& 1431655765)) &&& 858993459) + ((((x0 - (((x0 : Int32).toUInt32 >>> ((1 : Int32).toUInt32 &&& Int32.toUInt32 31)).toInt32 &&& 1431655765)) : Int32).toUInt32 >>> ((2 : Int32).toUInt32 &&& Int32.toUInt32 31)).toInt32 &&& 858993459)) + (((((x0 - (((x0 : Int32).toUInt32 >>> ((1 : Int32).toUInt32 &&& Int32.toUInt32 31)).toInt32 &&& 1431655765)) &&& 858993459) + ((((x0 - (((x0 : Int32).toUInt32 >>> ((1 : Int32).toUInt32 &&& Int32.toUInt32 31)).toInt32 &&& 1431655765)) : Int32).toUInt32 >>> ((2 : Int32).toUInt32 &&& Int32.toUInt32 31)).toInt32 &&& 858993459)) : Int32).toUInt32 >>> ((4 : Int32).toUInt32 &&& Int32.toUInt32 31)).toInt32) &&& 252645135) + (((((((x0 - (((x0 : Int32).toUInt32 >>> ((1 : Int32).toUInt32 &&& Int32.toUInt32 31)).toInt32 &&& 1431655765)) &&& 858993459) + ((((x0 - (((x0 : Int32).toUInt32 >>> ((1 : Int32).toUInt32 &&& Int32.toUInt32 31)).toInt32 &&& 1431655765)) : Int32).toUInt32 >>> ((2 : Int32).toUInt32 &&& Int32.toUInt32 31)).toInt32 &&& 858993459)) + (((((x0 - (((x0 : Int32).toUInt32 >>> ((1 : Int32).toUInt32 &&& Int32.toUInt32 31)).toInt32 &&& 1431655765)) &&& 858993459) + ((((x0 - (((x0 : Int32).toUInt32 >>> ((1 : Int32).toUInt32 &&& Int32.toUInt32 31)).toInt32 &&& 1431655765)) : Int32).toUInt32 >>> ((2 : Int32).toUInt32 &&& Int32.toUInt32 31)).toInt32 &&& 858993459)) : Int32).toUInt32 >>> ((4 : Int32).toUInt32 &&& Int32.toUInt32 31)).toInt32) &&& 252645135) : Int32).toUInt32 >>> ((8 : Int32).toUInt32 &&& Int32.toUInt32 31)).toInt32))]) (dcd d_ji_bitCount_1 1 rfl) (by decide) rfl ?_
  refine ws_iload_n 0 (dcd d_ji_bitCount_1 2 rfl) rfl ?_
  refine ws_iload_n 0 (dcd d_ji_bitCount_1 3 rfl) rfl ?_
  refine ws_bipush (v := 16) (dcd d_ji_bitCount_1 4 rfl) (by decide) ?_
  refine ws_iushr (dcd d_ji_bitCount_1 5 rfl) ?_
  refine ws_iadd (dcd d_ji_bitCount_1 6 rfl) ?_
  refine ws_istore_n (l' := [(0, .int (((((((x0 - (((x0 : Int32).toUInt32 >>> ((1 : Int32).toUInt32 &&& Int32.toUInt32 31)).toInt32 &&& 1431655765)) &&& 858993459) + ((((x0 - (((x0 : Int32).toUInt32 >>> ((1 : Int32).toUInt32 &&& Int32.toUInt32 31)).toInt32 &&& 1431655765)) : Int32).toUInt32 >>> ((2 : Int32).toUInt32 &&& Int32.toUInt32 31)).toInt32 &&& 858993459)) + (((((x0 - (((x0 : Int32).toUInt32 >>> ((1 : Int32).toUInt32 &&& Int32.toUInt32 31)).toInt32 &&& 1431655765)) &&& 858993459) + ((((x0 - (((x0 : Int32).toUInt32 >>> ((1 : Int32).toUInt32 &&& Int32.toUInt32 31)).toInt32 &&& 1431655765)) : Int32).toUInt32 >>> ((2 : Int32).toUInt32 &&& Int32.toUInt32 31)).toInt32 &&& 858993459)) : Int32).toUInt32 >>> ((4 : Int32).toUInt32 &&& Int32.toUInt32 31)).toInt32) &&& 252645135) + (((((((x0 - (((x0 : Int32).toUInt32 >>> ((1 : Int32).toUInt32 &&& Int32.toUInt32 31)).toInt32 &&& 1431655765)) &&& 858993459) + ((((x0 - (((x0 : Int32).toUInt32 >>> ((1 : Int32).toUInt32 &&& Int32.toUInt32 31)).toInt32 &&& 1431655765)) : Int32).toUInt32 >>> ((2 : Int32).toUInt32 &&& Int32.toUInt32 31)).toInt32 &&& 858993459)) + (((((x0 - (((x0 : Int32).toUInt32 >>> ((1 : Int32).toUInt32 &&& Int32.toUInt32 31)).toInt32 &&& 1431655765)) &&& 858993459) + ((((x0 - (((x0 : Int32).toUInt32 >>> ((1 : Int32).toUInt32 &&& Int32.toUInt32 31)).toInt32 &&& 1431655765)) : Int32).toUInt32 >>> ((2 : Int32).toUInt32 &&& Int32.toUInt32 31)).toInt32 &&& 858993459)) : Int32).toUInt32 >>> ((4 : Int32).toUInt32 &&& Int32.toUInt32 31)).toInt32) &&& 252645135) : Int32).toUInt32 >>> ((8 : Int32).toUInt32 &&& Int32.toUInt32 31)).toInt32) + ((((((((x0 - (((x0 : Int32).toUInt32 >>> ((1 : Int32).toUInt32 &&& Int32.toUInt32 31)).toInt32 &&& 1431655765)) &&& 858993459) + ((((x0 - (((x0 : Int32).toUInt32 >>> ((1 : Int32).toUInt32 &&& Int32.toUInt32 31)).toInt32 &&& 1431655765)) : Int32).toUInt32 >>> ((2 : Int32).toUInt32 &&& Int32.toUInt32 31)).toInt32 &&& 858993459)) + (((((x0 - (((x0 : Int32).toUInt32 >>> ((1 : Int32).toUInt32 &&& Int32.toUInt32 31)).toInt32 &&& 1431655765)) &&& 858993459) + ((((x0 - (((x0 : Int32).toUInt32 >>> ((1 : Int32).toUInt32 &&& Int32.toUInt32 31)).toInt32 &&& 1431655765)) : Int32).toUInt32 >>> ((2 : Int32).toUInt32 &&& Int32.toUInt32 31)).toInt32 &&& 858993459)) : Int32).toUInt32 >>> ((4 : Int32).toUInt32 &&& Int32.toUInt32 31)).toInt32) &&& 252645135) + (((((((x0 - (((x0 : Int32).toUInt32 >>> ((1 : Int32).toUInt32 &&& Int32.toUInt32 31)).toInt32 &&& 1431655765)) &&& 858993459) + ((((x0 - (((x0 : Int32).toUInt32 >>> ((1 : Int32).toUInt32 &&& Int32.toUInt32 31)).toInt32 &&& 1431655765)) : Int32).toUInt32 >>> ((2 : Int32).toUInt32 &&& Int32.toUInt32 31)).toInt32 &&& 858993459)) + (((((x0 - (((x0 : Int32).toUInt32 >>> ((1 : Int32).toUInt32 &&& Int32.toUInt32 31)).toInt32 &&& 1431655765)) &&& 858993459) + ((((x0 - (((x0 : Int32).toUInt32 >>> ((1 : Int32).toUInt32 &&& Int32.toUInt32 31)).toInt32 &&& 1431655765)) : Int32).toUInt32 >>> ((2 : Int32).toUInt32 &&& Int32.toUInt32 31)).toInt32 &&& 858993459)) : Int32).toUInt32 >>> ((4 : Int32).toUInt32 &&& Int32.toUInt32 31)).toInt32) &&& 252645135) : Int32).toUInt32 >>> ((8 : Int32).toUInt32 &&& Int32.toUInt32 31)).toInt32) : Int32).toUInt32 >>> ((16 : Int32).toUInt32 &&& Int32.toUInt32 31)).toInt32))]) (dcd d_ji_bitCount_1 7 rfl) (by decide) rfl ?_
  refine ws_iload_n 0 (dcd d_ji_bitCount_1 8 rfl) rfl ?_
  refine ws_bipush (v := 63) (dcd d_ji_bitCount_1 9 rfl) (by decide) ?_
  refine ws_iand (dcd d_ji_bitCount_1 10 rfl) ?_
  exact ws_iret (dcd d_ji_bitCount_1 11 rfl) ⟨_, rfl, rfl⟩ h
end SEG
end
section
theorem i64_0 (x : Int32) : x.toInt64 = 0 ↔ x = 0 := by
  constructor
  · intro h
    have h2 := congrArg Int64.toInt h
    rw [Int32.toInt_toInt64] at h2
    exact Int32.toInt_inj.mp h2
  · rintro rfl; rfl
section SP
variable {G : pG} {u : pM}
theorem sp_m_in {x0 : Int32} {x1 : Int32} {x2 : Int32}  : Ws G m_in 0 [(0, .int x0), (1, .int x1), (2, .int x2)] [] u (RI fun x u' => u = u' ∧ (x = 1 ∧ (x1 ≤ x0 ∧ x0 ≤ x2) ∨ x = 0 ∧ ¬ (x1 ≤ x0 ∧ x0 ≤ x2))) := by
  refine sg_m_in_0  ?_
  first | (simp only [rB1, rB0, rVi, rVj, rVr, rVv, mt, hereV, kindV, goV, dAt, wayV, spH, spG, spS, goC, wtS, wtT, plS, wrV, snD, snS, snB, dF, isI, shO, wkV, roV, txV, kpV]; done) | (simp only [rB1, rB0, rVi, rVj, rVr, rVv, mt, hereV, kindV, goV, dAt, wayV, spH, spG, spS, goC, wtS, wtT, plS, wrV, snD, snS, snB, dF, isI, shO, wkV, roV, txV, kpV]; grind [vin]) | (simp only [rB1, rB0, rVi, rVj, rVr, rVv, mt, hereV, kindV, goV, dAt, wayV, spH, spG, spS, goC, wtS, wtT, plS, wrV, snD, snS, snB, dF, isI, shO, wkV, roV, txV, kpV, i64_0]; grind [vin])
theorem sp_m_meet {x1 : Int32} (n0 : vp_in x1 6) : Ws G m_meet 0 [(0, .ref 76), (1, .int x1)] [] u (RI fun x u' => (-3) = x ∧ (mt u x1) = u') := by
  refine sg_m_meet_0  ?_
  first | exact ⟨n0, n0, _, rfl, rfl, rfl⟩ | exact ⟨n0, _, rfl, rfl, rfl⟩ | exact ⟨n0, rfl, rfl⟩
theorem sp_m_ask {x1 : Int32} {x2 : Int32}  : Ws G m_ask 0 [(0, .ref 76), (1, .int x1), (2, .int x2)] [] u (RI fun x u' => x2 = x ∧ (pI u 76 2 x1) = u') := by
  refine sg_m_ask_0  ?_
  first | (simp only [rB1, rB0, rVi, rVj, rVr, rVv, mt, hereV, kindV, goV, dAt, wayV, spH, spG, spS, goC, wtS, wtT, plS, wrV, snD, snS, snB, dF, isI, shO, wkV, roV, txV, kpV]; done) | (simp only [rB1, rB0, rVi, rVj, rVr, rVv, mt, hereV, kindV, goV, dAt, wayV, spH, spG, spS, goC, wtS, wtT, plS, wrV, snD, snS, snB, dF, isI, shO, wkV, roV, txV, kpV]; grind [vin]) | (simp only [rB1, rB0, rVi, rVj, rVr, rVv, mt, hereV, kindV, goV, dAt, wayV, spH, spG, spS, goC, wtS, wtT, plS, wrV, snD, snS, snB, dF, isI, shO, wkV, roV, txV, kpV, i64_0]; grind [vin])
theorem sp_m_rowAt {x1 : Int32} {x2 : Int32} (n0 : vp_in (40 * x1 + x2) 240) : Ws G m_rowAt 0 [(0, .ref 76), (1, .int x1), (2, .int x2)] [] u (RI fun x u' => (mI u 79 ((40 * x1 + x2) : Int32).toNatClampNeg) = x ∧ u = u') := by
  refine sg_m_rowAt_0  ?_
  first | exact ⟨n0, n0, _, rfl, rfl, rfl⟩ | exact ⟨n0, _, rfl, rfl, rfl⟩ | exact ⟨n0, rfl, rfl⟩
theorem sp_m_setRow {x1 : Int32} {x2 : Int32} {x3 : Int32} (n0 : vp_in (40 * x1 + x2) 240) : Ws G m_setRow 0 [(0, .ref 76), (1, .int x1), (2, .int x2), (3, .int x3)] [] u (RV fun u' => (pI u 79 ((40 * x1 + x2) : Int32).toNatClampNeg x3) = u') := by
  refine sg_m_setRow_0  ?_
  first | exact ⟨n0, n0, _, rfl, rfl, rfl⟩ | exact ⟨n0, _, rfl, rfl, rfl⟩ | exact ⟨n0, rfl, rfl⟩
theorem sp_m_here {x1 : Int32} (n0 : vp_in x1 4) (n1 : ((mI u 76 13) < (mI u 81 (x1 : Int32).toNatClampNeg) → vp_in (100 * x1 + (mI u 76 13)) 400)) : Ws G m_here 0 [(0, .ref 76), (1, .int x1)] [] u (RI fun x u' => (hereV u x1) = x ∧ u = u') := by
  refine sg_m_here_0  ?_
  first | (simp only [rB1, rB0, rVi, rVj, rVr, rVv, mt, hereV, kindV, goV, dAt, wayV, spH, spG, spS, goC, wtS, wtT, plS, wrV, snD, snS, snB, dF, isI, shO, wkV, roV, txV, kpV]; done) | (simp only [rB1, rB0, rVi, rVj, rVr, rVv, mt, hereV, kindV, goV, dAt, wayV, spH, spG, spS, goC, wtS, wtT, plS, wrV, snD, snS, snB, dF, isI, shO, wkV, roV, txV, kpV]; grind [vin]) | (simp only [rB1, rB0, rVi, rVj, rVr, rVv, mt, hereV, kindV, goV, dAt, wayV, spH, spG, spS, goC, wtS, wtT, plS, wrV, snD, snS, snB, dF, isI, shO, wkV, roV, txV, kpV, i64_0]; grind [vin])
theorem sp_m_kindOf {x0 : Int32}  : Ws G m_kindOf 0 [(0, .int x0)] [] u (RI fun x u' => (kindV x0) = x ∧ u = u') := by
  refine sg_m_kindOf_0  ?_
  first | (simp only [rB1, rB0, rVi, rVj, rVr, rVv, mt, hereV, kindV, goV, dAt, wayV, spH, spG, spS, goC, wtS, wtT, plS, wrV, snD, snS, snB, dF, isI, shO, wkV, roV, txV, kpV]; done) | (simp only [rB1, rB0, rVi, rVj, rVr, rVv, mt, hereV, kindV, goV, dAt, wayV, spH, spG, spS, goC, wtS, wtT, plS, wrV, snD, snS, snB, dF, isI, shO, wkV, roV, txV, kpV]; grind [vin]) | (simp only [rB1, rB0, rVi, rVj, rVr, rVv, mt, hereV, kindV, goV, dAt, wayV, spH, spG, spS, goC, wtS, wtT, plS, wrV, snD, snS, snB, dF, isI, shO, wkV, roV, txV, kpV, i64_0]; grind [vin])
theorem sp_m_tell {x1 : Int32} {x2 : Int32} (n0 : vp_in (5 * x1 + x2) 70) : Ws G m_tell 0 [(0, .ref 76), (1, .int x1), (2, .int x2)] [] u (RI fun x u' => (mI u 83 ((5 * x1 + x2) : Int32).toNatClampNeg) = x ∧ u = u') := by
  refine sg_m_tell_0  ?_
  first | exact ⟨n0, n0, _, rfl, rfl, rfl⟩ | exact ⟨n0, _, rfl, rfl, rfl⟩ | exact ⟨n0, rfl, rfl⟩
theorem sp_m_goingBy {x0 : Int32} {x1 : Int32} {x2 : Int32} {x3 : Int32} (n0 : (3 ≤ x0 → ¬ x2 = 0)) : Ws G m_goingBy 0 [(0, .int x0), (1, .int x1), (2, .int x2), (3, .int x3)] [] u (RI fun x u' => (goV x0 x1 x2 x3) = x ∧ u = u') := by
  refine sg_m_goingBy_0  ?_
  first | (simp only [rB1, rB0, rVi, rVj, rVr, rVv, mt, hereV, kindV, goV, dAt, wayV, spH, spG, spS, goC, wtS, wtT, plS, wrV, snD, snS, snB, dF, isI, shO, wkV, roV, txV, kpV]; done) | (simp only [rB1, rB0, rVi, rVj, rVr, rVv, mt, hereV, kindV, goV, dAt, wayV, spH, spG, spS, goC, wtS, wtT, plS, wrV, snD, snS, snB, dF, isI, shO, wkV, roV, txV, kpV]; grind [vin]) | (simp only [rB1, rB0, rVi, rVj, rVr, rVv, mt, hereV, kindV, goV, dAt, wayV, spH, spG, spS, goC, wtS, wtT, plS, wrV, snD, snS, snB, dF, isI, shO, wkV, roV, txV, kpV, i64_0]; grind [vin])
theorem sp_m_doorAt {x1 : Int64} (n0 : ¬ ((mI u 76 10) : Int32).toInt64 = 0) : Ws G m_doorAt 0 [(0, .ref 76), (1, .long x1)] [] u (RI fun x u' => (dAt (mI u 76 10) x1) = x ∧ u = u') := by
  refine sg_m_doorAt_0  ?_
  first | (simp only [rB1, rB0, rVi, rVj, rVr, rVv, mt, hereV, kindV, goV, dAt, wayV, spH, spG, spS, goC, wtS, wtT, plS, wrV, snD, snS, snB, dF, isI, shO, wkV, roV, txV, kpV]; done) | (simp only [rB1, rB0, rVi, rVj, rVr, rVv, mt, hereV, kindV, goV, dAt, wayV, spH, spG, spS, goC, wtS, wtT, plS, wrV, snD, snS, snB, dF, isI, shO, wkV, roV, txV, kpV]; grind [vin]) | (simp only [rB1, rB0, rVi, rVj, rVr, rVv, mt, hereV, kindV, goV, dAt, wayV, spH, spG, spS, goC, wtS, wtT, plS, wrV, snD, snS, snB, dF, isI, shO, wkV, roV, txV, kpV, i64_0]; grind [vin])
theorem sp_m_ways {x0 : Int32} {x1 : Int32} {x2 : Int64} (n0 : (3 ≤ x0 → ¬ x1 = 0 ∧ ¬ (2 * (x1 : Int32).toInt64) = 0 ∧ ¬ (x1 : Int32).toInt64 = 0)) : Ws G m_ways 0 [(0, .int x0), (1, .int x1), (2, .long x2)] [] u (RJ fun x u' => (wayV x0 x1 x2) = x ∧ u = u') := by
  refine sg_m_ways_0  ?_
  first | (simp only [rB1, rB0, rVi, rVj, rVr, rVv, mt, hereV, kindV, goV, dAt, wayV, spH, spG, spS, goC, wtS, wtT, plS, wrV, snD, snS, snB, dF, isI, shO, wkV, roV, txV, kpV]; done) | (simp only [rB1, rB0, rVi, rVj, rVr, rVv, mt, hereV, kindV, goV, dAt, wayV, spH, spG, spS, goC, wtS, wtT, plS, wrV, snD, snS, snB, dF, isI, shO, wkV, roV, txV, kpV]; grind [vin]) | (simp only [rB1, rB0, rVi, rVj, rVr, rVv, mt, hereV, kindV, goV, dAt, wayV, spH, spG, spS, goC, wtS, wtT, plS, wrV, snD, snS, snB, dF, isI, shO, wkV, roV, txV, kpV, i64_0]; grind [vin])
theorem sp_m_mix {x1 : Int32}  : Ws G m_mix 0 [(0, .ref 76), (1, .int x1)] [] u (RV fun u' => (pL u 76 32 (31 * (mL u 76 32) + (x1 : Int32).toInt64)) = u') := by
  refine sg_m_mix_0  ?_
  first | (simp only [rB1, rB0, rVi, rVj, rVr, rVv, mt, hereV, kindV, goV, dAt, wayV, spH, spG, spS, goC, wtS, wtT, plS, wrV, snD, snS, snB, dF, isI, shO, wkV, roV, txV, kpV]; done) | (simp only [rB1, rB0, rVi, rVj, rVr, rVv, mt, hereV, kindV, goV, dAt, wayV, spH, spG, spS, goC, wtS, wtT, plS, wrV, snD, snS, snB, dF, isI, shO, wkV, roV, txV, kpV]; grind [vin]) | (simp only [rB1, rB0, rVi, rVj, rVr, rVv, mt, hereV, kindV, goV, dAt, wayV, spH, spG, spS, goC, wtS, wtT, plS, wrV, snD, snS, snB, dF, isI, shO, wkV, roV, txV, kpV, i64_0]; grind [vin])
theorem sp_Sp_isThere {o0 : Nat} (k0 : okS o0 6) : Ws G Sp_isThere 0 [(0, .ref o0)] [] u (RI fun x u' => u = u' ∧ (x = 1 ∧ (0 ≤ (mI u o0 1)) ∨ x = 0 ∧ ¬ (0 ≤ (mI u o0 1)))) := by
  refine sg_Sp_isThere_0 k0 ?_
  first | (simp only [rB1, rB0, rVi, rVj, rVr, rVv, mt, hereV, kindV, goV, dAt, wayV, spH, spG, spS, goC, wtS, wtT, plS, wrV, snD, snS, snB, dF, isI, shO, wkV, roV, txV, kpV]; done) | (simp only [rB1, rB0, rVi, rVj, rVr, rVv, mt, hereV, kindV, goV, dAt, wayV, spH, spG, spS, goC, wtS, wtT, plS, wrV, snD, snS, snB, dF, isI, shO, wkV, roV, txV, kpV]; grind [vin]) | (simp only [rB1, rB0, rVi, rVj, rVr, rVv, mt, hereV, kindV, goV, dAt, wayV, spH, spG, spS, goC, wtS, wtT, plS, wrV, snD, snS, snB, dF, isI, shO, wkV, roV, txV, kpV, i64_0]; grind [vin])
theorem sp_Sp_has {o0 : Nat} {x1 : Int32} (k0 : okS o0 6) : Ws G Sp_has 0 [(0, .ref o0), (1, .int x1)] [] u (RI fun x u' => u = u' ∧ (x = 1 ∧ (spH u o0 x1) ∨ x = 0 ∧ ¬ (spH u o0 x1))) := by
  refine sg_Sp_has_0 k0 ?_
  first | (simp only [rB1, rB0, rVi, rVj, rVr, rVv, mt, hereV, kindV, goV, dAt, wayV, spH, spG, spS, goC, wtS, wtT, plS, wrV, snD, snS, snB, dF, isI, shO, wkV, roV, txV, kpV]; done) | (simp only [rB1, rB0, rVi, rVj, rVr, rVv, mt, hereV, kindV, goV, dAt, wayV, spH, spG, spS, goC, wtS, wtT, plS, wrV, snD, snS, snB, dF, isI, shO, wkV, roV, txV, kpV]; grind [vin]) | (simp only [rB1, rB0, rVi, rVj, rVr, rVv, mt, hereV, kindV, goV, dAt, wayV, spH, spG, spS, goC, wtS, wtT, plS, wrV, snD, snS, snB, dF, isI, shO, wkV, roV, txV, kpV, i64_0]; grind [vin])
theorem sp_Sp_holds {o0 : Nat} {x1 : Int32} {x2 : Int32} (k0 : okS o0 6) : Ws G Sp_holds 0 [(0, .ref o0), (1, .int x1), (2, .int x2)] [] u (RI fun x u' => u = u' ∧ (x = 1 ∧ (0 ≤ x1 ∧ 0 ≤ x2 ∧ x1 ≤ (mI u o0 1) - x2) ∨ x = 0 ∧ ¬ (0 ≤ x1 ∧ 0 ≤ x2 ∧ x1 ≤ (mI u o0 1) - x2))) := by
  refine sg_Sp_holds_0 k0 ?_
  first | (simp only [rB1, rB0, rVi, rVj, rVr, rVv, mt, hereV, kindV, goV, dAt, wayV, spH, spG, spS, goC, wtS, wtT, plS, wrV, snD, snS, snB, dF, isI, shO, wkV, roV, txV, kpV]; done) | (simp only [rB1, rB0, rVi, rVj, rVr, rVv, mt, hereV, kindV, goV, dAt, wayV, spH, spG, spS, goC, wtS, wtT, plS, wrV, snD, snS, snB, dF, isI, shO, wkV, roV, txV, kpV]; grind [vin]) | (simp only [rB1, rB0, rVi, rVj, rVr, rVv, mt, hereV, kindV, goV, dAt, wayV, spH, spG, spS, goC, wtS, wtT, plS, wrV, snD, snS, snB, dF, isI, shO, wkV, roV, txV, kpV, i64_0]; grind [vin])
theorem sp_Sh_isOf {o0 : Nat} {x1 : Int32} (k0 : okS o0 4) : Ws G Sh_isOf 0 [(0, .ref o0), (1, .int x1)] [] u (RI fun x u' => u = u' ∧ (x = 1 ∧ (x1 = (mI u o0 0) ∨ (x1 = 3 ∧ (mI u o0 0) = 5)) ∨ x = 0 ∧ ¬ (x1 = (mI u o0 0) ∨ (x1 = 3 ∧ (mI u o0 0) = 5)))) := by
  refine sg_Sh_isOf_0 k0 ?_
  first | (simp only [rB1, rB0, rVi, rVj, rVr, rVv, mt, hereV, kindV, goV, dAt, wayV, spH, spG, spS, goC, wtS, wtT, plS, wrV, snD, snS, snB, dF, isI, shO, wkV, roV, txV, kpV]; done) | (simp only [rB1, rB0, rVi, rVj, rVr, rVv, mt, hereV, kindV, goV, dAt, wayV, spH, spG, spS, goC, wtS, wtT, plS, wrV, snD, snS, snB, dF, isI, shO, wkV, roV, txV, kpV]; grind [vin]) | (simp only [rB1, rB0, rVi, rVj, rVr, rVv, mt, hereV, kindV, goV, dAt, wayV, spH, spG, spS, goC, wtS, wtT, plS, wrV, snD, snS, snB, dF, isI, shO, wkV, roV, txV, kpV, i64_0]; grind [vin])
theorem sp_Sh_going {x0 : Int32} {x1 : Int32} {x2 : Int32} {x3 : Int32}  : Ws G Sh_going 0 [(0, .int x0), (1, .int x1), (2, .int x2), (3, .int x3)] [] u (RI fun x u' => (goC x0 x1 x2 x3) = x ∧ u = u') := by
  refine sg_Sh_going_0  ?_
  first | (simp only [rB1, rB0, rVi, rVj, rVr, rVv, mt, hereV, kindV, goV, dAt, wayV, spH, spG, spS, goC, wtS, wtT, plS, wrV, snD, snS, snB, dF, isI, shO, wkV, roV, txV, kpV]; done) | (simp only [rB1, rB0, rVi, rVj, rVr, rVv, mt, hereV, kindV, goV, dAt, wayV, spH, spG, spS, goC, wtS, wtT, plS, wrV, snD, snS, snB, dF, isI, shO, wkV, roV, txV, kpV]; grind [vin]) | (simp only [rB1, rB0, rVi, rVj, rVr, rVv, mt, hereV, kindV, goV, dAt, wayV, spH, spG, spS, goC, wtS, wtT, plS, wrV, snD, snS, snB, dF, isI, shO, wkV, roV, txV, kpV, i64_0]; grind [vin])
theorem sp_Sh_weeksToSleep {o0 : Nat} {x1 : Int32} (k0 : okS o0 4) : Ws G Sh_weeksToSleep 0 [(0, .ref o0), (1, .int x1)] [] u (RI fun x u' => (wtS (mI u o0 4) x1) = x ∧ u = u') := by
  refine sg_Sh_weeksToSleep_0 k0 ?_
  first | (simp only [rB1, rB0, rVi, rVj, rVr, rVv, mt, hereV, kindV, goV, dAt, wayV, spH, spG, spS, goC, wtS, wtT, plS, wrV, snD, snS, snB, dF, isI, shO, wkV, roV, txV, kpV]; done) | (simp only [rB1, rB0, rVi, rVj, rVr, rVv, mt, hereV, kindV, goV, dAt, wayV, spH, spG, spS, goC, wtS, wtT, plS, wrV, snD, snS, snB, dF, isI, shO, wkV, roV, txV, kpV]; grind [vin]) | (simp only [rB1, rB0, rVi, rVj, rVr, rVv, mt, hereV, kindV, goV, dAt, wayV, spH, spG, spS, goC, wtS, wtT, plS, wrV, snD, snS, snB, dF, isI, shO, wkV, roV, txV, kpV, i64_0]; grind [vin])
theorem sp_Sh_weeksToTurn {o0 : Nat} {x1 : Int32} (k0 : okS o0 4) : Ws G Sh_weeksToTurn 0 [(0, .ref o0), (1, .int x1)] [] u (RI fun x u' => (wtT (mI u o0 4) x1) = x ∧ u = u') := by
  refine sg_Sh_weeksToTurn_0 k0 ?_
  first | (simp only [rB1, rB0, rVi, rVj, rVr, rVv, mt, hereV, kindV, goV, dAt, wayV, spH, spG, spS, goC, wtS, wtT, plS, wrV, snD, snS, snB, dF, isI, shO, wkV, roV, txV, kpV]; done) | (simp only [rB1, rB0, rVi, rVj, rVr, rVv, mt, hereV, kindV, goV, dAt, wayV, spH, spG, spS, goC, wtS, wtT, plS, wrV, snD, snS, snB, dF, isI, shO, wkV, roV, txV, kpV]; grind [vin]) | (simp only [rB1, rB0, rVi, rVj, rVr, rVv, mt, hereV, kindV, goV, dAt, wayV, spH, spG, spS, goC, wtS, wtT, plS, wrV, snD, snS, snB, dF, isI, shO, wkV, roV, txV, kpV, i64_0]; grind [vin])
theorem sp_Pl_isThere {o0 : Nat} (k0 : okS o0 2) : Ws G Pl_isThere 0 [(0, .ref o0)] [] u (RI fun x u' => u = u' ∧ (x = 1 ∧ (0 < (mI u o0 0)) ∨ x = 0 ∧ ¬ (0 < (mI u o0 0)))) := by
  refine sg_Pl_isThere_0 k0 ?_
  first | (simp only [rB1, rB0, rVi, rVj, rVr, rVv, mt, hereV, kindV, goV, dAt, wayV, spH, spG, spS, goC, wtS, wtT, plS, wrV, snD, snS, snB, dF, isI, shO, wkV, roV, txV, kpV]; done) | (simp only [rB1, rB0, rVi, rVj, rVr, rVv, mt, hereV, kindV, goV, dAt, wayV, spH, spG, spS, goC, wtS, wtT, plS, wrV, snD, snS, snB, dF, isI, shO, wkV, roV, txV, kpV]; grind [vin]) | (simp only [rB1, rB0, rVi, rVj, rVr, rVv, mt, hereV, kindV, goV, dAt, wayV, spH, spG, spS, goC, wtS, wtT, plS, wrV, snD, snS, snB, dF, isI, shO, wkV, roV, txV, kpV, i64_0]; grind [vin])
theorem sp_Pl_hasDoor {o0 : Nat} {x1 : Int32} (k0 : okS o0 2) : Ws G Pl_hasDoor 0 [(0, .ref o0), (1, .int x1)] [] u (RI fun x u' => u = u' ∧ (x = 1 ∧ (0 ≤ x1 ∧ x1 < (mI u o0 0)) ∨ x = 0 ∧ ¬ (0 ≤ x1 ∧ x1 < (mI u o0 0)))) := by
  refine sg_Pl_hasDoor_0 k0 ?_
  first | (simp only [rB1, rB0, rVi, rVj, rVr, rVv, mt, hereV, kindV, goV, dAt, wayV, spH, spG, spS, goC, wtS, wtT, plS, wrV, snD, snS, snB, dF, isI, shO, wkV, roV, txV, kpV]; done) | (simp only [rB1, rB0, rVi, rVj, rVr, rVv, mt, hereV, kindV, goV, dAt, wayV, spH, spG, spS, goC, wtS, wtT, plS, wrV, snD, snS, snB, dF, isI, shO, wkV, roV, txV, kpV]; grind [vin]) | (simp only [rB1, rB0, rVi, rVj, rVr, rVv, mt, hereV, kindV, goV, dAt, wayV, spH, spG, spS, goC, wtS, wtT, plS, wrV, snD, snS, snB, dF, isI, shO, wkV, roV, txV, kpV, i64_0]; grind [vin])
theorem sp_Pl_hasDoorSet {o0 : Nat} {x1 : Int32} (k0 : okS o0 2) : Ws G Pl_hasDoorSet 0 [(0, .ref o0), (1, .int x1)] [] u (RI fun x u' => u = u' ∧ (x = 1 ∧ (0 ≤ x1 ∧ x1 >>> ((mI u o0 0) &&& 31) = 0) ∨ x = 0 ∧ ¬ (0 ≤ x1 ∧ x1 >>> ((mI u o0 0) &&& 31) = 0))) := by
  refine sg_Pl_hasDoorSet_0 k0 ?_
  first | (simp only [rB1, rB0, rVi, rVj, rVr, rVv, mt, hereV, kindV, goV, dAt, wayV, spH, spG, spS, goC, wtS, wtT, plS, wrV, snD, snS, snB, dF, isI, shO, wkV, roV, txV, kpV]; done) | (simp only [rB1, rB0, rVi, rVj, rVr, rVv, mt, hereV, kindV, goV, dAt, wayV, spH, spG, spS, goC, wtS, wtT, plS, wrV, snD, snS, snB, dF, isI, shO, wkV, roV, txV, kpV]; grind [vin]) | (simp only [rB1, rB0, rVi, rVj, rVr, rVv, mt, hereV, kindV, goV, dAt, wayV, spH, spG, spS, goC, wtS, wtT, plS, wrV, snD, snS, snB, dF, isI, shO, wkV, roV, txV, kpV, i64_0]; grind [vin])
theorem sp_Pl_hasShop {o0 : Nat} {x1 : Int32} (k0 : okS o0 2) : Ws G Pl_hasShop 0 [(0, .ref o0), (1, .int x1)] [] u (RI fun x u' => u = u' ∧ (x = 1 ∧ (plS u o0 x1) ∨ x = 0 ∧ ¬ (plS u o0 x1))) := by
  refine sg_Pl_hasShop_0 k0 ?_
  first | (simp only [rB1, rB0, rVi, rVj, rVr, rVv, mt, hereV, kindV, goV, dAt, wayV, spH, spG, spS, goC, wtS, wtT, plS, wrV, snD, snS, snB, dF, isI, shO, wkV, roV, txV, kpV]; done) | (simp only [rB1, rB0, rVi, rVj, rVr, rVv, mt, hereV, kindV, goV, dAt, wayV, spH, spG, spS, goC, wtS, wtT, plS, wrV, snD, snS, snB, dF, isI, shO, wkV, roV, txV, kpV]; grind [vin]) | (simp only [rB1, rB0, rVi, rVj, rVr, rVv, mt, hereV, kindV, goV, dAt, wayV, spH, spG, spS, goC, wtS, wtT, plS, wrV, snD, snS, snB, dF, isI, shO, wkV, roV, txV, kpV, i64_0]; grind [vin])
theorem sp_Pl_hasSet {o0 : Nat} {x1 : Int32} (k0 : okS o0 2) : Ws G Pl_hasSet 0 [(0, .ref o0), (1, .int x1)] [] u (RI fun x u' => u = u' ∧ (x = 1 ∧ (0 ≤ x1 ∧ x1 >>> ((mI u o0 1) &&& 31) = 0) ∨ x = 0 ∧ ¬ (0 ≤ x1 ∧ x1 >>> ((mI u o0 1) &&& 31) = 0))) := by
  refine sg_Pl_hasSet_0 k0 ?_
  first | (simp only [rB1, rB0, rVi, rVj, rVr, rVv, mt, hereV, kindV, goV, dAt, wayV, spH, spG, spS, goC, wtS, wtT, plS, wrV, snD, snS, snB, dF, isI, shO, wkV, roV, txV, kpV]; done) | (simp only [rB1, rB0, rVi, rVj, rVr, rVv, mt, hereV, kindV, goV, dAt, wayV, spH, spG, spS, goC, wtS, wtT, plS, wrV, snD, snS, snB, dF, isI, shO, wkV, roV, txV, kpV]; grind [vin]) | (simp only [rB1, rB0, rVi, rVj, rVr, rVv, mt, hereV, kindV, goV, dAt, wayV, spH, spG, spS, goC, wtS, wtT, plS, wrV, snD, snS, snB, dF, isI, shO, wkV, roV, txV, kpV, i64_0]; grind [vin])
theorem sp_Pl_wrapped {o0 : Nat} {x1 : Int64} (k0 : okS o0 2) : Ws G Pl_wrapped 0 [(0, .ref o0), (1, .long x1)] [] u (RI fun x u' => (wrV (mI u o0 0) x1) = x ∧ u = u') := by
  refine sg_Pl_wrapped_0 k0 ?_
  first | (simp only [rB1, rB0, rVi, rVj, rVr, rVv, mt, hereV, kindV, goV, dAt, wayV, spH, spG, spS, goC, wtS, wtT, plS, wrV, snD, snS, snB, dF, isI, shO, wkV, roV, txV, kpV]; done) | (simp only [rB1, rB0, rVi, rVj, rVr, rVv, mt, hereV, kindV, goV, dAt, wayV, spH, spG, spS, goC, wtS, wtT, plS, wrV, snD, snS, snB, dF, isI, shO, wkV, roV, txV, kpV]; grind [vin]) | (simp only [rB1, rB0, rVi, rVj, rVr, rVv, mt, hereV, kindV, goV, dAt, wayV, spH, spG, spS, goC, wtS, wtT, plS, wrV, snD, snS, snB, dF, isI, shO, wkV, roV, txV, kpV, i64_0]; grind [vin])
theorem sp_Sn_doorOf {o0 : Nat} {x1 : Int32} (k0 : okS o0 5) : Ws G Sn_doorOf 0 [(0, .ref o0), (1, .int x1)] [] u (RI fun x u' => (snD u o0 x1) = x ∧ u = u') := by
  refine sg_Sn_doorOf_0 k0 ?_
  first | (simp only [rB1, rB0, rVi, rVj, rVr, rVv, mt, hereV, kindV, goV, dAt, wayV, spH, spG, spS, goC, wtS, wtT, plS, wrV, snD, snS, snB, dF, isI, shO, wkV, roV, txV, kpV]; done) | (simp only [rB1, rB0, rVi, rVj, rVr, rVv, mt, hereV, kindV, goV, dAt, wayV, spH, spG, spS, goC, wtS, wtT, plS, wrV, snD, snS, snB, dF, isI, shO, wkV, roV, txV, kpV]; grind [vin]) | (simp only [rB1, rB0, rVi, rVj, rVr, rVv, mt, hereV, kindV, goV, dAt, wayV, spH, spG, spS, goC, wtS, wtT, plS, wrV, snD, snS, snB, dF, isI, shO, wkV, roV, txV, kpV, i64_0]; grind [vin])
theorem sp_Sn_setDoor {o0 : Nat} {x1 : Int32} {x2 : Int32} (k0 : okS o0 5) : Ws G Sn_setDoor 0 [(0, .ref o0), (1, .int x1), (2, .int x2)] [] u (RV fun u' => (snS u o0 x1 x2) = u') := by
  refine sg_Sn_setDoor_0 k0 ?_
  first | (simp only [rB1, rB0, rVi, rVj, rVr, rVv, mt, hereV, kindV, goV, dAt, wayV, spH, spG, spS, goC, wtS, wtT, plS, wrV, snD, snS, snB, dF, isI, shO, wkV, roV, txV, kpV]; done) | (simp only [rB1, rB0, rVi, rVj, rVr, rVv, mt, hereV, kindV, goV, dAt, wayV, spH, spG, spS, goC, wtS, wtT, plS, wrV, snD, snS, snB, dF, isI, shO, wkV, roV, txV, kpV]; grind [vin]) | (simp only [rB1, rB0, rVi, rVj, rVr, rVv, mt, hereV, kindV, goV, dAt, wayV, spH, spG, spS, goC, wtS, wtT, plS, wrV, snD, snS, snB, dF, isI, shO, wkV, roV, txV, kpV, i64_0]; grind [vin])
theorem sp_Sn_become {o0 : Nat} {o1 : Nat} (k0 : okS o0 5) (k1 : okS o1 5) : Ws G Sn_become 0 [(0, .ref o0), (1, .ref o1)] [] u (RV fun u' => (snB u o0 o1) = u') := by
  refine sg_Sn_become_0 k0 k1 ?_
  refine ⟨⟨by decide, by decide, by decide, by rw [ol_5_2 k1]; decide, by rw [ol_5_2 k0]; decide⟩, rfl, rfl⟩
theorem sp_D_found {x1 : Int32}  : Ws G D_found 0 [(0, .ref 2), (1, .int x1)] [] u (RI fun x u' => (-3) = x ∧ (dF u x1) = u') := by
  refine sg_D_found_0  ?_
  first | (simp only [rB1, rB0, rVi, rVj, rVr, rVv, mt, hereV, kindV, goV, dAt, wayV, spH, spG, spS, goC, wtS, wtT, plS, wrV, snD, snS, snB, dF, isI, shO, wkV, roV, txV, kpV]; done) | (simp only [rB1, rB0, rVi, rVj, rVr, rVv, mt, hereV, kindV, goV, dAt, wayV, spH, spG, spS, goC, wtS, wtT, plS, wrV, snD, snS, snB, dF, isI, shO, wkV, roV, txV, kpV]; grind [vin]) | (simp only [rB1, rB0, rVi, rVj, rVr, rVv, mt, hereV, kindV, goV, dAt, wayV, spH, spG, spS, goC, wtS, wtT, plS, wrV, snD, snS, snB, dF, isI, shO, wkV, roV, txV, kpV, i64_0]; grind [vin])
theorem sp_D_tell {x1 : Int32} {x2 : Int32}  : Ws G D_tell 0 [(0, .ref 2), (1, .int x1), (2, .int x2)] [] u (RI fun x u' => x2 = x ∧ (pI u 2 12 x1) = u') := by
  refine sg_D_tell_0  ?_
  first | (simp only [rB1, rB0, rVi, rVj, rVr, rVv, mt, hereV, kindV, goV, dAt, wayV, spH, spG, spS, goC, wtS, wtT, plS, wrV, snD, snS, snB, dF, isI, shO, wkV, roV, txV, kpV]; done) | (simp only [rB1, rB0, rVi, rVj, rVr, rVv, mt, hereV, kindV, goV, dAt, wayV, spH, spG, spS, goC, wtS, wtT, plS, wrV, snD, snS, snB, dF, isI, shO, wkV, roV, txV, kpV]; grind [vin]) | (simp only [rB1, rB0, rVi, rVj, rVr, rVv, mt, hereV, kindV, goV, dAt, wayV, spH, spG, spS, goC, wtS, wtT, plS, wrV, snD, snS, snB, dF, isI, shO, wkV, roV, txV, kpV, i64_0]; grind [vin])
theorem sp_D_isRow {x0 : Int32}  : Ws G D_isRow 0 [(0, .int x0)] [] u (RI fun x u' => u = u' ∧ (x = 1 ∧ (0 ≤ x0 ∧ x0 < 6) ∨ x = 0 ∧ ¬ (0 ≤ x0 ∧ x0 < 6))) := by
  refine sg_D_isRow_0  ?_
  first | (simp only [rB1, rB0, rVi, rVj, rVr, rVv, mt, hereV, kindV, goV, dAt, wayV, spH, spG, spS, goC, wtS, wtT, plS, wrV, snD, snS, snB, dF, isI, shO, wkV, roV, txV, kpV]; done) | (simp only [rB1, rB0, rVi, rVj, rVr, rVv, mt, hereV, kindV, goV, dAt, wayV, spH, spG, spS, goC, wtS, wtT, plS, wrV, snD, snS, snB, dF, isI, shO, wkV, roV, txV, kpV]; grind [vin]) | (simp only [rB1, rB0, rVi, rVj, rVr, rVv, mt, hereV, kindV, goV, dAt, wayV, spH, spG, spS, goC, wtS, wtT, plS, wrV, snD, snS, snB, dF, isI, shO, wkV, roV, txV, kpV, i64_0]; grind [vin])
theorem sp_D_isText {x0 : Int32}  : Ws G D_isText 0 [(0, .int x0)] [] u (RI fun x u' => u = u' ∧ (x = 1 ∧ (0 ≤ x0 ∧ x0 < 4) ∨ x = 0 ∧ ¬ (0 ≤ x0 ∧ x0 < 4))) := by
  refine sg_D_isText_0  ?_
  first | (simp only [rB1, rB0, rVi, rVj, rVr, rVv, mt, hereV, kindV, goV, dAt, wayV, spH, spG, spS, goC, wtS, wtT, plS, wrV, snD, snS, snB, dF, isI, shO, wkV, roV, txV, kpV]; done) | (simp only [rB1, rB0, rVi, rVj, rVr, rVv, mt, hereV, kindV, goV, dAt, wayV, spH, spG, spS, goC, wtS, wtT, plS, wrV, snD, snS, snB, dF, isI, shO, wkV, roV, txV, kpV]; grind [vin]) | (simp only [rB1, rB0, rVi, rVj, rVr, rVv, mt, hereV, kindV, goV, dAt, wayV, spH, spG, spS, goC, wtS, wtT, plS, wrV, snD, snS, snB, dF, isI, shO, wkV, roV, txV, kpV, i64_0]; grind [vin])
theorem sp_D_isKeptPlace {x0 : Int32}  : Ws G D_isKeptPlace 0 [(0, .int x0)] [] u (RI fun x u' => u = u' ∧ (x = 1 ∧ (0 ≤ x0 ∧ x0 < 3) ∨ x = 0 ∧ ¬ (0 ≤ x0 ∧ x0 < 3))) := by
  refine sg_D_isKeptPlace_0  ?_
  first | (simp only [rB1, rB0, rVi, rVj, rVr, rVv, mt, hereV, kindV, goV, dAt, wayV, spH, spG, spS, goC, wtS, wtT, plS, wrV, snD, snS, snB, dF, isI, shO, wkV, roV, txV, kpV]; done) | (simp only [rB1, rB0, rVi, rVj, rVr, rVv, mt, hereV, kindV, goV, dAt, wayV, spH, spG, spS, goC, wtS, wtT, plS, wrV, snD, snS, snB, dF, isI, shO, wkV, roV, txV, kpV]; grind [vin]) | (simp only [rB1, rB0, rVi, rVj, rVr, rVv, mt, hereV, kindV, goV, dAt, wayV, spH, spG, spS, goC, wtS, wtT, plS, wrV, snD, snS, snB, dF, isI, shO, wkV, roV, txV, kpV, i64_0]; grind [vin])
theorem sp_D_isLook {x0 : Int32}  : Ws G D_isLook 0 [(0, .int x0)] [] u (RI fun x u' => u = u' ∧ (x = 1 ∧ (1 ≤ x0 ∧ x0 ≤ 60) ∨ x = 0 ∧ ¬ (1 ≤ x0 ∧ x0 ≤ 60))) := by
  refine sg_D_isLook_0  ?_
  first | (simp only [rB1, rB0, rVi, rVj, rVr, rVv, mt, hereV, kindV, goV, dAt, wayV, spH, spG, spS, goC, wtS, wtT, plS, wrV, snD, snS, snB, dF, isI, shO, wkV, roV, txV, kpV]; done) | (simp only [rB1, rB0, rVi, rVj, rVr, rVv, mt, hereV, kindV, goV, dAt, wayV, spH, spG, spS, goC, wtS, wtT, plS, wrV, snD, snS, snB, dF, isI, shO, wkV, roV, txV, kpV]; grind [vin]) | (simp only [rB1, rB0, rVi, rVj, rVr, rVv, mt, hereV, kindV, goV, dAt, wayV, spH, spG, spS, goC, wtS, wtT, plS, wrV, snD, snS, snB, dF, isI, shO, wkV, roV, txV, kpV, i64_0]; grind [vin])
theorem sp_D_isIn {x0 : Int32} {x1 : Int32}  : Ws G D_isIn 0 [(0, .int x0), (1, .int x1)] [] u (RI fun x u' => u = u' ∧ (x = 1 ∧ (isI x0 x1) ∨ x = 0 ∧ ¬ (isI x0 x1))) := by
  refine sg_D_isIn_0  ?_
  first | (simp only [rB1, rB0, rVi, rVj, rVr, rVv, mt, hereV, kindV, goV, dAt, wayV, spH, spG, spS, goC, wtS, wtT, plS, wrV, snD, snS, snB, dF, isI, shO, wkV, roV, txV, kpV]; done) | (simp only [rB1, rB0, rVi, rVj, rVr, rVv, mt, hereV, kindV, goV, dAt, wayV, spH, spG, spS, goC, wtS, wtT, plS, wrV, snD, snS, snB, dF, isI, shO, wkV, roV, txV, kpV]; grind [vin]) | (simp only [rB1, rB0, rVi, rVj, rVr, rVv, mt, hereV, kindV, goV, dAt, wayV, spH, spG, spS, goC, wtS, wtT, plS, wrV, snD, snS, snB, dF, isI, shO, wkV, roV, txV, kpV, i64_0]; grind [vin])
theorem sp_D_pairCode {x0 : Int32} {x1 : Int32}  : Ws G D_pairCode 0 [(0, .int x0), (1, .int x1)] [] u (RI fun x u' => (100 * x0 + x1 + 9) = x ∧ u = u') := by
  refine sg_D_pairCode_0  ?_
  first | (simp only [rB1, rB0, rVi, rVj, rVr, rVv, mt, hereV, kindV, goV, dAt, wayV, spH, spG, spS, goC, wtS, wtT, plS, wrV, snD, snS, snB, dF, isI, shO, wkV, roV, txV, kpV]; done) | (simp only [rB1, rB0, rVi, rVj, rVr, rVv, mt, hereV, kindV, goV, dAt, wayV, spH, spG, spS, goC, wtS, wtT, plS, wrV, snD, snS, snB, dF, isI, shO, wkV, roV, txV, kpV]; grind [vin]) | (simp only [rB1, rB0, rVi, rVj, rVr, rVv, mt, hereV, kindV, goV, dAt, wayV, spH, spG, spS, goC, wtS, wtT, plS, wrV, snD, snS, snB, dF, isI, shO, wkV, roV, txV, kpV, i64_0]; grind [vin])
theorem sp_Er_shiftOf {x0 : Int32}  : Ws G Er_shiftOf 0 [(0, .int x0)] [] u (RI fun x u' => (5 * (6 - x0)) = x ∧ u = u') := by
  refine sg_Er_shiftOf_0  ?_
  first | (simp only [rB1, rB0, rVi, rVj, rVr, rVv, mt, hereV, kindV, goV, dAt, wayV, spH, spG, spS, goC, wtS, wtT, plS, wrV, snD, snS, snB, dF, isI, shO, wkV, roV, txV, kpV]; done) | (simp only [rB1, rB0, rVi, rVj, rVr, rVv, mt, hereV, kindV, goV, dAt, wayV, spH, spG, spS, goC, wtS, wtT, plS, wrV, snD, snS, snB, dF, isI, shO, wkV, roV, txV, kpV]; grind [vin]) | (simp only [rB1, rB0, rVi, rVj, rVr, rVv, mt, hereV, kindV, goV, dAt, wayV, spH, spG, spS, goC, wtS, wtT, plS, wrV, snD, snS, snB, dF, isI, shO, wkV, roV, txV, kpV, i64_0]; grind [vin])
theorem sp_Rd_isFigure {x0 : Int32}  : Ws G Rd_isFigure 0 [(0, .int x0)] [] u (RI fun x u' => u = u' ∧ (x = 1 ∧ (48 ≤ x0 ∧ x0 ≤ 57) ∨ x = 0 ∧ ¬ (48 ≤ x0 ∧ x0 ≤ 57))) := by
  refine sg_Rd_isFigure_0  ?_
  first | (simp only [rB1, rB0, rVi, rVj, rVr, rVv, mt, hereV, kindV, goV, dAt, wayV, spH, spG, spS, goC, wtS, wtT, plS, wrV, snD, snS, snB, dF, isI, shO, wkV, roV, txV, kpV]; done) | (simp only [rB1, rB0, rVi, rVj, rVr, rVv, mt, hereV, kindV, goV, dAt, wayV, spH, spG, spS, goC, wtS, wtT, plS, wrV, snD, snS, snB, dF, isI, shO, wkV, roV, txV, kpV]; grind [vin]) | (simp only [rB1, rB0, rVi, rVj, rVr, rVv, mt, hereV, kindV, goV, dAt, wayV, spH, spG, spS, goC, wtS, wtT, plS, wrV, snD, snS, snB, dF, isI, shO, wkV, roV, txV, kpV, i64_0]; grind [vin])
theorem sp_Rd_isAtEnd {o0 : Nat} (k0 : okS o0 3) : Ws G Rd_isAtEnd 0 [(0, .ref o0)] [] u (RI fun x u' => u = u' ∧ (x = 1 ∧ ((mI u (mR u o0 0) 1) ≤ (mI u o0 1)) ∨ x = 0 ∧ ¬ ((mI u (mR u o0 0) 1) ≤ (mI u o0 1)))) := by
  refine sg_Rd_isAtEnd_0 k0 ?_
  first | (simp only [rB1, rB0, rVi, rVj, rVr, rVv, mt, hereV, kindV, goV, dAt, wayV, spH, spG, spS, goC, wtS, wtT, plS, wrV, snD, snS, snB, dF, isI, shO, wkV, roV, txV, kpV]; done) | (simp only [rB1, rB0, rVi, rVj, rVr, rVv, mt, hereV, kindV, goV, dAt, wayV, spH, spG, spS, goC, wtS, wtT, plS, wrV, snD, snS, snB, dF, isI, shO, wkV, roV, txV, kpV]; grind [vin]) | (simp only [rB1, rB0, rVi, rVj, rVr, rVv, mt, hereV, kindV, goV, dAt, wayV, spH, spG, spS, goC, wtS, wtT, plS, wrV, snD, snS, snB, dF, isI, shO, wkV, roV, txV, kpV, i64_0]; grind [vin])
theorem sp_Rd_begin {o0 : Nat} {o1 : Nat} (k0 : okS o0 3) (k1 : okS o1 6) : Ws G Rd_begin 0 [(0, .ref o0), (1, .ref o1)] [] u (RV fun u' => (pI (pR u o0 0 o1) o0 1 0) = u') := by
  refine sg_Rd_begin_0 k0 k1 ?_
  first | (simp only [rB1, rB0, rVi, rVj, rVr, rVv, mt, hereV, kindV, goV, dAt, wayV, spH, spG, spS, goC, wtS, wtT, plS, wrV, snD, snS, snB, dF, isI, shO, wkV, roV, txV, kpV]; done) | (simp only [rB1, rB0, rVi, rVj, rVr, rVv, mt, hereV, kindV, goV, dAt, wayV, spH, spG, spS, goC, wtS, wtT, plS, wrV, snD, snS, snB, dF, isI, shO, wkV, roV, txV, kpV]; grind [vin]) | (simp only [rB1, rB0, rVi, rVj, rVr, rVv, mt, hereV, kindV, goV, dAt, wayV, spH, spG, spS, goC, wtS, wtT, plS, wrV, snD, snS, snB, dF, isI, shO, wkV, roV, txV, kpV, i64_0]; grind [vin])
theorem sp_ji_bitCount {x0 : Int32}  : Ws G ji_bitCount 0 [(0, .int x0)] [] u (RI fun x u' => (bcV x0) = x ∧ u = u') := by
  refine sg_ji_bitCount_0  ?_
  exact ⟨_, rfl, rfl, rfl⟩
end SP
end
section
section SEG
variable {G : pG} {u : pM} {Q : Option Value → pM → Prop}
theorem sg_m_going_0 {x1 : Int32} {x2 : Int32}  (h : (vp_in (5 * x1 + 0) 70 ∧ (vp_in (5 * x1 + 2) 70 ∧ (vp_in (5 * x1 + 4) 70 ∧ ((3 ≤ (mI u 83 ((5 * x1 + 0) : Int32).toNatClampNeg) → ¬ (mI u 83 ((5 * x1 + 4) : Int32).toNatClampNeg) = 0) ∧ Q (some (.int (goV (mI u 83 ((5 * x1 + 0) : Int32).toNatClampNeg) (mI u 83 ((5 * x1 + 2) : Int32).toNatClampNeg) (mI u 83 ((5 * x1 + 4) : Int32).toNatClampNeg) x2))) u))))) : Ws G m_going 0 [(0, .ref 76), (1, .int x1), (2, .int x2)] [] u Q := by
  refine ws_aload_n 0 (dcd d_m_going_0 0 rfl) rfl ?_
  refine ws_iload_n 1 (dcd d_m_going_0 1 rfl) rfl ?_
  refine ws_iconst (v := 0) (dcd d_m_going_0 2 rfl) (by decide) ?_
  obtain ⟨e1, h⟩ := h
  refine ws_callVI (o := 76) (As := [.int x1, .int 0]) (st := []) (la := [(0, .ref 76), (1, .int x1), (2, .int 0)]) (dcd d_m_going_0 3 rfl) cv_m_tell k_m_159 ⟨by decide, by decide⟩ ok_76 rfl (Nat.le_of_ble_eq_true rfl) (Nat.le_of_ble_eq_true rfl) rfl rfl (sp_m_tell e1) ?_
  rintro _ _ ⟨rfl, rfl⟩
  refine ws_aload_n 0 (dcd d_m_going_0 4 rfl) rfl ?_
  refine ws_iload_n 1 (dcd d_m_going_0 5 rfl) rfl ?_
  refine ws_iconst (v := 2) (dcd d_m_going_0 6 rfl) (by decide) ?_
  obtain ⟨e2, h⟩ := h
  refine ws_callVI (o := 76) (As := [.int x1, .int 2]) (st := [.int (mI u 83 ((5 * x1 + 0) : Int32).toNatClampNeg)]) (la := [(0, .ref 76), (1, .int x1), (2, .int 2)]) (dcd d_m_going_0 7 rfl) cv_m_tell k_m_159 ⟨by decide, by decide⟩ ok_76 rfl (Nat.le_of_ble_eq_true rfl) (Nat.le_of_ble_eq_true rfl) rfl rfl (sp_m_tell e2) ?_
  rintro _ _ ⟨rfl, rfl⟩
  refine ws_aload_n 0 (dcd d_m_going_0 8 rfl) rfl ?_
  refine ws_iload_n 1 (dcd d_m_going_0 9 rfl) rfl ?_
  refine ws_iconst (v := 4) (dcd d_m_going_0 10 rfl) (by decide) ?_
  obtain ⟨e3, h⟩ := h
  refine ws_callVI (o := 76) (As := [.int x1, .int 4]) (st := [.int (mI u 83 ((5 * x1 + 2) : Int32).toNatClampNeg), .int (mI u 83 ((5 * x1 + 0) : Int32).toNatClampNeg)]) (la := [(0, .ref 76), (1, .int x1), (2, .int 4)]) (dcd d_m_going_0 11 rfl) cv_m_tell k_m_159 ⟨by decide, by decide⟩ ok_76 rfl (Nat.le_of_ble_eq_true rfl) (Nat.le_of_ble_eq_true rfl) rfl rfl (sp_m_tell e3) ?_
  rintro _ _ ⟨rfl, rfl⟩
  refine ws_iload_n 2 (dcd d_m_going_0 12 rfl) rfl ?_
  obtain ⟨e4, h⟩ := h
  refine ws_callSI (As := [.int (mI u 83 ((5 * x1 + 0) : Int32).toNatClampNeg), .int (mI u 83 ((5 * x1 + 2) : Int32).toNatClampNeg), .int (mI u 83 ((5 * x1 + 4) : Int32).toNatClampNeg), .int x2]) (st := []) (la := [(0, .int (mI u 83 ((5 * x1 + 0) : Int32).toNatClampNeg)), (1, .int (mI u 83 ((5 * x1 + 2) : Int32).toNatClampNeg)), (2, .int (mI u 83 ((5 * x1 + 4) : Int32).toNatClampNeg)), (3, .int x2)]) (dcd d_m_going_0 13 rfl) cs_m_goingBy k_m_177 ⟨by decide, by decide⟩ rfl (Nat.le_of_ble_eq_true rfl) (Nat.le_of_ble_eq_true rfl) rfl rfl (sp_m_goingBy e4) ?_
  rintro _ _ ⟨rfl, rfl⟩
  exact ws_iret (dcd d_m_going_0 14 rfl) ⟨_, rfl, rfl⟩ h
theorem sg_m_isRow_0 {x0 : Int32}  (h : (((0 ≤ x0 ∧ x0 ≤ 5) → Q (some (.int 1)) u) ∧ (¬ (0 ≤ x0 ∧ x0 ≤ 5) → Q (some (.int 0)) u))) : Ws G m_isRow 0 [(0, .int x0)] [] u Q := by
  refine ws_iload_n 0 (dcd d_m_isRow_0 0 rfl) rfl ?_
  refine ws_iconst (v := 0) (dcd d_m_isRow_0 1 rfl) (by decide) ?_
  refine ws_iconst (v := 5) (dcd d_m_isRow_0 2 rfl) (by decide) ?_
  refine ws_callSI (As := [.int x0, .int 0, .int 5]) (st := []) (la := [(0, .int x0), (1, .int 0), (2, .int 5)]) (dcd d_m_isRow_0 3 rfl) cs_m_in k_m_78 ⟨by decide, by decide⟩ rfl (Nat.le_of_ble_eq_true rfl) (Nat.le_of_ble_eq_true rfl) rfl rfl sp_m_in ?_
  rintro _ _ ⟨rfl, ⟨rfl, c1⟩ | ⟨rfl, c1⟩⟩
  · have h := h.1 c1
    exact ws_iret (dcd d_m_isRow_0 4 rfl) ⟨_, rfl, by decide⟩ h
  · have h := h.2 c1
    exact ws_iret (dcd d_m_isRow_0 4 rfl) ⟨_, rfl, by decide⟩ h
theorem sg_m_isText_0 {x0 : Int32}  (h : (((0 ≤ x0 ∧ x0 ≤ 3) → Q (some (.int 1)) u) ∧ (¬ (0 ≤ x0 ∧ x0 ≤ 3) → Q (some (.int 0)) u))) : Ws G m_isText 0 [(0, .int x0)] [] u Q := by
  refine ws_iload_n 0 (dcd d_m_isText_0 0 rfl) rfl ?_
  refine ws_iconst (v := 0) (dcd d_m_isText_0 1 rfl) (by decide) ?_
  refine ws_iconst (v := 3) (dcd d_m_isText_0 2 rfl) (by decide) ?_
  refine ws_callSI (As := [.int x0, .int 0, .int 3]) (st := []) (la := [(0, .int x0), (1, .int 0), (2, .int 3)]) (dcd d_m_isText_0 3 rfl) cs_m_in k_m_78 ⟨by decide, by decide⟩ rfl (Nat.le_of_ble_eq_true rfl) (Nat.le_of_ble_eq_true rfl) rfl rfl sp_m_in ?_
  rintro _ _ ⟨rfl, ⟨rfl, c1⟩ | ⟨rfl, c1⟩⟩
  · have h := h.1 c1
    exact ws_iret (dcd d_m_isText_0 4 rfl) ⟨_, rfl, by decide⟩ h
  · have h := h.2 c1
    exact ws_iret (dcd d_m_isText_0 4 rfl) ⟨_, rfl, by decide⟩ h
theorem sg_m_isShop_0 {x1 : Int32}  (h : (((0 ≤ x1 ∧ x1 ≤ ((mI u 76 11) - 1)) → Q (some (.int 1)) u) ∧ (¬ (0 ≤ x1 ∧ x1 ≤ ((mI u 76 11) - 1)) → Q (some (.int 0)) u))) : Ws G m_isShop 0 [(0, .ref 76), (1, .int x1)] [] u Q := by
  refine ws_iload_n 1 (dcd d_m_isShop_0 0 rfl) rfl ?_
  refine ws_iconst (v := 0) (dcd d_m_isShop_0 1 rfl) (by decide) ?_
  refine ws_aload_n 0 (dcd d_m_isShop_0 2 rfl) rfl ?_
  refine ws_getI f_m_156 rfl (dcd d_m_isShop_0 3 rfl) ok_76 ?_
  refine ws_iconst (v := 1) (dcd d_m_isShop_0 4 rfl) (by decide) ?_
  refine ws_isub (dcd d_m_isShop_0 5 rfl) ?_
  refine ws_callSI (As := [.int x1, .int 0, .int ((mI u 76 11) - 1)]) (st := []) (la := [(0, .int x1), (1, .int 0), (2, .int ((mI u 76 11) - 1))]) (dcd d_m_isShop_0 6 rfl) cs_m_in k_m_78 ⟨by decide, by decide⟩ rfl (Nat.le_of_ble_eq_true rfl) (Nat.le_of_ble_eq_true rfl) rfl rfl sp_m_in ?_
  rintro _ _ ⟨rfl, ⟨rfl, c1⟩ | ⟨rfl, c1⟩⟩
  · have h := h.1 c1
    exact ws_iret (dcd d_m_isShop_0 7 rfl) ⟨_, rfl, by decide⟩ h
  · have h := h.2 c1
    exact ws_iret (dcd d_m_isShop_0 7 rfl) ⟨_, rfl, by decide⟩ h
theorem sg_m_isDoor_0 {x1 : Int32}  (h : (((0 ≤ x1 ∧ x1 ≤ ((mI u 76 10) - 1)) → Q (some (.int 1)) u) ∧ (¬ (0 ≤ x1 ∧ x1 ≤ ((mI u 76 10) - 1)) → Q (some (.int 0)) u))) : Ws G m_isDoor 0 [(0, .ref 76), (1, .int x1)] [] u Q := by
  refine ws_iload_n 1 (dcd d_m_isDoor_0 0 rfl) rfl ?_
  refine ws_iconst (v := 0) (dcd d_m_isDoor_0 1 rfl) (by decide) ?_
  refine ws_aload_n 0 (dcd d_m_isDoor_0 2 rfl) rfl ?_
  refine ws_getI f_m_153 rfl (dcd d_m_isDoor_0 3 rfl) ok_76 ?_
  refine ws_iconst (v := 1) (dcd d_m_isDoor_0 4 rfl) (by decide) ?_
  refine ws_isub (dcd d_m_isDoor_0 5 rfl) ?_
  refine ws_callSI (As := [.int x1, .int 0, .int ((mI u 76 10) - 1)]) (st := []) (la := [(0, .int x1), (1, .int 0), (2, .int ((mI u 76 10) - 1))]) (dcd d_m_isDoor_0 6 rfl) cs_m_in k_m_78 ⟨by decide, by decide⟩ rfl (Nat.le_of_ble_eq_true rfl) (Nat.le_of_ble_eq_true rfl) rfl rfl sp_m_in ?_
  rintro _ _ ⟨rfl, ⟨rfl, c1⟩ | ⟨rfl, c1⟩⟩
  · have h := h.1 c1
    exact ws_iret (dcd d_m_isDoor_0 7 rfl) ⟨_, rfl, by decide⟩ h
  · have h := h.2 c1
    exact ws_iret (dcd d_m_isDoor_0 7 rfl) ⟨_, rfl, by decide⟩ h
theorem sg_m_isSet_0 {x1 : Int32}  (h : (((0 ≤ x1 ∧ x1 ≤ ((1 <<< ((mI u 76 11) &&& 31)) - 1)) → Q (some (.int 1)) u) ∧ (¬ (0 ≤ x1 ∧ x1 ≤ ((1 <<< ((mI u 76 11) &&& 31)) - 1)) → Q (some (.int 0)) u))) : Ws G m_isSet 0 [(0, .ref 76), (1, .int x1)] [] u Q := by
  refine ws_iload_n 1 (dcd d_m_isSet_0 0 rfl) rfl ?_
  refine ws_iconst (v := 0) (dcd d_m_isSet_0 1 rfl) (by decide) ?_
  refine ws_iconst (v := 1) (dcd d_m_isSet_0 2 rfl) (by decide) ?_
  refine ws_aload_n 0 (dcd d_m_isSet_0 3 rfl) rfl ?_
  refine ws_getI f_m_156 rfl (dcd d_m_isSet_0 4 rfl) ok_76 ?_
  refine ws_ishl (dcd d_m_isSet_0 5 rfl) ?_
  refine ws_iconst (v := 1) (dcd d_m_isSet_0 6 rfl) (by decide) ?_
  refine ws_isub (dcd d_m_isSet_0 7 rfl) ?_
  refine ws_callSI (As := [.int x1, .int 0, .int ((1 <<< ((mI u 76 11) &&& 31)) - 1)]) (st := []) (la := [(0, .int x1), (1, .int 0), (2, .int ((1 <<< ((mI u 76 11) &&& 31)) - 1))]) (dcd d_m_isSet_0 8 rfl) cs_m_in k_m_78 ⟨by decide, by decide⟩ rfl (Nat.le_of_ble_eq_true rfl) (Nat.le_of_ble_eq_true rfl) rfl rfl sp_m_in ?_
  rintro _ _ ⟨rfl, ⟨rfl, c1⟩ | ⟨rfl, c1⟩⟩
  · have h := h.1 c1
    exact ws_iret (dcd d_m_isSet_0 9 rfl) ⟨_, rfl, by decide⟩ h
  · have h := h.2 c1
    exact ws_iret (dcd d_m_isSet_0 9 rfl) ⟨_, rfl, by decide⟩ h
theorem sg_Sp_get_0 {o0 : Nat} {x1 : Int32} (k0 : okS o0 6) (h : (((spH u o0 x1) → (vp_in x1 (S0 (o0 + 1)).2 ∧ Q (some (.int (mI u (o0 + 1) (x1 : Int32).toNatClampNeg))) u)) ∧ (¬ (spH u o0 x1) → Q (some (.int 0)) u))) : Ws G Sp_get 0 [(0, .ref o0), (1, .int x1)] [] u Q := by
  refine ws_aload_n 0 (dcd d_Sp_get_0 0 rfl) rfl ?_
  refine ws_iload_n 1 (dcd d_Sp_get_0 1 rfl) rfl ?_
  refine ws_callVI (o := o0) (As := [.int x1]) (st := []) (la := [(0, .ref o0), (1, .int x1)]) (dcd d_Sp_get_0 2 rfl) cv_Sp_has k_Sp_25 ⟨by decide, by decide⟩ k0 rfl (Nat.le_of_ble_eq_true rfl) (Nat.le_of_ble_eq_true rfl) rfl rfl (sp_Sp_has k0) ?_
  rintro _ _ ⟨rfl, ⟨rfl, c1⟩ | ⟨rfl, c1⟩⟩
  · have h := h.1 c1
    refine ws_if_eq (tgt := 17) (dcd d_Sp_get_0 3 rfl) (by decide) (fun c => absurd c (by decide)) (fun _ => ?_)
    refine ws_aload_n 0 (dcd d_Sp_get_0 4 rfl) rfl ?_
    refine ws_getF (a := (o0 + 1)) f_Sp_21 rfl (dcd d_Sp_get_0 5 rfl) k0 of_6_0 rfl ?_
    refine ws_iload_n 1 (dcd d_Sp_get_0 6 rfl) rfl ?_
    obtain ⟨e3, h⟩ := h
    refine ws_iald (L := (S0 (o0 + 1)).2) (dcd d_Sp_get_0 7 rfl) (os_6_0 k0) rfl e3 ?_
    refine ws_goto (tgt := 18) (dcd d_Sp_get_0 8 rfl) (by decide) ?_
    exact ws_iret (dcd d_Sp_get_0 10 rfl) ⟨_, rfl, rfl⟩ h
  · have h := h.2 c1
    refine ws_if_eq (tgt := 17) (dcd d_Sp_get_0 3 rfl) (by decide) (fun _ => ?_) (fun c => absurd (show (0 : Int32) = 0 from by decide) c)
    refine ws_iconst (v := 0) (dcd d_Sp_get_0 9 rfl) (by decide) ?_
    exact ws_iret (dcd d_Sp_get_0 10 rfl) ⟨_, rfl, rfl⟩ h
theorem sg_Sp_set_0 {o0 : Nat} {x1 : Int32} {x2 : Int32} (k0 : okS o0 6) (h : (((spH u o0 x1) → (vp_in x1 (S0 (o0 + 1)).2 ∧ Q none (pI u (o0 + 1) (x1 : Int32).toNatClampNeg x2))) ∧ (¬ (spH u o0 x1) → Q none u))) : Ws G Sp_set 0 [(0, .ref o0), (1, .int x1), (2, .int x2)] [] u Q := by
  refine ws_aload_n 0 (dcd d_Sp_set_0 0 rfl) rfl ?_
  refine ws_iload_n 1 (dcd d_Sp_set_0 1 rfl) rfl ?_
  refine ws_callVI (o := o0) (As := [.int x1]) (st := []) (la := [(0, .ref o0), (1, .int x1)]) (dcd d_Sp_set_0 2 rfl) cv_Sp_has k_Sp_25 ⟨by decide, by decide⟩ k0 rfl (Nat.le_of_ble_eq_true rfl) (Nat.le_of_ble_eq_true rfl) rfl rfl (sp_Sp_has k0) ?_
  rintro _ _ ⟨rfl, ⟨rfl, c1⟩ | ⟨rfl, c1⟩⟩
  · have h := h.1 c1
    refine ws_if_eq (tgt := 15) (dcd d_Sp_set_0 3 rfl) (by decide) (fun c => absurd c (by decide)) (fun _ => ?_)
    refine ws_aload_n 0 (dcd d_Sp_set_0 4 rfl) rfl ?_
    refine ws_getF (a := (o0 + 1)) f_Sp_21 rfl (dcd d_Sp_set_0 5 rfl) k0 of_6_0 rfl ?_
    refine ws_iload_n 1 (dcd d_Sp_set_0 6 rfl) rfl ?_
    refine ws_iload_n 2 (dcd d_Sp_set_0 7 rfl) rfl ?_
    obtain ⟨e3, h⟩ := h
    refine ws_iast (L := (S0 (o0 + 1)).2) (dcd d_Sp_set_0 8 rfl) (os_6_0 k0) rfl e3 ?_
    exact ws_vret (dcd d_Sp_set_0 9 rfl) rfl h
  · have h := h.2 c1
    refine ws_if_eq (tgt := 15) (dcd d_Sp_set_0 3 rfl) (by decide) (fun _ => ?_) (fun c => absurd (show (0 : Int32) = 0 from by decide) c)
    exact ws_vret (dcd d_Sp_set_0 9 rfl) rfl h
theorem sg_Sh_goingIn_0 {o0 : Nat} {x1 : Int32} (k0 : okS o0 4) (h : Q (some (.int (goC (mI u o0 0) (mI u o0 4) (mI u o0 2) x1))) u) : Ws G Sh_goingIn 0 [(0, .ref o0), (1, .int x1)] [] u Q := by
  refine ws_aload_n 0 (dcd d_Sh_goingIn_0 0 rfl) rfl ?_
  refine ws_getI f_Sh_9 rfl (dcd d_Sh_goingIn_0 1 rfl) k0 ?_
  refine ws_aload_n 0 (dcd d_Sh_goingIn_0 2 rfl) rfl ?_
  refine ws_getI f_Sh_24 rfl (dcd d_Sh_goingIn_0 3 rfl) k0 ?_
  refine ws_aload_n 0 (dcd d_Sh_goingIn_0 4 rfl) rfl ?_
  refine ws_getI f_Sh_18 rfl (dcd d_Sh_goingIn_0 5 rfl) k0 ?_
  refine ws_iload_n 1 (dcd d_Sh_goingIn_0 6 rfl) rfl ?_
  refine ws_callSI (As := [.int (mI u o0 0), .int (mI u o0 4), .int (mI u o0 2), .int x1]) (st := []) (la := [(0, .int (mI u o0 0)), (1, .int (mI u o0 4)), (2, .int (mI u o0 2)), (3, .int x1)]) (dcd d_Sh_goingIn_0 7 rfl) cs_Sh_going k_Sh_27 ⟨by decide, by decide⟩ rfl (Nat.le_of_ble_eq_true rfl) (Nat.le_of_ble_eq_true rfl) rfl rfl sp_Sh_going ?_
  rintro _ _ ⟨rfl, rfl⟩
  exact ws_iret (dcd d_Sh_goingIn_0 8 rfl) ⟨_, rfl, rfl⟩ h
theorem sg_Pl_shopOf_0 {o0 : Nat} {x1 : Int32} (k0 : okS o0 2) (h : (((plS u o0 x1) → (vp_in x1 7 ∧ Q (some (.ref (R0 (o0 + 1) (x1 : Int32).toNatClampNeg))) u)) ∧ (¬ (plS u o0 x1) → Q (some (.ref (o0 + 2))) u))) : Ws G Pl_shopOf 0 [(0, .ref o0), (1, .int x1)] [] u Q := by
  refine ws_aload_n 0 (dcd d_Pl_shopOf_0 0 rfl) rfl ?_
  refine ws_iload_n 1 (dcd d_Pl_shopOf_0 1 rfl) rfl ?_
  refine ws_callVI (o := o0) (As := [.int x1]) (st := []) (la := [(0, .ref o0), (1, .int x1)]) (dcd d_Pl_shopOf_0 2 rfl) cv_Pl_hasShop k_Pl_40 ⟨by decide, by decide⟩ k0 rfl (Nat.le_of_ble_eq_true rfl) (Nat.le_of_ble_eq_true rfl) rfl rfl (sp_Pl_hasShop k0) ?_
  rintro _ _ ⟨rfl, ⟨rfl, c1⟩ | ⟨rfl, c1⟩⟩
  · have h := h.1 c1
    refine ws_if_eq (tgt := 17) (dcd d_Pl_shopOf_0 3 rfl) (by decide) (fun c => absurd c (by decide)) (fun _ => ?_)
    refine ws_aload_n 0 (dcd d_Pl_shopOf_0 4 rfl) rfl ?_
    refine ws_getF (a := (o0 + 1)) f_Pl_20 rfl (dcd d_Pl_shopOf_0 5 rfl) k0 of_2_2 rfl ?_
    refine ws_iload_n 1 (dcd d_Pl_shopOf_0 6 rfl) rfl ?_
    obtain ⟨e3, h⟩ := h
    refine ws_aald (L := 7) (dcd d_Pl_shopOf_0 7 rfl) (os_2_2 k0) (by decide) (ol_2_2 k0) e3 ?_
    have j4 : okS (R0 (o0 + 1) (x1 : Int32).toNatClampNeg) 4 := (ra_ok (os_2_2 k0) (by decide) (by rw [show (S0 (o0 + 1)).2 = 7 from (ol_2_2 k0)]; exact ix_lt e3)).2
    refine ws_goto (tgt := 21) (dcd d_Pl_shopOf_0 8 rfl) (by decide) ?_
    exact ws_aret (dcd d_Pl_shopOf_0 11 rfl) ⟨_, rfl⟩ h
  · have h := h.2 c1
    refine ws_if_eq (tgt := 17) (dcd d_Pl_shopOf_0 3 rfl) (by decide) (fun _ => ?_) (fun c => absurd (show (0 : Int32) = 0 from by decide) c)
    refine ws_aload_n 0 (dcd d_Pl_shopOf_0 9 rfl) rfl ?_
    refine ws_getF (a := (o0 + 2)) f_Pl_25 rfl (dcd d_Pl_shopOf_0 10 rfl) k0 of_2_3 rfl ?_
    exact ws_aret (dcd d_Pl_shopOf_0 11 rfl) ⟨_, rfl⟩ h
theorem sg_Pl_walking_0 {o0 : Nat} {x1 : Int32} {x2 : Int32} (k0 : okS o0 2) (h : Q (some (.int (if ((mI u o0 0) - (wrV (mI u o0 0) ((x2 - x1) : Int32).toInt64)) < (wrV (mI u o0 0) ((x2 - x1) : Int32).toInt64) then ((mI u o0 0) - (wrV (mI u o0 0) ((x2 - x1) : Int32).toInt64)) else (wrV (mI u o0 0) ((x2 - x1) : Int32).toInt64)))) u) : Ws G Pl_walking 0 [(0, .ref o0), (1, .int x1), (2, .int x2)] [] u Q := by
  refine ws_aload_n 0 (dcd d_Pl_walking_0 0 rfl) rfl ?_
  refine ws_iload_n 2 (dcd d_Pl_walking_0 1 rfl) rfl ?_
  refine ws_iload_n 1 (dcd d_Pl_walking_0 2 rfl) rfl ?_
  refine ws_isub (dcd d_Pl_walking_0 3 rfl) ?_
  refine ws_i2l (dcd d_Pl_walking_0 4 rfl) ?_
  refine ws_callVI (o := o0) (As := [.long ((x2 - x1) : Int32).toInt64]) (st := []) (la := [(0, .ref o0), (1, .long ((x2 - x1) : Int32).toInt64)]) (dcd d_Pl_walking_0 5 rfl) cv_Pl_wrapped k_Pl_57 ⟨by decide, by decide⟩ k0 rfl (Nat.le_of_ble_eq_true rfl) (Nat.le_of_ble_eq_true rfl) rfl rfl (sp_Pl_wrapped k0) ?_
  rintro _ _ ⟨rfl, rfl⟩
  refine ws_istore_n (l' := [(3, .int (wrV (mI u o0 0) ((x2 - x1) : Int32).toInt64)), (0, .ref o0), (1, .int x1), (2, .int x2)]) (dcd d_Pl_walking_0 6 rfl) (by decide) rfl ?_
  refine ws_iload_n 0 (dcd d_Pl_walking_0 7 rfl) rfl ?_
  refine ws_aload_n 1 (dcd d_Pl_walking_0 8 rfl) rfl ?_
  refine ws_getI f_Pl_9 rfl (dcd d_Pl_walking_0 9 rfl) k0 ?_
  refine ws_iload_n 0 (dcd d_Pl_walking_0 10 rfl) rfl ?_
  refine ws_isub (dcd d_Pl_walking_0 11 rfl) ?_
  refine ws_minI (st := []) (dcd d_Pl_walking_0 12 rfl) km_Pl_61 ms_minI in_jm mc_minI ⟨by decide, Nat.le_of_ble_eq_true rfl⟩ ?_
  exact ws_iret (dcd d_Pl_walking_0 13 rfl) ⟨_, rfl, rfl⟩ h
theorem sg_Sn_isShut_0 {o0 : Nat} {x1 : Int32} (k0 : okS o0 5) (h : (((isI (mI u o0 1) x1) → Q (some (.int 1)) u) ∧ (¬ (isI (mI u o0 1) x1) → Q (some (.int 0)) u))) : Ws G Sn_isShut 0 [(0, .ref o0), (1, .int x1)] [] u Q := by
  refine ws_aload_n 0 (dcd d_Sn_isShut_0 0 rfl) rfl ?_
  refine ws_getI f_Sn_15 rfl (dcd d_Sn_isShut_0 1 rfl) k0 ?_
  refine ws_iload_n 1 (dcd d_Sn_isShut_0 2 rfl) rfl ?_
  refine ws_callSI (As := [.int (mI u o0 1), .int x1]) (st := []) (la := [(0, .int (mI u o0 1)), (1, .int x1)]) (dcd d_Sn_isShut_0 3 rfl) cs_D_isIn k_Sn_46 ⟨by decide, by decide⟩ rfl (Nat.le_of_ble_eq_true rfl) (Nat.le_of_ble_eq_true rfl) rfl rfl sp_D_isIn ?_
  rintro _ _ ⟨rfl, ⟨rfl, c1⟩ | ⟨rfl, c1⟩⟩
  · have h := h.1 c1
    exact ws_iret (dcd d_Sn_isShut_0 4 rfl) ⟨_, rfl, by decide⟩ h
  · have h := h.2 c1
    exact ws_iret (dcd d_Sn_isShut_0 4 rfl) ⟨_, rfl, by decide⟩ h
theorem sg_Sn_shutCount_0 {o0 : Nat} (k0 : okS o0 5) (h : Q (some (.int (bcV (mI u o0 1)))) u) : Ws G Sn_shutCount 0 [(0, .ref o0)] [] u Q := by
  refine ws_aload_n 0 (dcd d_Sn_shutCount_0 0 rfl) rfl ?_
  refine ws_getI f_Sn_15 rfl (dcd d_Sn_shutCount_0 1 rfl) k0 ?_
  refine ws_callSI (As := [.int (mI u o0 1)]) (st := []) (la := [(0, .int (mI u o0 1))]) (dcd d_Sn_shutCount_0 2 rfl) cs_ji_bitCount k_Sn_50 ⟨by decide, by decide⟩ rfl (Nat.le_of_ble_eq_true rfl) (Nat.le_of_ble_eq_true rfl) rfl rfl sp_ji_bitCount ?_
  rintro _ _ ⟨rfl, rfl⟩
  exact ws_iret (dcd d_Sn_shutCount_0 3 rfl) ⟨_, rfl, rfl⟩ h
theorem sg_D_rowOf_0 {x1 : Int32}  (h : (((0 ≤ x1 ∧ x1 < 6) → (vp_in x1 6 ∧ Q (some (.ref (R0 3 (x1 : Int32).toNatClampNeg))) u)) ∧ (¬ (0 ≤ x1 ∧ x1 < 6) → Q (some (.ref 5)) u))) : Ws G D_rowOf 0 [(0, .ref 2), (1, .int x1)] [] u Q := by
  refine ws_iload_n 1 (dcd d_D_rowOf_0 0 rfl) rfl ?_
  refine ws_callSI (As := [.int x1]) (st := []) (la := [(0, .int x1)]) (dcd d_D_rowOf_0 1 rfl) cs_D_isRow k_D_87 ⟨by decide, by decide⟩ rfl (Nat.le_of_ble_eq_true rfl) (Nat.le_of_ble_eq_true rfl) rfl rfl sp_D_isRow ?_
  rintro _ _ ⟨rfl, ⟨rfl, c1⟩ | ⟨rfl, c1⟩⟩
  · have h := h.1 c1
    refine ws_if_eq (tgt := 16) (dcd d_D_rowOf_0 2 rfl) (by decide) (fun c => absurd c (by decide)) (fun _ => ?_)
    refine ws_aload_n 0 (dcd d_D_rowOf_0 3 rfl) rfl ?_
    refine ws_getF (a := 3) f_D_11 rfl (dcd d_D_rowOf_0 4 rfl) ok_2 of_7_0 rfl ?_
    refine ws_iload_n 1 (dcd d_D_rowOf_0 5 rfl) rfl ?_
    obtain ⟨e3, h⟩ := h
    refine ws_aald (L := 6) (dcd d_D_rowOf_0 6 rfl) (os_7_0 ok_2) (by decide) (ol_7_0 ok_2) e3 ?_
    have j4 : okS (R0 3 (x1 : Int32).toNatClampNeg) 6 := (ra_ok (os_7_0 ok_2) (by decide) (by rw [show (S0 3).2 = 6 from (ol_7_0 ok_2)]; exact ix_lt e3)).2
    refine ws_goto (tgt := 20) (dcd d_D_rowOf_0 7 rfl) (by decide) ?_
    exact ws_aret (dcd d_D_rowOf_0 10 rfl) ⟨_, rfl⟩ h
  · have h := h.2 c1
    refine ws_if_eq (tgt := 16) (dcd d_D_rowOf_0 2 rfl) (by decide) (fun _ => ?_) (fun c => absurd (show (0 : Int32) = 0 from by decide) c)
    refine ws_aload_n 0 (dcd d_D_rowOf_0 8 rfl) rfl ?_
    refine ws_getF (a := 5) f_D_21 rfl (dcd d_D_rowOf_0 9 rfl) ok_2 of_7_2 rfl ?_
    exact ws_aret (dcd d_D_rowOf_0 10 rfl) ⟨_, rfl⟩ h
theorem sg_D_textOf_0 {x1 : Int32}  (h : (((0 ≤ x1 ∧ x1 < 4) → (vp_in x1 4 ∧ Q (some (.ref (R0 4 (x1 : Int32).toNatClampNeg))) u)) ∧ (¬ (0 ≤ x1 ∧ x1 < 4) → Q (some (.ref 5)) u))) : Ws G D_textOf 0 [(0, .ref 2), (1, .int x1)] [] u Q := by
  refine ws_iload_n 1 (dcd d_D_textOf_0 0 rfl) rfl ?_
  refine ws_callSI (As := [.int x1]) (st := []) (la := [(0, .int x1)]) (dcd d_D_textOf_0 1 rfl) cs_D_isText k_D_141 ⟨by decide, by decide⟩ rfl (Nat.le_of_ble_eq_true rfl) (Nat.le_of_ble_eq_true rfl) rfl rfl sp_D_isText ?_
  rintro _ _ ⟨rfl, ⟨rfl, c1⟩ | ⟨rfl, c1⟩⟩
  · have h := h.1 c1
    refine ws_if_eq (tgt := 16) (dcd d_D_textOf_0 2 rfl) (by decide) (fun c => absurd c (by decide)) (fun _ => ?_)
    refine ws_aload_n 0 (dcd d_D_textOf_0 3 rfl) rfl ?_
    refine ws_getF (a := 4) f_D_15 rfl (dcd d_D_textOf_0 4 rfl) ok_2 of_7_1 rfl ?_
    refine ws_iload_n 1 (dcd d_D_textOf_0 5 rfl) rfl ?_
    obtain ⟨e3, h⟩ := h
    refine ws_aald (L := 4) (dcd d_D_textOf_0 6 rfl) (os_7_1 ok_2) (by decide) (ol_7_1 ok_2) e3 ?_
    have j4 : okS (R0 4 (x1 : Int32).toNatClampNeg) 6 := (ra_ok (os_7_1 ok_2) (by decide) (by rw [show (S0 4).2 = 4 from (ol_7_1 ok_2)]; exact ix_lt e3)).2
    refine ws_goto (tgt := 20) (dcd d_D_textOf_0 7 rfl) (by decide) ?_
    exact ws_aret (dcd d_D_textOf_0 10 rfl) ⟨_, rfl⟩ h
  · have h := h.2 c1
    refine ws_if_eq (tgt := 16) (dcd d_D_textOf_0 2 rfl) (by decide) (fun _ => ?_) (fun c => absurd (show (0 : Int32) = 0 from by decide) c)
    refine ws_aload_n 0 (dcd d_D_textOf_0 8 rfl) rfl ?_
    refine ws_getF (a := 5) f_D_21 rfl (dcd d_D_textOf_0 9 rfl) ok_2 of_7_2 rfl ?_
    exact ws_aret (dcd d_D_textOf_0 10 rfl) ⟨_, rfl⟩ h
theorem sg_D_keptOf_0 {x1 : Int32}  (h : (((0 ≤ x1 ∧ x1 < 3) → (vp_in x1 3 ∧ Q (some (.ref (R0 9 (x1 : Int32).toNatClampNeg))) u)) ∧ (¬ (0 ≤ x1 ∧ x1 < 3) → Q (some (.ref 10)) u))) : Ws G D_keptOf 0 [(0, .ref 2), (1, .int x1)] [] u Q := by
  refine ws_iload_n 1 (dcd d_D_keptOf_0 0 rfl) rfl ?_
  refine ws_callSI (As := [.int x1]) (st := []) (la := [(0, .int x1)]) (dcd d_D_keptOf_0 1 rfl) cs_D_isKeptPlace k_D_237 ⟨by decide, by decide⟩ rfl (Nat.le_of_ble_eq_true rfl) (Nat.le_of_ble_eq_true rfl) rfl rfl sp_D_isKeptPlace ?_
  rintro _ _ ⟨rfl, ⟨rfl, c1⟩ | ⟨rfl, c1⟩⟩
  · have h := h.1 c1
    refine ws_if_eq (tgt := 16) (dcd d_D_keptOf_0 2 rfl) (by decide) (fun c => absurd c (by decide)) (fun _ => ?_)
    refine ws_aload_n 0 (dcd d_D_keptOf_0 3 rfl) rfl ?_
    refine ws_getF (a := 9) f_D_32 rfl (dcd d_D_keptOf_0 4 rfl) ok_2 of_7_4 rfl ?_
    refine ws_iload_n 1 (dcd d_D_keptOf_0 5 rfl) rfl ?_
    obtain ⟨e3, h⟩ := h
    refine ws_aald (L := 3) (dcd d_D_keptOf_0 6 rfl) (os_7_4 ok_2) (by decide) (ol_7_4 ok_2) e3 ?_
    have j4 : okS (R0 9 (x1 : Int32).toNatClampNeg) 5 := (ra_ok (os_7_4 ok_2) (by decide) (by rw [show (S0 9).2 = 3 from (ol_7_4 ok_2)]; exact ix_lt e3)).2
    refine ws_goto (tgt := 20) (dcd d_D_keptOf_0 7 rfl) (by decide) ?_
    exact ws_aret (dcd d_D_keptOf_0 10 rfl) ⟨_, rfl⟩ h
  · have h := h.2 c1
    refine ws_if_eq (tgt := 16) (dcd d_D_keptOf_0 2 rfl) (by decide) (fun _ => ?_) (fun c => absurd (show (0 : Int32) = 0 from by decide) c)
    refine ws_aload_n 0 (dcd d_D_keptOf_0 8 rfl) rfl ?_
    refine ws_getF (a := 10) f_D_36 rfl (dcd d_D_keptOf_0 9 rfl) ok_2 of_7_5 rfl ?_
    exact ws_aret (dcd d_D_keptOf_0 10 rfl) ⟨_, rfl⟩ h
end SEG
end
section
theorem S0_lt (n : Nat) : (S0 n).2 < 2 ^ 31 := by
  rcases Nat.lt_or_ge n 95 with h | h
  · exact Nat.lt_of_le_of_lt ((show ∀ n, n < 95 → (S0 n).2 ≤ 3968 from by decide +kernel) n h) (by decide)
  · have e : S0 n = (0, 0) := by rw [S0, List.getD_eq_getElem?_getD, List.getElem?_eq_none (by show 95 ≤ n; exact h)]; rfl
    rw [e]; decide
section SP
variable {G : pG} {u : pM}
theorem sp_m_going {x1 : Int32} {x2 : Int32} (n0 : vp_in (5 * x1 + 0) 70) (n1 : vp_in (5 * x1 + 2) 70) (n2 : vp_in (5 * x1 + 4) 70) (n3 : (3 ≤ (mI u 83 ((5 * x1 + 0) : Int32).toNatClampNeg) → ¬ (mI u 83 ((5 * x1 + 4) : Int32).toNatClampNeg) = 0)) : Ws G m_going 0 [(0, .ref 76), (1, .int x1), (2, .int x2)] [] u (RI fun x u' => (goV (mI u 83 ((5 * x1 + 0) : Int32).toNatClampNeg) (mI u 83 ((5 * x1 + 2) : Int32).toNatClampNeg) (mI u 83 ((5 * x1 + 4) : Int32).toNatClampNeg) x2) = x ∧ u = u') := by
  refine sg_m_going_0  ?_
  exact ⟨n0, n1, n2, n3, _, rfl, rfl, rfl⟩
theorem sp_m_isRow {x0 : Int32}  : Ws G m_isRow 0 [(0, .int x0)] [] u (RI fun x u' => u = u' ∧ (x = 1 ∧ (0 ≤ x0 ∧ x0 ≤ 5) ∨ x = 0 ∧ ¬ (0 ≤ x0 ∧ x0 ≤ 5))) := by
  refine sg_m_isRow_0  ?_
  first | (simp only [rB1, rB0, rVi, rVj, rVr, rVv, mt, hereV, kindV, goV, dAt, wayV, spH, spG, spS, goC, wtS, wtT, plS, wrV, snD, snS, snB, dF, isI, shO, wkV, roV, txV, kpV]; done) | (simp only [rB1, rB0, rVi, rVj, rVr, rVv, mt, hereV, kindV, goV, dAt, wayV, spH, spG, spS, goC, wtS, wtT, plS, wrV, snD, snS, snB, dF, isI, shO, wkV, roV, txV, kpV]; grind [vin]) | (simp only [rB1, rB0, rVi, rVj, rVr, rVv, mt, hereV, kindV, goV, dAt, wayV, spH, spG, spS, goC, wtS, wtT, plS, wrV, snD, snS, snB, dF, isI, shO, wkV, roV, txV, kpV, i64_0]; grind [vin])
theorem sp_m_isText {x0 : Int32}  : Ws G m_isText 0 [(0, .int x0)] [] u (RI fun x u' => u = u' ∧ (x = 1 ∧ (0 ≤ x0 ∧ x0 ≤ 3) ∨ x = 0 ∧ ¬ (0 ≤ x0 ∧ x0 ≤ 3))) := by
  refine sg_m_isText_0  ?_
  first | (simp only [rB1, rB0, rVi, rVj, rVr, rVv, mt, hereV, kindV, goV, dAt, wayV, spH, spG, spS, goC, wtS, wtT, plS, wrV, snD, snS, snB, dF, isI, shO, wkV, roV, txV, kpV]; done) | (simp only [rB1, rB0, rVi, rVj, rVr, rVv, mt, hereV, kindV, goV, dAt, wayV, spH, spG, spS, goC, wtS, wtT, plS, wrV, snD, snS, snB, dF, isI, shO, wkV, roV, txV, kpV]; grind [vin]) | (simp only [rB1, rB0, rVi, rVj, rVr, rVv, mt, hereV, kindV, goV, dAt, wayV, spH, spG, spS, goC, wtS, wtT, plS, wrV, snD, snS, snB, dF, isI, shO, wkV, roV, txV, kpV, i64_0]; grind [vin])
theorem sp_m_isShop {x1 : Int32}  : Ws G m_isShop 0 [(0, .ref 76), (1, .int x1)] [] u (RI fun x u' => u = u' ∧ (x = 1 ∧ (0 ≤ x1 ∧ x1 ≤ (mI u 76 11) - 1) ∨ x = 0 ∧ ¬ (0 ≤ x1 ∧ x1 ≤ (mI u 76 11) - 1))) := by
  refine sg_m_isShop_0  ?_
  first | (simp only [rB1, rB0, rVi, rVj, rVr, rVv, mt, hereV, kindV, goV, dAt, wayV, spH, spG, spS, goC, wtS, wtT, plS, wrV, snD, snS, snB, dF, isI, shO, wkV, roV, txV, kpV]; done) | (simp only [rB1, rB0, rVi, rVj, rVr, rVv, mt, hereV, kindV, goV, dAt, wayV, spH, spG, spS, goC, wtS, wtT, plS, wrV, snD, snS, snB, dF, isI, shO, wkV, roV, txV, kpV]; grind [vin]) | (simp only [rB1, rB0, rVi, rVj, rVr, rVv, mt, hereV, kindV, goV, dAt, wayV, spH, spG, spS, goC, wtS, wtT, plS, wrV, snD, snS, snB, dF, isI, shO, wkV, roV, txV, kpV, i64_0]; grind [vin])
theorem sp_m_isDoor {x1 : Int32}  : Ws G m_isDoor 0 [(0, .ref 76), (1, .int x1)] [] u (RI fun x u' => u = u' ∧ (x = 1 ∧ (0 ≤ x1 ∧ x1 ≤ (mI u 76 10) - 1) ∨ x = 0 ∧ ¬ (0 ≤ x1 ∧ x1 ≤ (mI u 76 10) - 1))) := by
  refine sg_m_isDoor_0  ?_
  first | (simp only [rB1, rB0, rVi, rVj, rVr, rVv, mt, hereV, kindV, goV, dAt, wayV, spH, spG, spS, goC, wtS, wtT, plS, wrV, snD, snS, snB, dF, isI, shO, wkV, roV, txV, kpV]; done) | (simp only [rB1, rB0, rVi, rVj, rVr, rVv, mt, hereV, kindV, goV, dAt, wayV, spH, spG, spS, goC, wtS, wtT, plS, wrV, snD, snS, snB, dF, isI, shO, wkV, roV, txV, kpV]; grind [vin]) | (simp only [rB1, rB0, rVi, rVj, rVr, rVv, mt, hereV, kindV, goV, dAt, wayV, spH, spG, spS, goC, wtS, wtT, plS, wrV, snD, snS, snB, dF, isI, shO, wkV, roV, txV, kpV, i64_0]; grind [vin])
theorem sp_m_isSet {x1 : Int32}  : Ws G m_isSet 0 [(0, .ref 76), (1, .int x1)] [] u (RI fun x u' => u = u' ∧ (x = 1 ∧ (0 ≤ x1 ∧ x1 ≤ (1 <<< ((mI u 76 11) &&& 31)) - 1) ∨ x = 0 ∧ ¬ (0 ≤ x1 ∧ x1 ≤ (1 <<< ((mI u 76 11) &&& 31)) - 1))) := by
  refine sg_m_isSet_0  ?_
  first | (simp only [rB1, rB0, rVi, rVj, rVr, rVv, mt, hereV, kindV, goV, dAt, wayV, spH, spG, spS, goC, wtS, wtT, plS, wrV, snD, snS, snB, dF, isI, shO, wkV, roV, txV, kpV]; done) | (simp only [rB1, rB0, rVi, rVj, rVr, rVv, mt, hereV, kindV, goV, dAt, wayV, spH, spG, spS, goC, wtS, wtT, plS, wrV, snD, snS, snB, dF, isI, shO, wkV, roV, txV, kpV]; grind [vin]) | (simp only [rB1, rB0, rVi, rVj, rVr, rVv, mt, hereV, kindV, goV, dAt, wayV, spH, spG, spS, goC, wtS, wtT, plS, wrV, snD, snS, snB, dF, isI, shO, wkV, roV, txV, kpV, i64_0]; grind [vin])
theorem sp_Sp_get {o0 : Nat} {x1 : Int32} (k0 : okS o0 6) : Ws G Sp_get 0 [(0, .ref o0), (1, .int x1)] [] u (RI fun x u' => (spG u o0 x1) = x ∧ u = u') := by
  refine sg_Sp_get_0 k0 ?_
  exact ⟨fun c => ⟨vin c.1 c.2.2 (S0_lt _), _, rfl, if_pos c, rfl⟩, fun c => ⟨_, rfl, if_neg c, rfl⟩⟩
theorem sp_Sp_set {o0 : Nat} {x1 : Int32} {x2 : Int32} (k0 : okS o0 6) : Ws G Sp_set 0 [(0, .ref o0), (1, .int x1), (2, .int x2)] [] u (RV fun u' => (spS u o0 x1 x2) = u') := by
  refine sg_Sp_set_0 k0 ?_
  exact ⟨fun c => ⟨vin c.1 c.2.2 (S0_lt _), rfl, if_pos c⟩, fun c => ⟨rfl, if_neg c⟩⟩
theorem sp_Sh_goingIn {o0 : Nat} {x1 : Int32} (k0 : okS o0 4) : Ws G Sh_goingIn 0 [(0, .ref o0), (1, .int x1)] [] u (RI fun x u' => (goC (mI u o0 0) (mI u o0 4) (mI u o0 2) x1) = x ∧ u = u') := by
  refine sg_Sh_goingIn_0 k0 ?_
  first | (simp only [rB1, rB0, rVi, rVj, rVr, rVv, mt, hereV, kindV, goV, dAt, wayV, spH, spG, spS, goC, wtS, wtT, plS, wrV, snD, snS, snB, dF, isI, shO, wkV, roV, txV, kpV]; done) | (simp only [rB1, rB0, rVi, rVj, rVr, rVv, mt, hereV, kindV, goV, dAt, wayV, spH, spG, spS, goC, wtS, wtT, plS, wrV, snD, snS, snB, dF, isI, shO, wkV, roV, txV, kpV]; grind [vin]) | (simp only [rB1, rB0, rVi, rVj, rVr, rVv, mt, hereV, kindV, goV, dAt, wayV, spH, spG, spS, goC, wtS, wtT, plS, wrV, snD, snS, snB, dF, isI, shO, wkV, roV, txV, kpV, i64_0]; grind [vin])
theorem sp_Pl_shopOf {o0 : Nat} {x1 : Int32} (k0 : okS o0 2) : Ws G Pl_shopOf 0 [(0, .ref o0), (1, .int x1)] [] u (RR fun x u' => (shO u o0 x1) = x ∧ u = u') := by
  refine sg_Pl_shopOf_0 k0 ?_
  first | (simp only [rB1, rB0, rVi, rVj, rVr, rVv, mt, hereV, kindV, goV, dAt, wayV, spH, spG, spS, goC, wtS, wtT, plS, wrV, snD, snS, snB, dF, isI, shO, wkV, roV, txV, kpV]; done) | (simp only [rB1, rB0, rVi, rVj, rVr, rVv, mt, hereV, kindV, goV, dAt, wayV, spH, spG, spS, goC, wtS, wtT, plS, wrV, snD, snS, snB, dF, isI, shO, wkV, roV, txV, kpV]; grind [vin]) | (simp only [rB1, rB0, rVi, rVj, rVr, rVv, mt, hereV, kindV, goV, dAt, wayV, spH, spG, spS, goC, wtS, wtT, plS, wrV, snD, snS, snB, dF, isI, shO, wkV, roV, txV, kpV, i64_0]; grind [vin])
theorem sp_Pl_walking {o0 : Nat} {x1 : Int32} {x2 : Int32} (k0 : okS o0 2) : Ws G Pl_walking 0 [(0, .ref o0), (1, .int x1), (2, .int x2)] [] u (RI fun x u' => (wkV (mI u o0 0) x1 x2) = x ∧ u = u') := by
  refine sg_Pl_walking_0 k0 ?_
  first | (simp only [rB1, rB0, rVi, rVj, rVr, rVv, mt, hereV, kindV, goV, dAt, wayV, spH, spG, spS, goC, wtS, wtT, plS, wrV, snD, snS, snB, dF, isI, shO, wkV, roV, txV, kpV]; done) | (simp only [rB1, rB0, rVi, rVj, rVr, rVv, mt, hereV, kindV, goV, dAt, wayV, spH, spG, spS, goC, wtS, wtT, plS, wrV, snD, snS, snB, dF, isI, shO, wkV, roV, txV, kpV]; grind [vin]) | (simp only [rB1, rB0, rVi, rVj, rVr, rVv, mt, hereV, kindV, goV, dAt, wayV, spH, spG, spS, goC, wtS, wtT, plS, wrV, snD, snS, snB, dF, isI, shO, wkV, roV, txV, kpV, i64_0]; grind [vin])
theorem sp_Sn_isShut {o0 : Nat} {x1 : Int32} (k0 : okS o0 5) : Ws G Sn_isShut 0 [(0, .ref o0), (1, .int x1)] [] u (RI fun x u' => u = u' ∧ (x = 1 ∧ (isI (mI u o0 1) x1) ∨ x = 0 ∧ ¬ (isI (mI u o0 1) x1))) := by
  refine sg_Sn_isShut_0 k0 ?_
  first | (simp only [rB1, rB0, rVi, rVj, rVr, rVv, mt, hereV, kindV, goV, dAt, wayV, spH, spG, spS, goC, wtS, wtT, plS, wrV, snD, snS, snB, dF, isI, shO, wkV, roV, txV, kpV]; done) | (simp only [rB1, rB0, rVi, rVj, rVr, rVv, mt, hereV, kindV, goV, dAt, wayV, spH, spG, spS, goC, wtS, wtT, plS, wrV, snD, snS, snB, dF, isI, shO, wkV, roV, txV, kpV]; grind [vin]) | (simp only [rB1, rB0, rVi, rVj, rVr, rVv, mt, hereV, kindV, goV, dAt, wayV, spH, spG, spS, goC, wtS, wtT, plS, wrV, snD, snS, snB, dF, isI, shO, wkV, roV, txV, kpV, i64_0]; grind [vin])
theorem sp_Sn_shutCount {o0 : Nat} (k0 : okS o0 5) : Ws G Sn_shutCount 0 [(0, .ref o0)] [] u (RI fun x u' => (bcV (mI u o0 1)) = x ∧ u = u') := by
  refine sg_Sn_shutCount_0 k0 ?_
  first | (simp only [rB1, rB0, rVi, rVj, rVr, rVv, mt, hereV, kindV, goV, dAt, wayV, spH, spG, spS, goC, wtS, wtT, plS, wrV, snD, snS, snB, dF, isI, shO, wkV, roV, txV, kpV]; done) | (simp only [rB1, rB0, rVi, rVj, rVr, rVv, mt, hereV, kindV, goV, dAt, wayV, spH, spG, spS, goC, wtS, wtT, plS, wrV, snD, snS, snB, dF, isI, shO, wkV, roV, txV, kpV]; grind [vin]) | (simp only [rB1, rB0, rVi, rVj, rVr, rVv, mt, hereV, kindV, goV, dAt, wayV, spH, spG, spS, goC, wtS, wtT, plS, wrV, snD, snS, snB, dF, isI, shO, wkV, roV, txV, kpV, i64_0]; grind [vin])
theorem sp_D_rowOf {x1 : Int32}  : Ws G D_rowOf 0 [(0, .ref 2), (1, .int x1)] [] u (RR fun x u' => (roV x1) = x ∧ u = u') := by
  refine sg_D_rowOf_0  ?_
  first | (simp only [rB1, rB0, rVi, rVj, rVr, rVv, mt, hereV, kindV, goV, dAt, wayV, spH, spG, spS, goC, wtS, wtT, plS, wrV, snD, snS, snB, dF, isI, shO, wkV, roV, txV, kpV]; done) | (simp only [rB1, rB0, rVi, rVj, rVr, rVv, mt, hereV, kindV, goV, dAt, wayV, spH, spG, spS, goC, wtS, wtT, plS, wrV, snD, snS, snB, dF, isI, shO, wkV, roV, txV, kpV]; grind [vin]) | (simp only [rB1, rB0, rVi, rVj, rVr, rVv, mt, hereV, kindV, goV, dAt, wayV, spH, spG, spS, goC, wtS, wtT, plS, wrV, snD, snS, snB, dF, isI, shO, wkV, roV, txV, kpV, i64_0]; grind [vin])
theorem sp_D_textOf {x1 : Int32}  : Ws G D_textOf 0 [(0, .ref 2), (1, .int x1)] [] u (RR fun x u' => (txV x1) = x ∧ u = u') := by
  refine sg_D_textOf_0  ?_
  first | (simp only [rB1, rB0, rVi, rVj, rVr, rVv, mt, hereV, kindV, goV, dAt, wayV, spH, spG, spS, goC, wtS, wtT, plS, wrV, snD, snS, snB, dF, isI, shO, wkV, roV, txV, kpV]; done) | (simp only [rB1, rB0, rVi, rVj, rVr, rVv, mt, hereV, kindV, goV, dAt, wayV, spH, spG, spS, goC, wtS, wtT, plS, wrV, snD, snS, snB, dF, isI, shO, wkV, roV, txV, kpV]; grind [vin]) | (simp only [rB1, rB0, rVi, rVj, rVr, rVv, mt, hereV, kindV, goV, dAt, wayV, spH, spG, spS, goC, wtS, wtT, plS, wrV, snD, snS, snB, dF, isI, shO, wkV, roV, txV, kpV, i64_0]; grind [vin])
theorem sp_D_keptOf {x1 : Int32}  : Ws G D_keptOf 0 [(0, .ref 2), (1, .int x1)] [] u (RR fun x u' => (kpV x1) = x ∧ u = u') := by
  refine sg_D_keptOf_0  ?_
  first | (simp only [rB1, rB0, rVi, rVj, rVr, rVv, mt, hereV, kindV, goV, dAt, wayV, spH, spG, spS, goC, wtS, wtT, plS, wrV, snD, snS, snB, dF, isI, shO, wkV, roV, txV, kpV]; done) | (simp only [rB1, rB0, rVi, rVj, rVr, rVv, mt, hereV, kindV, goV, dAt, wayV, spH, spG, spS, goC, wtS, wtT, plS, wrV, snD, snS, snB, dF, isI, shO, wkV, roV, txV, kpV]; grind [vin]) | (simp only [rB1, rB0, rVi, rVj, rVr, rVv, mt, hereV, kindV, goV, dAt, wayV, spH, spG, spS, goC, wtS, wtT, plS, wrV, snD, snS, snB, dF, isI, shO, wkV, roV, txV, kpV, i64_0]; grind [vin])
end SP
end
