section
-- ===== PART A: goes FIRST, ahead of the names: the tables' words, and 'selects' of the private methods out of them =====
/-- a private method of a class that the tables say can be made, by its rows of tables_1 -/
def lw_okq (q : MethodName × Nat) : Prop := (q.1.cls ≠ "java/lang/invoke/MethodHandle" ∧ q.1.cls ≠ "java/lang/invoke/VarHandle") ∧ Cond.instantiable q.1.cls q.2 ∈ tables_1 ∧ Cond.privateMethod q.1 ∈ tables_1 ∧ Cond.instanceMethod q.1 ∈ tables_1
theorem lw_p0 : lw_okq (⟨"DoorRounds", "found", "(I)I"⟩, 16) := ⟨⟨by decide +kernel, by decide +kernel⟩, List.mem_of_getElem? (i := 15) (by decide +kernel), List.mem_of_getElem? (i := 238) (by decide +kernel), List.mem_of_getElem? (i := 239) (by decide +kernel)⟩
theorem lw_p1 : lw_okq (⟨"DoorRounds", "rowOf", "(I)LDoorRounds$Strip;"⟩, 16) := ⟨⟨by decide +kernel, by decide +kernel⟩, List.mem_of_getElem? (i := 15) (by decide +kernel), List.mem_of_getElem? (i := 242) (by decide +kernel), List.mem_of_getElem? (i := 243) (by decide +kernel)⟩
theorem lw_p2 : lw_okq (⟨"DoorRounds", "tell", "(II)I"⟩, 16) := ⟨⟨by decide +kernel, by decide +kernel⟩, List.mem_of_getElem? (i := 15) (by decide +kernel), List.mem_of_getElem? (i := 280) (by decide +kernel), List.mem_of_getElem? (i := 281) (by decide +kernel)⟩
theorem lw_p3 : lw_okq (⟨"DoorRounds", "textOf", "(I)LDoorRounds$Strip;"⟩, 16) := ⟨⟨by decide +kernel, by decide +kernel⟩, List.mem_of_getElem? (i := 15) (by decide +kernel), List.mem_of_getElem? (i := 319) (by decide +kernel), List.mem_of_getElem? (i := 320) (by decide +kernel)⟩
theorem lw_p4 : lw_okq (⟨"DoorRounds$Plan", "readShop", "(LDoorRounds$Shop;)Z"⟩, 6) := ⟨⟨by decide +kernel, by decide +kernel⟩, List.mem_of_getElem? (i := 97) (by decide +kernel), List.mem_of_getElem? (i := 360) (by decide +kernel), List.mem_of_getElem? (i := 361) (by decide +kernel)⟩
theorem lw_p5 : lw_okq (⟨"DoorRounds$Plan", "isAhead", "(II)Z"⟩, 6) := ⟨⟨by decide +kernel, by decide +kernel⟩, List.mem_of_getElem? (i := 97) (by decide +kernel), List.mem_of_getElem? (i := 396) (by decide +kernel), List.mem_of_getElem? (i := 397) (by decide +kernel)⟩
theorem lw_p6 : lw_okq (⟨"DoorRounds", "keptOf", "(I)LDoorRounds$Standing;"⟩, 16) := ⟨⟨by decide +kernel, by decide +kernel⟩, List.mem_of_getElem? (i := 15) (by decide +kernel), List.mem_of_getElem? (i := 409) (by decide +kernel), List.mem_of_getElem? (i := 410) (by decide +kernel)⟩
theorem lw_p7 : lw_okq (⟨"DoorRounds", "trait", "(II)I"⟩, 16) := ⟨⟨by decide +kernel, by decide +kernel⟩, List.mem_of_getElem? (i := 15) (by decide +kernel), List.mem_of_getElem? (i := 421) (by decide +kernel), List.mem_of_getElem? (i := 422) (by decide +kernel)⟩
theorem lw_p8 : lw_okq (⟨"DoorRounds", "neighbours", "(I)I"⟩, 16) := ⟨⟨by decide +kernel, by decide +kernel⟩, List.mem_of_getElem? (i := 15) (by decide +kernel), List.mem_of_getElem? (i := 438) (by decide +kernel), List.mem_of_getElem? (i := 439) (by decide +kernel)⟩
theorem lw_p9 : lw_okq (⟨"DoorRounds", "rivals", "(I)I"⟩, 16) := ⟨⟨by decide +kernel, by decide +kernel⟩, List.mem_of_getElem? (i := 15) (by decide +kernel), List.mem_of_getElem? (i := 454) (by decide +kernel), List.mem_of_getElem? (i := 455) (by decide +kernel)⟩
theorem lw_p10 : lw_okq (⟨"DoorRounds$Standing", "passOne", "(LDoorRounds$Plan;)V"⟩, 3) := ⟨⟨by decide +kernel, by decide +kernel⟩, List.mem_of_getElem? (i := 44) (by decide +kernel), List.mem_of_getElem? (i := 528) (by decide +kernel), List.mem_of_getElem? (i := 529) (by decide +kernel)⟩
theorem lw_p11 : lw_okq (⟨"DoorRounds", "areTwo", "(II)Z"⟩, 16) := ⟨⟨by decide +kernel, by decide +kernel⟩, List.mem_of_getElem? (i := 15) (by decide +kernel), List.mem_of_getElem? (i := 579) (by decide +kernel), List.mem_of_getElem? (i := 580) (by decide +kernel)⟩
theorem lw_p12 : lw_okq (⟨"DoorRounds$Errands", "leastOf", "(I)J"⟩, 2) := ⟨⟨by decide +kernel, by decide +kernel⟩, List.mem_of_getElem? (i := 83) (by decide +kernel), List.mem_of_getElem? (i := 663) (by decide +kernel), List.mem_of_getElem? (i := 664) (by decide +kernel)⟩
theorem lw_p13 : lw_okq (⟨"DoorRounds", "metBy", "(II)I"⟩, 16) := ⟨⟨by decide +kernel, by decide +kernel⟩, List.mem_of_getElem? (i := 15) (by decide +kernel), List.mem_of_getElem? (i := 685) (by decide +kernel), List.mem_of_getElem? (i := 686) (by decide +kernel)⟩
theorem lw_p14 : lw_okq (⟨"DoorRounds", "passersFinding", "(LDoorRounds$Strip;)I"⟩, 16) := ⟨⟨by decide +kernel, by decide +kernel⟩, List.mem_of_getElem? (i := 15) (by decide +kernel), List.mem_of_getElem? (i := 734) (by decide +kernel), List.mem_of_getElem? (i := 735) (by decide +kernel)⟩
theorem lw_p15 : lw_okq (⟨"DoorRounds", "rentOf", "(LDoorRounds$Strip;II)I"⟩, 16) := ⟨⟨by decide +kernel, by decide +kernel⟩, List.mem_of_getElem? (i := 15) (by decide +kernel), List.mem_of_getElem? (i := 738) (by decide +kernel), List.mem_of_getElem? (i := 739) (by decide +kernel)⟩
def lw_privs_1 : List (MethodName × Nat) := [(⟨"DoorRounds", "found", "(I)I"⟩, 16), (⟨"DoorRounds", "rowOf", "(I)LDoorRounds$Strip;"⟩, 16), (⟨"DoorRounds", "tell", "(II)I"⟩, 16), (⟨"DoorRounds", "textOf", "(I)LDoorRounds$Strip;"⟩, 16), (⟨"DoorRounds$Plan", "readShop", "(LDoorRounds$Shop;)Z"⟩, 6), (⟨"DoorRounds$Plan", "isAhead", "(II)Z"⟩, 6), (⟨"DoorRounds", "keptOf", "(I)LDoorRounds$Standing;"⟩, 16), (⟨"DoorRounds", "trait", "(II)I"⟩, 16), (⟨"DoorRounds", "neighbours", "(I)I"⟩, 16), (⟨"DoorRounds", "rivals", "(I)I"⟩, 16), (⟨"DoorRounds$Standing", "passOne", "(LDoorRounds$Plan;)V"⟩, 3), (⟨"DoorRounds", "areTwo", "(II)Z"⟩, 16), (⟨"DoorRounds$Errands", "leastOf", "(I)J"⟩, 2), (⟨"DoorRounds", "metBy", "(II)I"⟩, 16), (⟨"DoorRounds", "passersFinding", "(LDoorRounds$Strip;)I"⟩, 16), (⟨"DoorRounds", "rentOf", "(LDoorRounds$Strip;II)I"⟩, 16)]
theorem lw_r1 : ∀ q ∈ lw_privs_1, lw_okq q := List.forall_mem_cons.mpr ⟨lw_p0, List.forall_mem_cons.mpr ⟨lw_p1, List.forall_mem_cons.mpr ⟨lw_p2, List.forall_mem_cons.mpr ⟨lw_p3, List.forall_mem_cons.mpr ⟨lw_p4, List.forall_mem_cons.mpr ⟨lw_p5, List.forall_mem_cons.mpr ⟨lw_p6, List.forall_mem_cons.mpr ⟨lw_p7, List.forall_mem_cons.mpr ⟨lw_p8, List.forall_mem_cons.mpr ⟨lw_p9, List.forall_mem_cons.mpr ⟨lw_p10, List.forall_mem_cons.mpr ⟨lw_p11, List.forall_mem_cons.mpr ⟨lw_p12, List.forall_mem_cons.mpr ⟨lw_p13, List.forall_mem_cons.mpr ⟨lw_p14, List.forall_mem_cons.mpr ⟨lw_p15, fun _ h => absurd h List.not_mem_nil⟩⟩⟩⟩⟩⟩⟩⟩⟩⟩⟩⟩⟩⟩⟩⟩
theorem lw_p16 : lw_okq (⟨"DoorRounds", "tellFraction", "(JJ)V"⟩, 16) := ⟨⟨by decide +kernel, by decide +kernel⟩, List.mem_of_getElem? (i := 15) (by decide +kernel), List.mem_of_getElem? (i := 746) (by decide +kernel), List.mem_of_getElem? (i := 747) (by decide +kernel)⟩
theorem lw_p17 : lw_okq (⟨"DoorRounds", "imageFinding", "(LDoorRounds$Strip;)I"⟩, 16) := ⟨⟨by decide +kernel, by decide +kernel⟩, List.mem_of_getElem? (i := 15) (by decide +kernel), List.mem_of_getElem? (i := 767) (by decide +kernel), List.mem_of_getElem? (i := 768) (by decide +kernel)⟩
theorem lw_p18 : lw_okq (⟨"DoorRounds", "countOf", "(I)I"⟩, 16) := ⟨⟨by decide +kernel, by decide +kernel⟩, List.mem_of_getElem? (i := 15) (by decide +kernel), List.mem_of_getElem? (i := 792) (by decide +kernel), List.mem_of_getElem? (i := 793) (by decide +kernel)⟩
theorem lw_p19 : lw_okq (⟨"DoorRoundsModel", "meet", "(I)I"⟩, 33) := ⟨⟨by decide +kernel, by decide +kernel⟩, List.mem_of_getElem? (i := 828) (by decide +kernel), List.mem_of_getElem? (i := 944) (by decide +kernel), List.mem_of_getElem? (i := 945) (by decide +kernel)⟩
theorem lw_p20 : lw_okq (⟨"DoorRoundsModel", "setRow", "(III)V"⟩, 33) := ⟨⟨by decide +kernel, by decide +kernel⟩, List.mem_of_getElem? (i := 828) (by decide +kernel), List.mem_of_getElem? (i := 948) (by decide +kernel), List.mem_of_getElem? (i := 949) (by decide +kernel)⟩
theorem lw_p21 : lw_okq (⟨"DoorRoundsModel", "askedRow", "(I)I"⟩, 33) := ⟨⟨by decide +kernel, by decide +kernel⟩, List.mem_of_getElem? (i := 828) (by decide +kernel), List.mem_of_getElem? (i := 956) (by decide +kernel), List.mem_of_getElem? (i := 957) (by decide +kernel)⟩
theorem lw_p22 : lw_okq (⟨"DoorRoundsModel", "rowAt", "(II)I"⟩, 33) := ⟨⟨by decide +kernel, by decide +kernel⟩, List.mem_of_getElem? (i := 828) (by decide +kernel), List.mem_of_getElem? (i := 960) (by decide +kernel), List.mem_of_getElem? (i := 961) (by decide +kernel)⟩
theorem lw_p23 : lw_okq (⟨"DoorRoundsModel", "ask", "(II)I"⟩, 33) := ⟨⟨by decide +kernel, by decide +kernel⟩, List.mem_of_getElem? (i := 828) (by decide +kernel), List.mem_of_getElem? (i := 964) (by decide +kernel), List.mem_of_getElem? (i := 965) (by decide +kernel)⟩
theorem lw_p24 : lw_okq (⟨"DoorRoundsModel", "askedText", "(I)I"⟩, 33) := ⟨⟨by decide +kernel, by decide +kernel⟩, List.mem_of_getElem? (i := 828) (by decide +kernel), List.mem_of_getElem? (i := 996) (by decide +kernel), List.mem_of_getElem? (i := 997) (by decide +kernel)⟩
theorem lw_p25 : lw_okq (⟨"DoorRoundsModel", "goesOn", "(I)I"⟩, 33) := ⟨⟨by decide +kernel, by decide +kernel⟩, List.mem_of_getElem? (i := 828) (by decide +kernel), List.mem_of_getElem? (i := 1004) (by decide +kernel), List.mem_of_getElem? (i := 1005) (by decide +kernel)⟩
theorem lw_p26 : lw_okq (⟨"DoorRoundsModel", "here", "(I)I"⟩, 33) := ⟨⟨by decide +kernel, by decide +kernel⟩, List.mem_of_getElem? (i := 828) (by decide +kernel), List.mem_of_getElem? (i := 1008) (by decide +kernel), List.mem_of_getElem? (i := 1009) (by decide +kernel)⟩
theorem lw_p27 : lw_okq (⟨"DoorRoundsModel", "readsDoors", "(I)Z"⟩, 33) := ⟨⟨by decide +kernel, by decide +kernel⟩, List.mem_of_getElem? (i := 828) (by decide +kernel), List.mem_of_getElem? (i := 1012) (by decide +kernel), List.mem_of_getElem? (i := 1013) (by decide +kernel)⟩
theorem lw_p28 : lw_okq (⟨"DoorRoundsModel", "sees", "(II)Z"⟩, 33) := ⟨⟨by decide +kernel, by decide +kernel⟩, List.mem_of_getElem? (i := 828) (by decide +kernel), List.mem_of_getElem? (i := 1016) (by decide +kernel), List.mem_of_getElem? (i := 1017) (by decide +kernel)⟩
theorem lw_p29 : lw_okq (⟨"DoorRoundsModel", "readsNumber", "(III)Z"⟩, 33) := ⟨⟨by decide +kernel, by decide +kernel⟩, List.mem_of_getElem? (i := 828) (by decide +kernel), List.mem_of_getElem? (i := 1020) (by decide +kernel), List.mem_of_getElem? (i := 1021) (by decide +kernel)⟩
theorem lw_p30 : lw_okq (⟨"DoorRoundsModel", "readsShop", "(I)Z"⟩, 33) := ⟨⟨by decide +kernel, by decide +kernel⟩, List.mem_of_getElem? (i := 828) (by decide +kernel), List.mem_of_getElem? (i := 1024) (by decide +kernel), List.mem_of_getElem? (i := 1025) (by decide +kernel)⟩
theorem lw_p31 : lw_okq (⟨"DoorRoundsModel", "isTold", "(I)Z"⟩, 33) := ⟨⟨by decide +kernel, by decide +kernel⟩, List.mem_of_getElem? (i := 828) (by decide +kernel), List.mem_of_getElem? (i := 1031) (by decide +kernel), List.mem_of_getElem? (i := 1032) (by decide +kernel)⟩
def lw_privs_2 : List (MethodName × Nat) := [(⟨"DoorRounds", "tellFraction", "(JJ)V"⟩, 16), (⟨"DoorRounds", "imageFinding", "(LDoorRounds$Strip;)I"⟩, 16), (⟨"DoorRounds", "countOf", "(I)I"⟩, 16), (⟨"DoorRoundsModel", "meet", "(I)I"⟩, 33), (⟨"DoorRoundsModel", "setRow", "(III)V"⟩, 33), (⟨"DoorRoundsModel", "askedRow", "(I)I"⟩, 33), (⟨"DoorRoundsModel", "rowAt", "(II)I"⟩, 33), (⟨"DoorRoundsModel", "ask", "(II)I"⟩, 33), (⟨"DoorRoundsModel", "askedText", "(I)I"⟩, 33), (⟨"DoorRoundsModel", "goesOn", "(I)I"⟩, 33), (⟨"DoorRoundsModel", "here", "(I)I"⟩, 33), (⟨"DoorRoundsModel", "readsDoors", "(I)Z"⟩, 33), (⟨"DoorRoundsModel", "sees", "(II)Z"⟩, 33), (⟨"DoorRoundsModel", "readsNumber", "(III)Z"⟩, 33), (⟨"DoorRoundsModel", "readsShop", "(I)Z"⟩, 33), (⟨"DoorRoundsModel", "isTold", "(I)Z"⟩, 33)]
theorem lw_r2 : ∀ q ∈ lw_privs_2, lw_okq q := List.forall_mem_cons.mpr ⟨lw_p16, List.forall_mem_cons.mpr ⟨lw_p17, List.forall_mem_cons.mpr ⟨lw_p18, List.forall_mem_cons.mpr ⟨lw_p19, List.forall_mem_cons.mpr ⟨lw_p20, List.forall_mem_cons.mpr ⟨lw_p21, List.forall_mem_cons.mpr ⟨lw_p22, List.forall_mem_cons.mpr ⟨lw_p23, List.forall_mem_cons.mpr ⟨lw_p24, List.forall_mem_cons.mpr ⟨lw_p25, List.forall_mem_cons.mpr ⟨lw_p26, List.forall_mem_cons.mpr ⟨lw_p27, List.forall_mem_cons.mpr ⟨lw_p28, List.forall_mem_cons.mpr ⟨lw_p29, List.forall_mem_cons.mpr ⟨lw_p30, List.forall_mem_cons.mpr ⟨lw_p31, fun _ h => absurd h List.not_mem_nil⟩⟩⟩⟩⟩⟩⟩⟩⟩⟩⟩⟩⟩⟩⟩⟩
theorem lw_p32 : lw_okq (⟨"DoorRoundsModel", "readsFigure", "(II)Z"⟩, 33) := ⟨⟨by decide +kernel, by decide +kernel⟩, List.mem_of_getElem? (i := 828) (by decide +kernel), List.mem_of_getElem? (i := 1035) (by decide +kernel), List.mem_of_getElem? (i := 1036) (by decide +kernel)⟩
theorem lw_p33 : lw_okq (⟨"DoorRoundsModel", "tell", "(II)I"⟩, 33) := ⟨⟨by decide +kernel, by decide +kernel⟩, List.mem_of_getElem? (i := 828) (by decide +kernel), List.mem_of_getElem? (i := 1043) (by decide +kernel), List.mem_of_getElem? (i := 1044) (by decide +kernel)⟩
theorem lw_p34 : lw_okq (⟨"DoorRoundsModel", "isShop", "(I)Z"⟩, 33) := ⟨⟨by decide +kernel, by decide +kernel⟩, List.mem_of_getElem? (i := 828) (by decide +kernel), List.mem_of_getElem? (i := 1051) (by decide +kernel), List.mem_of_getElem? (i := 1052) (by decide +kernel)⟩
theorem lw_p35 : lw_okq (⟨"DoorRoundsModel", "aboutOf", "(II)I"⟩, 33) := ⟨⟨by decide +kernel, by decide +kernel⟩, List.mem_of_getElem? (i := 828) (by decide +kernel), List.mem_of_getElem? (i := 1055) (by decide +kernel), List.mem_of_getElem? (i := 1056) (by decide +kernel)⟩
theorem lw_p36 : lw_okq (⟨"DoorRoundsModel", "isSleeper", "(I)Z"⟩, 33) := ⟨⟨by decide +kernel, by decide +kernel⟩, List.mem_of_getElem? (i := 828) (by decide +kernel), List.mem_of_getElem? (i := 1063) (by decide +kernel), List.mem_of_getElem? (i := 1064) (by decide +kernel)⟩
theorem lw_p37 : lw_okq (⟨"DoorRoundsModel", "areBeside", "(II)Z"⟩, 33) := ⟨⟨by decide +kernel, by decide +kernel⟩, List.mem_of_getElem? (i := 828) (by decide +kernel), List.mem_of_getElem? (i := 1067) (by decide +kernel), List.mem_of_getElem? (i := 1068) (by decide +kernel)⟩
theorem lw_p38 : lw_okq (⟨"DoorRoundsModel", "doorAt", "(J)I"⟩, 33) := ⟨⟨by decide +kernel, by decide +kernel⟩, List.mem_of_getElem? (i := 828) (by decide +kernel), List.mem_of_getElem? (i := 1071) (by decide +kernel), List.mem_of_getElem? (i := 1072) (by decide +kernel)⟩
theorem lw_p39 : lw_okq (⟨"DoorRoundsModel", "going", "(II)I"⟩, 33) := ⟨⟨by decide +kernel, by decide +kernel⟩, List.mem_of_getElem? (i := 828) (by decide +kernel), List.mem_of_getElem? (i := 1075) (by decide +kernel), List.mem_of_getElem? (i := 1076) (by decide +kernel)⟩
theorem lw_p40 : lw_okq (⟨"DoorRoundsModel", "isDoor", "(I)Z"⟩, 33) := ⟨⟨by decide +kernel, by decide +kernel⟩, List.mem_of_getElem? (i := 828) (by decide +kernel), List.mem_of_getElem? (i := 1086) (by decide +kernel), List.mem_of_getElem? (i := 1087) (by decide +kernel)⟩
theorem lw_p41 : lw_okq (⟨"DoorRoundsModel", "shutMany", "()I"⟩, 33) := ⟨⟨by decide +kernel, by decide +kernel⟩, List.mem_of_getElem? (i := 828) (by decide +kernel), List.mem_of_getElem? (i := 1090) (by decide +kernel), List.mem_of_getElem? (i := 1091) (by decide +kernel)⟩
theorem lw_p42 : lw_okq (⟨"DoorRoundsModel", "fromNow", "()V"⟩, 33) := ⟨⟨by decide +kernel, by decide +kernel⟩, List.mem_of_getElem? (i := 828) (by decide +kernel), List.mem_of_getElem? (i := 1103) (by decide +kernel), List.mem_of_getElem? (i := 1104) (by decide +kernel)⟩
theorem lw_p43 : lw_okq (⟨"DoorRoundsModel", "passOne", "(II)V"⟩, 33) := ⟨⟨by decide +kernel, by decide +kernel⟩, List.mem_of_getElem? (i := 828) (by decide +kernel), List.mem_of_getElem? (i := 1107) (by decide +kernel), List.mem_of_getElem? (i := 1108) (by decide +kernel)⟩
theorem lw_p44 : lw_okq (⟨"DoorRoundsModel", "taker", "(I)I"⟩, 33) := ⟨⟨by decide +kernel, by decide +kernel⟩, List.mem_of_getElem? (i := 828) (by decide +kernel), List.mem_of_getElem? (i := 1111) (by decide +kernel), List.mem_of_getElem? (i := 1112) (by decide +kernel)⟩
theorem lw_p45 : lw_okq (⟨"DoorRoundsModel", "plainBy", "(IIIIJJ)I"⟩, 33) := ⟨⟨by decide +kernel, by decide +kernel⟩, List.mem_of_getElem? (i := 828) (by decide +kernel), List.mem_of_getElem? (i := 1137) (by decide +kernel), List.mem_of_getElem? (i := 1138) (by decide +kernel)⟩
theorem lw_p46 : lw_okq (⟨"DoorRoundsModel", "isPair", "(III)Z"⟩, 33) := ⟨⟨by decide +kernel, by decide +kernel⟩, List.mem_of_getElem? (i := 828) (by decide +kernel), List.mem_of_getElem? (i := 1169) (by decide +kernel), List.mem_of_getElem? (i := 1170) (by decide +kernel)⟩
theorem lw_p47 : lw_okq (⟨"DoorRoundsModel", "divisor", "(I)I"⟩, 33) := ⟨⟨by decide +kernel, by decide +kernel⟩, List.mem_of_getElem? (i := 828) (by decide +kernel), List.mem_of_getElem? (i := 1173) (by decide +kernel), List.mem_of_getElem? (i := 1174) (by decide +kernel)⟩
def lw_privs_3 : List (MethodName × Nat) := [(⟨"DoorRoundsModel", "readsFigure", "(II)Z"⟩, 33), (⟨"DoorRoundsModel", "tell", "(II)I"⟩, 33), (⟨"DoorRoundsModel", "isShop", "(I)Z"⟩, 33), (⟨"DoorRoundsModel", "aboutOf", "(II)I"⟩, 33), (⟨"DoorRoundsModel", "isSleeper", "(I)Z"⟩, 33), (⟨"DoorRoundsModel", "areBeside", "(II)Z"⟩, 33), (⟨"DoorRoundsModel", "doorAt", "(J)I"⟩, 33), (⟨"DoorRoundsModel", "going", "(II)I"⟩, 33), (⟨"DoorRoundsModel", "isDoor", "(I)Z"⟩, 33), (⟨"DoorRoundsModel", "shutMany", "()I"⟩, 33), (⟨"DoorRoundsModel", "fromNow", "()V"⟩, 33), (⟨"DoorRoundsModel", "passOne", "(II)V"⟩, 33), (⟨"DoorRoundsModel", "taker", "(I)I"⟩, 33), (⟨"DoorRoundsModel", "plainBy", "(IIIIJJ)I"⟩, 33), (⟨"DoorRoundsModel", "isPair", "(III)Z"⟩, 33), (⟨"DoorRoundsModel", "divisor", "(I)I"⟩, 33)]
theorem lw_r3 : ∀ q ∈ lw_privs_3, lw_okq q := List.forall_mem_cons.mpr ⟨lw_p32, List.forall_mem_cons.mpr ⟨lw_p33, List.forall_mem_cons.mpr ⟨lw_p34, List.forall_mem_cons.mpr ⟨lw_p35, List.forall_mem_cons.mpr ⟨lw_p36, List.forall_mem_cons.mpr ⟨lw_p37, List.forall_mem_cons.mpr ⟨lw_p38, List.forall_mem_cons.mpr ⟨lw_p39, List.forall_mem_cons.mpr ⟨lw_p40, List.forall_mem_cons.mpr ⟨lw_p41, List.forall_mem_cons.mpr ⟨lw_p42, List.forall_mem_cons.mpr ⟨lw_p43, List.forall_mem_cons.mpr ⟨lw_p44, List.forall_mem_cons.mpr ⟨lw_p45, List.forall_mem_cons.mpr ⟨lw_p46, List.forall_mem_cons.mpr ⟨lw_p47, fun _ h => absurd h List.not_mem_nil⟩⟩⟩⟩⟩⟩⟩⟩⟩⟩⟩⟩⟩⟩⟩⟩
theorem lw_p48 : lw_okq (⟨"DoorRoundsModel", "walkOf", "(II)I"⟩, 33) := ⟨⟨by decide +kernel, by decide +kernel⟩, List.mem_of_getElem? (i := 828) (by decide +kernel), List.mem_of_getElem? (i := 1185) (by decide +kernel), List.mem_of_getElem? (i := 1186) (by decide +kernel)⟩
theorem lw_p49 : lw_okq (⟨"DoorRoundsModel", "isSet", "(I)Z"⟩, 33) := ⟨⟨by decide +kernel, by decide +kernel⟩, List.mem_of_getElem? (i := 828) (by decide +kernel), List.mem_of_getElem? (i := 1193) (by decide +kernel), List.mem_of_getElem? (i := 1194) (by decide +kernel)⟩
theorem lw_p50 : lw_okq (⟨"DoorRoundsModel", "roundOf", "(II)I"⟩, 33) := ⟨⟨by decide +kernel, by decide +kernel⟩, List.mem_of_getElem? (i := 828) (by decide +kernel), List.mem_of_getElem? (i := 1197) (by decide +kernel), List.mem_of_getElem? (i := 1198) (by decide +kernel)⟩
theorem lw_p51 : lw_okq (⟨"DoorRoundsModel", "leastFor", "(II)I"⟩, 33) := ⟨⟨by decide +kernel, by decide +kernel⟩, List.mem_of_getElem? (i := 828) (by decide +kernel), List.mem_of_getElem? (i := 1210) (by decide +kernel), List.mem_of_getElem? (i := 1211) (by decide +kernel)⟩
theorem lw_p52 : lw_okq (⟨"DoorRoundsModel", "mayIn", "(II)Z"⟩, 33) := ⟨⟨by decide +kernel, by decide +kernel⟩, List.mem_of_getElem? (i := 828) (by decide +kernel), List.mem_of_getElem? (i := 1214) (by decide +kernel), List.mem_of_getElem? (i := 1215) (by decide +kernel)⟩
theorem lw_p53 : lw_okq (⟨"DoorRoundsModel", "joinsOf", "(II)I"⟩, 33) := ⟨⟨by decide +kernel, by decide +kernel⟩, List.mem_of_getElem? (i := 828) (by decide +kernel), List.mem_of_getElem? (i := 1226) (by decide +kernel), List.mem_of_getElem? (i := 1227) (by decide +kernel)⟩
theorem lw_p54 : lw_okq (⟨"DoorRoundsModel", "fits", "(IIII)Z"⟩, 33) := ⟨⟨by decide +kernel, by decide +kernel⟩, List.mem_of_getElem? (i := 828) (by decide +kernel), List.mem_of_getElem? (i := 1253) (by decide +kernel), List.mem_of_getElem? (i := 1254) (by decide +kernel)⟩
theorem lw_p55 : lw_okq (⟨"DoorRoundsModel", "askedRents", "(I)I"⟩, 33) := ⟨⟨by decide +kernel, by decide +kernel⟩, List.mem_of_getElem? (i := 828) (by decide +kernel), List.mem_of_getElem? (i := 1265) (by decide +kernel), List.mem_of_getElem? (i := 1266) (by decide +kernel)⟩
theorem lw_p56 : lw_okq (⟨"DoorRoundsModel", "setRents", "(II)V"⟩, 33) := ⟨⟨by decide +kernel, by decide +kernel⟩, List.mem_of_getElem? (i := 828) (by decide +kernel), List.mem_of_getElem? (i := 1269) (by decide +kernel), List.mem_of_getElem? (i := 1270) (by decide +kernel)⟩
theorem lw_p57 : lw_okq (⟨"DoorRoundsModel", "part", "(JJI)I"⟩, 33) := ⟨⟨by decide +kernel, by decide +kernel⟩, List.mem_of_getElem? (i := 828) (by decide +kernel), List.mem_of_getElem? (i := 1277) (by decide +kernel), List.mem_of_getElem? (i := 1278) (by decide +kernel)⟩
theorem lw_p58 : lw_okq (⟨"DoorRoundsModel", "setPlans", "(I)V"⟩, 33) := ⟨⟨by decide +kernel, by decide +kernel⟩, List.mem_of_getElem? (i := 828) (by decide +kernel), List.mem_of_getElem? (i := 1285) (by decide +kernel), List.mem_of_getElem? (i := 1286) (by decide +kernel)⟩
theorem lw_p59 : lw_okq (⟨"DoorRoundsModel", "othersBy", "(II)I"⟩, 33) := ⟨⟨by decide +kernel, by decide +kernel⟩, List.mem_of_getElem? (i := 828) (by decide +kernel), List.mem_of_getElem? (i := 1289) (by decide +kernel), List.mem_of_getElem? (i := 1290) (by decide +kernel)⟩
theorem lw_p60 : lw_okq (⟨"DoorRoundsModel", "isImage", "(I)Z"⟩, 33) := ⟨⟨by decide +kernel, by decide +kernel⟩, List.mem_of_getElem? (i := 828) (by decide +kernel), List.mem_of_getElem? (i := 1305) (by decide +kernel), List.mem_of_getElem? (i := 1306) (by decide +kernel)⟩
theorem lw_p61 : lw_okq (⟨"DoorRoundsModel", "counts", "(I)I"⟩, 33) := ⟨⟨by decide +kernel, by decide +kernel⟩, List.mem_of_getElem? (i := 828) (by decide +kernel), List.mem_of_getElem? (i := 1325) (by decide +kernel), List.mem_of_getElem? (i := 1326) (by decide +kernel)⟩
theorem lw_p62 : lw_okq (⟨"DoorRoundsModel", "mix", "(I)V"⟩, 33) := ⟨⟨by decide +kernel, by decide +kernel⟩, List.mem_of_getElem? (i := 828) (by decide +kernel), List.mem_of_getElem? (i := 1342) (by decide +kernel), List.mem_of_getElem? (i := 1343) (by decide +kernel)⟩
theorem lw_p63 : lw_okq (⟨"DoorRoundsModel", "mixSquare", "()V"⟩, 33) := ⟨⟨by decide +kernel, by decide +kernel⟩, List.mem_of_getElem? (i := 828) (by decide +kernel), List.mem_of_getElem? (i := 1347) (by decide +kernel), List.mem_of_getElem? (i := 1348) (by decide +kernel)⟩
def lw_privs_4 : List (MethodName × Nat) := [(⟨"DoorRoundsModel", "walkOf", "(II)I"⟩, 33), (⟨"DoorRoundsModel", "isSet", "(I)Z"⟩, 33), (⟨"DoorRoundsModel", "roundOf", "(II)I"⟩, 33), (⟨"DoorRoundsModel", "leastFor", "(II)I"⟩, 33), (⟨"DoorRoundsModel", "mayIn", "(II)Z"⟩, 33), (⟨"DoorRoundsModel", "joinsOf", "(II)I"⟩, 33), (⟨"DoorRoundsModel", "fits", "(IIII)Z"⟩, 33), (⟨"DoorRoundsModel", "askedRents", "(I)I"⟩, 33), (⟨"DoorRoundsModel", "setRents", "(II)V"⟩, 33), (⟨"DoorRoundsModel", "part", "(JJI)I"⟩, 33), (⟨"DoorRoundsModel", "setPlans", "(I)V"⟩, 33), (⟨"DoorRoundsModel", "othersBy", "(II)I"⟩, 33), (⟨"DoorRoundsModel", "isImage", "(I)Z"⟩, 33), (⟨"DoorRoundsModel", "counts", "(I)I"⟩, 33), (⟨"DoorRoundsModel", "mix", "(I)V"⟩, 33), (⟨"DoorRoundsModel", "mixSquare", "()V"⟩, 33)]
theorem lw_r4 : ∀ q ∈ lw_privs_4, lw_okq q := List.forall_mem_cons.mpr ⟨lw_p48, List.forall_mem_cons.mpr ⟨lw_p49, List.forall_mem_cons.mpr ⟨lw_p50, List.forall_mem_cons.mpr ⟨lw_p51, List.forall_mem_cons.mpr ⟨lw_p52, List.forall_mem_cons.mpr ⟨lw_p53, List.forall_mem_cons.mpr ⟨lw_p54, List.forall_mem_cons.mpr ⟨lw_p55, List.forall_mem_cons.mpr ⟨lw_p56, List.forall_mem_cons.mpr ⟨lw_p57, List.forall_mem_cons.mpr ⟨lw_p58, List.forall_mem_cons.mpr ⟨lw_p59, List.forall_mem_cons.mpr ⟨lw_p60, List.forall_mem_cons.mpr ⟨lw_p61, List.forall_mem_cons.mpr ⟨lw_p62, List.forall_mem_cons.mpr ⟨lw_p63, fun _ h => absurd h List.not_mem_nil⟩⟩⟩⟩⟩⟩⟩⟩⟩⟩⟩⟩⟩⟩⟩⟩
def lw_privs : List (MethodName × Nat) := lw_privs_1 ++ (lw_privs_2 ++ (lw_privs_3 ++ (lw_privs_4)))
def lw_tbl : List Cond := k2_sels lw_privs ++ tables_1
theorem lw_privs_ok : ∀ q ∈ lw_privs, lw_okq q := by
  show ∀ q ∈ lw_privs_1 ++ (lw_privs_2 ++ (lw_privs_3 ++ (lw_privs_4))), lw_okq q
  exact List.forall_mem_append.mpr ⟨lw_r1, List.forall_mem_append.mpr ⟨lw_r2, List.forall_mem_append.mpr ⟨lw_r3, lw_r4⟩⟩⟩
def lw_g : List Cond := lw_tbl.filter goodWord
theorem lw_in {w : Cond} {i : Nat} (h : tables_1[i]? = some w) (hg : goodWord w = true) : w ∈ lw_g := List.mem_filter.mpr ⟨List.mem_append_right _ (List.mem_of_getElem? h), hg⟩
theorem lw_ins (ws : List Cond) (ps : List Nat) (hp : ws = ps.filterMap (fun i => tables_1[i]?)) (hg : ws.all goodWord = true) : ∀ w ∈ ws, w ∈ lw_g := by
  intro w hw
  have h1 := List.all_eq_true.mp hg w hw
  rw [hp] at hw
  obtain ⟨i, -, hi⟩ := List.mem_filterMap.mp hw
  exact lw_in hi h1
theorem lw_insel {q : MethodName × Nat} {i : Nat} (h : lw_privs[i]? = some q) (hg : goodWord (Cond.selects q.1.cls q.1 q.1) = true) : Cond.selects q.1.cls q.1 q.1 ∈ lw_g := List.mem_filter.mpr ⟨List.mem_append_left _ (List.mem_map.mpr ⟨q, List.mem_of_getElem? h, rfl⟩), hg⟩
def TX0 : u_T := fun k => match k with
  | 0 => ("DoorRounds$Diary", "size", "I", false)
  | 1 => ("DoorRounds$Diary", "weeks", "[I", true)
  | 2 => ("DoorRounds$Diary", "shops", "[I", true)
  | _ => ("DoorRounds$Diary", "doors", "[I", true)
def tyX0 : Nat → FieldType := fun k => match k with
  | 0 => .int
  | 1 => .array .int
  | 2 => .array .int
  | _ => .array .int
def TX1 : u_T := fun k => match k with
  | 0 => ("DoorRounds$Errands", "together", "[J", true)
  | _ => ("DoorRounds$Errands", "shared", "[J", true)
def tyX1 : Nat → FieldType := fun k => match k with
  | 0 => .array .long
  | _ => .array .long
def TX2 : u_T := fun k => match k with
  | 0 => ("DoorRounds$Plan", "doors", "I", false)
  | 1 => ("DoorRounds$Plan", "size", "I", false)
  | 2 => ("DoorRounds$Plan", "shops", "[LDoorRounds$Shop;", true)
  | 3 => ("DoorRounds$Plan", "noShop", "LDoorRounds$Shop;", true)
  | 4 => ("DoorRounds$Plan", "order", "[I", true)
  | _ => ("DoorRounds$Plan", "reader", "LDoorRounds$Reader;", true)
def tyX2 : Nat → FieldType := fun k => match k with
  | 0 => .int
  | 1 => .int
  | 2 => .array (.object "DoorRounds$Shop")
  | 3 => .object "DoorRounds$Shop"
  | 4 => .array .int
  | _ => .object "DoorRounds$Reader"
def TX3 : u_T := fun k => match k with
  | 0 => ("DoorRounds$Reader", "text", "LDoorRounds$Strip;", false)
  | 1 => ("DoorRounds$Reader", "place", "I", false)
  | _ => ("DoorRounds$Reader", "number", "I", false)
def tyX3 : Nat → FieldType := fun k => match k with
  | 0 => .object "DoorRounds$Strip"
  | 1 => .int
  | _ => .int
def TX4 : u_T := fun k => match k with
  | 0 => ("DoorRounds$Shop", "kind", "I", false)
  | 1 => ("DoorRounds$Shop", "firstDoor", "I", false)
  | 2 => ("DoorRounds$Shop", "step", "I", false)
  | 3 => ("DoorRounds$Shop", "age", "I", false)
  | _ => ("DoorRounds$Shop", "k", "I", false)
def tyX4 : Nat → FieldType := fun k => match k with
  | 0 => .int
  | 1 => .int
  | 2 => .int
  | 3 => .int
  | _ => .int
def TX5 : u_T := fun k => match k with
  | 0 => ("DoorRounds$Standing", "week", "I", false)
  | 1 => ("DoorRounds$Standing", "shut", "I", false)
  | _ => ("DoorRounds$Standing", "doors", "[I", true)
def tyX5 : Nat → FieldType := fun k => match k with
  | 0 => .int
  | 1 => .int
  | _ => .array .int
def TX6 : u_T := fun k => match k with
  | 0 => ("DoorRounds$Strip", "places", "[I", true)
  | _ => ("DoorRounds$Strip", "size", "I", false)
def tyX6 : Nat → FieldType := fun k => match k with
  | 0 => .array .int
  | _ => .int
def TX7 : u_T := fun k => match k with
  | 0 => ("DoorRounds", "rows", "[LDoorRounds$Strip;", true)
  | 1 => ("DoorRounds", "texts", "[LDoorRounds$Strip;", true)
  | 2 => ("DoorRounds", "noStrip", "LDoorRounds$Strip;", true)
  | 3 => ("DoorRounds", "now", "LDoorRounds$Standing;", true)
  | 4 => ("DoorRounds", "kept", "[LDoorRounds$Standing;", true)
  | 5 => ("DoorRounds", "ahead", "LDoorRounds$Standing;", true)
  | 6 => ("DoorRounds", "mended", "LDoorRounds$Standing;", true)
  | 7 => ("DoorRounds", "diary", "LDoorRounds$Diary;", true)
  | 8 => ("DoorRounds", "trips", "LDoorRounds$Errands;", true)
  | 9 => ("DoorRounds", "findingCounts", "[I", true)
  | 10 => ("DoorRounds", "plan", "LDoorRounds$Plan;", false)
  | 11 => ("DoorRounds", "draft", "LDoorRounds$Plan;", false)
  | 12 => ("DoorRounds", "asked", "I", false)
  | 13 => ("DoorRounds", "upper", "J", false)
  | 14 => ("DoorRounds", "lower", "J", false)
  | _ => ("DoorRounds", "finding", "I", false)
def tyX7 : Nat → FieldType := fun k => match k with
  | 0 => .array (.object "DoorRounds$Strip")
  | 1 => .array (.object "DoorRounds$Strip")
  | 2 => .object "DoorRounds$Strip"
  | 3 => .object "DoorRounds$Standing"
  | 4 => .array (.object "DoorRounds$Standing")
  | 5 => .object "DoorRounds$Standing"
  | 6 => .object "DoorRounds$Standing"
  | 7 => .object "DoorRounds$Diary"
  | 8 => .object "DoorRounds$Errands"
  | 9 => .array .int
  | 10 => .object "DoorRounds$Plan"
  | 11 => .object "DoorRounds$Plan"
  | 12 => .int
  | 13 => .long
  | 14 => .long
  | _ => .int
def TX8 : u_T := fun k => match k with
  | 0 => ("DoorRoundsModel", "finding", "I", false)
  | 1 => ("DoorRoundsModel", "findings", "[I", true)
  | 2 => ("DoorRoundsModel", "asked", "I", false)
  | 3 => ("DoorRoundsModel", "upper", "J", false)
  | 4 => ("DoorRoundsModel", "lower", "J", false)
  | 5 => ("DoorRoundsModel", "sizes", "[I", true)
  | 6 => ("DoorRoundsModel", "rows", "[I", true)
  | 7 => ("DoorRoundsModel", "moving", "[I", true)
  | 8 => ("DoorRoundsModel", "lengths", "[I", true)
  | 9 => ("DoorRoundsModel", "texts", "[I", true)
  | 10 => ("DoorRoundsModel", "n", "I", false)
  | 11 => ("DoorRoundsModel", "many", "I", false)
  | 12 => ("DoorRoundsModel", "shops", "[I", true)
  | 13 => ("DoorRoundsModel", "readAt", "I", false)
  | 14 => ("DoorRoundsModel", "readNumber", "I", false)
  | 15 => ("DoorRoundsModel", "readDoors", "I", false)
  | 16 => ("DoorRoundsModel", "readMany", "I", false)
  | 17 => ("DoorRoundsModel", "doors", "[I", true)
  | 18 => ("DoorRoundsModel", "week", "I", false)
  | 19 => ("DoorRoundsModel", "shut", "I", false)
  | 20 => ("DoorRoundsModel", "went", "[I", true)
  | 21 => ("DoorRoundsModel", "before", "[I", true)
  | 22 => ("DoorRoundsModel", "kept", "[I", true)
  | 23 => ("DoorRoundsModel", "rounds", "[I", true)
  | 24 => ("DoorRoundsModel", "leasts", "[I", true)
  | 25 => ("DoorRoundsModel", "next", "[I", true)
  | 26 => ("DoorRoundsModel", "fixedWeeks", "[I", true)
  | 27 => ("DoorRoundsModel", "notes", "[I", true)
  | 28 => ("DoorRoundsModel", "noteMany", "I", false)
  | 29 => ("DoorRoundsModel", "rents", "[I", true)
  | 30 => ("DoorRoundsModel", "plans", "[I", true)
  | 31 => ("DoorRoundsModel", "firstOther", "I", false)
  | _ => ("DoorRoundsModel", "h0", "J", false)
def tyX8 : Nat → FieldType := fun k => match k with
  | 0 => .int
  | 1 => .array .int
  | 2 => .int
  | 3 => .long
  | 4 => .long
  | 5 => .array .int
  | 6 => .array .int
  | 7 => .array .int
  | 8 => .array .int
  | 9 => .array .int
  | 10 => .int
  | 11 => .int
  | 12 => .array .int
  | 13 => .int
  | 14 => .int
  | 15 => .int
  | 16 => .int
  | 17 => .array .int
  | 18 => .int
  | 19 => .int
  | 20 => .array .int
  | 21 => .array .int
  | 22 => .array .int
  | 23 => .array .int
  | 24 => .array .int
  | 25 => .array .int
  | 26 => .array .int
  | 27 => .array .int
  | 28 => .int
  | 29 => .array .int
  | 30 => .array .int
  | 31 => .int
  | _ => .long
abbrev cls9 : List vw_C := [("DoorRounds$Diary", TX0, 4), ("DoorRounds$Errands", TX1, 2), ("DoorRounds$Plan", TX2, 6), ("DoorRounds$Reader", TX3, 3), ("DoorRounds$Shop", TX4, 5), ("DoorRounds$Standing", TX5, 3), ("DoorRounds$Strip", TX6, 2), ("DoorRounds", TX7, 16), ("DoorRoundsModel", TX8, 33)]
def ftys : List (List Nat) := [[0, 2, 2, 2], [2, 2], [0, 0, 2, 2, 2, 2], [2, 0, 0], [0, 0, 0, 0, 0], [0, 0, 2], [2, 0], [2, 2, 2, 2, 2, 2, 2, 2, 2, 2, 2, 2, 0, 1, 1, 0], [0, 2, 0, 1, 1, 2, 2, 2, 2, 2, 0, 0, 2, 0, 0, 0, 0, 2, 0, 0, 2, 2, 2, 2, 2, 2, 2, 2, 0, 2, 2, 0, 1]]
def tyc (t : FieldType) : Nat := match t with
  | .int => 0
  | .long => 1
  | .object _ => 2
  | .array _ => 2
  | _ => 3
def fty (ci k : Nat) : Nat := (ftys.getD ci []).getD k 3
def clOK (ci : Nat) (r : vw_C) (ty : Nat → FieldType) : Prop := cls9[ci]? = some r ∧ (∀ w ∈ u_ws r.1 r.2.1 r.2.2, w ∈ lw_g) ∧ (∀ k, k < r.2.2 → parseFieldDescriptor (r.2.1 k).2.2.1 = some (ty k)) ∧ (∀ a, a < r.2.2 → ∀ b, b < r.2.2 → a ≠ b → (r.2.1 a).2.1 ≠ (r.2.1 b).2.1) ∧ r.2.2 = (ftys.getD ci []).length ∧ (∀ k, k < r.2.2 → tyc (ty k) = fty ci k) ∧ (∀ k, k < r.2.2 → (r.2.1 k).1 = r.1)
theorem cl_0 : clOK 0 ("DoorRounds$Diary", TX0, 4) tyX0 := ⟨rfl, lw_ins _ [73, 75, 77, 79] (by decide +kernel) (by decide +kernel), by decide +kernel, by decide +kernel, by decide +kernel, by decide +kernel, by decide +kernel⟩
theorem cl_1 : clOK 1 ("DoorRounds$Errands", TX1, 2) tyX1 := ⟨rfl, lw_ins _ [90, 92] (by decide +kernel) (by decide +kernel), by decide +kernel, by decide +kernel, by decide +kernel, by decide +kernel, by decide +kernel⟩
theorem cl_2 : clOK 2 ("DoorRounds$Plan", TX2, 6) tyX2 := ⟨rfl, lw_ins _ [168, 170, 172, 174, 176, 178] (by decide +kernel) (by decide +kernel), by decide +kernel, by decide +kernel, by decide +kernel, by decide +kernel, by decide +kernel⟩
theorem cl_3 : clOK 3 ("DoorRounds$Reader", TX3, 3) tyX3 := ⟨rfl, lw_ins _ [150, 152, 154] (by decide +kernel) (by decide +kernel), by decide +kernel, by decide +kernel, by decide +kernel, by decide +kernel, by decide +kernel⟩
theorem cl_4 : clOK 4 ("DoorRounds$Shop", TX4, 5) tyX4 := ⟨rfl, lw_ins _ [126, 128, 130, 132, 134] (by decide +kernel) (by decide +kernel), by decide +kernel, by decide +kernel, by decide +kernel, by decide +kernel, by decide +kernel⟩
theorem cl_5 : clOK 5 ("DoorRounds$Standing", TX5, 3) tyX5 := ⟨rfl, lw_ins _ [54, 56, 58] (by decide +kernel) (by decide +kernel), by decide +kernel, by decide +kernel, by decide +kernel, by decide +kernel, by decide +kernel⟩
theorem cl_6 : clOK 6 ("DoorRounds$Strip", TX6, 2) tyX6 := ⟨rfl, lw_ins _ [37, 39] (by decide +kernel) (by decide +kernel), by decide +kernel, by decide +kernel, by decide +kernel, by decide +kernel, by decide +kernel⟩
theorem cl_7 : clOK 7 ("DoorRounds", TX7, 16) tyX7 := ⟨rfl, lw_ins _ [197, 199, 201, 203, 205, 207, 209, 211, 213, 215, 217, 219, 221, 223, 225, 227] (by decide +kernel) (by decide +kernel), by decide +kernel, by decide +kernel, by decide +kernel, by decide +kernel, by decide +kernel⟩
theorem cl_8 : clOK 8 ("DoorRoundsModel", TX8, 33) tyX8 := ⟨rfl, lw_ins _ [866, 868, 870, 872, 874, 876, 878, 880, 882, 884, 886, 888, 890, 892, 894, 896, 898, 900, 902, 904, 906, 908, 910, 912, 914, 916, 918, 920, 922, 924, 926, 928, 930] (by decide +kernel) (by decide +kernel), by decide +kernel, by decide +kernel, by decide +kernel, by decide +kernel, by decide +kernel⟩
def nbM0 : List (String × Nat × MethodName × String) := [("DoorRounds", 27, ⟨"DoorRounds$Standing", "<init>", "()V"⟩, "DoorRounds"), ("DoorRounds", 44, ⟨"DoorRounds$Diary", "<init>", "()V"⟩, "DoorRounds"), ("DoorRounds", 51, ⟨"DoorRounds$Errands", "<init>", "()V"⟩, "DoorRounds"), ("DoorRounds$Plan", 24, ⟨"DoorRounds$Shop", "<init>", "()V"⟩, "DoorRounds"), ("DoorRounds$Plan", 35, ⟨"DoorRounds$Reader", "<init>", "()V"⟩, "DoorRounds"), ("DoorRounds$Standing", 46, ⟨"DoorRounds", "isIn", "(II)Z"⟩, "DoorRounds"), ("DoorRounds$Plan", 65, ⟨"DoorRounds", "greatestCommon", "(JJ)J"⟩, "DoorRounds"), ("DoorRounds$Errands", 42, ⟨"DoorRounds", "isIn", "(II)Z"⟩, "DoorRounds")]
end
section
/-! ===== the pure picture: cells by names (0 the script, 1 LETTERS, 2 and on those that are made, in order) ===== -/
abbrev pM : Type := (Nat → Nat → Int32) × (Nat → Nat → Int64) × (Nat → Nat → Nat) × (Nat → Nat × Nat) × Nat
def mI (u : pM) : Nat → Nat → Int32 := u.1
def mL (u : pM) : Nat → Nat → Int64 := u.2.1
def mR (u : pM) : Nat → Nat → Nat := u.2.2.1
def mS (u : pM) : Nat → Nat × Nat := u.2.2.2.1
def mX (u : pM) : Nat := u.2.2.2.2
def up2 {α : Type} (f : Nat → Nat → α) (n k : Nat) (v : α) : Nat → Nat → α := fun a b => if a = n ∧ b = k then v else f a b
def pI (u : pM) (n k : Nat) (v : Int32) : pM := (up2 (mI u) n k v, mL u, mR u, mS u, mX u)
def pL (u : pM) (n k : Nat) (v : Int64) : pM := (mI u, up2 (mL u) n k v, mR u, mS u, mX u)
def pR (u : pM) (n k : Nat) (v : Nat) : pM := (mI u, mL u, up2 (mR u) n k v, mS u, mX u)
/-- a new cell of the kind sh, all nought -/
def pN (u : pM) (sh : Nat × Nat) : pM := (fun a b => if a = mX u + 2 then 0 else mI u a b, fun a b => if a = mX u + 2 then 0 else mL u a b, fun a b => if a = mX u + 2 then 0 else mR u a b, fun a => if a = mX u + 2 then sh else mS u a, mX u + 1)
/-- launch, class numbers, slots, first address of ours, script, LETTERS, script's length and contents, array classes -/
abbrev pG : Type := Launch × (Nat → ClassId) × (Nat → Nat → Nat) × Nat × Nat × Nat × Nat × (Nat → Int32) × (Nat → ClassId)
abbrev gl (G : pG) : Launch := G.1
abbrev gC (G : pG) : Nat → ClassId := G.2.1
abbrev gI (G : pG) : Nat → Nat → Nat := G.2.2.1
abbrev gB (G : pG) : Nat := G.2.2.2.1
abbrev gb (G : pG) : Nat := G.2.2.2.2.1
abbrev gt (G : pG) : Nat := G.2.2.2.2.2.1
abbrev gn (G : pG) : Nat := G.2.2.2.2.2.2.1
abbrev gx (G : pG) : Nat → Int32 := G.2.2.2.2.2.2.2.1
abbrev gA (G : pG) : Nat → ClassId := G.2.2.2.2.2.2.2.2
def ad (G : pG) (n : Nat) : Nat := match n with
  | 0 => gb G
  | 1 => gt G
  | i + 2 => gB G + i
def tv (G : pG) (v : Value) : Value := match v with
  | .ref n => .ref (ad G n)
  | w => w
def rf (G : pG) (r : Nat) : Option Nat := if r = 0 then none else some (ad G r)
def fv (G : pG) (u : pM) (n k t : Nat) : Value := if t = 0 then .int (mI u n k) else if t = 1 then .long (mL u n k) else va_rf (rf G (mR u n k))
def fvs (G : pG) (u : pM) (n ci : Nat) : List Value := (ftys.getD ci []).mapIdx (fun k t => fv G u n k t)
def ce (G : pG) (u : pM) (n : Nat) : va_E := if (mS u n).1 < 9 then .inr ((mS u n).1, fvs G u n (mS u n).1) else if (mS u n).1 = 100 then .inl (gA G 0, (mS u n).2, .inl (mI u n)) else if (mS u n).1 = 101 then .inl (gA G 1, (mS u n).2, .inr (.inl (mL u n))) else .inl (gA G ((mS u n).1 - 100), (mS u n).2, .inr (.inr (.inr (.inr (fun j => rf G (mR u n j))))))
def wl (G : pG) (u : pM) : va_W := (List.range (mX u)).map (fun i => (gB G + i, ce G u (i + 2)))
def gty (G : pG) : List (ClassId × FieldType) := [(gA G 0, .int), (gA G 1, .long), (gA G 2, .object "DoorRounds$Strip"), (gA G 3, .object "DoorRounds$Standing"), (gA G 4, .object "DoorRounds$Shop")]
abbrev Ag (G : pG) : Nat → Prop := fun q => gB G ≤ q
def lets : Nat → Int32 := fun j => match j with
  | 0 => 115
  | 1 => 102
  | 2 => 121
  | 3 => 110
  | 4 => 111
  | _ => 112
def Rl (G : pG) (s : State) (H : Heap) (u : pM) : Prop := va_P (gC G, gI G) cls9 (wl G u) H ∧ va_D (Ag G) (wl G u) ∧ va_K (gC G, gI G) cls9 (gty G) s ∧ H.size = gB G + mX u
/-- words that move by rules of their own -/
def nbM : List (String × Nat × MethodName × String) := nbM0
def Stt (G : pG) (s : State) : Prop := va_X (gb G) (gn G) (gx G) s s.heap ∧ gb G < gB G ∧ va_X (gt G) 6 lets s s.heap ∧ gt G < gB G ∧ va_Z "DoorRounds" "LETTERS" "[I" (.ref (gt G)) (Ag G) s s.heap ∧ gB G ≤ s.heap.size ∧ (∀ q ∈ nbM, va_Nw (.methodLinkNest q.1 q.2.1 q.2.2.1 q.2.2.2) s) ∧ va_Nw (.fieldLinkNest "DoorRounds$Reader" 42 "DoorRounds" "LETTERS" "[I" "DoorRounds") s ∧ va_AO "DoorRounds$Strip" s ∧ va_AO "DoorRounds$Standing" s ∧ va_AO "DoorRounds$Shop" s
/-- a method: name, bytes, locals, answer, frames and locals' words that its calls need -/
abbrev pY : Type := MethodName × ByteArray × Nat × Option FieldType × Nat × Nat
def Cx (G : pG) (M : pY) (p : Program) (R : Room) (s : State) (m : MethodId) (args : Array Value) (meth : Method) (c : Code) : Prop := p.tables.exec = Jvm.exec ∧ c.code = M.2.1 ∧ meth.sig.returnType = M.2.2.2.1 ∧ c.maxLocals = M.2.2.1 ∧ s.vm.findClass M.1.cls = some m.cls ∧ (∀ w ∈ lw_g, w.before args s = true) ∧ meth.locks = false ∧ meth.name = M.1.name ∧ M.2.2.2.2.1 ≤ R.frames ∧ M.2.2.2.2.2 ≤ R.locals ∧ Stt G s
abbrev pLo : Type := List (Nat × Value)
def lm (G : pG) (l : pLo) : List (Nat × Value) := l.map (fun q => (q.1, tv G q.2))
/-- a return at pc that gives r -/
def isRet (M : pY) (pc : Nat) (r : Option Value) : Prop := match r with
  | none => decode M.2.1 pc = .ok (.return_, 1) ∧ M.2.2.2.1 = none
  | some (.int v) => decode M.2.1 pc = .ok (.ireturn, 1) ∧ ∃ ty, M.2.2.2.1 = some ty ∧ narrow ty (.int v) = .int v
  | some (.long _) => decode M.2.1 pc = .ok (.lreturn, 1) ∧ M.2.2.2.1 = some .long
  | some (.ref _) => decode M.2.1 pc = .ok (.areturn, 1) ∧ ∃ rt, M.2.2.2.1 = some rt ∧ ((∃ n, rt = .object n) ∨ ∃ t, rt = .array t)
  | _ => False
/-- from here, with the picture u, the method comes to its end, and Q of its answer and the picture then; kc cells of ks slots at most are made -/
def Wp (G : pG) (M : pY) (kc ks pc : Nat) (l : pLo) (st : List Value) (u : pM) (Q : Option Value → pM → Prop) : Prop :=
  ∀ (p : Program) (e : Env) (R : Room) (s : State) (m : MethodId) (args : Array Value) (below : List Frame) (meth : Method) (c : Code), Cx G M p R s m args meth c →
  ∀ (H : Heap) (ls : Array Slot) (locs : List Loc) (cells slots : Nat) (Qf : State → Prop) (mc ms : Nat), Rl G s H u → va_S (Ag G) s.heap H locs → lv_has ls M.2.2.1 (lm G l) → H.size = s.heap.size + cells → cells + kc = mc → slots + ks ≤ ms → mc ≤ R.cells → ms ≤ R.slots →
  (∀ (r : Option Value) (u' : pM) (H' : Heap) (ls' : Array Slot) (locs' : List Loc) (pc' : Nat), Q r u' → Rl G s H' u' → va_S (Ag G) s.heap H' locs' → H'.size = s.heap.size + mc → isRet M pc' r → W p (gl G) e R s m args below meth c H' locs' mc ms Qf (F0 m pc' ls' (r.toList.map (tv G)))) →
  W p (gl G) e R s m args below meth c H locs cells slots Qf (F0 m pc ls (st.map (tv G)))
abbrev RI (K : Int32 → pM → Prop) : Option Value → pM → Prop := fun r u => ∃ x : Int32, r = some (.int x) ∧ K x u
abbrev RJ (K : Int64 → pM → Prop) : Option Value → pM → Prop := fun r u => ∃ x : Int64, r = some (.long x) ∧ K x u
abbrev RR (K : Nat → pM → Prop) : Option Value → pM → Prop := fun r u => ∃ x : Nat, r = some (.ref x) ∧ K x u
abbrev RV (K : pM → Prop) : Option Value → pM → Prop := fun r u => r = none ∧ K u
/-! the rows of it -/
section CORE
variable {G : pG} {M : pY} {kc ks pc : Nat} {l : pLo} {st : List Value} {u : pM} {Q : Option Value → pM → Prop}
theorem Wp.mono {Q' : Option Value → pM → Prop} (h : Wp G M kc ks pc l st u Q') (hQ : ∀ r u, Q' r u → Q r u) : Wp G M kc ks pc l st u Q := fun p e R s m args below meth c C H ls locs cells slots Qf mc ms a1 a2 a3 a4 a5 a6 a7 a8 k => h p e R s m args below meth c C H ls locs cells slots Qf mc ms a1 a2 a3 a4 a5 a6 a7 a8 (fun r u' H' ls' locs' pc' q => k r u' H' ls' locs' pc' (hQ r u' q))
theorem Wp.more {ks' : Nat} (h : Wp G M kc ks pc l st u Q) (h2 : ks ≤ ks') : Wp G M kc ks' pc l st u Q := fun p e R s m args below meth c C H ls locs cells slots Qf mc ms a1 a2 a3 a4 a5 a6 a7 a8 k => h p e R s m args below meth c C H ls locs cells slots Qf mc ms a1 a2 a3 a4 a5 (by omega) a7 a8 k
theorem lm_get {l : pLo} {k i : Nat} {v : Value} (hk : l[k]? = some (i, v)) : (lm G l)[k]? = some (i, tv G v) := by simp [lm, hk]
theorem tv_cat (v : Value) : (tv G v).category = v.category := by cases v <;> rfl
theorem lm_filter (l : pLo) (f : Nat → Nat → Bool) : (lm G l).filter (fun q => f q.1 q.2.category) = lm G (l.filter (fun q => f q.1 q.2.category)) := by
  induction l with
  | nil => rfl
  | cons a t ih =>
    simp only [lm, List.map_cons, List.filter_cons, tv_cat] at ih ⊢
    by_cases h : f a.1 a.2.category = true
    · rw [if_pos h, if_pos h, List.map_cons, ← ih]
    · rw [if_neg h, if_neg h, ← ih]
def ls1 (l : pLo) (i : Nat) (v : Value) : pLo := (i, v) :: l.filter (fun q => !(q.1 == i) && !(q.1 + 1 == i && q.2.category == 2))
def ls2 (l : pLo) (i : Nat) (v : Value) : pLo := (i, v) :: l.filter (fun q => !(q.1 == i) && (!(q.1 == i + 1) && !(q.1 + 1 == i && q.2.category == 2)))
theorem lm_ls1 (l : pLo) (i : Nat) (v : Value) : (i, tv G v) :: (lm G l).filter (fun q => !(q.1 == i) && !(q.1 + 1 == i && q.2.category == 2)) = lm G (ls1 l i v) := by
  rw [lm_filter (G := G) l (fun a b => !(a == i) && !(a + 1 == i && b == 2))]
  rfl
theorem lm_ls2 (l : pLo) (i : Nat) (v : Value) : (i, tv G v) :: (lm G l).filter (fun q => !(q.1 == i) && (!(q.1 == i + 1) && !(q.1 + 1 == i && q.2.category == 2))) = lm G (ls2 l i v) := by
  rw [lm_filter (G := G) l (fun a b => !(a == i) && (!(a == i + 1) && !(a + 1 == i && b == 2)))]
  rfl
/-- fewer locals, or in another order -/
theorem wp_loc {l' : pLo} (ks' : List Nat) (hl : lv_pick l ks' = l') (h : Wp G M kc ks pc l' st u Q) : Wp G M kc ks pc l st u Q := by
  intro p e R s m args below meth c C H ls locs cells slots Qf mc ms a1 a2 a3 a4 a5 a6 a7 a8 k
  refine h p e R s m args below meth c C H ls locs cells slots Qf mc ms a1 a2 (lv_sub a3 ks' ?_) a4 a5 a6 a7 a8 k
  subst hl
  simp only [lv_pick, lm, List.getElem?_map, List.map_filterMap]
/-- one step of the machine that leaves the heap -/
theorem wp_go {pc' : Nat} {l' : pLo} {st' : List Value} (hW : ∀ (p : Program) (e : Env) (R : Room) (s : State) (m : MethodId) (args : Array Value) (below : List Frame) (meth : Method) (c : Code) (H : Heap) (locs : List Loc) (cells slots : Nat) (Qf : State → Prop) (ls : Array Slot), Cx G M p R s m args meth c → lv_has ls M.2.2.1 (lm G l) → (∀ ls', lv_has ls' M.2.2.1 (lm G l') → W p (gl G) e R s m args below meth c H locs cells slots Qf (F0 m pc' ls' (st'.map (tv G)))) → W p (gl G) e R s m args below meth c H locs cells slots Qf (F0 m pc ls (st.map (tv G)))) (h : Wp G M kc ks pc' l' st' u Q) : Wp G M kc ks pc l st u Q := by
  intro p e R s m args below meth c C H ls locs cells slots Qf mc ms a1 a2 a3 a4 a5 a6 a7 a8 k
  exact hW p e R s m args below meth c H locs cells slots Qf ls C a3 (fun ls' hl' => h p e R s m args below meth c C H ls' locs cells slots Qf mc ms a1 a2 hl' a4 a5 a6 a7 a8 k)
theorem wp_iconst {n : Int} {v : Int32} (hd : decode M.2.1 pc = .ok (.iconst n, 1)) (hv : Int32.ofInt n = v) (h : Wp G M kc ks (pc + 1) l (.int v :: st) u Q) : Wp G M kc ks pc l st u Q := wp_go (fun _ _ _ _ _ _ _ _ _ _ _ _ _ _ ls C hl k => lv_iconst C.1 C.2.1 hd hv (k ls hl)) h
theorem wp_bipush {n : Int} {v : Int32} (hd : decode M.2.1 pc = .ok (.bipush n, 2)) (hv : (Int8.ofInt n).toInt32 = v) (h : Wp G M kc ks (pc + 2) l (.int v :: st) u Q) : Wp G M kc ks pc l st u Q := wp_go (fun _ _ _ _ _ _ _ _ _ _ _ _ _ _ ls C hl k => lv_bipush C.1 C.2.1 hd hv (k ls hl)) h
theorem wp_sipush {n : Int} {v : Int32} (hd : decode M.2.1 pc = .ok (.sipush n, 3)) (hv : (Int16.ofInt n).toInt32 = v) (h : Wp G M kc ks (pc + 3) l (.int v :: st) u Q) : Wp G M kc ks pc l st u Q := wp_go (fun _ _ _ _ _ _ _ _ _ _ _ _ _ _ ls C hl k => lv_sipush C.1 C.2.1 hd hv (k ls hl)) h
theorem wp_lconst {n : Fin 2} {v : Int64} (hd : decode M.2.1 pc = .ok (.lconst n, 1)) (hv : Int64.ofNat (n : Nat) = v) (h : Wp G M kc ks (pc + 1) l (.long v :: st) u Q) : Wp G M kc ks pc l st u Q := wp_go (fun _ _ _ _ _ _ _ _ _ _ _ _ _ _ ls C hl k => lv_lconst C.1 C.2.1 hd hv (k ls hl)) h
theorem wp_ldc {i : Nat} {v : Int32} (hd : decode M.2.1 pc = .ok (.ldc i, 2)) (hw : Cond.constant M.1.cls i v ∈ lw_g) (h : Wp G M kc ks (pc + 2) l (.int v :: st) u Q) : Wp G M kc ks pc l st u Q := wp_go (fun _ _ _ _ _ _ _ _ _ _ _ _ _ _ ls C hl k => lv_ldc C.1 C.2.1 C.2.2.2.2.1 (C.2.2.2.2.2.1 _ hw) hd (k ls hl)) h
theorem wp_ldcw {i : Nat} {v : Int32} (hd : decode M.2.1 pc = .ok (.ldc_w i, 3)) (hw : Cond.constant M.1.cls i v ∈ lw_g) (h : Wp G M kc ks (pc + 3) l (.int v :: st) u Q) : Wp G M kc ks pc l st u Q := wp_go (fun _ _ _ _ _ _ _ _ _ _ _ _ _ _ ls C hl k => lv_ldcw C.1 C.2.1 C.2.2.2.2.1 (C.2.2.2.2.2.1 _ hw) hd (k ls hl)) h
theorem wp_ldc2 {i : Nat} {v : Int64} (hd : decode M.2.1 pc = .ok (.ldc2_w i, 3)) (hw : Cond.constantLong M.1.cls i v ∈ lw_g) (h : Wp G M kc ks (pc + 3) l (.long v :: st) u Q) : Wp G M kc ks pc l st u Q := wp_go (fun _ _ _ _ _ _ _ _ _ _ _ _ _ _ ls C hl k => lv_ldc2 C.1 C.2.1 C.2.2.2.2.1 (C.2.2.2.2.2.1 _ hw) hd (k ls hl)) h
theorem wp_iload_n {k0 : Fin 4} {x : Int32} (j : Nat) (hd : decode M.2.1 pc = .ok (.iload_n k0, 1)) (hl : l[j]? = some ((k0 : Nat), .int x)) (h : Wp G M kc ks (pc + 1) l (.int x :: st) u Q) : Wp G M kc ks pc l st u Q := wp_go (fun _ _ _ _ _ _ _ _ _ _ _ _ _ _ ls C hl' k => lv_iload_n C.1 C.2.1 hd rfl (lv_at hl' j (lm_get hl)) (k ls hl')) h
theorem wp_iload {i : Nat} {x : Int32} (j : Nat) (hd : decode M.2.1 pc = .ok (.iload i, 2)) (hl : l[j]? = some (i, .int x)) (h : Wp G M kc ks (pc + 2) l (.int x :: st) u Q) : Wp G M kc ks pc l st u Q := wp_go (fun _ _ _ _ _ _ _ _ _ _ _ _ _ _ ls C hl' k => lv_iload C.1 C.2.1 hd (lv_at hl' j (lm_get hl)) (k ls hl')) h
theorem wp_lload_n {k0 : Fin 4} {x : Int64} (j : Nat) (hd : decode M.2.1 pc = .ok (.lload_n k0, 1)) (hl : l[j]? = some ((k0 : Nat), .long x)) (h : Wp G M kc ks (pc + 1) l (.long x :: st) u Q) : Wp G M kc ks pc l st u Q := wp_go (fun _ _ _ _ _ _ _ _ _ _ _ _ _ _ ls C hl' k => lv_lload_n C.1 C.2.1 hd rfl (lv_at hl' j (lm_get hl)) (k ls hl')) h
theorem wp_lload {i : Nat} {x : Int64} (j : Nat) (hd : decode M.2.1 pc = .ok (.lload i, 2)) (hl : l[j]? = some (i, .long x)) (h : Wp G M kc ks (pc + 2) l (.long x :: st) u Q) : Wp G M kc ks pc l st u Q := wp_go (fun _ _ _ _ _ _ _ _ _ _ _ _ _ _ ls C hl' k => lv_lload C.1 C.2.1 hd (lv_at hl' j (lm_get hl)) (k ls hl')) h
theorem wp_aload_n {k0 : Fin 4} {x : Nat} (j : Nat) (hd : decode M.2.1 pc = .ok (.aload_n k0, 1)) (hl : l[j]? = some ((k0 : Nat), .ref x)) (h : Wp G M kc ks (pc + 1) l (.ref x :: st) u Q) : Wp G M kc ks pc l st u Q := wp_go (fun _ _ _ _ _ _ _ _ _ _ _ _ _ _ ls C hl' k => lv_aload_n C.1 C.2.1 hd rfl (lv_at hl' j (lm_get hl)) (k ls hl')) h
theorem wp_aload {i x : Nat} (j : Nat) (hd : decode M.2.1 pc = .ok (.aload i, 2)) (hl : l[j]? = some (i, .ref x)) (h : Wp G M kc ks (pc + 2) l (.ref x :: st) u Q) : Wp G M kc ks pc l st u Q := wp_go (fun _ _ _ _ _ _ _ _ _ _ _ _ _ _ ls C hl' k => lv_aload C.1 C.2.1 hd (lv_at hl' j (lm_get hl)) (k ls hl')) h
theorem wp_istore_n {k0 : Fin 4} {x : Int32} {l' : pLo} (hd : decode M.2.1 pc = .ok (.istore_n k0, 1)) (hn : (k0 : Nat) < M.2.2.1) (hl : ls1 l k0 (.int x) = l') (h : Wp G M kc ks (pc + 1) l' st u Q) : Wp G M kc ks pc l (.int x :: st) u Q := wp_go (fun _ _ _ _ _ _ _ _ _ _ _ _ _ _ ls C hl' k => lv_istore_n C.1 C.2.1 hd rfl hl' hn (by rw [← hl]; exact lm_ls1 (G := G) l k0 (.int x)) k) h
theorem wp_istore {i : Nat} {x : Int32} {l' : pLo} (hd : decode M.2.1 pc = .ok (.istore i, 2)) (hn : i < M.2.2.1) (hl : ls1 l i (.int x) = l') (h : Wp G M kc ks (pc + 2) l' st u Q) : Wp G M kc ks pc l (.int x :: st) u Q := wp_go (fun _ _ _ _ _ _ _ _ _ _ _ _ _ _ ls C hl' k => lv_istore C.1 C.2.1 hd hl' hn (by rw [← hl]; exact lm_ls1 (G := G) l i (.int x)) k) h
theorem wp_lstore_n {k0 : Fin 4} {x : Int64} {l' : pLo} (hd : decode M.2.1 pc = .ok (.lstore_n k0, 1)) (hn : (k0 : Nat) + 1 < M.2.2.1) (hl : ls2 l k0 (.long x) = l') (h : Wp G M kc ks (pc + 1) l' st u Q) : Wp G M kc ks pc l (.long x :: st) u Q := wp_go (fun _ _ _ _ _ _ _ _ _ _ _ _ _ _ ls C hl' k => lv_lstore_n C.1 C.2.1 hd rfl hl' hn (by rw [← hl]; exact lm_ls2 (G := G) l k0 (.long x)) k) h
theorem wp_lstore {i : Nat} {x : Int64} {l' : pLo} (hd : decode M.2.1 pc = .ok (.lstore i, 2)) (hn : i + 1 < M.2.2.1) (hl : ls2 l i (.long x) = l') (h : Wp G M kc ks (pc + 2) l' st u Q) : Wp G M kc ks pc l (.long x :: st) u Q := wp_go (fun _ _ _ _ _ _ _ _ _ _ _ _ _ _ ls C hl' k => lv_lstore C.1 C.2.1 hd hl' hn (by rw [← hl]; exact lm_ls2 (G := G) l i (.long x)) k) h
theorem wp_astore_n {k0 : Fin 4} {x : Nat} {l' : pLo} (hd : decode M.2.1 pc = .ok (.astore_n k0, 1)) (hn : (k0 : Nat) < M.2.2.1) (hl : ls1 l k0 (.ref x) = l') (h : Wp G M kc ks (pc + 1) l' st u Q) : Wp G M kc ks pc l (.ref x :: st) u Q := wp_go (fun _ _ _ _ _ _ _ _ _ _ _ _ _ _ ls C hl' k => lv_astore_n C.1 C.2.1 hd rfl hl' hn (by rw [← hl]; exact lm_ls1 (G := G) l k0 (.ref x)) k) h
theorem wp_astore {i x : Nat} {l' : pLo} (hd : decode M.2.1 pc = .ok (.astore i, 2)) (hn : i < M.2.2.1) (hl : ls1 l i (.ref x) = l') (h : Wp G M kc ks (pc + 2) l' st u Q) : Wp G M kc ks pc l (.ref x :: st) u Q := wp_go (fun _ _ _ _ _ _ _ _ _ _ _ _ _ _ ls C hl' k => lv_astore C.1 C.2.1 hd hl' hn (by rw [← hl]; exact lm_ls1 (G := G) l i (.ref x)) k) h
theorem wp_iinc {i : Nat} {n : Int} {x v : Int32} {l' : pLo} (j : Nat) (hd : decode M.2.1 pc = .ok (.iinc i n, 3)) (hj : l[j]? = some (i, .int x)) (hv : Int32.ofInt n = v) (hn : i < M.2.2.1) (hl : ls1 l i (.int (x + v)) = l') (h : Wp G M kc ks (pc + 3) l' st u Q) : Wp G M kc ks pc l st u Q := wp_go (fun _ _ _ _ _ _ _ _ _ _ _ _ _ _ ls C hl' k => lv_iinc C.1 C.2.1 hd hl' (lm_get hj) (by rw [hv]) hn (by rw [← hl]; exact lm_ls1 (G := G) l i (.int (x + v))) k) h
theorem wp_iadd {x y : Int32} (hd : decode M.2.1 pc = .ok (.iadd, 1)) (h : Wp G M kc ks (pc + 1) l (.int (x + y) :: st) u Q) : Wp G M kc ks pc l (.int y :: .int x :: st) u Q := wp_go (fun _ _ _ _ _ _ _ _ _ _ _ _ _ _ ls C hl k => lv_iadd C.1 C.2.1 hd (k ls hl)) h
theorem wp_isub {x y : Int32} (hd : decode M.2.1 pc = .ok (.isub, 1)) (h : Wp G M kc ks (pc + 1) l (.int (x - y) :: st) u Q) : Wp G M kc ks pc l (.int y :: .int x :: st) u Q := wp_go (fun _ _ _ _ _ _ _ _ _ _ _ _ _ _ ls C hl k => lv_isub C.1 C.2.1 hd (k ls hl)) h
theorem wp_imul {x y : Int32} (hd : decode M.2.1 pc = .ok (.imul, 1)) (h : Wp G M kc ks (pc + 1) l (.int (x * y) :: st) u Q) : Wp G M kc ks pc l (.int y :: .int x :: st) u Q := wp_go (fun _ _ _ _ _ _ _ _ _ _ _ _ _ _ ls C hl k => lv_imul C.1 C.2.1 hd (k ls hl)) h
theorem wp_iand {x y : Int32} (hd : decode M.2.1 pc = .ok (.iand, 1)) (h : Wp G M kc ks (pc + 1) l (.int (x &&& y) :: st) u Q) : Wp G M kc ks pc l (.int y :: .int x :: st) u Q := wp_go (fun _ _ _ _ _ _ _ _ _ _ _ _ _ _ ls C hl k => lv_iand C.1 C.2.1 hd (k ls hl)) h
theorem wp_ior {x y : Int32} (hd : decode M.2.1 pc = .ok (.ior, 1)) (h : Wp G M kc ks (pc + 1) l (.int (x ||| y) :: st) u Q) : Wp G M kc ks pc l (.int y :: .int x :: st) u Q := wp_go (fun _ _ _ _ _ _ _ _ _ _ _ _ _ _ ls C hl k => lv_ior C.1 C.2.1 hd (k ls hl)) h
theorem wp_ixor {x y : Int32} (hd : decode M.2.1 pc = .ok (.ixor, 1)) (h : Wp G M kc ks (pc + 1) l (.int (x ^^^ y) :: st) u Q) : Wp G M kc ks pc l (.int y :: .int x :: st) u Q := wp_go (fun _ _ _ _ _ _ _ _ _ _ _ _ _ _ ls C hl k => lv_ixor C.1 C.2.1 hd (k ls hl)) h
theorem wp_idiv {x y : Int32} (hd : decode M.2.1 pc = .ok (.idiv, 1)) (hne : ¬ y = 0) (h : Wp G M kc ks (pc + 1) l (.int (x / y) :: st) u Q) : Wp G M kc ks pc l (.int y :: .int x :: st) u Q := wp_go (fun _ _ _ _ _ _ _ _ _ _ _ _ _ _ ls C hl k => lv_idiv C.1 C.2.1 hd hne (k ls hl)) h
theorem wp_irem {x y : Int32} (hd : decode M.2.1 pc = .ok (.irem, 1)) (hne : ¬ y = 0) (h : Wp G M kc ks (pc + 1) l (.int (x - x / y * y) :: st) u Q) : Wp G M kc ks pc l (.int y :: .int x :: st) u Q := wp_go (fun _ _ _ _ _ _ _ _ _ _ _ _ _ _ ls C hl k => lv_irem C.1 C.2.1 hd hne (k ls hl)) h
theorem wp_ineg {x : Int32} (hd : decode M.2.1 pc = .ok (.ineg, 1)) (h : Wp G M kc ks (pc + 1) l (.int (-x) :: st) u Q) : Wp G M kc ks pc l (.int x :: st) u Q := wp_go (fun _ _ _ _ _ _ _ _ _ _ _ _ _ _ ls C hl k => lv_ineg C.1 C.2.1 hd (k ls hl)) h
theorem wp_ishl {x y : Int32} (hd : decode M.2.1 pc = .ok (.ishl, 1)) (h : Wp G M kc ks (pc + 1) l (.int (x <<< (y &&& 31)) :: st) u Q) : Wp G M kc ks pc l (.int y :: .int x :: st) u Q := wp_go (fun _ _ _ _ _ _ _ _ _ _ _ _ _ _ ls C hl k => lv_ishl C.1 C.2.1 hd (k ls hl)) h
theorem wp_ishr {x y : Int32} (hd : decode M.2.1 pc = .ok (.ishr, 1)) (h : Wp G M kc ks (pc + 1) l (.int (x >>> (y &&& 31)) :: st) u Q) : Wp G M kc ks pc l (.int y :: .int x :: st) u Q := wp_go (fun _ _ _ _ _ _ _ _ _ _ _ _ _ _ ls C hl k => lv_ishr C.1 C.2.1 hd (k ls hl)) h
theorem wp_iushr {x y : Int32} (hd : decode M.2.1 pc = .ok (.iushr, 1)) (h : Wp G M kc ks (pc + 1) l (.int (x.toUInt32 >>> (y.toUInt32 &&& Int32.toUInt32 31)).toInt32 :: st) u Q) : Wp G M kc ks pc l (.int y :: .int x :: st) u Q := wp_go (fun _ _ _ _ _ _ _ _ _ _ _ _ _ _ ls C hl k => lv_iushr C.1 C.2.1 hd rfl (k ls hl)) h
theorem wp_ladd {x y : Int64} (hd : decode M.2.1 pc = .ok (.ladd, 1)) (h : Wp G M kc ks (pc + 1) l (.long (x + y) :: st) u Q) : Wp G M kc ks pc l (.long y :: .long x :: st) u Q := wp_go (fun _ _ _ _ _ _ _ _ _ _ _ _ _ _ ls C hl k => lv_ladd C.1 C.2.1 hd (k ls hl)) h
theorem wp_lsub {x y : Int64} (hd : decode M.2.1 pc = .ok (.lsub, 1)) (h : Wp G M kc ks (pc + 1) l (.long (x - y) :: st) u Q) : Wp G M kc ks pc l (.long y :: .long x :: st) u Q := wp_go (fun _ _ _ _ _ _ _ _ _ _ _ _ _ _ ls C hl k => lv_lsub C.1 C.2.1 hd (k ls hl)) h
theorem wp_lmul {x y : Int64} (hd : decode M.2.1 pc = .ok (.lmul, 1)) (h : Wp G M kc ks (pc + 1) l (.long (x * y) :: st) u Q) : Wp G M kc ks pc l (.long y :: .long x :: st) u Q := wp_go (fun _ _ _ _ _ _ _ _ _ _ _ _ _ _ ls C hl k => lv_lmul C.1 C.2.1 hd (k ls hl)) h
theorem wp_lxor {x y : Int64} (hd : decode M.2.1 pc = .ok (.lxor, 1)) (h : Wp G M kc ks (pc + 1) l (.long (x ^^^ y) :: st) u Q) : Wp G M kc ks pc l (.long y :: .long x :: st) u Q := wp_go (fun _ _ _ _ _ _ _ _ _ _ _ _ _ _ ls C hl k => lv_lxor C.1 C.2.1 hd (k ls hl)) h
theorem wp_ldiv {x y : Int64} (hd : decode M.2.1 pc = .ok (.ldiv, 1)) (hne : ¬ y = 0) (h : Wp G M kc ks (pc + 1) l (.long (x / y) :: st) u Q) : Wp G M kc ks pc l (.long y :: .long x :: st) u Q := wp_go (fun _ _ _ _ _ _ _ _ _ _ _ _ _ _ ls C hl k => lv_ldiv C.1 C.2.1 hd hne (k ls hl)) h
theorem wp_lrem {x y : Int64} (hd : decode M.2.1 pc = .ok (.lrem, 1)) (hne : ¬ y = 0) (h : Wp G M kc ks (pc + 1) l (.long (x - x / y * y) :: st) u Q) : Wp G M kc ks pc l (.long y :: .long x :: st) u Q := wp_go (fun _ _ _ _ _ _ _ _ _ _ _ _ _ _ ls C hl k => lv_lrem C.1 C.2.1 hd hne (k ls hl)) h
theorem wp_lneg {x : Int64} (hd : decode M.2.1 pc = .ok (.lneg, 1)) (h : Wp G M kc ks (pc + 1) l (.long (-x) :: st) u Q) : Wp G M kc ks pc l (.long x :: st) u Q := wp_go (fun _ _ _ _ _ _ _ _ _ _ _ _ _ _ ls C hl k => lv_lneg C.1 C.2.1 hd (k ls hl)) h
theorem wp_lshl {x : Int64} {y : Int32} (hd : decode M.2.1 pc = .ok (.lshl, 1)) (h : Wp G M kc ks (pc + 1) l (.long (x <<< (y.toInt64 &&& 63)) :: st) u Q) : Wp G M kc ks pc l (.int y :: .long x :: st) u Q := wp_go (fun _ _ _ _ _ _ _ _ _ _ _ _ _ _ ls C hl k => lv_lshl C.1 C.2.1 hd rfl (k ls hl)) h
theorem wp_lshr {x : Int64} {y : Int32} (hd : decode M.2.1 pc = .ok (.lshr, 1)) (h : Wp G M kc ks (pc + 1) l (.long (x >>> (y.toInt64 &&& 63)) :: st) u Q) : Wp G M kc ks pc l (.int y :: .long x :: st) u Q := wp_go (fun _ _ _ _ _ _ _ _ _ _ _ _ _ _ ls C hl k => lv_lshr C.1 C.2.1 hd rfl (k ls hl)) h
theorem wp_i2l {x : Int32} (hd : decode M.2.1 pc = .ok (.i2l, 1)) (h : Wp G M kc ks (pc + 1) l (.long x.toInt64 :: st) u Q) : Wp G M kc ks pc l (.int x :: st) u Q := wp_go (fun _ _ _ _ _ _ _ _ _ _ _ _ _ _ ls C hl k => lv_i2l C.1 C.2.1 hd rfl (k ls hl)) h
theorem wp_l2i {x : Int64} (hd : decode M.2.1 pc = .ok (.l2i, 1)) (h : Wp G M kc ks (pc + 1) l (.int x.toInt32 :: st) u Q) : Wp G M kc ks pc l (.long x :: st) u Q := wp_go (fun _ _ _ _ _ _ _ _ _ _ _ _ _ _ ls C hl k => lv_l2i C.1 C.2.1 hd rfl (k ls hl)) h
theorem wp_i2b {x : Int32} (hd : decode M.2.1 pc = .ok (.i2b, 1)) (h : Wp G M kc ks (pc + 1) l (.int x.toInt8.toInt32 :: st) u Q) : Wp G M kc ks pc l (.int x :: st) u Q := wp_go (fun _ _ _ _ _ _ _ _ _ _ _ _ _ _ ls C hl k => lv_i2b C.1 C.2.1 hd rfl (k ls hl)) h
theorem wp_dup {v : Value} (hd : decode M.2.1 pc = .ok (.dup, 1)) (hv : v.category = 1) (h : Wp G M kc ks (pc + 1) l (v :: v :: st) u Q) : Wp G M kc ks pc l (v :: st) u Q := wp_go (fun _ _ _ _ _ _ _ _ _ _ _ _ _ _ ls C hl k => lv_dup C.1 C.2.1 hd ((tv_cat v).trans hv) (k ls hl)) h
theorem wp_pop {v : Value} (hd : decode M.2.1 pc = .ok (.pop, 1)) (hv : v.category = 1) (h : Wp G M kc ks (pc + 1) l st u Q) : Wp G M kc ks pc l (v :: st) u Q := wp_go (fun _ _ _ _ _ _ _ _ _ _ _ _ _ _ ls C hl k => lv_pop C.1 C.2.1 hd ((tv_cat v).trans hv) (k ls hl)) h
theorem wp_dup2 {v w : Value} (hd : decode M.2.1 pc = .ok (.dup2, 1)) (hv : v.category = 1) (hw : w.category = 1) (h : Wp G M kc ks (pc + 1) l (v :: w :: v :: w :: st) u Q) : Wp G M kc ks pc l (v :: w :: st) u Q := wp_go (fun _ _ _ _ _ _ _ _ _ _ _ _ _ _ ls C hl k => lv_dup2_11 C.1 C.2.1 hd ((tv_cat v).trans hv) ((tv_cat w).trans hw) (k ls hl)) h
theorem wp_dup_x1 {v w : Value} (hd : decode M.2.1 pc = .ok (.dup_x1, 1)) (hv : v.category = 1) (hw : w.category = 1) (h : Wp G M kc ks (pc + 1) l (v :: w :: v :: st) u Q) : Wp G M kc ks pc l (v :: w :: st) u Q := wp_go (fun _ _ _ _ _ _ _ _ _ _ _ _ _ _ ls C hl k => lv_dup_x1 C.1 C.2.1 hd ((tv_cat v).trans hv) ((tv_cat w).trans hw) (k ls hl)) h
theorem wp_pop2 {v : Value} (hd : decode M.2.1 pc = .ok (.pop2, 1)) (hv : v.category = 2) (h : Wp G M kc ks (pc + 1) l st u Q) : Wp G M kc ks pc l (v :: st) u Q := wp_go (fun _ _ _ _ _ _ _ _ _ _ _ _ _ _ ls C hl k => lv_pop2_2 C.1 C.2.1 hd ((tv_cat v).trans hv) (k ls hl)) h
theorem wp_goto {off : Int} {tgt : Nat} (hd : decode M.2.1 pc = .ok (.goto off, 3)) (ht : (pc : Int) + off = (tgt : Int)) (h : Wp G M kc ks tgt l st u Q) : Wp G M kc ks pc l st u Q := wp_go (fun _ _ _ _ _ _ _ _ _ _ _ _ _ _ ls C hl k => lv_goto C.1 C.2.1 hd ht (k ls hl)) h
theorem wp_ifnull {x : Nat} {off : Int} (hd : decode M.2.1 pc = .ok (.ifnull off, 3)) (h : Wp G M kc ks (pc + 3) l st u Q) : Wp G M kc ks pc l (.ref x :: st) u Q := wp_go (fun _ _ _ _ _ _ _ _ _ _ _ _ _ _ ls C hl k => lv_ifnull C.1 C.2.1 hd (k ls hl)) h
theorem wp_lcmp {x y : Int64} (hd : decode M.2.1 pc = .ok (.lcmp, 1)) (h : Wp G M kc ks (pc + 1) l (.int (lg_cmp x y) :: st) u Q) : Wp G M kc ks pc l (.long y :: .long x :: st) u Q := wp_go (fun _ _ _ _ _ _ _ _ _ _ _ _ _ _ ls C hl k => W.lcmp C.1 C.2.1 hd (k ls hl)) h
end CORE
end
section
section MEM
variable {G : pG} {M : pY} {kc ks pc : Nat} {l : pLo} {st : List Value} {u : pM} {Q : Option Value → pM → Prop}
theorem wp_if_eq {x : Int32} {off : Int} {tgt : Nat} (hd : decode M.2.1 pc = .ok (.ifCond .eq off, 3)) (ht : (pc : Int) + off = (tgt : Int)) (kt : x = 0 → Wp G M kc ks tgt l st u Q) (kf : ¬ (x = 0) → Wp G M kc ks (pc + 3) l st u Q) : Wp G M kc ks pc l (.int x :: st) u Q := fun p e R s m args below meth c C H ls locs cells slots Qf mc ms a1 a2 a3 a4 a5 a6 a7 a8 k => lv_if_eq C.1 C.2.1 hd ht (fun q => kt q p e R s m args below meth c C H ls locs cells slots Qf mc ms a1 a2 a3 a4 a5 a6 a7 a8 k) (fun q => kf q p e R s m args below meth c C H ls locs cells slots Qf mc ms a1 a2 a3 a4 a5 a6 a7 a8 k)
theorem wp_icmp_eq {x y : Int32} {off : Int} {tgt : Nat} (hd : decode M.2.1 pc = .ok (.if_icmp .eq off, 3)) (ht : (pc : Int) + off = (tgt : Int)) (kt : x = y → Wp G M kc ks tgt l st u Q) (kf : ¬ (x = y) → Wp G M kc ks (pc + 3) l st u Q) : Wp G M kc ks pc l (.int y :: .int x :: st) u Q := fun p e R s m args below meth c C H ls locs cells slots Qf mc ms a1 a2 a3 a4 a5 a6 a7 a8 k => lv_icmp_eq C.1 C.2.1 hd ht (fun q => kt q p e R s m args below meth c C H ls locs cells slots Qf mc ms a1 a2 a3 a4 a5 a6 a7 a8 k) (fun q => kf q p e R s m args below meth c C H ls locs cells slots Qf mc ms a1 a2 a3 a4 a5 a6 a7 a8 k)
theorem wp_if_ne {x : Int32} {off : Int} {tgt : Nat} (hd : decode M.2.1 pc = .ok (.ifCond .ne off, 3)) (ht : (pc : Int) + off = (tgt : Int)) (kt : ¬ x = 0 → Wp G M kc ks tgt l st u Q) (kf : x = 0 → Wp G M kc ks (pc + 3) l st u Q) : Wp G M kc ks pc l (.int x :: st) u Q := fun p e R s m args below meth c C H ls locs cells slots Qf mc ms a1 a2 a3 a4 a5 a6 a7 a8 k => lv_if_ne C.1 C.2.1 hd ht (fun q => kt q p e R s m args below meth c C H ls locs cells slots Qf mc ms a1 a2 a3 a4 a5 a6 a7 a8 k) (fun q => kf q p e R s m args below meth c C H ls locs cells slots Qf mc ms a1 a2 a3 a4 a5 a6 a7 a8 k)
theorem wp_icmp_ne {x y : Int32} {off : Int} {tgt : Nat} (hd : decode M.2.1 pc = .ok (.if_icmp .ne off, 3)) (ht : (pc : Int) + off = (tgt : Int)) (kt : ¬ x = y → Wp G M kc ks tgt l st u Q) (kf : x = y → Wp G M kc ks (pc + 3) l st u Q) : Wp G M kc ks pc l (.int y :: .int x :: st) u Q := fun p e R s m args below meth c C H ls locs cells slots Qf mc ms a1 a2 a3 a4 a5 a6 a7 a8 k => lv_icmp_ne C.1 C.2.1 hd ht (fun q => kt q p e R s m args below meth c C H ls locs cells slots Qf mc ms a1 a2 a3 a4 a5 a6 a7 a8 k) (fun q => kf q p e R s m args below meth c C H ls locs cells slots Qf mc ms a1 a2 a3 a4 a5 a6 a7 a8 k)
theorem wp_if_lt {x : Int32} {off : Int} {tgt : Nat} (hd : decode M.2.1 pc = .ok (.ifCond .lt off, 3)) (ht : (pc : Int) + off = (tgt : Int)) (kt : x < 0 → Wp G M kc ks tgt l st u Q) (kf : ¬ (x < 0) → Wp G M kc ks (pc + 3) l st u Q) : Wp G M kc ks pc l (.int x :: st) u Q := fun p e R s m args below meth c C H ls locs cells slots Qf mc ms a1 a2 a3 a4 a5 a6 a7 a8 k => lv_if_lt C.1 C.2.1 hd ht (fun q => kt q p e R s m args below meth c C H ls locs cells slots Qf mc ms a1 a2 a3 a4 a5 a6 a7 a8 k) (fun q => kf q p e R s m args below meth c C H ls locs cells slots Qf mc ms a1 a2 a3 a4 a5 a6 a7 a8 k)
theorem wp_icmp_lt {x y : Int32} {off : Int} {tgt : Nat} (hd : decode M.2.1 pc = .ok (.if_icmp .lt off, 3)) (ht : (pc : Int) + off = (tgt : Int)) (kt : x < y → Wp G M kc ks tgt l st u Q) (kf : ¬ (x < y) → Wp G M kc ks (pc + 3) l st u Q) : Wp G M kc ks pc l (.int y :: .int x :: st) u Q := fun p e R s m args below meth c C H ls locs cells slots Qf mc ms a1 a2 a3 a4 a5 a6 a7 a8 k => lv_icmp_lt C.1 C.2.1 hd ht (fun q => kt q p e R s m args below meth c C H ls locs cells slots Qf mc ms a1 a2 a3 a4 a5 a6 a7 a8 k) (fun q => kf q p e R s m args below meth c C H ls locs cells slots Qf mc ms a1 a2 a3 a4 a5 a6 a7 a8 k)
theorem wp_if_ge {x : Int32} {off : Int} {tgt : Nat} (hd : decode M.2.1 pc = .ok (.ifCond .ge off, 3)) (ht : (pc : Int) + off = (tgt : Int)) (kt : 0 ≤ x → Wp G M kc ks tgt l st u Q) (kf : ¬ (0 ≤ x) → Wp G M kc ks (pc + 3) l st u Q) : Wp G M kc ks pc l (.int x :: st) u Q := fun p e R s m args below meth c C H ls locs cells slots Qf mc ms a1 a2 a3 a4 a5 a6 a7 a8 k => lv_if_ge C.1 C.2.1 hd ht (fun q => kt q p e R s m args below meth c C H ls locs cells slots Qf mc ms a1 a2 a3 a4 a5 a6 a7 a8 k) (fun q => kf q p e R s m args below meth c C H ls locs cells slots Qf mc ms a1 a2 a3 a4 a5 a6 a7 a8 k)
theorem wp_icmp_ge {x y : Int32} {off : Int} {tgt : Nat} (hd : decode M.2.1 pc = .ok (.if_icmp .ge off, 3)) (ht : (pc : Int) + off = (tgt : Int)) (kt : y ≤ x → Wp G M kc ks tgt l st u Q) (kf : ¬ (y ≤ x) → Wp G M kc ks (pc + 3) l st u Q) : Wp G M kc ks pc l (.int y :: .int x :: st) u Q := fun p e R s m args below meth c C H ls locs cells slots Qf mc ms a1 a2 a3 a4 a5 a6 a7 a8 k => lv_icmp_ge C.1 C.2.1 hd ht (fun q => kt q p e R s m args below meth c C H ls locs cells slots Qf mc ms a1 a2 a3 a4 a5 a6 a7 a8 k) (fun q => kf q p e R s m args below meth c C H ls locs cells slots Qf mc ms a1 a2 a3 a4 a5 a6 a7 a8 k)
theorem wp_if_gt {x : Int32} {off : Int} {tgt : Nat} (hd : decode M.2.1 pc = .ok (.ifCond .gt off, 3)) (ht : (pc : Int) + off = (tgt : Int)) (kt : 0 < x → Wp G M kc ks tgt l st u Q) (kf : ¬ (0 < x) → Wp G M kc ks (pc + 3) l st u Q) : Wp G M kc ks pc l (.int x :: st) u Q := fun p e R s m args below meth c C H ls locs cells slots Qf mc ms a1 a2 a3 a4 a5 a6 a7 a8 k => lv_if_gt C.1 C.2.1 hd ht (fun q => kt q p e R s m args below meth c C H ls locs cells slots Qf mc ms a1 a2 a3 a4 a5 a6 a7 a8 k) (fun q => kf q p e R s m args below meth c C H ls locs cells slots Qf mc ms a1 a2 a3 a4 a5 a6 a7 a8 k)
theorem wp_icmp_gt {x y : Int32} {off : Int} {tgt : Nat} (hd : decode M.2.1 pc = .ok (.if_icmp .gt off, 3)) (ht : (pc : Int) + off = (tgt : Int)) (kt : y < x → Wp G M kc ks tgt l st u Q) (kf : ¬ (y < x) → Wp G M kc ks (pc + 3) l st u Q) : Wp G M kc ks pc l (.int y :: .int x :: st) u Q := fun p e R s m args below meth c C H ls locs cells slots Qf mc ms a1 a2 a3 a4 a5 a6 a7 a8 k => lv_icmp_gt C.1 C.2.1 hd ht (fun q => kt q p e R s m args below meth c C H ls locs cells slots Qf mc ms a1 a2 a3 a4 a5 a6 a7 a8 k) (fun q => kf q p e R s m args below meth c C H ls locs cells slots Qf mc ms a1 a2 a3 a4 a5 a6 a7 a8 k)
theorem wp_if_le {x : Int32} {off : Int} {tgt : Nat} (hd : decode M.2.1 pc = .ok (.ifCond .le off, 3)) (ht : (pc : Int) + off = (tgt : Int)) (kt : x ≤ 0 → Wp G M kc ks tgt l st u Q) (kf : ¬ (x ≤ 0) → Wp G M kc ks (pc + 3) l st u Q) : Wp G M kc ks pc l (.int x :: st) u Q := fun p e R s m args below meth c C H ls locs cells slots Qf mc ms a1 a2 a3 a4 a5 a6 a7 a8 k => lv_if_le C.1 C.2.1 hd ht (fun q => kt q p e R s m args below meth c C H ls locs cells slots Qf mc ms a1 a2 a3 a4 a5 a6 a7 a8 k) (fun q => kf q p e R s m args below meth c C H ls locs cells slots Qf mc ms a1 a2 a3 a4 a5 a6 a7 a8 k)
theorem wp_icmp_le {x y : Int32} {off : Int} {tgt : Nat} (hd : decode M.2.1 pc = .ok (.if_icmp .le off, 3)) (ht : (pc : Int) + off = (tgt : Int)) (kt : x ≤ y → Wp G M kc ks tgt l st u Q) (kf : ¬ (x ≤ y) → Wp G M kc ks (pc + 3) l st u Q) : Wp G M kc ks pc l (.int y :: .int x :: st) u Q := fun p e R s m args below meth c C H ls locs cells slots Qf mc ms a1 a2 a3 a4 a5 a6 a7 a8 k => lv_icmp_le C.1 C.2.1 hd ht (fun q => kt q p e R s m args below meth c C H ls locs cells slots Qf mc ms a1 a2 a3 a4 a5 a6 a7 a8 k) (fun q => kf q p e R s m args below meth c C H ls locs cells slots Qf mc ms a1 a2 a3 a4 a5 a6 a7 a8 k)
theorem wp_tableIn {x : Int32} {dflt lo hi : Int} {offs : Array Int} {len : Nat} {off : Int} {tgt : Nat} (j : Nat) (hd : decode M.2.1 pc = .ok (.tableswitch dflt lo hi offs, len)) (hx : x.toInt = lo + j) (hj : lo + j ≤ hi) (ho : offs[j]? = some off) (ht : (pc : Int) + off = (tgt : Int)) (h : Wp G M kc ks tgt l st u Q) : Wp G M kc ks pc l (.int x :: st) u Q :=
  wp_go (fun _ _ _ _ _ _ _ _ _ _ _ _ _ _ ls C hl k => lv_tableIn C.1 C.2.1 hd (by omega) (by omega) (by rw [hx, show (lo + (j : Int) - lo).toNat = j by omega]; exact ho) ht (k ls hl)) h
theorem wp_tableOut {x : Int32} {dflt lo hi : Int} {offs : Array Int} {len tgt : Nat} (hd : decode M.2.1 pc = .ok (.tableswitch dflt lo hi offs, len)) (hx : x.toInt < lo ∨ hi < x.toInt) (ht : (pc : Int) + dflt = (tgt : Int)) (h : Wp G M kc ks tgt l st u Q) : Wp G M kc ks pc l (.int x :: st) u Q :=
  wp_go (fun _ _ _ _ _ _ _ _ _ _ _ _ _ _ ls C hl k => lv_tableOut C.1 C.2.1 hd hx ht (k ls hl)) h
/-! the heap -/
theorem W_sz {p : Program} {l : Launch} {e : Env} {R : Room} {s : State} {m : MethodId} {args : Array Value} {below : List Frame} {meth : Method} {c : Code} {H : Heap} {locs : List Loc} {cells slots : Nat} {Q : State → Prop} {g : JFrame} (k : H.size ≤ s.heap.size + cells → W p l e R s m args below meth c H locs cells slots Q g) : W p l e R s m args below meth c H locs cells slots Q g := fun T hT X => k (by have h := X.same.2.2.1; rw [← hT]; exact h) T hT X
theorem va_S_sub {A : Nat → Prop} {H0 H : Heap} {locs : List Loc} (h : va_S A H0 H locs) : va_S A H H locs := ⟨Nat.le_refl _, fun _ _ _ => rfl, h.2.2⟩
theorem va_S_tr {A : Nat → Prop} {H0 H H1 : Heap} {locs locs1 : List Loc} (h : va_S A H0 H locs) (h1 : va_S A H H1 locs1) : va_S A H0 H1 locs1 := ⟨Nat.le_trans h.1 h1.1, fun q a b => (h1.2.1 q (Nat.lt_of_lt_of_le a h.1) b).trans (h.2.1 q a b), h1.2.2⟩
def ok (u : pM) (n ci : Nat) : Prop := 2 ≤ n ∧ n < mX u + 2 ∧ (mS u n).1 = ci
def oka (u : pM) (n kd : Nat) (i : Int32) : Prop := ok u n kd ∧ vp_in i (mS u n).2
theorem wl_get {n : Nat} (h1 : 2 ≤ n) (h2 : n < mX u + 2) : (wl G u)[n - 2]? = some (ad G n, ce G u n) := by
  obtain ⟨i, rfl⟩ : ∃ i, n = i + 2 := ⟨n - 2, by omega⟩
  have hi : i < mX u := by omega
  simp [wl, List.getElem?_map, List.getElem?_range hi, ad]
theorem ce_congr {u' : pM} {a : Nat} (hS : mS u' a = mS u a) (hI : ∀ k, mI u' a k = mI u a k) (hL : ∀ k, mL u' a k = mL u a k) (hR : ∀ k, mR u' a k = mR u a k) : ce G u' a = ce G u a := by
  have e1 : mI u' a = mI u a := funext hI
  have e2 : mL u' a = mL u a := funext hL
  have e3 : mR u' a = mR u a := funext hR
  simp only [ce, fvs, fv, hS, e1, e2, e3]
theorem wl_set {u' : pM} {n : Nat} (h1 : 2 ≤ n) (h2 : n < mX u + 2) (hX : mX u' = mX u) (ho : ∀ a, a ≠ n → ce G u' a = ce G u a) {e : va_E} (he : e = ce G u' n) : (wl G u).set (n - 2) (ad G n, e) = wl G u' := by
  obtain ⟨i, rfl⟩ : ∃ i, n = i + 2 := ⟨n - 2, by omega⟩
  have hi : i < mX u := by omega
  subst he
  apply List.ext_getElem?
  intro j
  simp only [wl, hX, Nat.add_sub_cancel]
  by_cases hj : j = i
  · subst hj
    rw [List.getElem?_set_self (by simpa using hi)]
    simp [List.getElem?_range hi, ad]
  · rw [List.getElem?_set_ne (Ne.symm hj)]
    by_cases hlt : j < mX u
    · simp only [List.getElem?_map, List.getElem?_range hlt, Option.map_some]
      rw [ho (j + 2) (by omega)]
    · simp [List.getElem?_map, List.getElem?_eq_none (l := List.range (mX u)) (by simpa using Nat.le_of_not_lt hlt)]
theorem ce_obj {n ci : Nat} (h : (mS u n).1 = ci) (hc : ci < 9) : ce G u n = .inr (ci, fvs G u n ci) := by simp [ce, h, hc]
theorem ce_int {n : Nat} (h : (mS u n).1 = 100) : ce G u n = .inl (gA G 0, (mS u n).2, .inl (mI u n)) := by simp [ce, h]
theorem ce_long {n : Nat} (h : (mS u n).1 = 101) : ce G u n = .inl (gA G 1, (mS u n).2, .inr (.inl (mL u n))) := by simp [ce, h]
theorem ce_ref {n kd : Nat} (h : (mS u n).1 = kd) (hk : 102 ≤ kd) : ce G u n = .inl (gA G (kd - 100), (mS u n).2, .inr (.inr (.inr (.inr (fun j => rf G (mR u n j)))))) := by
  have h1 : ¬ kd < 9 := by omega
  have h2 : ¬ kd = 100 := by omega
  have h3 : ¬ kd = 101 := by omega
  simp [ce, h, h1, h2, h3]
theorem fvs_get {n ci k : Nat} (hk : k < (ftys.getD ci []).length) : (fvs G u n ci)[k]? = some (fv G u n k (fty ci k)) := by
  simp only [fvs, List.getElem?_mapIdx, fty]
  rw [List.getD_eq_getElem?_getD (l := ftys.getD ci []), List.getElem?_eq_getElem hk]
  rfl
theorem fvs_len {n ci : Nat} : (fvs G u n ci).length = (ftys.getD ci []).length := by simp [fvs]
theorem fvs_set {u' : pM} {n ci k : Nat} (hk : k < (ftys.getD ci []).length) (ho : ∀ j t, j ≠ k → fv G u' n j t = fv G u n j t) {v : Value} (hv : v = fv G u' n k (fty ci k)) : (fvs G u n ci).set k v = fvs G u' n ci := by
  subst hv
  apply List.ext_getElem?
  intro j
  by_cases hj : j = k
  · subst hj
    rw [List.getElem?_set_self (by rw [fvs_len]; exact hk), fvs_get hk]
  · rw [List.getElem?_set_ne (Ne.symm hj)]
    by_cases hlt : j < (ftys.getD ci []).length
    · rw [fvs_get hlt, fvs_get hlt, ho _ _ hj]
    · rw [List.getElem?_eq_none (by rw [fvs_len]; omega), List.getElem?_eq_none (by rw [fvs_len]; omega)]
/-- a field's link: own class, entry, class's number, slot -/
def FL (own : String) (idx ci k : Nat) : Prop := ∃ (r : vw_C) (ty : Nat → FieldType), clOK ci r ty ∧ k < r.2.2 ∧ ci < 9 ∧ Cond.fieldLink own idx (r.2.1 k).1 (r.2.1 k).2.1 (r.2.1 k).2.2.1 ∈ lw_g
theorem wp_getX {idx ci k o t : Nat} {v : Value} (hf : FL M.1.cls idx ci k) (ht : fty ci k = t) (hd : decode M.2.1 pc = .ok (.getfield idx, 3)) (ho : ok u o ci) (hv : fv G u o k t = tv G v) (h : Wp G M kc ks (pc + 3) l (v :: st) u Q) : Wp G M kc ks pc l (.ref o :: st) u Q := by
  intro p e R s m args below meth c C H ls locs cells slots Qf mc ms a1 a2 a3 a4 a5 a6 a7 a8 k'
  obtain ⟨⟨C0, T0, N0⟩, ty, ⟨hc, hin, hty, hnm, hN, htc, hdecl⟩, hk, hci, hlink⟩ := hf
  obtain ⟨o1, o2, o3⟩ := ho
  obtain ⟨hP, hD, hK, hz⟩ := id a1
  have hw := wl_get (G := G) o1 o2
  rw [ce_obj o3 hci] at hw
  subst ht
  refine va_get (D := (gC G, gI G)) (ws := wl G u) C.1 C.2.1 C.2.2.2.2.2.1 hin C.2.2.2.2.1 hK hP (o - 2) hw hc k hk (C.2.2.2.2.2.1 _ hlink) (fun _ z => z) (fvs_get (by rw [← hN]; exact hk)) hd ?_
  rw [hv]
  exact h p e R s m args below meth c C H ls locs cells slots Qf mc ms a1 a2 a3 a4 a5 a6 a7 a8 k'
theorem wp_getI {idx ci k o : Nat} (hf : FL M.1.cls idx ci k) (ht : fty ci k = 0) (hd : decode M.2.1 pc = .ok (.getfield idx, 3)) (ho : ok u o ci) (h : Wp G M kc ks (pc + 3) l (.int (mI u o k) :: st) u Q) : Wp G M kc ks pc l (.ref o :: st) u Q := wp_getX hf ht hd ho (v := .int (mI u o k)) (by simp [fv, tv]) h
theorem wp_getL {idx ci k o : Nat} (hf : FL M.1.cls idx ci k) (ht : fty ci k = 1) (hd : decode M.2.1 pc = .ok (.getfield idx, 3)) (ho : ok u o ci) (h : Wp G M kc ks (pc + 3) l (.long (mL u o k) :: st) u Q) : Wp G M kc ks pc l (.ref o :: st) u Q := wp_getX hf ht hd ho (v := .long (mL u o k)) (by simp [fv, tv]) h
theorem wp_getR {idx ci k o : Nat} (hf : FL M.1.cls idx ci k) (ht : fty ci k = 2) (hd : decode M.2.1 pc = .ok (.getfield idx, 3)) (ho : ok u o ci) (hn : mR u o k ≠ 0) (h : Wp G M kc ks (pc + 3) l (.ref (mR u o k) :: st) u Q) : Wp G M kc ks pc l (.ref o :: st) u Q := wp_getX hf ht hd ho (v := .ref (mR u o k)) (by simp [fv, tv, rf, hn, va_rf]) h
/-- behind a store -/
theorem rl_st {s : State} {H H1 : Heap} {u' : pM} {n cells : Nat} {e : va_E} {locs1 : List Loc} (a1 : Rl G s H u) (h1 : 2 ≤ n) (h2 : n < mX u + 2) (hX : mX u' = mX u) (ho : ∀ a, a ≠ n → ce G u' a = ce G u a) (he : e = ce G u' n) (hP : va_P (gC G, gI G) cls9 ((wl G u).set (n - 2) (ad G n, e)) H1) (hD : va_D (Ag G) ((wl G u).set (n - 2) (ad G n, e))) (hS : va_S (Ag G) H H1 locs1) (hz : H.size = s.heap.size + cells) (hz1 : H1.size ≤ s.heap.size + cells) : Rl G s H1 u' ∧ H1.size = s.heap.size + cells := by
  rw [wl_set h1 h2 hX ho he] at hP hD
  have e1 : H1.size = H.size := by have := hS.1; omega
  exact ⟨⟨hP, hD, a1.2.2.1, by rw [e1, hX]; exact a1.2.2.2⟩, by rw [e1]; exact hz⟩
theorem ce_pI {n k a : Nat} {v : Int32} (h : a ≠ n) : ce G (pI u n k v) a = ce G u a := ce_congr rfl (fun j => by show (up2 (mI u) n k v) a j = _; simp [up2, h]) (fun _ => rfl) (fun _ => rfl)
theorem ce_pL {n k a : Nat} {v : Int64} (h : a ≠ n) : ce G (pL u n k v) a = ce G u a := ce_congr rfl (fun _ => rfl) (fun j => by show (up2 (mL u) n k v) a j = _; simp [up2, h]) (fun _ => rfl)
theorem ce_pR {n k a v : Nat} (h : a ≠ n) : ce G (pR u n k v) a = ce G u a := ce_congr rfl (fun _ => rfl) (fun _ => rfl) (fun j => by show (up2 (mR u) n k v) a j = _; simp [up2, h])
theorem wp_putX {idx ci k o t : Nat} {v : Value} {u' : pM} (hf : FL M.1.cls idx ci k) (ht : fty ci k = t) (hnf : ∀ r ty, clOK ci r ty → (r.2.1 k).2.2.2 = false) (hd : decode M.2.1 pc = .ok (.putfield idx, 3)) (ho : ok u o ci) (hty : ∀ ty, tyc ty = t → narrow ty (tv G v) = tv G v ∧ fits ty (tv G v) = true) (hX : mX u' = mX u) (hS' : mS u' o = mS u o) (hoth : ∀ a, a ≠ o → ce G u' a = ce G u a) (hof : ∀ j t, j ≠ k → fv G u' o j t = fv G u o j t) (hv : tv G v = fv G u' o k t) (h : Wp G M kc ks (pc + 3) l st u' Q) : Wp G M kc ks pc l (v :: .ref o :: st) u Q := by
  intro p e R s m args below meth c C H ls locs cells slots Qf mc ms a1 a2 a3 a4 a5 a6 a7 a8 k'
  obtain ⟨⟨C0, T0, N0⟩, ty, hcl, hk, hci, hlink⟩ := hf
  have hfin := hnf _ _ hcl
  obtain ⟨hc, hin, hty0, hnm, hN, htc, hdecl⟩ := hcl
  obtain ⟨o1, o2, o3⟩ := id ho
  obtain ⟨hP, hD, hK, hz⟩ := id a1
  have hw := wl_get (G := G) o1 o2
  rw [ce_obj o3 hci] at hw
  subst ht
  obtain ⟨hn1, hn2⟩ := hty (ty k) (htc k hk)
  refine va_put (D := (gC G, gI G)) (ws := wl G u) C.1 C.2.1 C.2.2.2.2.2.1 hin ty hty0 hnm C.2.2.2.2.1 hK hP hD (va_S_sub a2) (o - 2) hw hc k hk (C.2.2.2.2.2.1 _ hlink) (fun _ z => z) hfin (hty0 k hk) hn1 hn2 (by rw [fvs_len, ← hN]; exact hk) hd (fun H1 locs1 hP1 hD1 hS1 => W_sz fun hz1 => ?_)
  have he : (Sum.inr (ci, (fvs G u o ci).set k (tv G v)) : va_E) = ce G u' o := by
    rw [ce_obj (hS'.symm ▸ o3) hci, fvs_set (by rw [← hN]; exact hk) hof hv]
  obtain ⟨r1, r2⟩ := rl_st a1 o1 o2 hX hoth he hP1 hD1 hS1 a4 hz1
  exact h p e R s m args below meth c C H1 ls locs1 cells slots Qf mc ms r1 (va_S_tr a2 hS1) a3 r2 a5 a6 a7 a8 k'
theorem wp_putI {idx ci k o : Nat} {v : Int32} (hf : FL M.1.cls idx ci k) (ht : fty ci k = 0) (hnf : ∀ r ty, clOK ci r ty → (r.2.1 k).2.2.2 = false) (hd : decode M.2.1 pc = .ok (.putfield idx, 3)) (ho : ok u o ci) (h : Wp G M kc ks (pc + 3) l st (pI u o k v) Q) : Wp G M kc ks pc l (.int v :: .ref o :: st) u Q := by
  refine wp_putX (u' := pI u o k v) (v := .int v) hf ht hnf hd ho (fun ty hq => by cases ty <;> first | exact ⟨rfl, rfl⟩ | cases hq) rfl rfl (fun a ha => ce_pI ha) (fun j t hj => ?_) ?_ h
  · have e : mI (pI u o k v) o j = mI u o j := by show up2 (mI u) o k v o j = _; simp [up2, hj]
    simp only [fv, e]; rfl
  · show Value.int v = _
    have e : mI (pI u o k v) o k = v := by show up2 (mI u) o k v o k = _; simp [up2]
    simp [fv, e]
theorem wp_putL {idx ci k o : Nat} {v : Int64} (hf : FL M.1.cls idx ci k) (ht : fty ci k = 1) (hnf : ∀ r ty, clOK ci r ty → (r.2.1 k).2.2.2 = false) (hd : decode M.2.1 pc = .ok (.putfield idx, 3)) (ho : ok u o ci) (h : Wp G M kc ks (pc + 3) l st (pL u o k v) Q) : Wp G M kc ks pc l (.long v :: .ref o :: st) u Q := by
  refine wp_putX (u' := pL u o k v) (v := .long v) hf ht hnf hd ho (fun ty hq => by cases ty <;> first | exact ⟨rfl, rfl⟩ | cases hq) rfl rfl (fun a ha => ce_pL ha) (fun j t hj => ?_) ?_ h
  · have e : mL (pL u o k v) o j = mL u o j := by show up2 (mL u) o k v o j = _; simp [up2, hj]
    simp only [fv, e]; rfl
  · show Value.long v = _
    have e : mL (pL u o k v) o k = v := by show up2 (mL u) o k v o k = _; simp [up2]
    simp [fv, e]
theorem fv_pR {o k j t v : Nat} (hj : j ≠ k) : fv G (pR u o k v) o j t = fv G u o j t := by
  have e : mR (pR u o k v) o j = mR u o j := by show up2 (mR u) o k v o j = _; simp [up2, hj]
  simp only [fv, e]; rfl
theorem fv_pR' {o k v : Nat} (hn : v ≠ 0) : Value.ref (ad G v) = fv G (pR u o k v) o k 2 := by
  have e : mR (pR u o k v) o k = v := by show up2 (mR u) o k v o k = _; simp [up2]
  simp [fv, e, rf, hn, va_rf]
theorem wp_putR {idx ci k o v : Nat} (hf : FL M.1.cls idx ci k) (ht : fty ci k = 2) (hnf : ∀ r ty, clOK ci r ty → (r.2.1 k).2.2.2 = false) (hd : decode M.2.1 pc = .ok (.putfield idx, 3)) (ho : ok u o ci) (hn : v ≠ 0) (h : Wp G M kc ks (pc + 3) l st (pR u o k v) Q) : Wp G M kc ks pc l (.ref v :: .ref o :: st) u Q :=
  wp_putX (u' := pR u o k v) (v := .ref v) hf ht hnf hd ho (fun ty hq => by cases ty <;> first | exact ⟨rfl, rfl⟩ | cases hq) rfl rfl (fun a ha => ce_pR ha) (fun j t hj => fv_pR hj) (fv_pR' hn) h
/-- a final field in its constructor -/
theorem wp_putRF {idx ci k o v : Nat} (hf : FL M.1.cls idx ci k) (ht : fty ci k = 2) (hnf : ∀ r ty, clOK ci r ty → (r.2.1 k).2.2.2 = true ∧ r.1 = M.1.cls) (hin2 : M.1.name = "<init>") (hd : decode M.2.1 pc = .ok (.putfield idx, 3)) (ho : ok u o ci) (hn : v ≠ 0) (h : Wp G M kc ks (pc + 3) l st (pR u o k v) Q) : Wp G M kc ks pc l (.ref v :: .ref o :: st) u Q := by
  intro p e R s m args below meth c C H ls locs cells slots Qf mc ms a1 a2 a3 a4 a5 a6 a7 a8 k'
  obtain ⟨⟨C0, T0, N0⟩, ty, hcl, hk, hci, hlink⟩ := hf
  obtain ⟨hfin, hCo⟩ := hnf _ _ hcl
  obtain ⟨hc, hin, hty0, hnm, hN, htc, hdecl⟩ := hcl
  obtain ⟨o1, o2, o3⟩ := id ho
  obtain ⟨hP, hD, hK, hz⟩ := id a1
  have hw := wl_get (G := G) o1 o2
  rw [ce_obj o3 hci] at hw
  have ht2 : tyc (ty k) = 2 := (htc k hk).trans ht
  have hn1 : narrow (ty k) (.ref (ad G v)) = .ref (ad G v) := by cases hq : ty k <;> rw [hq] at ht2 <;> first | rfl | cases ht2
  have hn2 : fits (ty k) (.ref (ad G v)) = true := by cases hq : ty k <;> rw [hq] at ht2 <;> first | rfl | cases ht2
  refine va_putF (D := (gC G, gI G)) (ws := wl G u) C.1 C.2.1 C.2.2.2.2.2.1 hin ty hty0 hnm C.2.2.2.2.1 hK hP hD (va_S_sub a2) (o - 2) hw hc k hk (C.2.2.2.2.2.1 _ hlink) (fun _ z => z) hfin (C.2.2.2.2.2.2.2.1.trans hin2) ((hdecl k hk).trans hCo) (hty0 k hk) hn1 hn2 (by rw [fvs_len, ← hN]; exact hk) hd (fun H1 locs1 hP1 hD1 hS1 => W_sz fun hz1 => ?_)
  have he : (Sum.inr (ci, (fvs G u o ci).set k (.ref (ad G v))) : va_E) = ce G (pR u o k v) o := by
    rw [ce_obj (u := pR u o k v) o3 hci, fvs_set (by rw [← hN]; exact hk) (fun j t hj => fv_pR hj) (by rw [ht]; exact fv_pR' hn)]
  obtain ⟨r1, r2⟩ := rl_st (u' := pR u o k v) a1 o1 o2 rfl (fun a ha => ce_pR ha) he hP1 hD1 hS1 a4 hz1
  exact h p e R s m args below meth c C H1 ls locs1 cells slots Qf mc ms r1 (va_S_tr a2 hS1) a3 r2 a5 a6 a7 a8 k'
end MEM
end
section
section ARR
variable {G : pG} {M : pY} {kc ks pc : Nat} {l : pLo} {st : List Value} {u : pM} {Q : Option Value → pM → Prop}
theorem wp_iald {n : Nat} {i : Int32} (hd : decode M.2.1 pc = .ok (.iaload, 1)) (ha : oka u n 100 i) (h : Wp G M kc ks (pc + 1) l (.int (mI u n i.toNatClampNeg) :: st) u Q) : Wp G M kc ks pc l (.int i :: .ref n :: st) u Q := by
  intro p e R s m args below meth c C H ls locs cells slots Qf mc ms a1 a2 a3 a4 a5 a6 a7 a8 k'
  obtain ⟨⟨o1, o2, o3⟩, hi⟩ := ha
  have hw := wl_get (G := G) o1 o2
  rw [ce_int o3] at hw
  exact va_iald C.1 C.2.1 a1.2.2.1 a1.1 (n - 2) 0 hw rfl hi hd (h p e R s m args below meth c C H ls locs cells slots Qf mc ms a1 a2 a3 a4 a5 a6 a7 a8 k')
theorem wp_lald {n : Nat} {i : Int32} (hd : decode M.2.1 pc = .ok (.laload, 1)) (ha : oka u n 101 i) (h : Wp G M kc ks (pc + 1) l (.long (mL u n i.toNatClampNeg) :: st) u Q) : Wp G M kc ks pc l (.int i :: .ref n :: st) u Q := by
  intro p e R s m args below meth c C H ls locs cells slots Qf mc ms a1 a2 a3 a4 a5 a6 a7 a8 k'
  obtain ⟨⟨o1, o2, o3⟩, hi⟩ := ha
  have hw := wl_get (G := G) o1 o2
  rw [ce_long o3] at hw
  exact va_lald C.1 C.2.1 a1.2.2.1 a1.1 (n - 2) 1 hw rfl hi hd (h p e R s m args below meth c C H ls locs cells slots Qf mc ms a1 a2 a3 a4 a5 a6 a7 a8 k')
def rk (kd : Nat) : String := if kd = 102 then "DoorRounds$Strip" else if kd = 103 then "DoorRounds$Standing" else "DoorRounds$Shop"
theorem gty_ref {kd : Nat} (h1 : 102 ≤ kd) (h2 : kd ≤ 104) : (gty G)[kd - 100]? = some (gA G (kd - 100), .object (rk kd)) := by
  rcases (show kd = 102 ∨ kd = 103 ∨ kd = 104 by omega) with rfl | rfl | rfl <;> rfl
theorem wp_aald {n kd : Nat} {i : Int32} (hd : decode M.2.1 pc = .ok (.aaload, 1)) (ha : oka u n kd i) (hk : 102 ≤ kd ∧ kd ≤ 104) (hn : mR u n i.toNatClampNeg ≠ 0) (h : Wp G M kc ks (pc + 1) l (.ref (mR u n i.toNatClampNeg) :: st) u Q) : Wp G M kc ks pc l (.int i :: .ref n :: st) u Q := by
  intro p e R s m args below meth c C H ls locs cells slots Qf mc ms a1 a2 a3 a4 a5 a6 a7 a8 k'
  obtain ⟨⟨o1, o2, o3⟩, hi⟩ := ha
  have hw := wl_get (G := G) o1 o2
  rw [ce_ref o3 hk.1] at hw
  refine va_aldq C.1 C.2.1 a1.2.2.1 a1.1 (n - 2) (kd - 100) hw (gty_ref hk.1 hk.2) hi hd ?_
  have e1 : va_rf (rf G (mR u n i.toNatClampNeg)) = .ref (ad G (mR u n i.toNatClampNeg)) := by simp [rf, hn, va_rf]
  rw [e1]
  exact h p e R s m args below meth c C H ls locs cells slots Qf mc ms a1 a2 a3 a4 a5 a6 a7 a8 k'
theorem wp_iast {n : Nat} {i x : Int32} (hd : decode M.2.1 pc = .ok (.iastore, 1)) (ha : oka u n 100 i) (h : Wp G M kc ks (pc + 1) l st (pI u n i.toNatClampNeg x) Q) : Wp G M kc ks pc l (.int x :: .int i :: .ref n :: st) u Q := by
  intro p e R s m args below meth c C H ls locs cells slots Qf mc ms a1 a2 a3 a4 a5 a6 a7 a8 k'
  obtain ⟨⟨o1, o2, o3⟩, hi⟩ := ha
  have hw := wl_get (G := G) o1 o2
  rw [ce_int o3] at hw
  refine va_iast C.1 C.2.1 a1.2.2.1 a1.1 a1.2.1 (va_S_sub a2) (n - 2) 0 hw rfl hi hd (fun H1 locs1 hP1 hD1 hS1 => W_sz fun hz1 => ?_)
  have he : (Sum.inl (gA G 0, (mS u n).2, .inl (upd (mI u n) i.toNatClampNeg x)) : va_E) = ce G (pI u n i.toNatClampNeg x) n := by
    rw [ce_int (u := pI u n i.toNatClampNeg x) o3]
    have e : upd (mI u n) i.toNatClampNeg x = mI (pI u n i.toNatClampNeg x) n := funext fun j => by show _ = up2 (mI u) n i.toNatClampNeg x n j; simp [upd, up2]
    rw [e]; rfl
  obtain ⟨r1, r2⟩ := rl_st (u' := pI u n i.toNatClampNeg x) a1 o1 o2 rfl (fun a ha => ce_pI ha) he hP1 hD1 hS1 a4 hz1
  exact h p e R s m args below meth c C H1 ls locs1 cells slots Qf mc ms r1 (va_S_tr a2 hS1) a3 r2 a5 a6 a7 a8 k'
theorem wp_last {n : Nat} {i : Int32} {x : Int64} (hd : decode M.2.1 pc = .ok (.lastore, 1)) (ha : oka u n 101 i) (h : Wp G M kc ks (pc + 1) l st (pL u n i.toNatClampNeg x) Q) : Wp G M kc ks pc l (.long x :: .int i :: .ref n :: st) u Q := by
  intro p e R s m args below meth c C H ls locs cells slots Qf mc ms a1 a2 a3 a4 a5 a6 a7 a8 k'
  obtain ⟨⟨o1, o2, o3⟩, hi⟩ := ha
  have hw := wl_get (G := G) o1 o2
  rw [ce_long o3] at hw
  refine va_last C.1 C.2.1 a1.2.2.1 a1.1 a1.2.1 (va_S_sub a2) (n - 2) 1 hw rfl hi hd (fun H1 locs1 hP1 hD1 hS1 => W_sz fun hz1 => ?_)
  have he : (Sum.inl (gA G 1, (mS u n).2, .inr (.inl (vp_updL (mL u n) i.toNatClampNeg x))) : va_E) = ce G (pL u n i.toNatClampNeg x) n := by
    rw [ce_long (u := pL u n i.toNatClampNeg x) o3]
    have e : vp_updL (mL u n) i.toNatClampNeg x = mL (pL u n i.toNatClampNeg x) n := funext fun j => by show _ = up2 (mL u) n i.toNatClampNeg x n j; simp [vp_updL, up2]
    rw [e]; rfl
  obtain ⟨r1, r2⟩ := rl_st (u' := pL u n i.toNatClampNeg x) a1 o1 o2 rfl (fun a ha => ce_pL ha) he hP1 hD1 hS1 a4 hz1
  exact h p e R s m args below meth c C H1 ls locs1 cells slots Qf mc ms r1 (va_S_tr a2 hS1) a3 r2 a5 a6 a7 a8 k'
theorem wp_aast {n kd v ci : Nat} {i : Int32} {r : vw_C} (hd : decode M.2.1 pc = .ok (.aastore, 1)) (ha : oka u n kd i) (hk : 102 ≤ kd ∧ kd ≤ 104) (hv : ok u v ci) (hc : cls9[ci]? = some r) (hr : rk kd = r.1) (hci : ci < 9) (h : Wp G M kc ks (pc + 1) l st (pR u n i.toNatClampNeg v) Q) : Wp G M kc ks pc l (.ref v :: .int i :: .ref n :: st) u Q := by
  intro p e R s m args below meth c C H ls locs cells slots Qf mc ms a1 a2 a3 a4 a5 a6 a7 a8 k'
  obtain ⟨⟨o1, o2, o3⟩, hi⟩ := ha
  obtain ⟨v1, v2, v3⟩ := hv
  have hw := wl_get (G := G) o1 o2
  rw [ce_ref o3 hk.1] at hw
  have hw2 := wl_get (G := G) v1 v2
  rw [ce_obj v3 hci] at hw2
  have hg := gty_ref (G := G) hk.1 hk.2
  rw [hr] at hg
  refine va_astq C.1 C.2.1 a1.2.2.1 a1.1 a1.2.1 (va_S_sub a2) (n - 2) (kd - 100) (v - 2) ci hw hg hw2 hc hi hd (fun H1 locs1 hP1 hD1 hS1 => W_sz fun hz1 => ?_)
  have hv0 : v ≠ 0 := by omega
  have he : (Sum.inl (gA G (kd - 100), (mS u n).2, .inr (.inr (.inr (.inr (va_up (fun j => rf G (mR u n j)) i.toNatClampNeg (some (ad G v))))))) : va_E) = ce G (pR u n i.toNatClampNeg v) n := by
    rw [ce_ref (u := pR u n i.toNatClampNeg v) o3 hk.1]
    have e : va_up (fun j => rf G (mR u n j)) i.toNatClampNeg (some (ad G v)) = fun j => rf G (mR (pR u n i.toNatClampNeg v) n j) := funext fun j => by
      show _ = rf G (up2 (mR u) n i.toNatClampNeg v n j)
      by_cases hj : j = i.toNatClampNeg
      · subst hj; simp [va_up, up2, rf, hv0]
      · simp [va_up, up2, hj]
    rw [e]; rfl
  obtain ⟨r1, r2⟩ := rl_st (u' := pR u n i.toNatClampNeg v) a1 o1 o2 rfl (fun a ha => ce_pR ha) he hP1 hD1 hS1 a4 hz1
  exact h p e R s m args below meth c C H1 ls locs1 cells slots Qf mc ms r1 (va_S_tr a2 hS1) a3 r2 a5 a6 a7 a8 k'
theorem wp_alen {n kd : Nat} (hd : decode M.2.1 pc = .ok (.arraylength, 1)) (ha : ok u n kd) (hk : 100 ≤ kd ∧ kd ≤ 104) (h : Wp G M kc ks (pc + 1) l (.int (Int32.ofNat (mS u n).2) :: st) u Q) : Wp G M kc ks pc l (.ref n :: st) u Q := by
  intro p e R s m args below meth c C H ls locs cells slots Qf mc ms a1 a2 a3 a4 a5 a6 a7 a8 k'
  obtain ⟨o1, o2, o3⟩ := ha
  have hw := wl_get (G := G) o1 o2
  have hh := h p e R s m args below meth c C H ls locs cells slots Qf mc ms a1 a2 a3 a4 a5 a6 a7 a8 k'
  rcases (show kd = 100 ∨ kd = 101 ∨ 102 ≤ kd by omega) with h0 | h0 | h0
  · subst h0
    rw [ce_int o3] at hw
    exact va_alen C.1 C.2.1 a1.2.2.1 a1.1 (n - 2) 0 hw rfl rfl hd hh
  · subst h0
    rw [ce_long o3] at hw
    exact va_alen C.1 C.2.1 a1.2.2.1 a1.1 (n - 2) 1 hw rfl rfl hd hh
  · rw [ce_ref o3 h0] at hw
    exact va_alen C.1 C.2.1 a1.2.2.1 a1.1 (n - 2) (kd - 100) hw (gty_ref h0 hk.2) rfl hd hh
/-! the script and LETTERS -/
theorem wp_sld {i : Int32} (hd : decode M.2.1 pc = .ok (.iaload, 1)) (hi : vp_in i (gn G)) (h : Wp G M kc ks (pc + 1) l (.int (gx G i.toNatClampNeg) :: st) u Q) : Wp G M kc ks pc l (.int i :: .ref 0 :: st) u Q := by
  intro p e R s m args below meth c C H ls locs cells slots Qf mc ms a1 a2 a3 a4 a5 a6 a7 a8 k'
  obtain ⟨s1, s2, s3, s4, s5, s6, -⟩ := C.2.2.2.2.2.2.2.2.2.2
  exact va_sld C.1 C.2.1 s1 (Nat.lt_of_lt_of_le s2 s6) (Nat.not_le.mpr s2) a2 hi hd (h p e R s m args below meth c C H ls locs cells slots Qf mc ms a1 a2 a3 a4 a5 a6 a7 a8 k')
theorem wp_slen (hd : decode M.2.1 pc = .ok (.arraylength, 1)) (h : Wp G M kc ks (pc + 1) l (.int (Int32.ofNat (gn G)) :: st) u Q) : Wp G M kc ks pc l (.ref 0 :: st) u Q := by
  intro p e R s m args below meth c C H ls locs cells slots Qf mc ms a1 a2 a3 a4 a5 a6 a7 a8 k'
  obtain ⟨s1, s2, s3, s4, s5, s6, -⟩ := C.2.2.2.2.2.2.2.2.2.2
  exact va_slen C.1 C.2.1 s1 (Nat.lt_of_lt_of_le s2 s6) (Nat.not_le.mpr s2) a2 hd (h p e R s m args below meth c C H ls locs cells slots Qf mc ms a1 a2 a3 a4 a5 a6 a7 a8 k')
theorem wp_tld {i : Int32} (hd : decode M.2.1 pc = .ok (.iaload, 1)) (hi : vp_in i 6) (h : Wp G M kc ks (pc + 1) l (.int (lets i.toNatClampNeg) :: st) u Q) : Wp G M kc ks pc l (.int i :: .ref 1 :: st) u Q := by
  intro p e R s m args below meth c C H ls locs cells slots Qf mc ms a1 a2 a3 a4 a5 a6 a7 a8 k'
  obtain ⟨s1, s2, s3, s4, s5, s6, -⟩ := C.2.2.2.2.2.2.2.2.2.2
  exact va_sld C.1 C.2.1 s3 (Nat.lt_of_lt_of_le s4 s6) (Nat.not_le.mpr s4) a2 hi hd (h p e R s m args below meth c C H ls locs cells slots Qf mc ms a1 a2 a3 a4 a5 a6 a7 a8 k')
theorem wp_tlen (hd : decode M.2.1 pc = .ok (.arraylength, 1)) (h : Wp G M kc ks (pc + 1) l (.int 6 :: st) u Q) : Wp G M kc ks pc l (.ref 1 :: st) u Q := by
  intro p e R s m args below meth c C H ls locs cells slots Qf mc ms a1 a2 a3 a4 a5 a6 a7 a8 k'
  obtain ⟨s1, s2, s3, s4, s5, s6, -⟩ := C.2.2.2.2.2.2.2.2.2.2
  exact va_slen C.1 C.2.1 s3 (Nat.lt_of_lt_of_le s4 s6) (Nat.not_le.mpr s4) a2 hd (h p e R s m args below meth c C H ls locs cells slots Qf mc ms a1 a2 a3 a4 a5 a6 a7 a8 k')
theorem wp_gets (hcls : M.1.cls = "DoorRounds$Reader") (hd : decode M.2.1 pc = .ok (.getstatic 42, 3)) (h : Wp G M kc ks (pc + 3) l (.ref 1 :: st) u Q) : Wp G M kc ks pc l st u Q := by
  intro p e R s m args below meth c C H ls locs cells slots Qf mc ms a1 a2 a3 a4 a5 a6 a7 a8 k'
  obtain ⟨s1, s2, s3, s4, s5, s6, s7, s8, -⟩ := C.2.2.2.2.2.2.2.2.2.2
  have ho := C.2.2.2.2.1
  rw [hcls] at ho
  exact va_getsN C.1 C.2.1 s5 a2 ho (va_Nw.use rfl s8) (fun _ z => z) hd (h p e R s m args below meth c C H ls locs cells slots Qf mc ms a1 a2 a3 a4 a5 a6 a7 a8 k')
/-! new cells -/
theorem ce_pN {sh : Nat × Nat} {a : Nat} (h : a ≠ mX u + 2) : ce G (pN u sh) a = ce G u a := ce_congr (by simp [pN, mS, h]) (fun j => by simp [pN, mI, h]) (fun j => by simp [pN, mL, h]) (fun j => by simp [pN, mR, h])
theorem wl_pN {sh : Nat × Nat} {e : va_E} (he : e = ce G (pN u sh) (mX u + 2)) : wl G u ++ [(gB G + mX u, e)] = wl G (pN u sh) := by
  subst he
  show _ = (List.range (mX u + 1)).map _
  rw [List.range_succ, List.map_append]
  congr 1
  apply List.map_congr_left
  intro i hi
  rw [ce_pN (by have := List.mem_range.mp hi; omega)]
theorem new_ad {s : State} {H H1 : Heap} {q : Nat} {e : va_E} (a1 : Rl G s H u) (hP : va_P (gC G, gI G) cls9 (wl G u ++ [(q, e)]) H1) (hD : va_D (Ag G) (wl G u ++ [(q, e)])) (hz : H1.size ≤ H.size + 1) : q = gB G + mX u ∧ H1.size = H.size + 1 := by
  have hlen : (wl G u).length = mX u := by simp [wl]
  have hlast : (wl G u ++ [(q, e)])[mX u]? = some (q, e) := by rw [List.getElem?_append_right (by omega), hlen, Nat.sub_self]; rfl
  have h1 : q < H1.size := (hP _ _ hlast).lt
  have h2 : gB G ≤ q := hD.2 _ _ hlast
  have h3 := a1.2.2.2
  have h4 : ¬ q < gB G + mX u := fun hq => by
    have hi : q - gB G < mX u := by omega
    have hg : (wl G u ++ [(q, e)])[q - gB G]? = some (gB G + (q - gB G), ce G u (q - gB G + 2)) := by
      rw [List.getElem?_append_left (by omega)]
      simp [wl, List.getElem?_map, List.getElem?_range hi]
    have := hD.1 _ _ _ _ hg hlast (by show gB G + (q - gB G) = q; omega)
    omega
  omega
theorem rl_new {s : State} {H H1 : Heap} {q cells : Nat} {e : va_E} {sh : Nat × Nat} (a1 : Rl G s H u) (he : e = ce G (pN u sh) (mX u + 2)) (hP : va_P (gC G, gI G) cls9 (wl G u ++ [(q, e)]) H1) (hD : va_D (Ag G) (wl G u ++ [(q, e)])) (hz0 : H.size = s.heap.size + cells) (hz : H1.size ≤ s.heap.size + (cells + 1)) : q = ad G (mX u + 2) ∧ Rl G s H1 (pN u sh) ∧ H1.size = s.heap.size + (cells + 1) := by
  obtain ⟨rfl, e2⟩ := new_ad a1 hP hD (by omega)
  rw [wl_pN he] at hP hD
  have h3 := a1.2.2.2
  exact ⟨rfl, ⟨hP, hD, a1.2.2.1, by rw [e2, h3]; show gB G + mX u + 1 = gB G + (mX u + 1); omega⟩, by omega⟩
def NW (own : String) (idx ci N : Nat) : Prop := ∃ (r : vw_C) (ty : Nat → FieldType), clOK ci r ty ∧ r.2.2 = N ∧ ci < 9 ∧ Cond.classLink own idx r.1 ∈ lw_g ∧ Cond.instantiable r.1 r.2.2 ∈ lw_g ∧ Cond.initialized r.1 ∈ lw_g
theorem fty_lt : ∀ ci, ci < 9 → ∀ j, j < (ftys.getD ci []).length → fty ci j < 3 := by decide
theorem wp_new {idx ci N : Nat} (hw : NW M.1.cls idx ci N) (hd : decode M.2.1 pc = .ok (.new idx, 3)) (h : Wp G M kc ks (pc + 3) l (.ref (mX u + 2) :: st) (pN u (ci, 0)) Q) : Wp G M (kc + 1) (ks + N) pc l st u Q := by
  intro p e R s m args below meth c C H ls locs cells slots Qf mc ms a1 a2 a3 a4 a5 a6 a7 a8 k'
  obtain ⟨⟨C0, T0, N0⟩, ty, ⟨hc, hin, hty0, hnm, hN, htc, hdecl⟩, hNe, hci, w1, w2, w3⟩ := hw
  dsimp only at hNe
  subst hNe
  have hts := C.2.2.2.2.2.1
  have hS9 : (mS (pN u (ci, 0)) (mX u + 2)).1 = ci := by simp [pN, mS]
  have hA : ∀ q : Nat, H.size ≤ q → Ag G q := fun q hq => by show gB G ≤ q; have := a1.2.2.2; omega
  have hc1 : cells + 1 ≤ R.cells := by omega
  have hc2 : slots + N0 ≤ R.slots := by omega
  have hdef : ∀ j, j < N0 → defaultValue (ty j) = vp_V (fvs G (pN u (ci, 0)) (mX u + 2) ci) j := fun j hj => by
    have ht := htc j hj
    have h3 := fty_lt ci hci j (by rw [← hN]; exact hj)
    rw [vp_V, List.getD_eq_getElem?_getD, fvs_get (by rw [← hN]; exact hj), ← ht]
    rw [← ht] at h3
    have e1 : mI (pN u (ci, 0)) (mX u + 2) j = 0 := by simp [pN, mI]
    have e2 : mL (pN u (ci, 0)) (mX u + 2) j = 0 := by simp [pN, mL]
    have e3 : mR (pN u (ci, 0)) (mX u + 2) j = 0 := by simp [pN, mR]
    cases hq : ty j <;> rw [hq] at h3 <;> first | (simp [tyc] at h3; done) | simp [fv, tyc, defaultValue, e1, e2, e3, rf, va_rf]
  refine va_new (c0 := c) (ci := ci) (fs := fvs G (pN u (ci, 0)) (mX u + 2) ci) C.1 C.2.1 hts hin ty hty0 C.2.2.2.2.1 (hts _ w1) (hts _ w2) (hts _ w3) a1.2.2.1 a1.1 a1.2.1 (va_S_sub a2) hA hc hdef hc1 hc2 hd (fun q H1 hP1 hD1 hS1 => W_sz fun hz1 => ?_)
  obtain ⟨q1, r1, r2⟩ := rl_new (sh := (ci, 0)) a1 (ce_obj hS9 hci).symm hP1 hD1 a4 hz1
  rw [q1]
  exact h p e R s m args below meth c C H1 ls locs (cells + 1) (slots + N0) Qf mc ms r1 (va_S_tr a2 hS1) a3 r2 (by omega) (by omega) a7 a8 k'
/-- the array classes -/
theorem K_arr {s : State} {cA : ClassId} {t0 : Nat} {ty : FieldType} (hK : va_K (gC G, gI G) cls9 (gty G ++ [(cA, ty)]) s) (h0 : (gty G)[t0]? = some (gA G t0, ty)) : cA = gA G t0 := by
  have h1 := (hK.2 5 (cA, ty) rfl).2
  have h2 := (hK.2 t0 (gA G t0, ty) (by rw [List.getElem?_append_left (List.getElem?_eq_some_iff.mp h0).1]; exact h0)).2
  have key : ∀ t : FieldType, va_RA s cA t → va_RA s (gA G t0) t → cA = gA G t0 := by
    intro t q1 q2
    cases t with
    | object C =>
      obtain ⟨_, _, _, _, _, x1⟩ := q1
      obtain ⟨_, _, _, _, _, x2⟩ := q2
      exact Option.some.inj (x1.symm.trans x2)
    | _ => exact Option.some.inj (q1.symm.trans q2)
  exact key ty h1 h2
theorem wp_newI {n : Int32} {N : Nat} (hw : Cond.arrayClass .int ∈ lw_g) (hd : decode M.2.1 pc = .ok (.newarray .int, 2)) (hn : ¬ n < 0) (hN : n.toNatClampNeg = N) (hb : N * 4 ≤ 536870912) (h : Wp G M kc ks (pc + 2) l (.ref (mX u + 2) :: st) (pN u (100, N)) Q) : Wp G M (kc + 1) (ks + N) pc l (.int n :: st) u Q := by
  intro p e R s m args below meth c C H ls locs cells slots Qf mc ms a1 a2 a3 a4 a5 a6 a7 a8 k'
  have hA : ∀ q : Nat, H.size ≤ q → Ag G q := fun q hq => by show gB G ≤ q; have := a1.2.2.2; omega
  have hc1 : cells + 1 ≤ R.cells := by omega
  have hc2 : slots + N ≤ R.slots := by omega
  have hS9 : (mS (pN u (100, N)) (mX u + 2)) = (100, N) := by simp [pN, mS]
  refine va_newa (atype := .int) (a0 := (N, .inl (mI (pN u (100, N)) (mX u + 2)))) C.1 C.2.1 (C.2.2.2.2.2.1 _ hw) rfl a1.2.2.1 a1.1 a1.2.1 (va_S_sub a2) hA (fun cA => ?_) hn hN hb hc1 hc2 hd (fun q cA H1 hK1 hP1 hD1 hS1 => W_sz fun hz1 => ?_)
  · rw [vp_cell_i]
    congr 1
    funext j
    simp [pN, mI, newarray.typeOf, defaultValue]
  · have hcA : cA = gA G 0 := K_arr (t0 := 0) hK1 rfl
    subst hcA
    have he : (Sum.inl (gA G 0, N, .inl (mI (pN u (100, N)) (mX u + 2))) : va_E) = ce G (pN u (100, N)) (mX u + 2) := by rw [ce_int (by rw [hS9]), hS9]
    obtain ⟨q1, r1, r2⟩ := rl_new (sh := (100, N)) a1 he hP1 hD1 a4 hz1
    rw [q1]
    exact h p e R s m args below meth c C H1 ls locs (cells + 1) (slots + N) Qf mc ms r1 (va_S_tr a2 hS1) a3 r2 (by omega) (by omega) a7 a8 k'
theorem wp_newJ {n : Int32} {N : Nat} (hw : Cond.arrayClass .long ∈ lw_g) (hd : decode M.2.1 pc = .ok (.newarray .long, 2)) (hn : ¬ n < 0) (hN : n.toNatClampNeg = N) (hb : N * 8 ≤ 536870912) (h : Wp G M kc ks (pc + 2) l (.ref (mX u + 2) :: st) (pN u (101, N)) Q) : Wp G M (kc + 1) (ks + N) pc l (.int n :: st) u Q := by
  intro p e R s m args below meth c C H ls locs cells slots Qf mc ms a1 a2 a3 a4 a5 a6 a7 a8 k'
  have hA : ∀ q : Nat, H.size ≤ q → Ag G q := fun q hq => by show gB G ≤ q; have := a1.2.2.2; omega
  have hc1 : cells + 1 ≤ R.cells := by omega
  have hc2 : slots + N ≤ R.slots := by omega
  have hS9 : (mS (pN u (101, N)) (mX u + 2)) = (101, N) := by simp [pN, mS]
  refine va_newa (atype := .long) (a0 := (N, .inr (.inl (mL (pN u (101, N)) (mX u + 2))))) C.1 C.2.1 (C.2.2.2.2.2.1 _ hw) rfl a1.2.2.1 a1.1 a1.2.1 (va_S_sub a2) hA (fun cA => ?_) hn hN hb hc1 hc2 hd (fun q cA H1 hK1 hP1 hD1 hS1 => W_sz fun hz1 => ?_)
  · rw [vp_cell_l]
    congr 1
    funext j
    simp [pN, mL, newarray.typeOf, defaultValue]
  · have hcA : cA = gA G 1 := K_arr (t0 := 1) hK1 rfl
    subst hcA
    have he : (Sum.inl (gA G 1, N, .inr (.inl (mL (pN u (101, N)) (mX u + 2)))) : va_E) = ce G (pN u (101, N)) (mX u + 2) := by rw [ce_long (by rw [hS9]), hS9]
    obtain ⟨q1, r1, r2⟩ := rl_new (sh := (101, N)) a1 he hP1 hD1 a4 hz1
    rw [q1]
    exact h p e R s m args below meth c C H1 ls locs (cells + 1) (slots + N) Qf mc ms r1 (va_S_tr a2 hS1) a3 r2 (by omega) (by omega) a7 a8 k'
theorem wp_newA {n : Int32} {N idx kd : Nat} (hk : 102 ≤ kd ∧ kd ≤ 104) (hw : Cond.classLink M.1.cls idx (rk kd) ∈ lw_g) (hd : decode M.2.1 pc = .ok (.anewarray idx, 3)) (hn : ¬ n < 0) (hN : n.toNatClampNeg = N) (hb : N * 4 ≤ 536870912) (h : Wp G M kc ks (pc + 3) l (.ref (mX u + 2) :: st) (pN u (kd, N)) Q) : Wp G M (kc + 1) (ks + N) pc l (.int n :: st) u Q := by
  intro p e R s m args below meth c C H ls locs cells slots Qf mc ms a1 a2 a3 a4 a5 a6 a7 a8 k'
  have hA : ∀ q : Nat, H.size ≤ q → Ag G q := fun q hq => by show gB G ≤ q; have := a1.2.2.2; omega
  have hc1 : cells + 1 ≤ R.cells := by omega
  have hc2 : slots + N ≤ R.slots := by omega
  have hS9 : (mS (pN u (kd, N)) (mX u + 2)) = (kd, N) := by simp [pN, mS]
  obtain ⟨s1, s2, s3, s4, s5, s6, s7, s8, s9, s10, s11⟩ := C.2.2.2.2.2.2.2.2.2.2
  have hAO : va_AO (rk kd) s := by rcases (show kd = 102 ∨ kd = 103 ∨ kd = 104 by omega) with rfl | rfl | rfl <;> assumption
  refine va_newq C.1 C.2.1 C.2.2.2.2.1 (C.2.2.2.2.2.1 _ hw) hAO a1.2.2.1 a1.1 a1.2.1 (va_S_sub a2) hA hn hN hb hc1 hc2 hd (fun q cA H1 hK1 hP1 hD1 hS1 => W_sz fun hz1 => ?_)
  have hcA : cA = gA G (kd - 100) := K_arr (t0 := kd - 100) hK1 (gty_ref hk.1 hk.2)
  subst hcA
  have he : (Sum.inl (gA G (kd - 100), N, .inr (.inr (.inr (.inr (fun _ => none))))) : va_E) = ce G (pN u (kd, N)) (mX u + 2) := by
    rw [ce_ref (kd := kd) (by rw [hS9]) hk.1, hS9]
    congr 7
    funext j
    simp [pN, mR, rf]
  obtain ⟨q1, r1, r2⟩ := rl_new (sh := (kd, N)) a1 he hP1 hD1 a4 hz1
  rw [q1]
  exact h p e R s m args below meth c C H1 ls locs (cells + 1) (slots + N) Qf mc ms r1 (va_S_tr a2 hS1) a3 r2 (by omega) (by omega) a7 a8 k'
/-! the end -/
theorem wp_iret {v : Int32} (hd : decode M.2.1 pc = .ok (.ireturn, 1)) (ht : ∃ ty, M.2.2.2.1 = some ty ∧ narrow ty (.int v) = .int v) (hQ : Q (some (.int v)) u) : Wp G M 0 ks pc l [.int v] u Q := by
  intro p e R s m args below meth c C H ls locs cells slots Qf mc ms a1 a2 a3 a4 a5 a6 a7 a8 k'
  exact W.widen (by omega) (by omega) (k' (some (.int v)) u H ls locs pc hQ a1 a2 (by omega) ⟨hd, ht⟩)
theorem wp_lret {v : Int64} (hd : decode M.2.1 pc = .ok (.lreturn, 1)) (ht : M.2.2.2.1 = some .long) (hQ : Q (some (.long v)) u) : Wp G M 0 ks pc l [.long v] u Q := by
  intro p e R s m args below meth c C H ls locs cells slots Qf mc ms a1 a2 a3 a4 a5 a6 a7 a8 k'
  exact W.widen (by omega) (by omega) (k' (some (.long v)) u H ls locs pc hQ a1 a2 (by omega) ⟨hd, ht⟩)
theorem wp_aret {v : Nat} (hd : decode M.2.1 pc = .ok (.areturn, 1)) (ht : ∃ n, M.2.2.2.1 = some (.object n)) (hQ : Q (some (.ref v)) u) : Wp G M 0 ks pc l [.ref v] u Q := by
  intro p e R s m args below meth c C H ls locs cells slots Qf mc ms a1 a2 a3 a4 a5 a6 a7 a8 k'
  obtain ⟨n, ht⟩ := ht
  exact W.widen (by omega) (by omega) (k' (some (.ref v)) u H ls locs pc hQ a1 a2 (by omega) ⟨hd, _, ht, Or.inl ⟨n, rfl⟩⟩)
theorem wp_vret (hd : decode M.2.1 pc = .ok (.return_, 1)) (ht : M.2.2.2.1 = none) (hQ : Q none u) : Wp G M 0 ks pc l [] u Q := by
  intro p e R s m args below meth c C H ls locs cells slots Qf mc ms a1 a2 a3 a4 a5 a6 a7 a8 k'
  exact W.widen (by omega) (by omega) (k' none u H ls locs pc hQ a1 a2 (by omega) ⟨hd, ht⟩)
end ARR
end
section
section CALL
variable {G : pG} {M M' : pY} {kc ks kc' ks' pc : Nat} {l : pLo} {st : List Value} {u : pM} {Q Q' : Option Value → pM → Prop}
theorem Rl.moved {s U : State} {H : Heap} (h : Rl G s H u) (ha : s.vm.Alike U.vm) : Rl G U H u := ⟨h.1, h.2.1, h.2.2.1.moved ha, h.2.2.2⟩
theorem Stt.to {s U : State} {H : Heap} {locs : List Loc} (h : Stt G s) (hS : va_S (Ag G) s.heap H locs) (hU : U.heap = H) (hW : s.WarmedH U.vm) : Stt G U := by
  obtain ⟨s1, s2, s3, s4, s5, s6, s7, s8, s9, s10, s11⟩ := h
  have ha := hW.alike
  have kb : ∀ a : Nat, a < s.heap.size → ¬ Ag G a → U.heap[a]? = s.heap[a]? := fun a h1 h2 => by rw [hU]; exact hS.2.1 a h1 h2
  refine ⟨(s1.kept (kb _ (Nat.lt_of_lt_of_le s2 s6) (Nat.not_le.mpr s2))).moved ha, s2, (s3.kept (kb _ (Nat.lt_of_lt_of_le s4 s6) (Nat.not_le.mpr s4))).moved ha, s4, (s5.kept kb).moved ha, by rw [hU]; exact Nat.le_trans s6 hS.1, fun q hq => (s7 q hq).warmM hW, s8.warmF hW, s9.moved ha, s10.moved ha, s11.moved ha⟩
theorem Stt.same {s U : State} (h : Stt G s) (hU : U.heap = s.heap) (hv : s.vm = U.vm) : Stt G U := by
  refine h.to (H := s.heap) (locs := []) va_S.rf hU ?_
  rw [← hv]; exact State.WarmedH.refl s
theorem lm_args (vs : List Value) : ∀ i, lm G (lv_args i vs) = lv_args i (vs.map (tv G)) := by
  induction vs with
  | nil => intro i; rfl
  | cons v t ih =>
    intro i
    show (i, tv G v) :: lm G (lv_args _ t) = (i, tv G v) :: lv_args _ (t.map (tv G))
    rw [ih, tv_cat]
abbrev cwd (M : pY) : Cond := .code M.1 M.2.1 M.2.2.1 M.2.2.2.1
abbrev crm (M : pY) (kc ks : Nat) : Room := { frames := M.2.2.2.2.1, cells := kc, slots := ks, locals := M.2.2.2.2.2 }
def pPc (G : pG) (vs : List Value) (u : pM) : Array Value → State → Prop := fun a s => a = (vs.map (tv G)).toArray ∧ Rl G s s.heap u ∧ Stt G s
def pQc (G : pG) (kc : Nat) (Q : Option Value → pM → Prop) : Array Value → State → Outcome → State → Prop := fun _ s o t => ∃ (r : Option Value) (u' : pM), o = .returned (r.map (tv G)) ∧ Q r u' ∧ Rl G t t.heap u' ∧ va_F (Ag G) s t ∧ t.heap.size = s.heap.size + kc
theorem pPc_blind {vs : List Value} : FrameBlind (pPc G vs u) := fun a U g mk q => ⟨q.1, Rl.moved (s := U) q.2.1 (Vm.Alike.refl U.vm), q.2.2.same rfl rfl⟩
theorem goodG : ∀ w ∈ lw_g, w ∈ lw_g ∧ ((w.onTables && w.keeps) = true ∨ ∃ ty, w = .arrayClass ty) := fun w h => ⟨h, good_of_word (List.mem_filter.mp h).2⟩
theorem goodC (hc : cwd M ∈ lw_g) : GoodIn lw_g (cwd M :: lw_g) := fun w h => by
  rcases List.mem_cons.mp h with rfl | h
  · exact goodG _ hc
  · exact goodG w h
theorem wp_met {vs : List Value} (hpl : plainName M.1.cls = true) (hlen : (lg_sl (vs.map (tv G))).length ≤ M.2.2.1) (h : Wp G M kc ks 0 (lv_args 0 vs) [] u Q) : Met (gl G) M.1 (cwd M :: lw_g) (crm M kc ks) (pPc G vs u) (pQc G kc Q) kc ks (Ag G) := by
  refine Met.ofW (cc := M.2.1) (maxL := M.2.2.1) (ret := M.2.2.2.1) hpl rfl ?_
  intro p e s m args below meth c s₁ B hml hv
  obtain ⟨rfl, hR, hSt⟩ := hv
  have hts0 := atoms_spec (ws := cwd M :: lw_g) B.pre
  have hts : ∀ w ∈ lw_g, w.before (vs.map (tv G)).toArray s = true := fun w hw => hts0 w (List.mem_cons_of_mem _ hw)
  have hl := lv_entry (vs.map (tv G)) (n := M.2.2.1) hlen
  rw [← lm_args vs 0] at hl
  rw [lg_entry_eq]
  have C : Cx G M p (headSpec (cwd M :: lw_g) (crm M kc ks)).room s m (vs.map (tv G)).toArray meth c := ⟨B.exec, B.bytes, B.returns, hml, findClass_of_methodNamed B.named, hts, B.notSynchronized, (name_of_methodNamed B.named B.method).1, Nat.le_refl _, Nat.le_refl _, hSt⟩
  refine h p e _ s m _ below meth c C s.heap _ [] 0 0 _ kc ks hR va_S.rf hl rfl (by omega) (by omega) (Nat.le_refl _) (Nat.le_refl _) ?_
  intro r u' H' ls' locs' pc' hQ hR' hS' hz' hret
  have hq : ∀ t : State, t.heap = H' → s.WarmedH t.vm → pQc G kc Q (vs.map (tv G)).toArray s (.returned (r.map (tv G))) t := fun t ht hW => ⟨r, u', rfl, hQ, by rw [ht]; exact hR'.moved hW.alike, hS'.F ht, by rw [ht]; exact hz'⟩
  have hlocks := B.notSynchronized
  cases r with
  | none => exact W.vret C.1 C.2.1 (C.2.2.1.trans hret.2) hq hS'.2.2 hret.1 hlocks
  | some v =>
    cases v with
    | int x =>
      obtain ⟨hd, ty, e1, e2⟩ := hret
      exact W.zret C.1 C.2.1 (C.2.2.1.trans e1) e2 hq hS'.2.2 hd hlocks
    | long x => exact W.lret C.1 C.2.1 (C.2.2.1.trans hret.2) hq hS'.2.2 hret.1 hlocks
    | ref x =>
      obtain ⟨hd, rt, e1, e2⟩ := hret
      exact W.aret C.1 C.2.1 (C.2.2.1.trans e1) e2 (Or.inr ⟨_, rfl⟩) hq hS'.2.2 hd hlocks
    | _ => exact hret.elim
theorem run_back {p : Program} {e : Env} {R : Room} {s : State} {m : MethodId} {args : Array Value} {below : List Frame} {meth : Method} {c : Code} {H : Heap} {locs : List Loc} {cells slots : Nat} {Qf : State → Prop} {ls : Array Slot} {st0 rest : List Value} {a : Array Value} (hr : va_Run p (gl G) e R s m args below meth c H locs cells slots kc' ks' (F0 m pc ls st0) rest (pQc G kc' Q' a) (Ag G)) (hS : va_S (Ag G) s.heap H locs)
    (kk : ∀ (r : Option Value) (u' : pM) (H1 : Heap) (locs1 : List Loc), Q' r u' → Rl G s H1 u' → va_S (Ag G) s.heap H1 locs1 → H1.size = H.size + kc' → W p (gl G) e R s m args below meth c H1 locs1 (cells + kc') (slots + ks') Qf (F0 m (pc + 3) ls ((r.map (tv G)).toList ++ rest))) : W p (gl G) e R s m args below meth c H locs cells slots Qf (F0 m pc ls st0) := by
  intro T hT X
  obtain ⟨v, st₀, t, T', L, h0, X', hL, e1, e2, ⟨r, u', hv, hq, hR, hF, hz⟩, go⟩ := hr T hT X
  cases hv
  have hR1 : Rl G s T'.heap u' := by
    rw [e1]
    exact hR.moved (by rw [← e2]; exact X'.warmed.alike.symm)
  obtain ⟨f1, f2⟩ := hF
  rw [h0] at f1 f2 hz
  have hS1 : va_S (Ag G) s.heap T'.heap (locs ++ L) := ⟨by rw [e1]; exact Nat.le_trans hS.1 f1, fun q h1 h2 => by rw [e1, f2 q (Nat.lt_of_lt_of_le h1 hS.1) h2]; exact hS.2.1 q h1 h2, fun q hq => by
    rcases List.mem_append.mp hq with h | h
    · exact hS.2.2 q h
    · exact hL q h⟩
  obtain ⟨t2, b1, b2⟩ := kk r u' T'.heap (locs ++ L) hq hR1 hS1 (by rw [e1]; exact hz) T' rfl X'
  exact ⟨t2, go t2 b1, b2⟩
/-- what a callee is, whoever calls -/
def CM (M : pY) (n : Nat) : Prop := plainName M.1.cls = true ∧ cwd M ∈ lw_g ∧ Cond.initialized M.1.cls ∈ lw_g ∧ (M.1.cls ≠ "java/lang/invoke/MethodHandle" ∧ M.1.cls ≠ "java/lang/invoke/VarHandle" ∧ (parseMethodDescriptor M.1.desc).map (fun d => d.parameters.length) = some n)
/-- by which link: 0 a plain one, 1 a nest mate's -/
def LK (own : String) (idx : Nat) (M : pY) : Prop := Cond.methodLink own idx M.1 ∈ lw_g ∨ ∃ host, (own, idx, M.1, host) ∈ nbM
abbrev RoomOK (M M' : pY) : Prop := M'.2.2.2.2.1 + 1 ≤ M.2.2.2.2.1 ∧ 8 + (M'.2.2.1 + 11) + M'.2.2.2.2.2 ≤ M.2.2.2.2.2
theorem pre_of {p : Program} {R : Room} {s : State} {m : MethodId} {args : Array Value} {meth : Method} {c : Code} {H : Heap} {locs : List Loc} (vs : List Value) (C : Cx G M p R s m args meth c) (a1 : Rl G s H u) (a2 : va_S (Ag G) s.heap H locs) : ∀ U : State, U.heap = H → s.WarmedH U.vm → pPc G vs u (vs.map (tv G)).toArray U := fun U hU hW => ⟨rfl, by rw [hU]; exact a1.moved hW.alike, Stt.to C.2.2.2.2.2.2.2.2.2.2 a2 hU hW⟩
theorem wp_callV {idx n o ci : Nat} {r : vw_C} {As : List Value} (hd : decode M.2.1 pc = .ok (.invokevirtual idx, 3)) (hM : CM M' n) (hL : LK M.1.cls idx M') (hI : Cond.instanceMethod M'.1 ∈ lw_g) (hSe : Cond.selects M'.1.cls M'.1 M'.1 ∈ lw_g) (hrm : RoomOK M M') (ho : ok u o ci) (hc : cls9[ci]? = some r) (hr : r.1 = M'.1.cls) (hci : ci < 9) (hn : As.length = n) (hlen : (lg_sl ((.ref o :: As).map (tv G))).length ≤ M'.2.2.1) (hst : ((st.map (tv G)).map fun v => v.category).sum ≤ 8) (h : Wp G M' kc' ks' 0 (lv_args 0 (.ref o :: As)) [] u Q') (k : ∀ r u', Q' r u' → Wp G M kc ks (pc + 3) l (r.toList ++ st) u' Q) : Wp G M (kc' + kc) (ks' + ks) pc l (As.reverse ++ .ref o :: st) u Q := by
  intro p e R s m args below meth c C H ls locs cells slots Qf mc ms a1 a2 a3 a4 a5 a6 a7 a8 k'
  obtain ⟨hpl, hcd, hin, hdd⟩ := hM
  obtain ⟨o1, o2, o3⟩ := id ho
  have hw := wl_get (G := G) o1 o2
  rw [ce_obj o3 hci] at hw
  have hts := C.2.2.2.2.2.1
  have hMet := wp_met hpl hlen h
  have hrecv := va_recv (q0 := o - 2) a1.2.2.1 a1.1 hc hw
  rw [hr] at hrecv
  have hR1 : (crm M' kc' ks').frames + 1 ≤ R.frames := Nat.le_trans hrm.1 C.2.2.2.2.2.2.2.2.1
  have hR2 : 8 + (M'.2.2.1 + 11) + (crm M' kc' ks').locals ≤ R.locals := Nat.le_trans hrm.2 C.2.2.2.2.2.2.2.2.2.1
  have hp : PreV s H M'.1.cls (ad G o) (pPc G (.ref o :: As) u) (As.map (tv G)) := ⟨pPc_blind, hrecv, pre_of (.ref o :: As) C a1 a2⟩
  have hstk : (As.reverse ++ Value.ref o :: st).map (tv G) = (As.map (tv G)).reverse ++ .ref (ad G o) :: st.map (tv G) := by simp [tv]
  rw [hstk]
  have hf : cells + kc' ≤ R.cells ∧ slots + ks' ≤ R.slots := ⟨by omega, by omega⟩
  have run : va_Run p (gl G) e R s m args below meth c H locs cells slots kc' ks' (F0 m pc ls ((As.map (tv G)).reverse ++ .ref (ad G o) :: st.map (tv G))) (st.map (tv G)) (pQc G kc' Q' (Value.ref (ad G o) :: As.map (tv G)).toArray) (Ag G) := by
    rcases hL with hL | ⟨host, hL⟩
    · exact va_runV (Ts := lw_g) ⟨C.1, C.2.1, C.2.2.2.1, C.2.2.2.2.1, hts⟩ hMet (C := M'.1.cls) (n := n) (cwV n hts (fun w hw => by
        rcases List.mem_append.mp hw with hw | hw
        · rcases List.mem_cons.mp hw with rfl | hw
          · exact goodG _ hL
          · rcases List.mem_cons.mp hw with rfl | hw
            · exact goodG _ hI
            · rcases List.mem_cons.mp hw with rfl | hw
              · exact goodG _ hSe
              · rcases List.mem_cons.mp hw with rfl | hw
                · exact goodG _ hin
                · cases hw
        · exact goodC hcd w hw) rfl rfl rfl ⟨rfl, hdd⟩ ⟨hR1, hR2⟩) hp rfl (by rw [List.length_map]; exact hn) a3.1 rfl (lv_room hst) hd hf
    · exact va_runVN (Ts := lw_g) ⟨C.1, C.2.1, C.2.2.2.1, C.2.2.2.2.1, hts⟩ hMet (C := M'.1.cls) (n := n) ⟨va_cnB n hts (goodC hcd) rfl rfl rfl (C.2.2.2.2.2.2.2.2.2.2.2.2.2.2.2.2.1 _ hL) (hts _ hin) hdd ⟨hR1, hR2⟩, hts _ hI, hts _ hSe⟩ hp rfl (by rw [List.length_map]; exact hn) a3.1 rfl (lv_room hst) hd hf
  refine run_back run a2 (fun r u' H1 locs1 hq hR' hS' hz' => ?_)
  have e9 : (r.map (tv G)).toList ++ st.map (tv G) = (r.toList ++ st).map (tv G) := by cases r <;> simp
  rw [e9]
  exact k r u' hq p e R s m args below meth c C H1 ls locs1 (cells + kc') (slots + ks') Qf mc ms hR' hS' a3 (by omega) (by omega) (by omega) a7 a8 k'
theorem wp_callS {idx n : Nat} {As : List Value} (hd : decode M.2.1 pc = .ok (.invokestatic idx, 3)) (hM : CM M' n) (hL : LK M.1.cls idx M') (hI : Cond.static M'.1 ∈ lw_g) (hrm : RoomOK M M') (hn : As.length = n) (hlen : (lg_sl (As.map (tv G))).length ≤ M'.2.2.1) (hst : ((st.map (tv G)).map fun v => v.category).sum ≤ 8) (h : Wp G M' kc' ks' 0 (lv_args 0 As) [] u Q') (k : ∀ r u', Q' r u' → Wp G M kc ks (pc + 3) l (r.toList ++ st) u' Q) : Wp G M (kc' + kc) (ks' + ks) pc l (As.reverse ++ st) u Q := by
  intro p e R s m args below meth c C H ls locs cells slots Qf mc ms a1 a2 a3 a4 a5 a6 a7 a8 k'
  obtain ⟨hpl, hcd, hin, hdd⟩ := hM
  have hts := C.2.2.2.2.2.1
  have hMet := wp_met hpl hlen h
  have hR1 : (crm M' kc' ks').frames + 1 ≤ R.frames := Nat.le_trans hrm.1 C.2.2.2.2.2.2.2.2.1
  have hR2 : 8 + (M'.2.2.1 + 11) + (crm M' kc' ks').locals ≤ R.locals := Nat.le_trans hrm.2 C.2.2.2.2.2.2.2.2.2.1
  have hp : PreS s H (pPc G As u) (As.map (tv G)) := ⟨pPc_blind, pre_of As C a1 a2⟩
  have hstk : (As.reverse ++ st).map (tv G) = (As.map (tv G)).reverse ++ st.map (tv G) := by simp
  rw [hstk]
  have hf : cells + kc' ≤ R.cells ∧ slots + ks' ≤ R.slots := ⟨by omega, by omega⟩
  have run : va_Run p (gl G) e R s m args below meth c H locs cells slots kc' ks' (F0 m pc ls ((As.map (tv G)).reverse ++ st.map (tv G))) (st.map (tv G)) (pQc G kc' Q' (As.map (tv G)).toArray) (Ag G) := by
    rcases hL with hL | ⟨host, hL⟩
    · exact va_runS (Ts := lw_g) ⟨C.1, C.2.1, C.2.2.2.1, C.2.2.2.2.1, hts⟩ hMet (n := n) (va_cwS n hts (fun w hw => by
        rcases List.mem_append.mp hw with hw | hw
        · rcases List.mem_cons.mp hw with rfl | hw
          · exact goodG _ hL
          · rcases List.mem_cons.mp hw with rfl | hw
            · exact goodG _ hI
            · rcases List.mem_cons.mp hw with rfl | hw
              · exact goodG _ hin
              · cases hw
        · exact goodC hcd w hw) rfl rfl rfl hdd ⟨hR1, hR2⟩) hp rfl (by rw [List.length_map]; exact hn) a3.1 rfl (lv_room hst) hd hf
    · exact va_runSN (Ts := lw_g) ⟨C.1, C.2.1, C.2.2.2.1, C.2.2.2.2.1, hts⟩ hMet (n := n) ⟨va_cnB n hts (goodC hcd) rfl rfl rfl (C.2.2.2.2.2.2.2.2.2.2.2.2.2.2.2.2.1 _ hL) (hts _ hin) hdd ⟨hR1, hR2⟩, hts _ hI, trivial⟩ hp rfl (by rw [List.length_map]; exact hn) a3.1 rfl (lv_room hst) hd hf
  refine run_back run a2 (fun r u' H1 locs1 hq hR' hS' hz' => ?_)
  have e9 : (r.map (tv G)).toList ++ st.map (tv G) = (r.toList ++ st).map (tv G) := by cases r <;> simp
  rw [e9]
  exact k r u' hq p e R s m args below meth c C H1 ls locs1 (cells + kc') (slots + ks') Qf mc ms hR' hS' a3 (by omega) (by omega) (by omega) a7 a8 k'
theorem wp_callI {idx n o : Nat} {As : List Value} (hd : decode M.2.1 pc = .ok (.invokespecial idx, 3)) (hM : CM M' n) (hL : LK M.1.cls idx M') (hI : Cond.instanceMethod M'.1 ∈ lw_g) (hi1 : M'.1.name = "<init>") (hi2 : M'.2.2.2.1 = none) (hrm : RoomOK M M') (hn : As.length = n) (hlen : (lg_sl ((.ref o :: As).map (tv G))).length ≤ M'.2.2.1) (hst : ((st.map (tv G)).map fun v => v.category).sum ≤ 8) (h : Wp G M' kc' ks' 0 (lv_args 0 (.ref o :: As)) [] u Q') (k : ∀ r u', Q' r u' → Wp G M kc ks (pc + 3) l (r.toList ++ st) u' Q) : Wp G M (kc' + kc) (ks' + ks) pc l (As.reverse ++ .ref o :: st) u Q := by
  intro p e R s m args below meth c C H ls locs cells slots Qf mc ms a1 a2 a3 a4 a5 a6 a7 a8 k'
  obtain ⟨hpl, hcd, hin, hdd⟩ := hM
  have hts := C.2.2.2.2.2.1
  have hMet := wp_met hpl hlen h
  have hR1 : (crm M' kc' ks').frames + 1 ≤ R.frames := Nat.le_trans hrm.1 C.2.2.2.2.2.2.2.2.1
  have hR2 : 8 + (M'.2.2.1 + 11) + (crm M' kc' ks').locals ≤ R.locals := Nat.le_trans hrm.2 C.2.2.2.2.2.2.2.2.2.1
  have hp : PreS s H (pPc G (.ref o :: As) u) (.ref (ad G o) :: As.map (tv G)) := ⟨pPc_blind, pre_of (.ref o :: As) C a1 a2⟩
  have hstk : (As.reverse ++ Value.ref o :: st).map (tv G) = (As.map (tv G)).reverse ++ .ref (ad G o) :: st.map (tv G) := by simp [tv]
  rw [hstk]
  have hf : cells + kc' ≤ R.cells ∧ slots + ks' ≤ R.slots := ⟨by omega, by omega⟩
  have hw0 : cwd M' = Cond.code M'.1 M'.2.1 M'.2.2.1 none := by rw [cwd, hi2]
  have run : va_Run p (gl G) e R s m args below meth c H locs cells slots kc' ks' (F0 m pc ls ((As.map (tv G)).reverse ++ .ref (ad G o) :: st.map (tv G))) (st.map (tv G)) (pQc G kc' Q' (Value.ref (ad G o) :: As.map (tv G)).toArray) (Ag G) := by
    rcases hL with hL | ⟨host, hL⟩
    · exact va_runI (Ts := lw_g) ⟨C.1, C.2.1, C.2.2.2.1, C.2.2.2.2.1, hts⟩ hMet (n := n) (cwI n hts (goodC hcd) (by rw [hw0]) rfl rfl (hts _ hin) (hts _ hL) (hts _ hI) hi1 hdd ⟨hR1, hR2⟩) hp rfl (by rw [List.length_map]; exact hn) a3.1 rfl (lv_room hst) hd hf
    · exact va_runIN (Ts := lw_g) ⟨C.1, C.2.1, C.2.2.2.1, C.2.2.2.2.1, hts⟩ hMet (n := n) ⟨va_cnB n hts (goodC hcd) (by rw [hw0]) rfl rfl (C.2.2.2.2.2.2.2.2.2.2.2.2.2.2.2.2.1 _ hL) (hts _ hin) hdd ⟨hR1, hR2⟩, hi1, hts _ hI⟩ hp rfl (by rw [List.length_map]; exact hn) a3.1 rfl (lv_room hst) hd hf
  refine run_back run a2 (fun r u' H1 locs1 hq hR' hS' hz' => ?_)
  have e9 : (r.map (tv G)).toList ++ st.map (tv G) = (r.toList ++ st).map (tv G) := by cases r <;> simp
  rw [e9]
  exact k r u' hq p e R s m args below meth c C H1 ls locs1 (cells + kc') (slots + ks') Qf mc ms hR' hS' a3 (by omega) (by omega) (by omega) a7 a8 k'
theorem wp_oinit {idx o : Nat} (hd : decode M.2.1 pc = .ok (.invokespecial idx, 3)) (hL : Cond.methodLink M.1.cls idx Lib.objectInit ∈ lw_g) (hI : Cond.instanceMethod Lib.objectInit ∈ lw_g) (hC : Cond.code Lib.objectInit ⟨#[0xb1]⟩ 1 none ∈ lw_g) (hf : 1 ≤ M.2.2.2.2.1) (hlo : ((st.map (tv G)).map fun v => v.category).sum + 12 ≤ M.2.2.2.2.2) (h : Wp G M kc ks (pc + 3) l st u Q) : Wp G M kc ks pc l (.ref o :: st) u Q := by
  refine wp_go (fun p e R s m args below meth c H locs cells slots Qf ls C hl k => ?_) h
  have hts := C.2.2.2.2.2.1
  refine W.objInit (rest := st.map (tv G)) (a := ad G o) C.1 C.2.1 C.2.2.2.2.1 (hts _ hL) (hts _ hI) (hts _ hC) rfl (by rw [C.2.2.2.1]; exact hl.1) rfl hd (Nat.le_trans hf C.2.2.2.2.2.2.2.2.1) ?_ (k ls hl)
  exact Nat.le_trans (by show 2 * 0 + _ + 12 ≤ _; omega) C.2.2.2.2.2.2.2.2.2.1
/-- System.arraycopy of ints -/
def cpI (u : pM) (a b : Nat) (sp dp n : Nat) : pM := (fun x y => if x = b then va_cpy (mI u a) (mI u b) sp dp n y else mI u x y, mL u, mR u, mS u, mX u)
theorem wp_copy {idx a b : Nat} {sp dp n : Int32} (hd : decode M.2.1 pc = .ok (.invokestatic idx, 3)) (hL : Cond.methodLink M.1.cls idx arraycopyName ∈ lw_g) (hN : Cond.native arraycopyName ∈ lw_g) (hS0 : Cond.static arraycopyName ∈ lw_g) (hI : Cond.initialized "java/lang/System" ∈ lw_g) (hf : 1 ≤ M.2.2.2.2.1) (hlo : ((st.map (tv G)).map fun v => v.category).sum + 18 ≤ M.2.2.2.2.2) (ha : ok u a 100) (hb : ok u b 100) (h1 : ¬ sp < 0) (h2 : ¬ dp < 0) (h3 : ¬ n < 0) (h4 : sp.toNatClampNeg + n.toNatClampNeg ≤ (mS u a).2) (h5 : dp.toNatClampNeg + n.toNatClampNeg ≤ (mS u b).2) (h : Wp G M kc ks (pc + 3) l st (cpI u a b sp.toNatClampNeg dp.toNatClampNeg n.toNatClampNeg) Q) : Wp G M kc ks pc l (.int n :: .int dp :: .ref b :: .int sp :: .ref a :: st) u Q := by
  intro p e R s m args below meth c C H ls locs cells slots Qf mc ms a1 a2 a3 a4 a5 a6 a7 a8 k'
  obtain ⟨o1, o2, o3⟩ := ha
  obtain ⟨p1, p2, p3⟩ := hb
  have hw := wl_get (G := G) o1 o2
  rw [ce_int o3] at hw
  have hw2 := wl_get (G := G) p1 p2
  rw [ce_int p3] at hw2
  have hts := C.2.2.2.2.2.1
  refine va_copyi (rest := st.map (tv G)) C.1 C.2.1 (C.2.2.2.1.trans a3.1.symm) C.2.2.2.2.1 (hts _ hL) (hts _ hN) (hts _ hS0) (hts _ hI) a1.2.2.1 a1.1 a1.2.1 (va_S_sub a2) (a - 2) (b - 2) 0 0 hw hw2 rfl rfl rfl h1 h2 h3 h4 h5 (fun _ _ => rfl) (Nat.le_trans hf C.2.2.2.2.2.2.2.2.1) (Nat.le_trans hlo C.2.2.2.2.2.2.2.2.2.1) hd (fun H1 locs1 hP1 hD1 hS1 => W_sz fun hz1 => ?_)
  have he : (Sum.inl (gA G 0, (mS u b).2, .inl (va_cpy (mI u a) (mI u b) sp.toNatClampNeg dp.toNatClampNeg n.toNatClampNeg)) : va_E) = ce G (cpI u a b sp.toNatClampNeg dp.toNatClampNeg n.toNatClampNeg) b := by
    rw [ce_int (u := cpI u a b sp.toNatClampNeg dp.toNatClampNeg n.toNatClampNeg) p3]
    have e : va_cpy (mI u a) (mI u b) sp.toNatClampNeg dp.toNatClampNeg n.toNatClampNeg = mI (cpI u a b sp.toNatClampNeg dp.toNatClampNeg n.toNatClampNeg) b := funext fun j => by simp [cpI, mI]
    rw [e]; rfl
  obtain ⟨r1, r2⟩ := rl_st (u' := cpI u a b sp.toNatClampNeg dp.toNatClampNeg n.toNatClampNeg) a1 p1 p2 rfl (fun x hx => ce_congr rfl (fun j => by simp [cpI, mI, hx]) (fun _ => rfl) (fun _ => rfl)) he hP1 hD1 hS1 a4 hz1
  exact h p e R s m args below meth c C H1 ls locs1 cells slots Qf mc ms r1 (va_S_tr a2 hS1) a3 r2 a5 a6 a7 a8 k'
end CALL
end
section
def S0t : List (Nat × Nat) := [(0, 0), (0, 0), (7, 0), (102, 6), (102, 4), (6, 0), (100, 0), (5, 0), (100, 7), (103, 3), (5, 0), (100, 7), (5, 0), (100, 7), (0, 0), (100, 12), (100, 12), (100, 12), (1, 0), (101, 128), (101, 128), (100, 6), (2, 0), (104, 7), (4, 0), (100, 7), (3, 0), (6, 0), (100, 0), (4, 0), (4, 0), (4, 0), (4, 0), (4, 0), (4, 0), (4, 0), (2, 0), (104, 7), (4, 0), (100, 7), (3, 0), (6, 0), (100, 0), (4, 0), (4, 0), (4, 0), (4, 0), (4, 0), (4, 0), (4, 0), (6, 0), (100, 40), (6, 0), (100, 40), (6, 0), (100, 40), (6, 0), (100, 40), (6, 0), (100, 40), (6, 0), (100, 40), (6, 0), (100, 100), (6, 0), (100, 100), (6, 0), (100, 100), (6, 0), (100, 100), (5, 0), (100, 7), (5, 0), (100, 7), (5, 0), (100, 7), (8, 0), (100, 6), (100, 6), (100, 240), (100, 40), (100, 4), (100, 400), (100, 70), (100, 7), (100, 7), (100, 7), (100, 30), (100, 3968), (100, 128), (100, 128), (100, 7), (100, 36), (100, 7), (100, 427)]
def R0t : List (List Nat) := [[], [], [3, 4, 5, 7, 9, 10, 12, 14, 18, 21], [50, 52, 54, 56, 58, 60], [62, 64, 66, 68], [6], [], [0, 0, 8], [], [70, 72, 74], [0, 0, 11], [], [0, 0, 13], [], [0, 15, 16, 17], [], [], [], [19, 20], [], [], [], [0, 0, 23, 24, 25, 26], [29, 30, 31, 32, 33, 34, 35], [], [], [], [28], [], [], [], [], [], [], [], [], [0, 0, 37, 38, 39, 40], [43, 44, 45, 46, 47, 48, 49], [], [], [], [42], [], [], [], [], [], [], [], [], [51], [], [53], [], [55], [], [57], [], [59], [], [61], [], [63], [], [65], [], [67], [], [69], [], [0, 0, 71], [], [0, 0, 73], [], [0, 0, 75], [], [0, 77, 0, 0, 0, 78, 79, 80, 81, 82, 0, 0, 83, 0, 0, 0, 0, 84, 0, 0, 85, 86, 87, 88, 89, 90, 91, 92, 0, 93, 94], [], [], [], [], [], [], [], [], [], [], [], [], [], [], [], [], [], []]
def S0 (n : Nat) : Nat × Nat := S0t.getD n (0, 0)
def R0 (n k : Nat) : Nat := (R0t.getD n []).getD k 0
abbrev okS (n kd : Nat) : Prop := 2 ≤ n ∧ n < 95 ∧ (S0 n).1 = kd
abbrev pl (n : Nat) : Prop := n = 22 ∨ n = 36
def Str (u : pM) : Prop := mX u = 93 ∧ (∀ n, 2 ≤ n → n < 95 → mS u n = S0 n) ∧ (∀ n k, R0 n k ≠ 0 → mR u n k = R0 n k) ∧ pl (mR u 2 10) ∧ pl (mR u 2 11) ∧ okS (mR u 26 0) 6 ∧ okS (mR u 40 0) 6
/-- in the world behind the constructors -/
def Ws (G : pG) (M : pY) (pc : Nat) (l : pLo) (st : List Value) (u : pM) (Q : Option Value → pM → Prop) : Prop := Str u → Wp G M 0 0 pc l st u (fun r u' => Str u' ∧ Q r u')
theorem pl_ok {n : Nat} (h : pl n) : okS n 2 := by rcases h with rfl | rfl <;> decide
theorem ok_of {u : pM} {n kd : Nat} (hs : Str u) (h : okS n kd) : ok u n kd := ⟨h.1, by rw [hs.1]; exact h.2.1, by rw [hs.2.1 n h.1 h.2.1]; exact h.2.2⟩
theorem len_of {u : pM} {n kd : Nat} (hs : Str u) (h : okS n kd) : (mS u n).2 = (S0 n).2 := by rw [hs.2.1 n h.1 h.2.1]
theorem oka_of {u : pM} {n kd L : Nat} {i : Int32} (hs : Str u) (h : okS n kd) (hL : (S0 n).2 = L) (hi : vp_in i L) : oka u n kd i := ⟨ok_of hs h, by rw [len_of hs h, hL]; exact hi⟩
theorem ix_lt {i : Int32} {n : Nat} (h : vp_in i n) : i.toNatClampNeg < n := Nat.not_le.mp fun q => h (Or.inr q)
theorem of_0_1 : ∀ n, okS n 0 → R0 n 1 = n + 1 := fun n h => (show ∀ n, n < 95 → (2 ≤ n → (S0 n).1 = 0 → R0 n 1 = n + 1) from by decide +kernel) n h.2.1 h.1 h.2.2
theorem os_0_1 {n : Nat} (h : okS n 0) : okS (n + 1) 100 := (show ∀ n, n < 95 → (2 ≤ n → (S0 n).1 = 0 → okS (n + 1) 100) from by decide +kernel) n h.2.1 h.1 h.2.2
theorem ol_0_1 {n : Nat} (h : okS n 0) : (S0 (n + 1)).2 = 12 := (show ∀ n, n < 95 → (2 ≤ n → (S0 n).1 = 0 → (S0 (n + 1)).2 = 12) from by decide +kernel) n h.2.1 h.1 h.2.2
theorem of_0_2 : ∀ n, okS n 0 → R0 n 2 = n + 2 := fun n h => (show ∀ n, n < 95 → (2 ≤ n → (S0 n).1 = 0 → R0 n 2 = n + 2) from by decide +kernel) n h.2.1 h.1 h.2.2
theorem os_0_2 {n : Nat} (h : okS n 0) : okS (n + 2) 100 := (show ∀ n, n < 95 → (2 ≤ n → (S0 n).1 = 0 → okS (n + 2) 100) from by decide +kernel) n h.2.1 h.1 h.2.2
theorem ol_0_2 {n : Nat} (h : okS n 0) : (S0 (n + 2)).2 = 12 := (show ∀ n, n < 95 → (2 ≤ n → (S0 n).1 = 0 → (S0 (n + 2)).2 = 12) from by decide +kernel) n h.2.1 h.1 h.2.2
theorem of_0_3 : ∀ n, okS n 0 → R0 n 3 = n + 3 := fun n h => (show ∀ n, n < 95 → (2 ≤ n → (S0 n).1 = 0 → R0 n 3 = n + 3) from by decide +kernel) n h.2.1 h.1 h.2.2
theorem os_0_3 {n : Nat} (h : okS n 0) : okS (n + 3) 100 := (show ∀ n, n < 95 → (2 ≤ n → (S0 n).1 = 0 → okS (n + 3) 100) from by decide +kernel) n h.2.1 h.1 h.2.2
theorem ol_0_3 {n : Nat} (h : okS n 0) : (S0 (n + 3)).2 = 12 := (show ∀ n, n < 95 → (2 ≤ n → (S0 n).1 = 0 → (S0 (n + 3)).2 = 12) from by decide +kernel) n h.2.1 h.1 h.2.2
theorem of_1_0 : ∀ n, okS n 1 → R0 n 0 = n + 1 := fun n h => (show ∀ n, n < 95 → (2 ≤ n → (S0 n).1 = 1 → R0 n 0 = n + 1) from by decide +kernel) n h.2.1 h.1 h.2.2
theorem os_1_0 {n : Nat} (h : okS n 1) : okS (n + 1) 101 := (show ∀ n, n < 95 → (2 ≤ n → (S0 n).1 = 1 → okS (n + 1) 101) from by decide +kernel) n h.2.1 h.1 h.2.2
theorem ol_1_0 {n : Nat} (h : okS n 1) : (S0 (n + 1)).2 = 128 := (show ∀ n, n < 95 → (2 ≤ n → (S0 n).1 = 1 → (S0 (n + 1)).2 = 128) from by decide +kernel) n h.2.1 h.1 h.2.2
theorem of_1_1 : ∀ n, okS n 1 → R0 n 1 = n + 2 := fun n h => (show ∀ n, n < 95 → (2 ≤ n → (S0 n).1 = 1 → R0 n 1 = n + 2) from by decide +kernel) n h.2.1 h.1 h.2.2
theorem os_1_1 {n : Nat} (h : okS n 1) : okS (n + 2) 101 := (show ∀ n, n < 95 → (2 ≤ n → (S0 n).1 = 1 → okS (n + 2) 101) from by decide +kernel) n h.2.1 h.1 h.2.2
theorem ol_1_1 {n : Nat} (h : okS n 1) : (S0 (n + 2)).2 = 128 := (show ∀ n, n < 95 → (2 ≤ n → (S0 n).1 = 1 → (S0 (n + 2)).2 = 128) from by decide +kernel) n h.2.1 h.1 h.2.2
theorem of_2_2 : ∀ n, okS n 2 → R0 n 2 = n + 1 := fun n h => (show ∀ n, n < 95 → (2 ≤ n → (S0 n).1 = 2 → R0 n 2 = n + 1) from by decide +kernel) n h.2.1 h.1 h.2.2
theorem os_2_2 {n : Nat} (h : okS n 2) : okS (n + 1) 104 := (show ∀ n, n < 95 → (2 ≤ n → (S0 n).1 = 2 → okS (n + 1) 104) from by decide +kernel) n h.2.1 h.1 h.2.2
theorem ol_2_2 {n : Nat} (h : okS n 2) : (S0 (n + 1)).2 = 7 := (show ∀ n, n < 95 → (2 ≤ n → (S0 n).1 = 2 → (S0 (n + 1)).2 = 7) from by decide +kernel) n h.2.1 h.1 h.2.2
theorem of_2_3 : ∀ n, okS n 2 → R0 n 3 = n + 2 := fun n h => (show ∀ n, n < 95 → (2 ≤ n → (S0 n).1 = 2 → R0 n 3 = n + 2) from by decide +kernel) n h.2.1 h.1 h.2.2
theorem os_2_3 {n : Nat} (h : okS n 2) : okS (n + 2) 4 := (show ∀ n, n < 95 → (2 ≤ n → (S0 n).1 = 2 → okS (n + 2) 4) from by decide +kernel) n h.2.1 h.1 h.2.2
theorem ol_2_3 {n : Nat} (h : okS n 2) : (S0 (n + 2)).2 = 0 := (show ∀ n, n < 95 → (2 ≤ n → (S0 n).1 = 2 → (S0 (n + 2)).2 = 0) from by decide +kernel) n h.2.1 h.1 h.2.2
theorem of_2_4 : ∀ n, okS n 2 → R0 n 4 = n + 3 := fun n h => (show ∀ n, n < 95 → (2 ≤ n → (S0 n).1 = 2 → R0 n 4 = n + 3) from by decide +kernel) n h.2.1 h.1 h.2.2
theorem os_2_4 {n : Nat} (h : okS n 2) : okS (n + 3) 100 := (show ∀ n, n < 95 → (2 ≤ n → (S0 n).1 = 2 → okS (n + 3) 100) from by decide +kernel) n h.2.1 h.1 h.2.2
theorem ol_2_4 {n : Nat} (h : okS n 2) : (S0 (n + 3)).2 = 7 := (show ∀ n, n < 95 → (2 ≤ n → (S0 n).1 = 2 → (S0 (n + 3)).2 = 7) from by decide +kernel) n h.2.1 h.1 h.2.2
theorem of_2_5 : ∀ n, okS n 2 → R0 n 5 = n + 4 := fun n h => (show ∀ n, n < 95 → (2 ≤ n → (S0 n).1 = 2 → R0 n 5 = n + 4) from by decide +kernel) n h.2.1 h.1 h.2.2
theorem os_2_5 {n : Nat} (h : okS n 2) : okS (n + 4) 3 := (show ∀ n, n < 95 → (2 ≤ n → (S0 n).1 = 2 → okS (n + 4) 3) from by decide +kernel) n h.2.1 h.1 h.2.2
theorem ol_2_5 {n : Nat} (h : okS n 2) : (S0 (n + 4)).2 = 0 := (show ∀ n, n < 95 → (2 ≤ n → (S0 n).1 = 2 → (S0 (n + 4)).2 = 0) from by decide +kernel) n h.2.1 h.1 h.2.2
theorem of_5_2 : ∀ n, okS n 5 → R0 n 2 = n + 1 := fun n h => (show ∀ n, n < 95 → (2 ≤ n → (S0 n).1 = 5 → R0 n 2 = n + 1) from by decide +kernel) n h.2.1 h.1 h.2.2
theorem os_5_2 {n : Nat} (h : okS n 5) : okS (n + 1) 100 := (show ∀ n, n < 95 → (2 ≤ n → (S0 n).1 = 5 → okS (n + 1) 100) from by decide +kernel) n h.2.1 h.1 h.2.2
theorem ol_5_2 {n : Nat} (h : okS n 5) : (S0 (n + 1)).2 = 7 := (show ∀ n, n < 95 → (2 ≤ n → (S0 n).1 = 5 → (S0 (n + 1)).2 = 7) from by decide +kernel) n h.2.1 h.1 h.2.2
theorem of_6_0 : ∀ n, okS n 6 → R0 n 0 = n + 1 := fun n h => (show ∀ n, n < 95 → (2 ≤ n → (S0 n).1 = 6 → R0 n 0 = n + 1) from by decide +kernel) n h.2.1 h.1 h.2.2
theorem os_6_0 {n : Nat} (h : okS n 6) : okS (n + 1) 100 := (show ∀ n, n < 95 → (2 ≤ n → (S0 n).1 = 6 → okS (n + 1) 100) from by decide +kernel) n h.2.1 h.1 h.2.2
theorem of_7_0 : ∀ n, okS n 7 → R0 n 0 = n + 1 := fun n h => (show ∀ n, n < 95 → (2 ≤ n → (S0 n).1 = 7 → R0 n 0 = n + 1) from by decide +kernel) n h.2.1 h.1 h.2.2
theorem os_7_0 {n : Nat} (h : okS n 7) : okS (n + 1) 102 := (show ∀ n, n < 95 → (2 ≤ n → (S0 n).1 = 7 → okS (n + 1) 102) from by decide +kernel) n h.2.1 h.1 h.2.2
theorem ol_7_0 {n : Nat} (h : okS n 7) : (S0 (n + 1)).2 = 6 := (show ∀ n, n < 95 → (2 ≤ n → (S0 n).1 = 7 → (S0 (n + 1)).2 = 6) from by decide +kernel) n h.2.1 h.1 h.2.2
theorem of_7_1 : ∀ n, okS n 7 → R0 n 1 = n + 2 := fun n h => (show ∀ n, n < 95 → (2 ≤ n → (S0 n).1 = 7 → R0 n 1 = n + 2) from by decide +kernel) n h.2.1 h.1 h.2.2
theorem os_7_1 {n : Nat} (h : okS n 7) : okS (n + 2) 102 := (show ∀ n, n < 95 → (2 ≤ n → (S0 n).1 = 7 → okS (n + 2) 102) from by decide +kernel) n h.2.1 h.1 h.2.2
theorem ol_7_1 {n : Nat} (h : okS n 7) : (S0 (n + 2)).2 = 4 := (show ∀ n, n < 95 → (2 ≤ n → (S0 n).1 = 7 → (S0 (n + 2)).2 = 4) from by decide +kernel) n h.2.1 h.1 h.2.2
theorem of_7_2 : ∀ n, okS n 7 → R0 n 2 = n + 3 := fun n h => (show ∀ n, n < 95 → (2 ≤ n → (S0 n).1 = 7 → R0 n 2 = n + 3) from by decide +kernel) n h.2.1 h.1 h.2.2
theorem os_7_2 {n : Nat} (h : okS n 7) : okS (n + 3) 6 := (show ∀ n, n < 95 → (2 ≤ n → (S0 n).1 = 7 → okS (n + 3) 6) from by decide +kernel) n h.2.1 h.1 h.2.2
theorem ol_7_2 {n : Nat} (h : okS n 7) : (S0 (n + 3)).2 = 0 := (show ∀ n, n < 95 → (2 ≤ n → (S0 n).1 = 7 → (S0 (n + 3)).2 = 0) from by decide +kernel) n h.2.1 h.1 h.2.2
theorem of_7_3 : ∀ n, okS n 7 → R0 n 3 = n + 5 := fun n h => (show ∀ n, n < 95 → (2 ≤ n → (S0 n).1 = 7 → R0 n 3 = n + 5) from by decide +kernel) n h.2.1 h.1 h.2.2
theorem os_7_3 {n : Nat} (h : okS n 7) : okS (n + 5) 5 := (show ∀ n, n < 95 → (2 ≤ n → (S0 n).1 = 7 → okS (n + 5) 5) from by decide +kernel) n h.2.1 h.1 h.2.2
theorem ol_7_3 {n : Nat} (h : okS n 7) : (S0 (n + 5)).2 = 0 := (show ∀ n, n < 95 → (2 ≤ n → (S0 n).1 = 7 → (S0 (n + 5)).2 = 0) from by decide +kernel) n h.2.1 h.1 h.2.2
theorem of_7_4 : ∀ n, okS n 7 → R0 n 4 = n + 7 := fun n h => (show ∀ n, n < 95 → (2 ≤ n → (S0 n).1 = 7 → R0 n 4 = n + 7) from by decide +kernel) n h.2.1 h.1 h.2.2
theorem os_7_4 {n : Nat} (h : okS n 7) : okS (n + 7) 103 := (show ∀ n, n < 95 → (2 ≤ n → (S0 n).1 = 7 → okS (n + 7) 103) from by decide +kernel) n h.2.1 h.1 h.2.2
theorem ol_7_4 {n : Nat} (h : okS n 7) : (S0 (n + 7)).2 = 3 := (show ∀ n, n < 95 → (2 ≤ n → (S0 n).1 = 7 → (S0 (n + 7)).2 = 3) from by decide +kernel) n h.2.1 h.1 h.2.2
theorem of_7_5 : ∀ n, okS n 7 → R0 n 5 = n + 8 := fun n h => (show ∀ n, n < 95 → (2 ≤ n → (S0 n).1 = 7 → R0 n 5 = n + 8) from by decide +kernel) n h.2.1 h.1 h.2.2
theorem os_7_5 {n : Nat} (h : okS n 7) : okS (n + 8) 5 := (show ∀ n, n < 95 → (2 ≤ n → (S0 n).1 = 7 → okS (n + 8) 5) from by decide +kernel) n h.2.1 h.1 h.2.2
theorem ol_7_5 {n : Nat} (h : okS n 7) : (S0 (n + 8)).2 = 0 := (show ∀ n, n < 95 → (2 ≤ n → (S0 n).1 = 7 → (S0 (n + 8)).2 = 0) from by decide +kernel) n h.2.1 h.1 h.2.2
theorem of_7_6 : ∀ n, okS n 7 → R0 n 6 = n + 10 := fun n h => (show ∀ n, n < 95 → (2 ≤ n → (S0 n).1 = 7 → R0 n 6 = n + 10) from by decide +kernel) n h.2.1 h.1 h.2.2
theorem os_7_6 {n : Nat} (h : okS n 7) : okS (n + 10) 5 := (show ∀ n, n < 95 → (2 ≤ n → (S0 n).1 = 7 → okS (n + 10) 5) from by decide +kernel) n h.2.1 h.1 h.2.2
theorem ol_7_6 {n : Nat} (h : okS n 7) : (S0 (n + 10)).2 = 0 := (show ∀ n, n < 95 → (2 ≤ n → (S0 n).1 = 7 → (S0 (n + 10)).2 = 0) from by decide +kernel) n h.2.1 h.1 h.2.2
theorem of_7_7 : ∀ n, okS n 7 → R0 n 7 = n + 12 := fun n h => (show ∀ n, n < 95 → (2 ≤ n → (S0 n).1 = 7 → R0 n 7 = n + 12) from by decide +kernel) n h.2.1 h.1 h.2.2
theorem os_7_7 {n : Nat} (h : okS n 7) : okS (n + 12) 0 := (show ∀ n, n < 95 → (2 ≤ n → (S0 n).1 = 7 → okS (n + 12) 0) from by decide +kernel) n h.2.1 h.1 h.2.2
theorem ol_7_7 {n : Nat} (h : okS n 7) : (S0 (n + 12)).2 = 0 := (show ∀ n, n < 95 → (2 ≤ n → (S0 n).1 = 7 → (S0 (n + 12)).2 = 0) from by decide +kernel) n h.2.1 h.1 h.2.2
theorem of_7_8 : ∀ n, okS n 7 → R0 n 8 = n + 16 := fun n h => (show ∀ n, n < 95 → (2 ≤ n → (S0 n).1 = 7 → R0 n 8 = n + 16) from by decide +kernel) n h.2.1 h.1 h.2.2
theorem os_7_8 {n : Nat} (h : okS n 7) : okS (n + 16) 1 := (show ∀ n, n < 95 → (2 ≤ n → (S0 n).1 = 7 → okS (n + 16) 1) from by decide +kernel) n h.2.1 h.1 h.2.2
theorem ol_7_8 {n : Nat} (h : okS n 7) : (S0 (n + 16)).2 = 0 := (show ∀ n, n < 95 → (2 ≤ n → (S0 n).1 = 7 → (S0 (n + 16)).2 = 0) from by decide +kernel) n h.2.1 h.1 h.2.2
theorem of_7_9 : ∀ n, okS n 7 → R0 n 9 = n + 19 := fun n h => (show ∀ n, n < 95 → (2 ≤ n → (S0 n).1 = 7 → R0 n 9 = n + 19) from by decide +kernel) n h.2.1 h.1 h.2.2
theorem os_7_9 {n : Nat} (h : okS n 7) : okS (n + 19) 100 := (show ∀ n, n < 95 → (2 ≤ n → (S0 n).1 = 7 → okS (n + 19) 100) from by decide +kernel) n h.2.1 h.1 h.2.2
theorem ol_7_9 {n : Nat} (h : okS n 7) : (S0 (n + 19)).2 = 6 := (show ∀ n, n < 95 → (2 ≤ n → (S0 n).1 = 7 → (S0 (n + 19)).2 = 6) from by decide +kernel) n h.2.1 h.1 h.2.2
theorem of_8_1 : ∀ n, okS n 8 → R0 n 1 = n + 1 := fun n h => (show ∀ n, n < 95 → (2 ≤ n → (S0 n).1 = 8 → R0 n 1 = n + 1) from by decide +kernel) n h.2.1 h.1 h.2.2
theorem os_8_1 {n : Nat} (h : okS n 8) : okS (n + 1) 100 := (show ∀ n, n < 95 → (2 ≤ n → (S0 n).1 = 8 → okS (n + 1) 100) from by decide +kernel) n h.2.1 h.1 h.2.2
theorem ol_8_1 {n : Nat} (h : okS n 8) : (S0 (n + 1)).2 = 6 := (show ∀ n, n < 95 → (2 ≤ n → (S0 n).1 = 8 → (S0 (n + 1)).2 = 6) from by decide +kernel) n h.2.1 h.1 h.2.2
theorem of_8_5 : ∀ n, okS n 8 → R0 n 5 = n + 2 := fun n h => (show ∀ n, n < 95 → (2 ≤ n → (S0 n).1 = 8 → R0 n 5 = n + 2) from by decide +kernel) n h.2.1 h.1 h.2.2
theorem os_8_5 {n : Nat} (h : okS n 8) : okS (n + 2) 100 := (show ∀ n, n < 95 → (2 ≤ n → (S0 n).1 = 8 → okS (n + 2) 100) from by decide +kernel) n h.2.1 h.1 h.2.2
theorem ol_8_5 {n : Nat} (h : okS n 8) : (S0 (n + 2)).2 = 6 := (show ∀ n, n < 95 → (2 ≤ n → (S0 n).1 = 8 → (S0 (n + 2)).2 = 6) from by decide +kernel) n h.2.1 h.1 h.2.2
theorem of_8_6 : ∀ n, okS n 8 → R0 n 6 = n + 3 := fun n h => (show ∀ n, n < 95 → (2 ≤ n → (S0 n).1 = 8 → R0 n 6 = n + 3) from by decide +kernel) n h.2.1 h.1 h.2.2
theorem os_8_6 {n : Nat} (h : okS n 8) : okS (n + 3) 100 := (show ∀ n, n < 95 → (2 ≤ n → (S0 n).1 = 8 → okS (n + 3) 100) from by decide +kernel) n h.2.1 h.1 h.2.2
theorem ol_8_6 {n : Nat} (h : okS n 8) : (S0 (n + 3)).2 = 240 := (show ∀ n, n < 95 → (2 ≤ n → (S0 n).1 = 8 → (S0 (n + 3)).2 = 240) from by decide +kernel) n h.2.1 h.1 h.2.2
theorem of_8_7 : ∀ n, okS n 8 → R0 n 7 = n + 4 := fun n h => (show ∀ n, n < 95 → (2 ≤ n → (S0 n).1 = 8 → R0 n 7 = n + 4) from by decide +kernel) n h.2.1 h.1 h.2.2
theorem os_8_7 {n : Nat} (h : okS n 8) : okS (n + 4) 100 := (show ∀ n, n < 95 → (2 ≤ n → (S0 n).1 = 8 → okS (n + 4) 100) from by decide +kernel) n h.2.1 h.1 h.2.2
theorem ol_8_7 {n : Nat} (h : okS n 8) : (S0 (n + 4)).2 = 40 := (show ∀ n, n < 95 → (2 ≤ n → (S0 n).1 = 8 → (S0 (n + 4)).2 = 40) from by decide +kernel) n h.2.1 h.1 h.2.2
theorem of_8_8 : ∀ n, okS n 8 → R0 n 8 = n + 5 := fun n h => (show ∀ n, n < 95 → (2 ≤ n → (S0 n).1 = 8 → R0 n 8 = n + 5) from by decide +kernel) n h.2.1 h.1 h.2.2
theorem os_8_8 {n : Nat} (h : okS n 8) : okS (n + 5) 100 := (show ∀ n, n < 95 → (2 ≤ n → (S0 n).1 = 8 → okS (n + 5) 100) from by decide +kernel) n h.2.1 h.1 h.2.2
theorem ol_8_8 {n : Nat} (h : okS n 8) : (S0 (n + 5)).2 = 4 := (show ∀ n, n < 95 → (2 ≤ n → (S0 n).1 = 8 → (S0 (n + 5)).2 = 4) from by decide +kernel) n h.2.1 h.1 h.2.2
theorem of_8_9 : ∀ n, okS n 8 → R0 n 9 = n + 6 := fun n h => (show ∀ n, n < 95 → (2 ≤ n → (S0 n).1 = 8 → R0 n 9 = n + 6) from by decide +kernel) n h.2.1 h.1 h.2.2
theorem os_8_9 {n : Nat} (h : okS n 8) : okS (n + 6) 100 := (show ∀ n, n < 95 → (2 ≤ n → (S0 n).1 = 8 → okS (n + 6) 100) from by decide +kernel) n h.2.1 h.1 h.2.2
theorem ol_8_9 {n : Nat} (h : okS n 8) : (S0 (n + 6)).2 = 400 := (show ∀ n, n < 95 → (2 ≤ n → (S0 n).1 = 8 → (S0 (n + 6)).2 = 400) from by decide +kernel) n h.2.1 h.1 h.2.2
theorem of_8_12 : ∀ n, okS n 8 → R0 n 12 = n + 7 := fun n h => (show ∀ n, n < 95 → (2 ≤ n → (S0 n).1 = 8 → R0 n 12 = n + 7) from by decide +kernel) n h.2.1 h.1 h.2.2
theorem os_8_12 {n : Nat} (h : okS n 8) : okS (n + 7) 100 := (show ∀ n, n < 95 → (2 ≤ n → (S0 n).1 = 8 → okS (n + 7) 100) from by decide +kernel) n h.2.1 h.1 h.2.2
theorem ol_8_12 {n : Nat} (h : okS n 8) : (S0 (n + 7)).2 = 70 := (show ∀ n, n < 95 → (2 ≤ n → (S0 n).1 = 8 → (S0 (n + 7)).2 = 70) from by decide +kernel) n h.2.1 h.1 h.2.2
theorem of_8_17 : ∀ n, okS n 8 → R0 n 17 = n + 8 := fun n h => (show ∀ n, n < 95 → (2 ≤ n → (S0 n).1 = 8 → R0 n 17 = n + 8) from by decide +kernel) n h.2.1 h.1 h.2.2
theorem os_8_17 {n : Nat} (h : okS n 8) : okS (n + 8) 100 := (show ∀ n, n < 95 → (2 ≤ n → (S0 n).1 = 8 → okS (n + 8) 100) from by decide +kernel) n h.2.1 h.1 h.2.2
theorem ol_8_17 {n : Nat} (h : okS n 8) : (S0 (n + 8)).2 = 7 := (show ∀ n, n < 95 → (2 ≤ n → (S0 n).1 = 8 → (S0 (n + 8)).2 = 7) from by decide +kernel) n h.2.1 h.1 h.2.2
theorem of_8_20 : ∀ n, okS n 8 → R0 n 20 = n + 9 := fun n h => (show ∀ n, n < 95 → (2 ≤ n → (S0 n).1 = 8 → R0 n 20 = n + 9) from by decide +kernel) n h.2.1 h.1 h.2.2
theorem os_8_20 {n : Nat} (h : okS n 8) : okS (n + 9) 100 := (show ∀ n, n < 95 → (2 ≤ n → (S0 n).1 = 8 → okS (n + 9) 100) from by decide +kernel) n h.2.1 h.1 h.2.2
theorem ol_8_20 {n : Nat} (h : okS n 8) : (S0 (n + 9)).2 = 7 := (show ∀ n, n < 95 → (2 ≤ n → (S0 n).1 = 8 → (S0 (n + 9)).2 = 7) from by decide +kernel) n h.2.1 h.1 h.2.2
theorem of_8_21 : ∀ n, okS n 8 → R0 n 21 = n + 10 := fun n h => (show ∀ n, n < 95 → (2 ≤ n → (S0 n).1 = 8 → R0 n 21 = n + 10) from by decide +kernel) n h.2.1 h.1 h.2.2
theorem os_8_21 {n : Nat} (h : okS n 8) : okS (n + 10) 100 := (show ∀ n, n < 95 → (2 ≤ n → (S0 n).1 = 8 → okS (n + 10) 100) from by decide +kernel) n h.2.1 h.1 h.2.2
theorem ol_8_21 {n : Nat} (h : okS n 8) : (S0 (n + 10)).2 = 7 := (show ∀ n, n < 95 → (2 ≤ n → (S0 n).1 = 8 → (S0 (n + 10)).2 = 7) from by decide +kernel) n h.2.1 h.1 h.2.2
theorem of_8_22 : ∀ n, okS n 8 → R0 n 22 = n + 11 := fun n h => (show ∀ n, n < 95 → (2 ≤ n → (S0 n).1 = 8 → R0 n 22 = n + 11) from by decide +kernel) n h.2.1 h.1 h.2.2
theorem os_8_22 {n : Nat} (h : okS n 8) : okS (n + 11) 100 := (show ∀ n, n < 95 → (2 ≤ n → (S0 n).1 = 8 → okS (n + 11) 100) from by decide +kernel) n h.2.1 h.1 h.2.2
theorem ol_8_22 {n : Nat} (h : okS n 8) : (S0 (n + 11)).2 = 30 := (show ∀ n, n < 95 → (2 ≤ n → (S0 n).1 = 8 → (S0 (n + 11)).2 = 30) from by decide +kernel) n h.2.1 h.1 h.2.2
theorem of_8_23 : ∀ n, okS n 8 → R0 n 23 = n + 12 := fun n h => (show ∀ n, n < 95 → (2 ≤ n → (S0 n).1 = 8 → R0 n 23 = n + 12) from by decide +kernel) n h.2.1 h.1 h.2.2
theorem os_8_23 {n : Nat} (h : okS n 8) : okS (n + 12) 100 := (show ∀ n, n < 95 → (2 ≤ n → (S0 n).1 = 8 → okS (n + 12) 100) from by decide +kernel) n h.2.1 h.1 h.2.2
theorem ol_8_23 {n : Nat} (h : okS n 8) : (S0 (n + 12)).2 = 3968 := (show ∀ n, n < 95 → (2 ≤ n → (S0 n).1 = 8 → (S0 (n + 12)).2 = 3968) from by decide +kernel) n h.2.1 h.1 h.2.2
theorem of_8_24 : ∀ n, okS n 8 → R0 n 24 = n + 13 := fun n h => (show ∀ n, n < 95 → (2 ≤ n → (S0 n).1 = 8 → R0 n 24 = n + 13) from by decide +kernel) n h.2.1 h.1 h.2.2
theorem os_8_24 {n : Nat} (h : okS n 8) : okS (n + 13) 100 := (show ∀ n, n < 95 → (2 ≤ n → (S0 n).1 = 8 → okS (n + 13) 100) from by decide +kernel) n h.2.1 h.1 h.2.2
theorem ol_8_24 {n : Nat} (h : okS n 8) : (S0 (n + 13)).2 = 128 := (show ∀ n, n < 95 → (2 ≤ n → (S0 n).1 = 8 → (S0 (n + 13)).2 = 128) from by decide +kernel) n h.2.1 h.1 h.2.2
theorem of_8_25 : ∀ n, okS n 8 → R0 n 25 = n + 14 := fun n h => (show ∀ n, n < 95 → (2 ≤ n → (S0 n).1 = 8 → R0 n 25 = n + 14) from by decide +kernel) n h.2.1 h.1 h.2.2
theorem os_8_25 {n : Nat} (h : okS n 8) : okS (n + 14) 100 := (show ∀ n, n < 95 → (2 ≤ n → (S0 n).1 = 8 → okS (n + 14) 100) from by decide +kernel) n h.2.1 h.1 h.2.2
theorem ol_8_25 {n : Nat} (h : okS n 8) : (S0 (n + 14)).2 = 128 := (show ∀ n, n < 95 → (2 ≤ n → (S0 n).1 = 8 → (S0 (n + 14)).2 = 128) from by decide +kernel) n h.2.1 h.1 h.2.2
theorem of_8_26 : ∀ n, okS n 8 → R0 n 26 = n + 15 := fun n h => (show ∀ n, n < 95 → (2 ≤ n → (S0 n).1 = 8 → R0 n 26 = n + 15) from by decide +kernel) n h.2.1 h.1 h.2.2
theorem os_8_26 {n : Nat} (h : okS n 8) : okS (n + 15) 100 := (show ∀ n, n < 95 → (2 ≤ n → (S0 n).1 = 8 → okS (n + 15) 100) from by decide +kernel) n h.2.1 h.1 h.2.2
theorem ol_8_26 {n : Nat} (h : okS n 8) : (S0 (n + 15)).2 = 7 := (show ∀ n, n < 95 → (2 ≤ n → (S0 n).1 = 8 → (S0 (n + 15)).2 = 7) from by decide +kernel) n h.2.1 h.1 h.2.2
theorem of_8_27 : ∀ n, okS n 8 → R0 n 27 = n + 16 := fun n h => (show ∀ n, n < 95 → (2 ≤ n → (S0 n).1 = 8 → R0 n 27 = n + 16) from by decide +kernel) n h.2.1 h.1 h.2.2
theorem os_8_27 {n : Nat} (h : okS n 8) : okS (n + 16) 100 := (show ∀ n, n < 95 → (2 ≤ n → (S0 n).1 = 8 → okS (n + 16) 100) from by decide +kernel) n h.2.1 h.1 h.2.2
theorem ol_8_27 {n : Nat} (h : okS n 8) : (S0 (n + 16)).2 = 36 := (show ∀ n, n < 95 → (2 ≤ n → (S0 n).1 = 8 → (S0 (n + 16)).2 = 36) from by decide +kernel) n h.2.1 h.1 h.2.2
theorem of_8_29 : ∀ n, okS n 8 → R0 n 29 = n + 17 := fun n h => (show ∀ n, n < 95 → (2 ≤ n → (S0 n).1 = 8 → R0 n 29 = n + 17) from by decide +kernel) n h.2.1 h.1 h.2.2
theorem os_8_29 {n : Nat} (h : okS n 8) : okS (n + 17) 100 := (show ∀ n, n < 95 → (2 ≤ n → (S0 n).1 = 8 → okS (n + 17) 100) from by decide +kernel) n h.2.1 h.1 h.2.2
theorem ol_8_29 {n : Nat} (h : okS n 8) : (S0 (n + 17)).2 = 7 := (show ∀ n, n < 95 → (2 ≤ n → (S0 n).1 = 8 → (S0 (n + 17)).2 = 7) from by decide +kernel) n h.2.1 h.1 h.2.2
theorem of_8_30 : ∀ n, okS n 8 → R0 n 30 = n + 18 := fun n h => (show ∀ n, n < 95 → (2 ≤ n → (S0 n).1 = 8 → R0 n 30 = n + 18) from by decide +kernel) n h.2.1 h.1 h.2.2
theorem os_8_30 {n : Nat} (h : okS n 8) : okS (n + 18) 100 := (show ∀ n, n < 95 → (2 ≤ n → (S0 n).1 = 8 → okS (n + 18) 100) from by decide +kernel) n h.2.1 h.1 h.2.2
theorem ol_8_30 {n : Nat} (h : okS n 8) : (S0 (n + 18)).2 = 427 := (show ∀ n, n < 95 → (2 ≤ n → (S0 n).1 = 8 → (S0 (n + 18)).2 = 427) from by decide +kernel) n h.2.1 h.1 h.2.2
def ek (kd : Nat) : Nat := if kd = 102 then 6 else if kd = 103 then 5 else 4
theorem ra_tab : ∀ n, n < 95 → (102 ≤ (S0 n).1 → n = 3 ∨ n = 4 ∨ n = 9 ∨ n = 23 ∨ n = 37) := by decide +kernel
theorem ra_ok {n kd j : Nat} (h : okS n kd) (hk : 102 ≤ kd) (hj : j < (S0 n).2) : R0 n j ≠ 0 ∧ okS (R0 n j) (ek kd) := by
  obtain ⟨h1, h2, h3⟩ := h
  subst h3
  rcases ra_tab n h2 hk with rfl | rfl | rfl | rfl | rfl
  · exact (show ∀ j, j < 6 → R0 3 j ≠ 0 ∧ okS (R0 3 j) 6 from by decide +kernel) j hj
  · exact (show ∀ j, j < 4 → R0 4 j ≠ 0 ∧ okS (R0 4 j) 6 from by decide +kernel) j hj
  · exact (show ∀ j, j < 3 → R0 9 j ≠ 0 ∧ okS (R0 9 j) 5 from by decide +kernel) j hj
  · exact (show ∀ j, j < 7 → R0 23 j ≠ 0 ∧ okS (R0 23 j) 4 from by decide +kernel) j hj
  · exact (show ∀ j, j < 7 → R0 37 j ≠ 0 ∧ okS (R0 37 j) 4 from by decide +kernel) j hj
section STR
variable {G : pG} {M : pY} {pc : Nat} {l : pLo} {st : List Value} {u : pM} {Q : Option Value → pM → Prop}
theorem ws_iconst {n : Int} {v : Int32} (hd : decode M.2.1 pc = .ok (.iconst n, 1)) (hv : Int32.ofInt n = v) (h : Ws G M (pc + 1) l (.int v :: st) u Q) : Ws G M pc l st u Q := fun hs => wp_iconst hd hv (h hs)
theorem ws_bipush {n : Int} {v : Int32} (hd : decode M.2.1 pc = .ok (.bipush n, 2)) (hv : (Int8.ofInt n).toInt32 = v) (h : Ws G M (pc + 2) l (.int v :: st) u Q) : Ws G M pc l st u Q := fun hs => wp_bipush hd hv (h hs)
theorem ws_sipush {n : Int} {v : Int32} (hd : decode M.2.1 pc = .ok (.sipush n, 3)) (hv : (Int16.ofInt n).toInt32 = v) (h : Ws G M (pc + 3) l (.int v :: st) u Q) : Ws G M pc l st u Q := fun hs => wp_sipush hd hv (h hs)
theorem ws_lconst {n : Fin 2} {v : Int64} (hd : decode M.2.1 pc = .ok (.lconst n, 1)) (hv : Int64.ofNat (n : Nat) = v) (h : Ws G M (pc + 1) l (.long v :: st) u Q) : Ws G M pc l st u Q := fun hs => wp_lconst hd hv (h hs)
theorem ws_ldc {i : Nat} {v : Int32} (hd : decode M.2.1 pc = .ok (.ldc i, 2)) (hw : Cond.constant M.1.cls i v ∈ lw_g) (h : Ws G M (pc + 2) l (.int v :: st) u Q) : Ws G M pc l st u Q := fun hs => wp_ldc hd hw (h hs)
theorem ws_ldcw {i : Nat} {v : Int32} (hd : decode M.2.1 pc = .ok (.ldc_w i, 3)) (hw : Cond.constant M.1.cls i v ∈ lw_g) (h : Ws G M (pc + 3) l (.int v :: st) u Q) : Ws G M pc l st u Q := fun hs => wp_ldcw hd hw (h hs)
theorem ws_ldc2 {i : Nat} {v : Int64} (hd : decode M.2.1 pc = .ok (.ldc2_w i, 3)) (hw : Cond.constantLong M.1.cls i v ∈ lw_g) (h : Ws G M (pc + 3) l (.long v :: st) u Q) : Ws G M pc l st u Q := fun hs => wp_ldc2 hd hw (h hs)
theorem ws_iload_n {k0 : Fin 4} {x : Int32} (j : Nat) (hd : decode M.2.1 pc = .ok (.iload_n k0, 1)) (hl : l[j]? = some ((k0 : Nat), .int x)) (h : Ws G M (pc + 1) l (.int x :: st) u Q) : Ws G M pc l st u Q := fun hs => wp_iload_n j hd hl (h hs)
theorem ws_iload {i : Nat} {x : Int32} (j : Nat) (hd : decode M.2.1 pc = .ok (.iload i, 2)) (hl : l[j]? = some (i, .int x)) (h : Ws G M (pc + 2) l (.int x :: st) u Q) : Ws G M pc l st u Q := fun hs => wp_iload j hd hl (h hs)
theorem ws_lload_n {k0 : Fin 4} {x : Int64} (j : Nat) (hd : decode M.2.1 pc = .ok (.lload_n k0, 1)) (hl : l[j]? = some ((k0 : Nat), .long x)) (h : Ws G M (pc + 1) l (.long x :: st) u Q) : Ws G M pc l st u Q := fun hs => wp_lload_n j hd hl (h hs)
theorem ws_lload {i : Nat} {x : Int64} (j : Nat) (hd : decode M.2.1 pc = .ok (.lload i, 2)) (hl : l[j]? = some (i, .long x)) (h : Ws G M (pc + 2) l (.long x :: st) u Q) : Ws G M pc l st u Q := fun hs => wp_lload j hd hl (h hs)
theorem ws_aload_n {k0 : Fin 4} {x : Nat} (j : Nat) (hd : decode M.2.1 pc = .ok (.aload_n k0, 1)) (hl : l[j]? = some ((k0 : Nat), .ref x)) (h : Ws G M (pc + 1) l (.ref x :: st) u Q) : Ws G M pc l st u Q := fun hs => wp_aload_n j hd hl (h hs)
theorem ws_aload {i x : Nat} (j : Nat) (hd : decode M.2.1 pc = .ok (.aload i, 2)) (hl : l[j]? = some (i, .ref x)) (h : Ws G M (pc + 2) l (.ref x :: st) u Q) : Ws G M pc l st u Q := fun hs => wp_aload j hd hl (h hs)
theorem ws_istore_n {k0 : Fin 4} {x : Int32} {l' : pLo} (hd : decode M.2.1 pc = .ok (.istore_n k0, 1)) (hn : (k0 : Nat) < M.2.2.1) (hl : ls1 l k0 (.int x) = l') (h : Ws G M (pc + 1) l' st u Q) : Ws G M pc l (.int x :: st) u Q := fun hs => wp_istore_n hd hn hl (h hs)
theorem ws_istore {i : Nat} {x : Int32} {l' : pLo} (hd : decode M.2.1 pc = .ok (.istore i, 2)) (hn : i < M.2.2.1) (hl : ls1 l i (.int x) = l') (h : Ws G M (pc + 2) l' st u Q) : Ws G M pc l (.int x :: st) u Q := fun hs => wp_istore hd hn hl (h hs)
theorem ws_lstore_n {k0 : Fin 4} {x : Int64} {l' : pLo} (hd : decode M.2.1 pc = .ok (.lstore_n k0, 1)) (hn : (k0 : Nat) + 1 < M.2.2.1) (hl : ls2 l k0 (.long x) = l') (h : Ws G M (pc + 1) l' st u Q) : Ws G M pc l (.long x :: st) u Q := fun hs => wp_lstore_n hd hn hl (h hs)
theorem ws_lstore {i : Nat} {x : Int64} {l' : pLo} (hd : decode M.2.1 pc = .ok (.lstore i, 2)) (hn : i + 1 < M.2.2.1) (hl : ls2 l i (.long x) = l') (h : Ws G M (pc + 2) l' st u Q) : Ws G M pc l (.long x :: st) u Q := fun hs => wp_lstore hd hn hl (h hs)
theorem ws_astore_n {k0 : Fin 4} {x : Nat} {l' : pLo} (hd : decode M.2.1 pc = .ok (.astore_n k0, 1)) (hn : (k0 : Nat) < M.2.2.1) (hl : ls1 l k0 (.ref x) = l') (h : Ws G M (pc + 1) l' st u Q) : Ws G M pc l (.ref x :: st) u Q := fun hs => wp_astore_n hd hn hl (h hs)
theorem ws_astore {i x : Nat} {l' : pLo} (hd : decode M.2.1 pc = .ok (.astore i, 2)) (hn : i < M.2.2.1) (hl : ls1 l i (.ref x) = l') (h : Ws G M (pc + 2) l' st u Q) : Ws G M pc l (.ref x :: st) u Q := fun hs => wp_astore hd hn hl (h hs)
theorem ws_iinc {i : Nat} {n : Int} {x v : Int32} {l' : pLo} (j : Nat) (hd : decode M.2.1 pc = .ok (.iinc i n, 3)) (hj : l[j]? = some (i, .int x)) (hv : Int32.ofInt n = v) (hn : i < M.2.2.1) (hl : ls1 l i (.int (x + v)) = l') (h : Ws G M (pc + 3) l' st u Q) : Ws G M pc l st u Q := fun hs => wp_iinc j hd hj hv hn hl (h hs)
theorem ws_iadd {x y : Int32} (hd : decode M.2.1 pc = .ok (.iadd, 1)) (h : Ws G M (pc + 1) l (.int (x + y) :: st) u Q) : Ws G M pc l (.int y :: .int x :: st) u Q := fun hs => wp_iadd hd (h hs)
theorem ws_isub {x y : Int32} (hd : decode M.2.1 pc = .ok (.isub, 1)) (h : Ws G M (pc + 1) l (.int (x - y) :: st) u Q) : Ws G M pc l (.int y :: .int x :: st) u Q := fun hs => wp_isub hd (h hs)
theorem ws_imul {x y : Int32} (hd : decode M.2.1 pc = .ok (.imul, 1)) (h : Ws G M (pc + 1) l (.int (x * y) :: st) u Q) : Ws G M pc l (.int y :: .int x :: st) u Q := fun hs => wp_imul hd (h hs)
theorem ws_iand {x y : Int32} (hd : decode M.2.1 pc = .ok (.iand, 1)) (h : Ws G M (pc + 1) l (.int (x &&& y) :: st) u Q) : Ws G M pc l (.int y :: .int x :: st) u Q := fun hs => wp_iand hd (h hs)
theorem ws_ior {x y : Int32} (hd : decode M.2.1 pc = .ok (.ior, 1)) (h : Ws G M (pc + 1) l (.int (x ||| y) :: st) u Q) : Ws G M pc l (.int y :: .int x :: st) u Q := fun hs => wp_ior hd (h hs)
theorem ws_ixor {x y : Int32} (hd : decode M.2.1 pc = .ok (.ixor, 1)) (h : Ws G M (pc + 1) l (.int (x ^^^ y) :: st) u Q) : Ws G M pc l (.int y :: .int x :: st) u Q := fun hs => wp_ixor hd (h hs)
theorem ws_idiv {x y : Int32} (hd : decode M.2.1 pc = .ok (.idiv, 1)) (hne : ¬ y = 0) (h : Ws G M (pc + 1) l (.int (x / y) :: st) u Q) : Ws G M pc l (.int y :: .int x :: st) u Q := fun hs => wp_idiv hd hne (h hs)
theorem ws_irem {x y : Int32} (hd : decode M.2.1 pc = .ok (.irem, 1)) (hne : ¬ y = 0) (h : Ws G M (pc + 1) l (.int (x - x / y * y) :: st) u Q) : Ws G M pc l (.int y :: .int x :: st) u Q := fun hs => wp_irem hd hne (h hs)
theorem ws_ineg {x : Int32} (hd : decode M.2.1 pc = .ok (.ineg, 1)) (h : Ws G M (pc + 1) l (.int (-x) :: st) u Q) : Ws G M pc l (.int x :: st) u Q := fun hs => wp_ineg hd (h hs)
theorem ws_ishl {x y : Int32} (hd : decode M.2.1 pc = .ok (.ishl, 1)) (h : Ws G M (pc + 1) l (.int (x <<< (y &&& 31)) :: st) u Q) : Ws G M pc l (.int y :: .int x :: st) u Q := fun hs => wp_ishl hd (h hs)
theorem ws_ishr {x y : Int32} (hd : decode M.2.1 pc = .ok (.ishr, 1)) (h : Ws G M (pc + 1) l (.int (x >>> (y &&& 31)) :: st) u Q) : Ws G M pc l (.int y :: .int x :: st) u Q := fun hs => wp_ishr hd (h hs)
theorem ws_iushr {x y : Int32} (hd : decode M.2.1 pc = .ok (.iushr, 1)) (h : Ws G M (pc + 1) l (.int (x.toUInt32 >>> (y.toUInt32 &&& Int32.toUInt32 31)).toInt32 :: st) u Q) : Ws G M pc l (.int y :: .int x :: st) u Q := fun hs => wp_iushr hd (h hs)
theorem ws_ladd {x y : Int64} (hd : decode M.2.1 pc = .ok (.ladd, 1)) (h : Ws G M (pc + 1) l (.long (x + y) :: st) u Q) : Ws G M pc l (.long y :: .long x :: st) u Q := fun hs => wp_ladd hd (h hs)
theorem ws_lsub {x y : Int64} (hd : decode M.2.1 pc = .ok (.lsub, 1)) (h : Ws G M (pc + 1) l (.long (x - y) :: st) u Q) : Ws G M pc l (.long y :: .long x :: st) u Q := fun hs => wp_lsub hd (h hs)
theorem ws_lmul {x y : Int64} (hd : decode M.2.1 pc = .ok (.lmul, 1)) (h : Ws G M (pc + 1) l (.long (x * y) :: st) u Q) : Ws G M pc l (.long y :: .long x :: st) u Q := fun hs => wp_lmul hd (h hs)
theorem ws_lxor {x y : Int64} (hd : decode M.2.1 pc = .ok (.lxor, 1)) (h : Ws G M (pc + 1) l (.long (x ^^^ y) :: st) u Q) : Ws G M pc l (.long y :: .long x :: st) u Q := fun hs => wp_lxor hd (h hs)
theorem ws_ldiv {x y : Int64} (hd : decode M.2.1 pc = .ok (.ldiv, 1)) (hne : ¬ y = 0) (h : Ws G M (pc + 1) l (.long (x / y) :: st) u Q) : Ws G M pc l (.long y :: .long x :: st) u Q := fun hs => wp_ldiv hd hne (h hs)
theorem ws_lrem {x y : Int64} (hd : decode M.2.1 pc = .ok (.lrem, 1)) (hne : ¬ y = 0) (h : Ws G M (pc + 1) l (.long (x - x / y * y) :: st) u Q) : Ws G M pc l (.long y :: .long x :: st) u Q := fun hs => wp_lrem hd hne (h hs)
theorem ws_lneg {x : Int64} (hd : decode M.2.1 pc = .ok (.lneg, 1)) (h : Ws G M (pc + 1) l (.long (-x) :: st) u Q) : Ws G M pc l (.long x :: st) u Q := fun hs => wp_lneg hd (h hs)
theorem ws_lshl {x : Int64} {y : Int32} (hd : decode M.2.1 pc = .ok (.lshl, 1)) (h : Ws G M (pc + 1) l (.long (x <<< (y.toInt64 &&& 63)) :: st) u Q) : Ws G M pc l (.int y :: .long x :: st) u Q := fun hs => wp_lshl hd (h hs)
theorem ws_lshr {x : Int64} {y : Int32} (hd : decode M.2.1 pc = .ok (.lshr, 1)) (h : Ws G M (pc + 1) l (.long (x >>> (y.toInt64 &&& 63)) :: st) u Q) : Ws G M pc l (.int y :: .long x :: st) u Q := fun hs => wp_lshr hd (h hs)
theorem ws_i2l {x : Int32} (hd : decode M.2.1 pc = .ok (.i2l, 1)) (h : Ws G M (pc + 1) l (.long x.toInt64 :: st) u Q) : Ws G M pc l (.int x :: st) u Q := fun hs => wp_i2l hd (h hs)
theorem ws_l2i {x : Int64} (hd : decode M.2.1 pc = .ok (.l2i, 1)) (h : Ws G M (pc + 1) l (.int x.toInt32 :: st) u Q) : Ws G M pc l (.long x :: st) u Q := fun hs => wp_l2i hd (h hs)
theorem ws_i2b {x : Int32} (hd : decode M.2.1 pc = .ok (.i2b, 1)) (h : Ws G M (pc + 1) l (.int x.toInt8.toInt32 :: st) u Q) : Ws G M pc l (.int x :: st) u Q := fun hs => wp_i2b hd (h hs)
theorem ws_dup {v : Value} (hd : decode M.2.1 pc = .ok (.dup, 1)) (hv : v.category = 1) (h : Ws G M (pc + 1) l (v :: v :: st) u Q) : Ws G M pc l (v :: st) u Q := fun hs => wp_dup hd hv (h hs)
theorem ws_pop {v : Value} (hd : decode M.2.1 pc = .ok (.pop, 1)) (hv : v.category = 1) (h : Ws G M (pc + 1) l st u Q) : Ws G M pc l (v :: st) u Q := fun hs => wp_pop hd hv (h hs)
theorem ws_dup2 {v w : Value} (hd : decode M.2.1 pc = .ok (.dup2, 1)) (hv : v.category = 1) (hw : w.category = 1) (h : Ws G M (pc + 1) l (v :: w :: v :: w :: st) u Q) : Ws G M pc l (v :: w :: st) u Q := fun hs => wp_dup2 hd hv hw (h hs)
theorem ws_dup_x1 {v w : Value} (hd : decode M.2.1 pc = .ok (.dup_x1, 1)) (hv : v.category = 1) (hw : w.category = 1) (h : Ws G M (pc + 1) l (v :: w :: v :: st) u Q) : Ws G M pc l (v :: w :: st) u Q := fun hs => wp_dup_x1 hd hv hw (h hs)
theorem ws_pop2 {v : Value} (hd : decode M.2.1 pc = .ok (.pop2, 1)) (hv : v.category = 2) (h : Ws G M (pc + 1) l st u Q) : Ws G M pc l (v :: st) u Q := fun hs => wp_pop2 hd hv (h hs)
theorem ws_goto {off : Int} {tgt : Nat} (hd : decode M.2.1 pc = .ok (.goto off, 3)) (ht : (pc : Int) + off = (tgt : Int)) (h : Ws G M tgt l st u Q) : Ws G M pc l st u Q := fun hs => wp_goto hd ht (h hs)
theorem ws_ifnull {x : Nat} {off : Int} (hd : decode M.2.1 pc = .ok (.ifnull off, 3)) (h : Ws G M (pc + 3) l st u Q) : Ws G M pc l (.ref x :: st) u Q := fun hs => wp_ifnull hd (h hs)
theorem ws_lcmp {x y : Int64} (hd : decode M.2.1 pc = .ok (.lcmp, 1)) (h : Ws G M (pc + 1) l (.int (lg_cmp x y) :: st) u Q) : Ws G M pc l (.long y :: .long x :: st) u Q := fun hs => wp_lcmp hd (h hs)
theorem ws_if_eq {x : Int32} {off : Int} {tgt : Nat} (hd : decode M.2.1 pc = .ok (.ifCond .eq off, 3)) (ht : (pc : Int) + off = (tgt : Int)) (kt : x = 0 → Ws G M tgt l st u Q) (kf : ¬ (x = 0) → Ws G M (pc + 3) l st u Q) : Ws G M pc l (.int x :: st) u Q := fun hs => wp_if_eq hd ht (fun q => kt q hs) (fun q => kf q hs)
theorem ws_icmp_eq {x y : Int32} {off : Int} {tgt : Nat} (hd : decode M.2.1 pc = .ok (.if_icmp .eq off, 3)) (ht : (pc : Int) + off = (tgt : Int)) (kt : x = y → Ws G M tgt l st u Q) (kf : ¬ (x = y) → Ws G M (pc + 3) l st u Q) : Ws G M pc l (.int y :: .int x :: st) u Q := fun hs => wp_icmp_eq hd ht (fun q => kt q hs) (fun q => kf q hs)
theorem ws_if_ne {x : Int32} {off : Int} {tgt : Nat} (hd : decode M.2.1 pc = .ok (.ifCond .ne off, 3)) (ht : (pc : Int) + off = (tgt : Int)) (kt : ¬ x = 0 → Ws G M tgt l st u Q) (kf : x = 0 → Ws G M (pc + 3) l st u Q) : Ws G M pc l (.int x :: st) u Q := fun hs => wp_if_ne hd ht (fun q => kt q hs) (fun q => kf q hs)
theorem ws_icmp_ne {x y : Int32} {off : Int} {tgt : Nat} (hd : decode M.2.1 pc = .ok (.if_icmp .ne off, 3)) (ht : (pc : Int) + off = (tgt : Int)) (kt : ¬ x = y → Ws G M tgt l st u Q) (kf : x = y → Ws G M (pc + 3) l st u Q) : Ws G M pc l (.int y :: .int x :: st) u Q := fun hs => wp_icmp_ne hd ht (fun q => kt q hs) (fun q => kf q hs)
theorem ws_if_lt {x : Int32} {off : Int} {tgt : Nat} (hd : decode M.2.1 pc = .ok (.ifCond .lt off, 3)) (ht : (pc : Int) + off = (tgt : Int)) (kt : x < 0 → Ws G M tgt l st u Q) (kf : ¬ (x < 0) → Ws G M (pc + 3) l st u Q) : Ws G M pc l (.int x :: st) u Q := fun hs => wp_if_lt hd ht (fun q => kt q hs) (fun q => kf q hs)
theorem ws_icmp_lt {x y : Int32} {off : Int} {tgt : Nat} (hd : decode M.2.1 pc = .ok (.if_icmp .lt off, 3)) (ht : (pc : Int) + off = (tgt : Int)) (kt : x < y → Ws G M tgt l st u Q) (kf : ¬ (x < y) → Ws G M (pc + 3) l st u Q) : Ws G M pc l (.int y :: .int x :: st) u Q := fun hs => wp_icmp_lt hd ht (fun q => kt q hs) (fun q => kf q hs)
theorem ws_if_ge {x : Int32} {off : Int} {tgt : Nat} (hd : decode M.2.1 pc = .ok (.ifCond .ge off, 3)) (ht : (pc : Int) + off = (tgt : Int)) (kt : 0 ≤ x → Ws G M tgt l st u Q) (kf : ¬ (0 ≤ x) → Ws G M (pc + 3) l st u Q) : Ws G M pc l (.int x :: st) u Q := fun hs => wp_if_ge hd ht (fun q => kt q hs) (fun q => kf q hs)
theorem ws_icmp_ge {x y : Int32} {off : Int} {tgt : Nat} (hd : decode M.2.1 pc = .ok (.if_icmp .ge off, 3)) (ht : (pc : Int) + off = (tgt : Int)) (kt : y ≤ x → Ws G M tgt l st u Q) (kf : ¬ (y ≤ x) → Ws G M (pc + 3) l st u Q) : Ws G M pc l (.int y :: .int x :: st) u Q := fun hs => wp_icmp_ge hd ht (fun q => kt q hs) (fun q => kf q hs)
theorem ws_if_gt {x : Int32} {off : Int} {tgt : Nat} (hd : decode M.2.1 pc = .ok (.ifCond .gt off, 3)) (ht : (pc : Int) + off = (tgt : Int)) (kt : 0 < x → Ws G M tgt l st u Q) (kf : ¬ (0 < x) → Ws G M (pc + 3) l st u Q) : Ws G M pc l (.int x :: st) u Q := fun hs => wp_if_gt hd ht (fun q => kt q hs) (fun q => kf q hs)
theorem ws_icmp_gt {x y : Int32} {off : Int} {tgt : Nat} (hd : decode M.2.1 pc = .ok (.if_icmp .gt off, 3)) (ht : (pc : Int) + off = (tgt : Int)) (kt : y < x → Ws G M tgt l st u Q) (kf : ¬ (y < x) → Ws G M (pc + 3) l st u Q) : Ws G M pc l (.int y :: .int x :: st) u Q := fun hs => wp_icmp_gt hd ht (fun q => kt q hs) (fun q => kf q hs)
theorem ws_if_le {x : Int32} {off : Int} {tgt : Nat} (hd : decode M.2.1 pc = .ok (.ifCond .le off, 3)) (ht : (pc : Int) + off = (tgt : Int)) (kt : x ≤ 0 → Ws G M tgt l st u Q) (kf : ¬ (x ≤ 0) → Ws G M (pc + 3) l st u Q) : Ws G M pc l (.int x :: st) u Q := fun hs => wp_if_le hd ht (fun q => kt q hs) (fun q => kf q hs)
theorem ws_icmp_le {x y : Int32} {off : Int} {tgt : Nat} (hd : decode M.2.1 pc = .ok (.if_icmp .le off, 3)) (ht : (pc : Int) + off = (tgt : Int)) (kt : x ≤ y → Ws G M tgt l st u Q) (kf : ¬ (x ≤ y) → Ws G M (pc + 3) l st u Q) : Ws G M pc l (.int y :: .int x :: st) u Q := fun hs => wp_icmp_le hd ht (fun q => kt q hs) (fun q => kf q hs)
theorem ws_tableIn {x : Int32} {dflt lo hi : Int} {offs : Array Int} {len : Nat} {off : Int} {tgt : Nat} (j : Nat) (hd : decode M.2.1 pc = .ok (.tableswitch dflt lo hi offs, len)) (hx : x.toInt = lo + j) (hj : lo + j ≤ hi) (ho : offs[j]? = some off) (ht : (pc : Int) + off = (tgt : Int)) (h : Ws G M tgt l st u Q) : Ws G M pc l (.int x :: st) u Q := fun hs => wp_tableIn j hd hx hj ho ht (h hs)
theorem ws_tableOut {x : Int32} {dflt lo hi : Int} {offs : Array Int} {len tgt : Nat} (hd : decode M.2.1 pc = .ok (.tableswitch dflt lo hi offs, len)) (hx : x.toInt < lo ∨ hi < x.toInt) (ht : (pc : Int) + dflt = (tgt : Int)) (h : Ws G M tgt l st u Q) : Ws G M pc l (.int x :: st) u Q := fun hs => wp_tableOut hd hx ht (h hs)
theorem ws_getI {idx ci k o : Nat} (hf : FL M.1.cls idx ci k) (ht : fty ci k = 0) (hd : decode M.2.1 pc = .ok (.getfield idx, 3)) (ho : okS o ci) (h : Ws G M (pc + 3) l (.int (mI u o k) :: st) u Q) : Ws G M pc l (.ref o :: st) u Q := fun hs => wp_getI hf ht hd (ok_of hs ho) (h hs)
theorem ws_getL {idx ci k o : Nat} (hf : FL M.1.cls idx ci k) (ht : fty ci k = 1) (hd : decode M.2.1 pc = .ok (.getfield idx, 3)) (ho : okS o ci) (h : Ws G M (pc + 3) l (.long (mL u o k) :: st) u Q) : Ws G M pc l (.ref o :: st) u Q := fun hs => wp_getL hf ht hd (ok_of hs ho) (h hs)
theorem ws_putI {idx ci k o : Nat} {v : Int32} (hf : FL M.1.cls idx ci k) (ht : fty ci k = 0) (hnf : ∀ r ty, clOK ci r ty → (r.2.1 k).2.2.2 = false) (hd : decode M.2.1 pc = .ok (.putfield idx, 3)) (ho : okS o ci) (h : Ws G M (pc + 3) l st (pI u o k v) Q) : Ws G M pc l (.int v :: .ref o :: st) u Q := fun hs => wp_putI hf ht hnf hd (ok_of hs ho) (h hs)
theorem ws_putL {idx ci k o : Nat} {v : Int64} (hf : FL M.1.cls idx ci k) (ht : fty ci k = 1) (hnf : ∀ r ty, clOK ci r ty → (r.2.1 k).2.2.2 = false) (hd : decode M.2.1 pc = .ok (.putfield idx, 3)) (ho : okS o ci) (h : Ws G M (pc + 3) l st (pL u o k v) Q) : Ws G M pc l (.long v :: .ref o :: st) u Q := fun hs => wp_putL hf ht hnf hd (ok_of hs ho) (h hs)
theorem ws_iald {n : Nat} {i : Int32} (hd : decode M.2.1 pc = .ok (.iaload, 1)) (ha : okS n 100) {L : Nat} (hL : (S0 n).2 = L) (hi : vp_in i L) (h : Ws G M (pc + 1) l (.int (mI u n i.toNatClampNeg) :: st) u Q) : Ws G M pc l (.int i :: .ref n :: st) u Q := fun hs => wp_iald hd (oka_of hs ha hL hi) (h hs)
theorem ws_lald {n : Nat} {i : Int32} (hd : decode M.2.1 pc = .ok (.laload, 1)) (ha : okS n 101) {L : Nat} (hL : (S0 n).2 = L) (hi : vp_in i L) (h : Ws G M (pc + 1) l (.long (mL u n i.toNatClampNeg) :: st) u Q) : Ws G M pc l (.int i :: .ref n :: st) u Q := fun hs => wp_lald hd (oka_of hs ha hL hi) (h hs)
theorem ws_iast {n : Nat} {i x : Int32} (hd : decode M.2.1 pc = .ok (.iastore, 1)) (ha : okS n 100) {L : Nat} (hL : (S0 n).2 = L) (hi : vp_in i L) (h : Ws G M (pc + 1) l st (pI u n i.toNatClampNeg x) Q) : Ws G M pc l (.int x :: .int i :: .ref n :: st) u Q := fun hs => wp_iast hd (oka_of hs ha hL hi) (h hs)
theorem ws_last {n : Nat} {i : Int32} {x : Int64} (hd : decode M.2.1 pc = .ok (.lastore, 1)) (ha : okS n 101) {L : Nat} (hL : (S0 n).2 = L) (hi : vp_in i L) (h : Ws G M (pc + 1) l st (pL u n i.toNatClampNeg x) Q) : Ws G M pc l (.long x :: .int i :: .ref n :: st) u Q := fun hs => wp_last hd (oka_of hs ha hL hi) (h hs)
theorem ws_alen {n kd : Nat} (hd : decode M.2.1 pc = .ok (.arraylength, 1)) (ha : okS n kd) (hk : 100 ≤ kd ∧ kd ≤ 104) (h : Ws G M (pc + 1) l (.int (Int32.ofNat (S0 n).2) :: st) u Q) : Ws G M pc l (.ref n :: st) u Q := fun hs => wp_alen hd (ok_of hs ha) hk (by rw [len_of hs ha]; exact h hs)
theorem ws_sld {i : Int32} (hd : decode M.2.1 pc = .ok (.iaload, 1)) (hi : vp_in i (gn G)) (h : Ws G M (pc + 1) l (.int (gx G i.toNatClampNeg) :: st) u Q) : Ws G M pc l (.int i :: .ref 0 :: st) u Q := fun hs => wp_sld hd hi (h hs)
theorem ws_slen (hd : decode M.2.1 pc = .ok (.arraylength, 1)) (h : Ws G M (pc + 1) l (.int (Int32.ofNat (gn G)) :: st) u Q) : Ws G M pc l (.ref 0 :: st) u Q := fun hs => wp_slen hd (h hs)
theorem ws_tld {i : Int32} (hd : decode M.2.1 pc = .ok (.iaload, 1)) (hi : vp_in i 6) (h : Ws G M (pc + 1) l (.int (lets i.toNatClampNeg) :: st) u Q) : Ws G M pc l (.int i :: .ref 1 :: st) u Q := fun hs => wp_tld hd hi (h hs)
theorem ws_tlen (hd : decode M.2.1 pc = .ok (.arraylength, 1)) (h : Ws G M (pc + 1) l (.int 6 :: st) u Q) : Ws G M pc l (.ref 1 :: st) u Q := fun hs => wp_tlen hd (h hs)
theorem ws_gets (hcls : M.1.cls = "DoorRounds$Reader") (hd : decode M.2.1 pc = .ok (.getstatic 42, 3)) (h : Ws G M (pc + 3) l (.ref 1 :: st) u Q) : Ws G M pc l st u Q := fun hs => wp_gets hcls hd (h hs)
theorem Ws.mono {Q' : Option Value → pM → Prop} (h : Ws G M pc l st u Q') (hQ : ∀ r u, Str u → Q' r u → Q r u) : Ws G M pc l st u Q := fun hs => (h hs).mono (fun r u q => ⟨q.1, hQ r u q.1 q.2⟩)
theorem Ws.str (h : Str u → Ws G M pc l st u Q) : Ws G M pc l st u Q := fun hs => h hs hs
theorem ws_loc {l' : pLo} (ks' : List Nat) (hl : lv_pick l ks' = l') (h : Ws G M pc l' st u Q) : Ws G M pc l st u Q := fun hs => wp_loc ks' hl (h hs)
theorem ws_getF {idx ci k o c a : Nat} (hf : FL M.1.cls idx ci k) (ht : fty ci k = 2) (hd : decode M.2.1 pc = .ok (.getfield idx, 3)) (ho : okS o ci) (hR : ∀ n, okS n ci → R0 n k = n + c) (ha : o + c = a) (h : Ws G M (pc + 3) l (.ref a :: st) u Q) : Ws G M pc l (.ref o :: st) u Q := fun hs => by
  subst ha
  have h1 : R0 o k = o + c := hR o ho
  have h2 : mR u o k = o + c := by rw [hs.2.2.1 o k (by rw [h1]; have := ho.1; omega), h1]
  refine wp_getR hf ht hd (ok_of hs ho) (by rw [h2]; have := ho.1; omega) ?_
  rw [h2]
  exact h hs
theorem ws_getP {idx k : Nat} (hk : k = 10 ∨ k = 11) (hf : FL M.1.cls idx 7 k) (hd : decode M.2.1 pc = .ok (.getfield idx, 3)) (h : pl (mR u 2 k) → Ws G M (pc + 3) l (.ref (mR u 2 k) :: st) u Q) : Ws G M pc l (.ref 2 :: st) u Q := fun hs => by
  have hp : pl (mR u 2 k) := by rcases hk with rfl | rfl; exact hs.2.2.2.1; exact hs.2.2.2.2.1
  refine wp_getR hf (by rcases hk with rfl | rfl <;> rfl) hd (ok_of hs (by decide)) (by rcases hp with e | e <;> rw [e] <;> decide) (h hp hs)
theorem ws_getT {idx o : Nat} (hf : FL M.1.cls idx 3 0) (hd : decode M.2.1 pc = .ok (.getfield idx, 3)) (ho : okS o 3) (h : okS (mR u o 0) 6 → Ws G M (pc + 3) l (.ref (mR u o 0) :: st) u Q) : Ws G M pc l (.ref o :: st) u Q := fun hs => by
  have ho2 : o = 26 ∨ o = 40 := (show ∀ n, n < 95 → (2 ≤ n → (S0 n).1 = 3 → n = 26 ∨ n = 40) from by decide +kernel) o ho.2.1 ho.1 ho.2.2
  have hp : okS (mR u o 0) 6 := by rcases ho2 with rfl | rfl; exact hs.2.2.2.2.2.1; exact hs.2.2.2.2.2.2
  exact wp_getR hf rfl hd (ok_of hs ho) (by have := hp.1; omega) (h hp hs)
theorem str_pR {n k v : Nat} (hs : Str u) (h0 : R0 n k = 0) (h1 : n = 2 → pl v) (h2 : n ≠ 2 → okS v 6) : Str (pR u n k v) := by
  have key : ∀ a b, mR (pR u n k v) a b = if a = n ∧ b = k then v else mR u a b := fun a b => rfl
  refine ⟨hs.1, hs.2.1, fun a b hab => ?_, ?_, ?_, ?_, ?_⟩
  · rw [key, if_neg (fun q => hab (by rw [q.1, q.2]; exact h0))]
    exact hs.2.2.1 a b hab
  · rw [key]; split
    · rename_i q; exact h1 q.1.symm
    · exact hs.2.2.2.1
  · rw [key]; split
    · rename_i q; exact h1 q.1.symm
    · exact hs.2.2.2.2.1
  · rw [key]; split
    · rename_i q; exact h2 (by omega)
    · exact hs.2.2.2.2.2.1
  · rw [key]; split
    · rename_i q; exact h2 (by omega)
    · exact hs.2.2.2.2.2.2
theorem ws_putP {idx k v : Nat} (hk : k = 10 ∨ k = 11) (hf : FL M.1.cls idx 7 k) (hnf : ∀ r ty, clOK 7 r ty → (r.2.1 k).2.2.2 = false) (hd : decode M.2.1 pc = .ok (.putfield idx, 3)) (hv : pl v) (h : Ws G M (pc + 3) l st (pR u 2 k v) Q) : Ws G M pc l (.ref v :: .ref 2 :: st) u Q := fun hs =>
  wp_putR hf (by rcases hk with rfl | rfl <;> rfl) hnf hd (ok_of hs (by decide)) (by rcases hv with e | e <;> rw [e] <;> decide) (h (str_pR hs (by rcases hk with rfl | rfl <;> decide) (fun _ => hv) (fun q => absurd rfl q)))
theorem ws_putT {idx o v : Nat} (hf : FL M.1.cls idx 3 0) (hnf : ∀ r ty, clOK 3 r ty → (r.2.1 0).2.2.2 = false) (hd : decode M.2.1 pc = .ok (.putfield idx, 3)) (ho : okS o 3) (hv : okS v 6) (h : Ws G M (pc + 3) l st (pR u o 0 v) Q) : Ws G M pc l (.ref v :: .ref o :: st) u Q := fun hs => by
  have ho2 : o = 26 ∨ o = 40 := (show ∀ n, n < 95 → (2 ≤ n → (S0 n).1 = 3 → n = 26 ∨ n = 40) from by decide +kernel) o ho.2.1 ho.1 ho.2.2
  exact wp_putR hf rfl hnf hd (ok_of hs ho) (by have := hv.1; omega) (h (str_pR hs (by rcases ho2 with rfl | rfl <;> decide) (fun q => by omega) (fun _ => hv)))
theorem ws_aald {n kd L : Nat} {i : Int32} (hd : decode M.2.1 pc = .ok (.aaload, 1)) (ha : okS n kd) (hk : 102 ≤ kd ∧ kd ≤ 104) (hL : (S0 n).2 = L) (hi : vp_in i L) (h : Ws G M (pc + 1) l (.ref (R0 n i.toNatClampNeg) :: st) u Q) : Ws G M pc l (.int i :: .ref n :: st) u Q := fun hs => by
  have h1 := (ra_ok ha hk.1 (by rw [hL]; exact ix_lt hi)).1
  have h2 := hs.2.2.1 n _ h1
  refine wp_aald hd (oka_of hs ha hL hi) hk (by rw [h2]; exact h1) ?_
  rw [h2]; exact h hs
theorem ws_iret {v : Int32} (hd : decode M.2.1 pc = .ok (.ireturn, 1)) (ht : ∃ ty, M.2.2.2.1 = some ty ∧ narrow ty (.int v) = .int v) (hQ : Q (some (.int v)) u) : Ws G M pc l [.int v] u Q := fun hs => wp_iret hd ht ⟨hs, hQ⟩
theorem ws_lret {v : Int64} (hd : decode M.2.1 pc = .ok (.lreturn, 1)) (ht : M.2.2.2.1 = some .long) (hQ : Q (some (.long v)) u) : Ws G M pc l [.long v] u Q := fun hs => wp_lret hd ht ⟨hs, hQ⟩
theorem ws_aret {v : Nat} (hd : decode M.2.1 pc = .ok (.areturn, 1)) (ht : ∃ n, M.2.2.2.1 = some (.object n)) (hQ : Q (some (.ref v)) u) : Ws G M pc l [.ref v] u Q := fun hs => wp_aret hd ht ⟨hs, hQ⟩
theorem ws_vret (hd : decode M.2.1 pc = .ok (.return_, 1)) (ht : M.2.2.2.1 = none) (hQ : Q none u) : Ws G M pc l [] u Q := fun hs => wp_vret hd ht ⟨hs, hQ⟩
theorem ws_copy {idx a b : Nat} {sp dp n : Int32} (hd : decode M.2.1 pc = .ok (.invokestatic idx, 3)) (hL : Cond.methodLink M.1.cls idx arraycopyName ∈ lw_g) (hN : Cond.native arraycopyName ∈ lw_g) (hS0 : Cond.static arraycopyName ∈ lw_g) (hI : Cond.initialized "java/lang/System" ∈ lw_g) (hf : 1 ≤ M.2.2.2.2.1) (hlo : ((st.map (tv G)).map fun v => v.category).sum + 18 ≤ M.2.2.2.2.2) (ha : okS a 100) (hb : okS b 100) (h1 : ¬ sp < 0) (h2 : ¬ dp < 0) (h3 : ¬ n < 0) (h4 : sp.toNatClampNeg + n.toNatClampNeg ≤ (S0 a).2) (h5 : dp.toNatClampNeg + n.toNatClampNeg ≤ (S0 b).2) (h : Ws G M (pc + 3) l st (cpI u a b sp.toNatClampNeg dp.toNatClampNeg n.toNatClampNeg) Q) : Ws G M pc l (.int n :: .int dp :: .ref b :: .int sp :: .ref a :: st) u Q := fun hs => wp_copy hd hL hN hS0 hI hf hlo (ok_of hs ha) (ok_of hs hb) h1 h2 h3 (by rw [len_of hs ha]; exact h4) (by rw [len_of hs hb]; exact h5) (h hs)
/-- calls, by the callee's answer -/
def CV (M : pY) (n ci : Nat) : Prop := CM M n ∧ Cond.instanceMethod M.1 ∈ lw_g ∧ Cond.selects M.1.cls M.1 M.1 ∈ lw_g ∧ (∃ r : vw_C, cls9[ci]? = some r ∧ r.1 = M.1.cls) ∧ ci < 9
def CS (M : pY) (n : Nat) : Prop := CM M n ∧ Cond.static M.1 ∈ lw_g
theorem ws_callV {M' : pY} {idx n o ci : Nat} {As : List Value} {la : pLo} {sk : List Value} {Q' : Option Value → pM → Prop} (hd : decode M.2.1 pc = .ok (.invokevirtual idx, 3)) (hM : CV M' n ci) (hL : LK M.1.cls idx M') (hrm : RoomOK M M') (ho : okS o ci) (hn : As.length = n) (hlen : (lg_sl ((.ref o :: As).map (tv G))).length ≤ M'.2.2.1) (hst : ((st.map (tv G)).map fun v => v.category).sum ≤ 8) (hla : lv_args 0 (.ref o :: As) = la) (hsk : As.reverse ++ .ref o :: st = sk) (h : Ws G M' 0 la [] u Q') (k : ∀ r u', Q' r u' → Ws G M (pc + 3) l (r.toList ++ st) u' Q) : Ws G M pc l sk u Q := fun hs => by
  subst hla; subst hsk
  obtain ⟨h1, h2, h3, ⟨r, h4, h5⟩, h6⟩ := hM
  exact wp_callV (kc' := 0) (ks' := 0) (kc := 0) (ks := 0) hd h1 hL h2 h3 hrm (ok_of hs ho) h4 h5 h6 hn hlen hst (h hs) (fun r u' q => k r u' q.2 q.1)
theorem ws_callS {M' : pY} {idx n : Nat} {As : List Value} {la : pLo} {sk : List Value} {Q' : Option Value → pM → Prop} (hd : decode M.2.1 pc = .ok (.invokestatic idx, 3)) (hM : CS M' n) (hL : LK M.1.cls idx M') (hrm : RoomOK M M') (hn : As.length = n) (hlen : (lg_sl (As.map (tv G))).length ≤ M'.2.2.1) (hst : ((st.map (tv G)).map fun v => v.category).sum ≤ 8) (hla : lv_args 0 As = la) (hsk : As.reverse ++ st = sk) (h : Ws G M' 0 la [] u Q') (k : ∀ r u', Q' r u' → Ws G M (pc + 3) l (r.toList ++ st) u' Q) : Ws G M pc l sk u Q := fun hs => by
  subst hla; subst hsk
  exact wp_callS (kc' := 0) (ks' := 0) (kc := 0) (ks := 0) hd hM.1 hL hM.2 hrm hn hlen hst (h hs) (fun r u' q => k r u' q.2 q.1)
theorem ws_callVI {M' : pY} {idx n o ci : Nat} {As : List Value} {la : pLo} {sk : List Value} {K : Int32 → pM → Prop} (hd : decode M.2.1 pc = .ok (.invokevirtual idx, 3)) (hM : CV M' n ci) (hL : LK M.1.cls idx M') (hrm : RoomOK M M') (ho : okS o ci) (hn : As.length = n) (hlen : (lg_sl ((.ref o :: As).map (tv G))).length ≤ M'.2.2.1) (hst : ((st.map (tv G)).map fun v => v.category).sum ≤ 8) (hla : lv_args 0 (.ref o :: As) = la) (hsk : As.reverse ++ .ref o :: st = sk) (h : Ws G M' 0 la [] u (RI K)) (k : ∀ x u', K x u' → Ws G M (pc + 3) l (.int x :: st) u' Q) : Ws G M pc l sk u Q := ws_callV hd hM hL hrm ho hn hlen hst hla hsk h (fun r u' q => by obtain ⟨x, rfl, q⟩ := q; exact k x u' q)
theorem ws_callVJ {M' : pY} {idx n o ci : Nat} {As : List Value} {la : pLo} {sk : List Value} {K : Int64 → pM → Prop} (hd : decode M.2.1 pc = .ok (.invokevirtual idx, 3)) (hM : CV M' n ci) (hL : LK M.1.cls idx M') (hrm : RoomOK M M') (ho : okS o ci) (hn : As.length = n) (hlen : (lg_sl ((.ref o :: As).map (tv G))).length ≤ M'.2.2.1) (hst : ((st.map (tv G)).map fun v => v.category).sum ≤ 8) (hla : lv_args 0 (.ref o :: As) = la) (hsk : As.reverse ++ .ref o :: st = sk) (h : Ws G M' 0 la [] u (RJ K)) (k : ∀ x u', K x u' → Ws G M (pc + 3) l (.long x :: st) u' Q) : Ws G M pc l sk u Q := ws_callV hd hM hL hrm ho hn hlen hst hla hsk h (fun r u' q => by obtain ⟨x, rfl, q⟩ := q; exact k x u' q)
theorem ws_callVR {M' : pY} {idx n o ci : Nat} {As : List Value} {la : pLo} {sk : List Value} {K : Nat → pM → Prop} (hd : decode M.2.1 pc = .ok (.invokevirtual idx, 3)) (hM : CV M' n ci) (hL : LK M.1.cls idx M') (hrm : RoomOK M M') (ho : okS o ci) (hn : As.length = n) (hlen : (lg_sl ((.ref o :: As).map (tv G))).length ≤ M'.2.2.1) (hst : ((st.map (tv G)).map fun v => v.category).sum ≤ 8) (hla : lv_args 0 (.ref o :: As) = la) (hsk : As.reverse ++ .ref o :: st = sk) (h : Ws G M' 0 la [] u (RR K)) (k : ∀ x u', K x u' → Ws G M (pc + 3) l (.ref x :: st) u' Q) : Ws G M pc l sk u Q := ws_callV hd hM hL hrm ho hn hlen hst hla hsk h (fun r u' q => by obtain ⟨x, rfl, q⟩ := q; exact k x u' q)
theorem ws_callVV {M' : pY} {idx n o ci : Nat} {As : List Value} {la : pLo} {sk : List Value} {K : pM → Prop} (hd : decode M.2.1 pc = .ok (.invokevirtual idx, 3)) (hM : CV M' n ci) (hL : LK M.1.cls idx M') (hrm : RoomOK M M') (ho : okS o ci) (hn : As.length = n) (hlen : (lg_sl ((.ref o :: As).map (tv G))).length ≤ M'.2.2.1) (hst : ((st.map (tv G)).map fun v => v.category).sum ≤ 8) (hla : lv_args 0 (.ref o :: As) = la) (hsk : As.reverse ++ .ref o :: st = sk) (h : Ws G M' 0 la [] u (RV K)) (k : ∀ u', K u' → Ws G M (pc + 3) l st u' Q) : Ws G M pc l sk u Q := ws_callV hd hM hL hrm ho hn hlen hst hla hsk h (fun r u' q => by obtain ⟨rfl, q⟩ := q; exact k u' q)
theorem ws_callSI {M' : pY} {idx n : Nat} {As : List Value} {la : pLo} {sk : List Value} {K : Int32 → pM → Prop} (hd : decode M.2.1 pc = .ok (.invokestatic idx, 3)) (hM : CS M' n) (hL : LK M.1.cls idx M') (hrm : RoomOK M M') (hn : As.length = n) (hlen : (lg_sl (As.map (tv G))).length ≤ M'.2.2.1) (hst : ((st.map (tv G)).map fun v => v.category).sum ≤ 8) (hla : lv_args 0 As = la) (hsk : As.reverse ++ st = sk) (h : Ws G M' 0 la [] u (RI K)) (k : ∀ x u', K x u' → Ws G M (pc + 3) l (.int x :: st) u' Q) : Ws G M pc l sk u Q := ws_callS hd hM hL hrm hn hlen hst hla hsk h (fun r u' q => by obtain ⟨x, rfl, q⟩ := q; exact k x u' q)
theorem ws_callSJ {M' : pY} {idx n : Nat} {As : List Value} {la : pLo} {sk : List Value} {K : Int64 → pM → Prop} (hd : decode M.2.1 pc = .ok (.invokestatic idx, 3)) (hM : CS M' n) (hL : LK M.1.cls idx M') (hrm : RoomOK M M') (hn : As.length = n) (hlen : (lg_sl (As.map (tv G))).length ≤ M'.2.2.1) (hst : ((st.map (tv G)).map fun v => v.category).sum ≤ 8) (hla : lv_args 0 As = la) (hsk : As.reverse ++ st = sk) (h : Ws G M' 0 la [] u (RJ K)) (k : ∀ x u', K x u' → Ws G M (pc + 3) l (.long x :: st) u' Q) : Ws G M pc l sk u Q := ws_callS hd hM hL hrm hn hlen hst hla hsk h (fun r u' q => by obtain ⟨x, rfl, q⟩ := q; exact k x u' q)
theorem ws_callSR {M' : pY} {idx n : Nat} {As : List Value} {la : pLo} {sk : List Value} {K : Nat → pM → Prop} (hd : decode M.2.1 pc = .ok (.invokestatic idx, 3)) (hM : CS M' n) (hL : LK M.1.cls idx M') (hrm : RoomOK M M') (hn : As.length = n) (hlen : (lg_sl (As.map (tv G))).length ≤ M'.2.2.1) (hst : ((st.map (tv G)).map fun v => v.category).sum ≤ 8) (hla : lv_args 0 As = la) (hsk : As.reverse ++ st = sk) (h : Ws G M' 0 la [] u (RR K)) (k : ∀ x u', K x u' → Ws G M (pc + 3) l (.ref x :: st) u' Q) : Ws G M pc l sk u Q := ws_callS hd hM hL hrm hn hlen hst hla hsk h (fun r u' q => by obtain ⟨x, rfl, q⟩ := q; exact k x u' q)
theorem ws_callSV {M' : pY} {idx n : Nat} {As : List Value} {la : pLo} {sk : List Value} {K : pM → Prop} (hd : decode M.2.1 pc = .ok (.invokestatic idx, 3)) (hM : CS M' n) (hL : LK M.1.cls idx M') (hrm : RoomOK M M') (hn : As.length = n) (hlen : (lg_sl (As.map (tv G))).length ≤ M'.2.2.1) (hst : ((st.map (tv G)).map fun v => v.category).sum ≤ 8) (hla : lv_args 0 As = la) (hsk : As.reverse ++ st = sk) (h : Ws G M' 0 la [] u (RV K)) (k : ∀ u', K u' → Ws G M (pc + 3) l st u' Q) : Ws G M pc l sk u Q := ws_callS hd hM hL hrm hn hlen hst hla hsk h (fun r u' q => by obtain ⟨rfl, q⟩ := q; exact k u' q)
end STR
end
section
/-! Math.floorMod(JJ)J: a method of a class that has entries of its own, walked as the library walks Math.min -/
def fm_x : MethodName := ⟨"java/lang/Math", "floorMod", "(JJ)J"⟩
abbrev fm_c : ByteArray := prog_12_method_52_code
def fm (a b : Int64) : Int64 := if (a ^^^ b) < 0 ∧ ¬ (a - a / b * b) = 0 then (a - a / b * b) + b else a - a / b * b
theorem fm_0 : decode fm_c 0 = .ok (.lload_n 0, 1) := by decide +kernel
theorem fm_1 : decode fm_c 1 = .ok (.lload_n 2, 1) := by decide +kernel
theorem fm_2 : decode fm_c 2 = .ok (.lrem, 1) := by decide +kernel
theorem fm_3 : decode fm_c 3 = .ok (.lstore 4, 2) := by decide +kernel
theorem fm_5 : decode fm_c 5 = .ok (.lload_n 0, 1) := by decide +kernel
theorem fm_6 : decode fm_c 6 = .ok (.lload_n 2, 1) := by decide +kernel
theorem fm_7 : decode fm_c 7 = .ok (.lxor, 1) := by decide +kernel
theorem fm_8 : decode fm_c 8 = .ok (.lconst 0, 1) := by decide +kernel
theorem fm_9 : decode fm_c 9 = .ok (.lcmp, 1) := by decide +kernel
theorem fm_10 : decode fm_c 10 = .ok (.ifCond .ge 15, 3) := by decide +kernel
theorem fm_13 : decode fm_c 13 = .ok (.lload 4, 2) := by decide +kernel
theorem fm_15 : decode fm_c 15 = .ok (.lconst 0, 1) := by decide +kernel
theorem fm_16 : decode fm_c 16 = .ok (.lcmp, 1) := by decide +kernel
theorem fm_17 : decode fm_c 17 = .ok (.ifCond .eq 8, 3) := by decide +kernel
theorem fm_20 : decode fm_c 20 = .ok (.lload 4, 2) := by decide +kernel
theorem fm_22 : decode fm_c 22 = .ok (.lload_n 2, 1) := by decide +kernel
theorem fm_23 : decode fm_c 23 = .ok (.ladd, 1) := by decide +kernel
theorem fm_24 : decode fm_c 24 = .ok (.lreturn, 1) := by decide +kernel
theorem fm_25 : decode fm_c 25 = .ok (.lload 4, 2) := by decide +kernel
theorem fm_27 : decode fm_c 27 = .ok (.lreturn, 1) := by decide +kernel
theorem fm_row0 : (NativeRow.find? natives fm_x.cls fm_x.name fm_x.desc).isNone = true := by decide +kernel
theorem fm_row (p : Program) : NativeRow.find? p.tables.natives fm_x.cls fm_x.name fm_x.desc = none := by
  cases p <;> exact Option.isNone_iff_eq_none.mp fm_row0
def fm_spec (a b : Int64) : Spec where
  pre := .and (.code fm_x fm_c 6 (some .long)) (.and (.count 2) (.and (.eq (.arg 0) (.long a)) (.eq (.arg 1) (.long b))))
  post := .and .returned (.eq .result (.long (fm a b)))
  changes := some []
theorem fm_args {args : Array Value} {s : State} {a b : Int64} (h0 : (Cond.count 2).before args s = true) (h1 : (Cond.eq (.arg 0) (.long a)).before args s = true) (h2 : (Cond.eq (.arg 1) (.long b)).before args s = true) : args = #[.long a, .long b] := by
  obtain ⟨l⟩ := args
  simp only [Cond.before, Cond.holds, Cond.value, Term.eval, List.size_toArray, beq_iff_eq, Option.some.injEq] at h0 h1 h2
  match l, h0 with
  | [x, y], _ =>
    cases x <;> simp at h1
    cases y <;> simp at h2
    subst h1; subst h2
    rfl
theorem fm_meets (l : Launch) (a b : Int64) (hb0 : ¬ b = 0) : MeetsLoose l fm_x (fm_spec a b) := by
  refine MeetsLoose.of_body_ov (code := fm_c) (maxLocals := 6) (ret := some .long) fm_row ?_ ?_
  · intro args s h
    simp only [fm_spec, Cond.before_and, Bool.and_eq_true] at h
    exact h.1
  · intro p e s m args below meth c s₁ B
    have hpre := B.pre
    simp only [fm_spec, Cond.before_and, Bool.and_eq_true] at hpre
    obtain rfl := fm_args hpre.2.1 hpre.2.2.1 hpre.2.2.2
    have hloc : argsToLocals #[.long a, .long b] 6 = #[.val (.long a), .second, .val (.long b), .second, .unset, .unset] := rfl
    obtain ⟨fs, hfs⟩ := handOver_isSome (s := s₁) (some (.long (fm a b))) B.hears₁
    refine ⟨s₁.setFrames fs, .returned (some (.long (fm a b))), ?_, B.here.running, B.ended hfs (by intro h; cases h), ?_, State.sameBut_nil.mpr ?_⟩
    rotate_left
    · simp [fm_spec, Cond.after, Cond.holds, Cond.value, Term.eval]
    · rw [State.frames_setFrames _ B.cur₁, B.back]
    have e0 : fm a b = if (a ^^^ b) < 0 ∧ ¬ (a - a / b * b) = 0 then (a - a / b * b) + b else a - a / b * b := rfl
    rw [e0] at hfs
    unfold entryFrame; rw [hloc]
    refine Steps.instrAtOv (c := _) (by simpa using B.here) ?_
    simp [jvm, wpRun, exec, B.here.top, B.exec, B.bytes, fm_0]
    refine Steps.instrAtOv (c := _) (by simpa using B.here) ?_
    simp [jvm, wpRun, exec, B.here.top, B.exec, B.bytes, fm_1]
    refine Steps.instrAtOv (c := _) (by simpa using B.here) ?_
    simp [jvm, wpRun, exec, B.here.top, B.exec, B.bytes, fm_2, hb0]
    generalize a - a / b * b = r at hfs ⊢
    refine Steps.instrAtOv (c := _) (by simpa using B.here) ?_
    simp [jvm, wpRun, exec, B.here.top, B.exec, B.bytes, fm_3, storeLocals, storeSelf, setAt, Value.category]
    refine Steps.instrAtOv (c := _) (by simpa using B.here) ?_
    simp [jvm, wpRun, exec, B.here.top, B.exec, B.bytes, fm_5]
    refine Steps.instrAtOv (c := _) (by simpa using B.here) ?_
    simp [jvm, wpRun, exec, B.here.top, B.exec, B.bytes, fm_6]
    refine Steps.instrAtOv (c := _) (by simpa using B.here) ?_
    simp [jvm, wpRun, exec, B.here.top, B.exec, B.bytes, fm_7]
    generalize a ^^^ b = q at hfs ⊢
    refine Steps.instrAtOv (c := _) (by simpa using B.here) ?_
    simp [jvm, wpRun, exec, B.here.top, B.exec, B.bytes, fm_8]
    by_cases h1 : q < 0
    · have n1 : ¬ 0 < q := fun h => Int64.lt_irrefl (Int64.lt_trans h h1)
      have n2 : ¬ q = 0 := by intro h; rw [h] at h1; exact Int64.lt_irrefl h1
      refine Steps.instrAtOv (c := _) (by simpa using B.here) ?_
      simp [jvm, wpRun, exec, B.here.top, B.exec, B.bytes, fm_9, n1, n2]
      refine Steps.instrAtOv (c := _) (by simpa using B.here) ?_
      simp [jvm, wpRun, exec, B.here.top, B.exec, B.bytes, fm_10, ifCond.holds]
      refine Steps.instrAtOv (c := _) (by simpa using B.here) ?_
      simp [jvm, wpRun, exec, B.here.top, B.exec, B.bytes, fm_13]
      refine Steps.instrAtOv (c := _) (by simpa using B.here) ?_
      simp [jvm, wpRun, exec, B.here.top, B.exec, B.bytes, fm_15]
      by_cases h2 : r = 0
      · subst h2
        have e : (if q < 0 ∧ ¬ (0 : Int64) = 0 then 0 + b else 0) = 0 := by simp
        rw [e] at hfs
        refine Steps.instrAtOv (c := _) (by simpa using B.here) ?_
        simp [jvm, wpRun, exec, B.here.top, B.exec, B.bytes, fm_16]
        refine Steps.instrAtOv (c := _) (by simpa using B.here) ?_
        simp [jvm, wpRun, exec, B.here.top, B.exec, B.bytes, fm_17, ifCond.holds]
        refine Steps.instrAtOv (c := _) (by simpa using B.here) ?_
        simp [jvm, wpRun, exec, B.here.top, B.exec, B.bytes, fm_25]
        refine Steps.instrAtOv (c := _) (by simpa using B.here) ?_
        simp [jvm, wpRun, exec, B.here.top, B.exec, B.bytes, fm_27, B.method₁, B.returns]
        intro acts
        rw [ret_to B.frames₁ B.method₁ B.notSynchronized rfl rfl hfs]
        exact Steps.refl _
      · have e : (if q < 0 ∧ ¬ r = 0 then r + b else r) = r + b := by simp [h1, h2]
        rw [e] at hfs
        by_cases h3 : 0 < r
        · refine Steps.instrAtOv (c := _) (by simpa using B.here) ?_
          simp [jvm, wpRun, exec, B.here.top, B.exec, B.bytes, fm_16, h2, h3]
          refine Steps.instrAtOv (c := _) (by simpa using B.here) ?_
          simp [jvm, wpRun, exec, B.here.top, B.exec, B.bytes, fm_17, ifCond.holds]
          refine Steps.instrAtOv (c := _) (by simpa using B.here) ?_
          simp [jvm, wpRun, exec, B.here.top, B.exec, B.bytes, fm_20]
          refine Steps.instrAtOv (c := _) (by simpa using B.here) ?_
          simp [jvm, wpRun, exec, B.here.top, B.exec, B.bytes, fm_22]
          refine Steps.instrAtOv (c := _) (by simpa using B.here) ?_
          simp [jvm, wpRun, exec, B.here.top, B.exec, B.bytes, fm_23]
          refine Steps.instrAtOv (c := _) (by simpa using B.here) ?_
          simp [jvm, wpRun, exec, B.here.top, B.exec, B.bytes, fm_24, B.method₁, B.returns]
          intro acts
          rw [ret_to B.frames₁ B.method₁ B.notSynchronized rfl rfl hfs]
          exact Steps.refl _
        · refine Steps.instrAtOv (c := _) (by simpa using B.here) ?_
          simp [jvm, wpRun, exec, B.here.top, B.exec, B.bytes, fm_16, h2, h3]
          refine Steps.instrAtOv (c := _) (by simpa using B.here) ?_
          simp [jvm, wpRun, exec, B.here.top, B.exec, B.bytes, fm_17, ifCond.holds]
          refine Steps.instrAtOv (c := _) (by simpa using B.here) ?_
          simp [jvm, wpRun, exec, B.here.top, B.exec, B.bytes, fm_20]
          refine Steps.instrAtOv (c := _) (by simpa using B.here) ?_
          simp [jvm, wpRun, exec, B.here.top, B.exec, B.bytes, fm_22]
          refine Steps.instrAtOv (c := _) (by simpa using B.here) ?_
          simp [jvm, wpRun, exec, B.here.top, B.exec, B.bytes, fm_23]
          refine Steps.instrAtOv (c := _) (by simpa using B.here) ?_
          simp [jvm, wpRun, exec, B.here.top, B.exec, B.bytes, fm_24, B.method₁, B.returns]
          intro acts
          rw [ret_to B.frames₁ B.method₁ B.notSynchronized rfl rfl hfs]
          exact Steps.refl _
    · have e : (if q < 0 ∧ ¬ r = 0 then r + b else r) = r := by simp [h1]
      rw [e] at hfs
      by_cases h2 : q = 0
      · subst h2
        refine Steps.instrAtOv (c := _) (by simpa using B.here) ?_
        simp [jvm, wpRun, exec, B.here.top, B.exec, B.bytes, fm_9]
        refine Steps.instrAtOv (c := _) (by simpa using B.here) ?_
        simp [jvm, wpRun, exec, B.here.top, B.exec, B.bytes, fm_10, ifCond.holds]
        refine Steps.instrAtOv (c := _) (by simpa using B.here) ?_
        simp [jvm, wpRun, exec, B.here.top, B.exec, B.bytes, fm_25]
        refine Steps.instrAtOv (c := _) (by simpa using B.here) ?_
        simp [jvm, wpRun, exec, B.here.top, B.exec, B.bytes, fm_27, B.method₁, B.returns]
        intro acts
        rw [ret_to B.frames₁ B.method₁ B.notSynchronized rfl rfl hfs]
        exact Steps.refl _
      · have h3 : 0 < q := Int64.lt_of_le_of_ne (Int64.not_lt.mp h1) (Ne.symm h2)
        refine Steps.instrAtOv (c := _) (by simpa using B.here) ?_
        simp [jvm, wpRun, exec, B.here.top, B.exec, B.bytes, fm_9, h3]
        refine Steps.instrAtOv (c := _) (by simpa using B.here) ?_
        simp [jvm, wpRun, exec, B.here.top, B.exec, B.bytes, fm_10, ifCond.holds]
        refine Steps.instrAtOv (c := _) (by simpa using B.here) ?_
        simp [jvm, wpRun, exec, B.here.top, B.exec, B.bytes, fm_25]
        refine Steps.instrAtOv (c := _) (by simpa using B.here) ?_
        simp [jvm, wpRun, exec, B.here.top, B.exec, B.bytes, fm_27, B.method₁, B.returns]
        intro acts
        rw [ret_to B.frames₁ B.method₁ B.notSynchronized rfl rfl hfs]
        exact Steps.refl _
section FMW
variable {G : pG} {M : pY} {kc ks pc : Nat} {l : pLo} {st : List Value} {u : pM} {Q : Option Value → pM → Prop}
theorem fm_call {p : Program} {l : Launch} {e : Env} {R : Room} {s : State} {m : MethodId} {args : Array Value} {below : List Frame} {meth : Method} {c : Code} {T : State} {locs : List Loc} {cells slots : Nat} (X : Stand p l e R s m args below meth c T locs cells slots) (hexec : p.tables.exec = Jvm.exec) {own : String} {index : Nat} (hown : s.vm.findClass own = some m.cls)
    (hlink : (Cond.methodLink own index fm_x).before args s = true) (hstat : (Cond.static fm_x).before args s = true) (hinit : (Cond.initialized "java/lang/Math").before args s = true) (hcode : (Cond.code fm_x fm_c 6 (some .long)).before args s = true)
    {g : JFrame} (hg : g.method = m) (hsize : g.locals.size = c.maxLocals) {a b : Int64} (hb0 : ¬ b = 0) {rest : List Value} (hstack : g.stack = .long b :: .long a :: rest) (hdg : decode c.code g.pc = .ok (.invokestatic index, 3))
    (hframes : 1 ≤ R.frames) (hlocals : 2 * g.monitorRoom + (rest.map fun v => v.category).sum + 17 ≤ R.locals) (hcells : cells ≤ R.cells) (hslots : slots ≤ R.slots) :
    ∃ vm', Stand p l e R s m args below meth c (T.setVm vm') locs cells slots ∧ ∀ target, Steps p.tables e below ((T.setVm vm').setTop { g with pc := g.pc + 3, stack := .long (fm a b) :: rest }) target → Steps p.tables e below (T.setTop g) target := by
  obtain ⟨v, T', X', ⟨first, t, hpost⟩, hstep⟩ := X.staticByContractV hexec hown hlink hstat hinit hcode (by decide) (fm_meets l a b hb0) rfl rfl rfl rfl
    (fun args' first o s₂ h => by
      cases o with
      | returned r => exact ⟨r, rfl⟩
      | threw y =>
        have hz : (fm_spec a b).post.value args' first (some (.threw y)) s₂ [] = some true := by simpa [Cond.after, Cond.holds] using h
        exact absurd hz va_nvRet)
    hg hsize (argsL := [.long a, .long b]) (rest := rest)
    (fun sig hs => by
      have h : parseMethodDescriptor "(JJ)J" = some { parameters := [.long, .long], returnType := some .long } := by decide +kernel
      rw [show fm_x.desc = "(JJ)J" from rfl, h] at hs
      rw [← Option.some.inj hs]; rfl)
    hstack hdg
    (fun vm' hW => by
      simp only [fm_spec, Cond.before_and, Bool.and_eq_true]
      refine ⟨?_, rfl, by simp [Cond.before, Cond.holds, Cond.value, Term.eval], by simp [Cond.before, Cond.holds, Cond.value, Term.eval]⟩
      have q := hcode
      rw [← Cond.code_setVm hW.alike] at q
      simp only [Cond.before, Cond.holds, Cond.value, State.methodNamed?, State.vm_setVm] at q ⊢
      exact q)
    (by show 0 + 1 ≤ R.frames; omega) (by show 2 * g.monitorRoom + (rest.map fun v => v.category).sum + (6 + 11) + 0 ≤ R.locals; omega) (by show cells + 0 ≤ R.cells; omega) (by show slots + 0 ≤ R.slots; omega)
  refine ⟨T', X', fun target h => hstep target ?_⟩
  obtain rfl : v = some (.long (fm a b)) := by
    rcases v with _ | w
    · simp [fm_spec, Cond.after, Cond.holds, Cond.value, Term.eval] at hpost
    · cases w <;> simp [fm_spec, Cond.after, Cond.holds, Cond.value, Term.eval] at hpost
      simp [hpost]
  exact h
/-- what a call of Math needs of its caller -/
abbrev MR (M : pY) (n : Nat) : Prop := 1 ≤ M.2.2.2.2.1 ∧ n ≤ M.2.2.2.2.2
theorem wp_fm {idx : Nat} {x y : Int64} (hd : decode M.2.1 pc = .ok (.invokestatic idx, 3)) (hL : Cond.methodLink M.1.cls idx fm_x ∈ lw_g) (hS : Cond.static fm_x ∈ lw_g) (hI : Cond.initialized "java/lang/Math" ∈ lw_g) (hC : Cond.code fm_x fm_c 6 (some .long) ∈ lw_g) (hrm : MR M (((st.map (tv G)).map fun v => v.category).sum + 17)) (hy : ¬ y = 0) (h : Wp G M kc ks (pc + 3) l (.long (fm x y) :: st) u Q) : Wp G M kc ks pc l (.long y :: .long x :: st) u Q := by
  intro p e R s m args below meth c C H ls locs cells slots Qf mc ms a1 a2 a3 a4 a5 a6 a7 a8 k' T hT X
  have hts := C.2.2.2.2.2.1
  obtain ⟨vm', X', stp⟩ := fm_call X C.1 C.2.2.2.2.1 (hts _ hL) (hts _ hS) (hts _ hI) (hts _ hC) (g := F0 m pc ls (.long y :: .long x :: st.map (tv G))) rfl (by show ls.size = _; rw [a3.1, C.2.2.2.1]) (a := x) (b := y) hy (rest := st.map (tv G)) rfl (by rw [C.2.1]; exact hd) (Nat.le_trans hrm.1 C.2.2.2.2.2.2.2.2.1) (Nat.le_trans (by show 2 * 0 + _ + 17 ≤ _; have := hrm.2; omega) C.2.2.2.2.2.2.2.2.2.1) (by omega) (by omega)
  obtain ⟨t, b1, b2⟩ := h p e R s m args below meth c C H ls locs cells slots Qf mc ms a1 a2 a3 a4 a5 a6 a7 a8 k' (T.setVm vm') hT X'
  exact ⟨t, stp t b1, b2⟩
theorem wp_maxI {idx : Nat} {x y : Int32} (hd : decode M.2.1 pc = .ok (.invokestatic idx, 3)) (hL : Cond.methodLink M.1.cls idx Lib.Math.max.name ∈ lw_g) (hS : Cond.static Lib.Math.max.name ∈ lw_g) (hI : Cond.initialized "java/lang/Math" ∈ lw_g) (hC : Cond.code Lib.Math.max.name Lib.Math.max.code 2 (some .int) ∈ lw_g) (hrm : MR M (((st.map (tv G)).map fun v => v.category).sum + 13)) (h : Wp G M kc ks (pc + 3) l (.int (if x < y then y else x) :: st) u Q) : Wp G M kc ks pc l (.int y :: .int x :: st) u Q := by
  intro p e R s m args below meth c C H ls locs cells slots Qf mc ms a1 a2 a3 a4 a5 a6 a7 a8 k'
  have hts := C.2.2.2.2.2.1
  exact va_mmax (rest := st.map (tv G)) C.1 C.2.1 (C.2.2.2.1.trans a3.1.symm) C.2.2.2.2.1 (hts _ hL) (hts _ hS) (hts _ hI) (hts _ hC) (Nat.le_trans hrm.1 C.2.2.2.2.2.2.2.2.1) (Nat.le_trans hrm.2 C.2.2.2.2.2.2.2.2.2.1) (by omega) (by omega) hd (h p e R s m args below meth c C H ls locs cells slots Qf mc ms a1 a2 a3 a4 a5 a6 a7 a8 k')
theorem wp_minI {idx : Nat} {x y : Int32} (hd : decode M.2.1 pc = .ok (.invokestatic idx, 3)) (hL : Cond.methodLink M.1.cls idx Lib.Math.min.name ∈ lw_g) (hS : Cond.static Lib.Math.min.name ∈ lw_g) (hI : Cond.initialized "java/lang/Math" ∈ lw_g) (hC : Cond.code Lib.Math.min.name Lib.Math.min.code 2 (some .int) ∈ lw_g) (hrm : MR M (((st.map (tv G)).map fun v => v.category).sum + 13)) (h : Wp G M kc ks (pc + 3) l (.int (if y < x then y else x) :: st) u Q) : Wp G M kc ks pc l (.int y :: .int x :: st) u Q := by
  intro p e R s m args below meth c C H ls locs cells slots Qf mc ms a1 a2 a3 a4 a5 a6 a7 a8 k'
  have hts := C.2.2.2.2.2.1
  exact va_mmin (rest := st.map (tv G)) C.1 C.2.1 (C.2.2.2.1.trans a3.1.symm) C.2.2.2.2.1 (hts _ hL) (hts _ hS) (hts _ hI) (hts _ hC) (Nat.le_trans hrm.1 C.2.2.2.2.2.2.2.2.1) (Nat.le_trans hrm.2 C.2.2.2.2.2.2.2.2.2.1) (by omega) (by omega) hd (h p e R s m args below meth c C H ls locs cells slots Qf mc ms a1 a2 a3 a4 a5 a6 a7 a8 k')
theorem wp_minJ {idx : Nat} {x y : Int64} (hd : decode M.2.1 pc = .ok (.invokestatic idx, 3)) (hL : Cond.methodLink M.1.cls idx Lib.MathLoose.min_long.x ∈ lw_g) (hS : Cond.static Lib.MathLoose.min_long.x ∈ lw_g) (hI : Cond.initialized "java/lang/Math" ∈ lw_g) (hC : Cond.code Lib.MathLoose.min_long.x Lib.MathLoose.min_long.code 4 (some .long) ∈ lw_g) (hrm : MR M (((st.map (tv G)).map fun v => v.category).sum + 15)) (h : Wp G M kc ks (pc + 3) l (.long (if y < x then y else x) :: st) u Q) : Wp G M kc ks pc l (.long y :: .long x :: st) u Q := by
  intro p e R s m args below meth c C H ls locs cells slots Qf mc ms a1 a2 a3 a4 a5 a6 a7 a8 k'
  have hts := C.2.2.2.2.2.1
  exact va_mmin_long (rest := st.map (tv G)) C.1 C.2.1 (C.2.2.2.1.trans a3.1.symm) C.2.2.2.2.1 (hts _ hL) (hts _ hS) (hts _ hI) (hts _ hC) (Nat.le_trans hrm.1 C.2.2.2.2.2.2.2.2.1) (Nat.le_trans hrm.2 C.2.2.2.2.2.2.2.2.2.1) (by omega) (by omega) hd (h p e R s m args below meth c C H ls locs cells slots Qf mc ms a1 a2 a3 a4 a5 a6 a7 a8 k')
theorem wp_absJ {idx : Nat} {x : Int64} (hd : decode M.2.1 pc = .ok (.invokestatic idx, 3)) (hL : Cond.methodLink M.1.cls idx Lib.MathLoose.abs_long.x ∈ lw_g) (hS : Cond.static Lib.MathLoose.abs_long.x ∈ lw_g) (hI : Cond.initialized "java/lang/Math" ∈ lw_g) (hC : Cond.code Lib.MathLoose.abs_long.x Lib.MathLoose.abs_long.code 2 (some .long) ∈ lw_g) (hrm : MR M (((st.map (tv G)).map fun v => v.category).sum + 13)) (h : Wp G M kc ks (pc + 3) l (.long (if 0 < x then x else -x) :: st) u Q) : Wp G M kc ks pc l (.long x :: st) u Q := by
  intro p e R s m args below meth c C H ls locs cells slots Qf mc ms a1 a2 a3 a4 a5 a6 a7 a8 k'
  have hts := C.2.2.2.2.2.1
  exact va_mabs_long (rest := st.map (tv G)) C.1 C.2.1 (C.2.2.2.1.trans a3.1.symm) C.2.2.2.2.1 (hts _ hL) (hts _ hS) (hts _ hI) (hts _ hC) (Nat.le_trans hrm.1 C.2.2.2.2.2.2.2.2.1) (Nat.le_trans hrm.2 C.2.2.2.2.2.2.2.2.2.1) (by omega) (by omega) hd (h p e R s m args below meth c C H ls locs cells slots Qf mc ms a1 a2 a3 a4 a5 a6 a7 a8 k')
end FMW
end
