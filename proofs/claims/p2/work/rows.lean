section
-- ===== PART A: goes FIRST, ahead of the names: the tables' words, and 'selects' of the private methods out of them =====
/-- a private method of a class that the tables say can be made, by its rows of tables_1 -/
def lw_okq (q : MethodName × Nat) : Prop := (q.1.cls ≠ "java/lang/invoke/MethodHandle" ∧ q.1.cls ≠ "java/lang/invoke/VarHandle") ∧ Cond.instantiable q.1.cls q.2 ∈ tables_1 ∧ Cond.privateMethod q.1 ∈ tables_1 ∧ Cond.instanceMethod q.1 ∈ tables_1
theorem lw_p0 : lw_okq (⟨"DoorRounds", "found", "(I)I"⟩, 16) := ⟨⟨by decide +kernel, by decide +kernel⟩, List.mem_of_getElem? (i := 15) (by decide +kernel), List.mem_of_getElem? (i := 238) (by decide +kernel), List.mem_of_getElem? (i := 239) (by decide +kernel)⟩
theorem lw_p1 : lw_okq (⟨"DoorRounds", "rowOf", "(I)LDoorRounds$Strip;"⟩, 16) := ⟨⟨by decide +kernel, by decide +kernel⟩, List.mem_of_getElem? (i := 15) (by decide +kernel), List.mem_of_getElem? (i := 242) (by decide +kernel), List.mem_of_getElem? (i := 243) (by decide +kernel)⟩
theorem lw_p2 : lw_okq (⟨"DoorRounds", "tell", "(II)I"⟩, 16) := ⟨⟨by decide +kernel, by decide +kernel⟩, List.mem_of_getElem? (i := 15) (by decide +kernel), List.mem_of_getElem? (i := 280) (by decide +kernel), List.mem_of_getElem? (i := 281) (by decide +kernel)⟩
theorem lw_p3 : lw_okq (⟨"DoorRounds", "textOf", "(I)LDoorRounds$Strip;"⟩, 16) := ⟨⟨by decide +kernel, by decide +kernel⟩, List.mem_of_getElem? (i := 15) (by decide +kernel), List.mem_of_getElem? (i := 319) (by decide +kernel), List.mem_of_getElem? (i := 320) (by decide +kernel)⟩
theorem lw_p4 : lw_okq (⟨"DoorRounds$Plan", "readShop", "(LDoorRounds$Shop;)Z"⟩, 6) := ⟨⟨by decide +kernel, by decide +kernel⟩, List.mem_of_getElem? (i := 97) (by decide +kernel), List.mem_of_getElem? (i := 360) (by decide +kernel), List.mem_of_getElem? (i := 361) (by decide +kernel)⟩
theorem lw_p5 : lw_okq (⟨"DoorRounds$Plan", "isAhead", "(II)Z"⟩, 6) := ⟨⟨by decide +kernel, by decide +kernel⟩, List.mem_of_getElem? (i := 97) (by decide +kernel), List.mem_of_getElem? (i := 396) (by decide +kernel), List.mem_of_getElem? (i := 397) (by decide +kernel)⟩
theorem lw_p6 : lw_okq (⟨"DoorRounds", "keptOf", "(I)LDoorRounds$Standing;"⟩, 16) := ⟨⟨by decide +kernel, by decide +kernel⟩, List.mem_of_getElem? (i := 15) (by decide +kernel), List.mem_of_getElem? (i := 409) (by decide +kernel), List.mem_of_getElem? (i := 410) (by decide +kernel)⟩
theorem lw_p7 : lw_okq (⟨"DoorRounds", "trait", "(II)I"⟩, 16) := ⟨⟨by decide +kernel, by decide +kernel⟩, List.mem_of_getElem? (i := 15) (by decide +kernel), List.mem_of_getElem? (i := 421) (by decide +kernel), List.mem_of_getElem? (i := 422) (by decide +kernel)⟩
theorem lw_p8 : lw_okq (⟨"DoorRounds", "neighbours", "(I)I"⟩, 16) := ⟨⟨by decide +kernel, by decide +kernel⟩, List.mem_of_getElem? (i := 15) (by decide +kernel), List.mem_of_getElem? (i := 438) (by decide +kernel), List.mem_of_getElem? (i := 439) (by decide +kernel)⟩
theorem lw_p9 : lw_okq (⟨"DoorRounds", "rivals", "(I)I"⟩, 16) := ⟨⟨by decide +kernel, by decide +kernel⟩, List.mem_of_getElem? (i := 15) (by decide +kernel), List.mem_of_getElem? (i := 454) (by decide +kernel), List.mem_of_getElem? (i := 455) (by decide +kernel)⟩
theorem lw_p10 : lw_okq (⟨"DoorRounds$Standing", "passOne", "(LDoorRounds$Plan;)V"⟩, 3) := ⟨⟨by decide +kernel, by decide +kernel⟩, List.mem_of_getElem? (i := 44) (by decide +kernel), List.mem_of_getElem? (i := 528) (by decide +kernel), List.mem_of_getElem? (i := 529) (by decide +kernel)⟩
theorem lw_p11 : lw_okq (⟨"DoorRounds", "areTwo", "(II)Z"⟩, 16) := ⟨⟨by decide +kernel, by decide +kernel⟩, List.mem_of_getElem? (i := 15) (by decide +kernel), List.mem_of_getElem? (i := 579) (by decide +kernel), List.mem_of_getElem? (i := 580) (by decide +kernel)⟩
theorem lw_p12 : lw_okq (⟨"DoorRounds$Errands", "leastOf", "(I)J"⟩, 2) := ⟨⟨by decide +kernel, by decide +kernel⟩, List.mem_of_getElem? (i := 83) (by decide +kernel), List.mem_of_getElem? (i := 663) (by decide +kernel), List.mem_of_getElem? (i := 664) (by decide +kernel)⟩
theorem lw_p13 : lw_okq (⟨"DoorRounds", "metBy", "(II)I"⟩, 16) := ⟨⟨by decide +kernel, by decide +kernel⟩, List.mem_of_getElem? (i := 15) (by decide +kernel), List.mem_of_getElem? (i := 685) (by decide +kernel), List.mem_of_getElem? (i := 686) (by decide +kernel)⟩
theorem lw_p14 : lw_okq (⟨"DoorRounds", "passersFinding", "(LDoorRounds$Strip;)I"⟩, 16) := ⟨⟨by decide +kernel, by decide +kernel⟩, List.mem_of_getElem? (i := 15) (by decide +kernel), List.mem_of_getElem? (i := 734) (by decide +kernel), List.mem_of_getElem? (i := 735) (by decide +kernel)⟩
theorem lw_p15 : lw_okq (⟨"DoorRounds", "rentOf", "(LDoorRounds$Strip;II)I"⟩, 16) := ⟨⟨by decide +kernel, by decide +kernel⟩, List.mem_of_getElem? (i := 15) (by decide +kernel), List.mem_of_getElem? (i := 738) (by decide +kernel), List.mem_of_getElem? (i := 739) (by decide +kernel)⟩
def lw_privs_1 : List (MethodName × Nat) := [(⟨"DoorRounds", "found", "(I)I"⟩, 16), (⟨"DoorRounds", "rowOf", "(I)LDoorRounds$Strip;"⟩, 16), (⟨"DoorRounds", "tell", "(II)I"⟩, 16), (⟨"DoorRounds", "textOf", "(I)LDoorRounds$Strip;"⟩, 16), (⟨"DoorRounds$Plan", "readShop", "(LDoorRounds$Shop;)Z"⟩, 6), (⟨"DoorRounds$Plan", "isAhead", "(II)Z"⟩, 6), (⟨"DoorRounds", "keptOf", "(I)LDoorRounds$Standing;"⟩, 16), (⟨"DoorRounds", "trait", "(II)I"⟩, 16), (⟨"DoorRounds", "neighbours", "(I)I"⟩, 16), (⟨"DoorRounds", "rivals", "(I)I"⟩, 16), (⟨"DoorRounds$Standing", "passOne", "(LDoorRounds$Plan;)V"⟩, 3), (⟨"DoorRounds", "areTwo", "(II)Z"⟩, 16), (⟨"DoorRounds$Errands", "leastOf", "(I)J"⟩, 2), (⟨"DoorRounds", "metBy", "(II)I"⟩, 16), (⟨"DoorRounds", "passersFinding", "(LDoorRounds$Strip;)I"⟩, 16), (⟨"DoorRounds", "rentOf", "(LDoorRounds$Strip;II)I"⟩, 16)]
theorem lw_r1 : ∀ q ∈ lw_privs_1, lw_okq q := List.forall_mem_cons.mpr ⟨lw_p0, List.forall_mem_cons.mpr ⟨lw_p1, List.forall_mem_cons.mpr ⟨lw_p2, List.forall_mem_cons.mpr ⟨lw_p3, List.forall_mem_cons.mpr ⟨lw_p4, List.forall_mem_cons.mpr ⟨lw_p5, List.forall_mem_cons.mpr ⟨lw_p6, List.forall_mem_cons.mpr ⟨lw_p7, List.forall_mem_cons.mpr ⟨lw_p8, List.forall_mem_cons.mpr ⟨lw_p9, List.forall_mem_cons.mpr ⟨lw_p10, List.forall_mem_cons.mpr ⟨lw_p11, List.forall_mem_cons.mpr ⟨lw_p12, List.forall_mem_cons.mpr ⟨lw_p13, List.forall_mem_cons.mpr ⟨lw_p14, List.forall_mem_cons.mpr ⟨lw_p15, fun _ h => absurd h List.not_mem_nil⟩⟩⟩⟩⟩⟩⟩⟩⟩⟩⟩⟩⟩⟩⟩⟩
theorem lw_p16 : lw_okq (⟨"DoorRounds", "tellFraction", "(JJ)V"⟩, 16) := ⟨⟨by decide +kernel, by decide +kernel⟩, List.mem_of_getElem? (i := 15) (by decide +kernel), List.mem_of_getElem? (i := 746) (by decide +kernel), List.mem_of_getElem? (i := 747) (by decide +kernel)⟩
theorem lw_p17 : lw_okq (⟨"DoorRounds", "imageFinding", "(LDoorRounds$Strip;)I"⟩, 16) := ⟨⟨by decide +kernel, by decide +kernel⟩, List.mem_of_getElem? (i := 15) (by decide +kernel), List.mem_of_getElem? (i := 767) (by decide +kernel), List.mem_of_getElem? (i := 768) (by decide +kernel)⟩
theorem lw_p18 : lw_okq (⟨"DoorRounds", "countOf", "(I)I"⟩, 16) := ⟨⟨by decide +kernel, by decide +kernel⟩, List.mem_of_getElem? (i := 15) (by decide +kernel), List.mem_of_getElem? (i := 792) (by decide +kernel), List.mem_of_getElem? (i := 793) (by decide +kernel)⟩
theorem lw_p19 : lw_okq (⟨"DoorRoundsModel", "meet", "(I)I"⟩, 33) := ⟨⟨by decide +kernel, by decide +kernel⟩, List.mem_of_getElem? (i := 828) (by decide +kernel), List.mem_of_getElem? (i := 944) (by decide +kernel), List.mem_of_getElem? (i := 945) (by decide +kernel)⟩
theorem lw_p20 : lw_okq (⟨"DoorRoundsModel", "setRow", "(III)V"⟩, 33) := ⟨⟨by decide +kernel, by decide +kernel⟩, List.mem_of_getElem? (i := 828) (by decide +kernel), List.mem_of_getElem? (i := 948) (by decide +kernel), List.mem_of_getElem? (i := 949) (by decide +kernel)⟩
theorem lw_p21 : lw_okq (⟨"DoorRoundsModel", "askedRow", "(I)I"⟩, 33) := ⟨⟨by decide +kernel, by decide +kernel⟩, List.mem_of_getElem? (i := 828) (by decide +kernel), List.mem_of_getElem? (i := 956) (by decide +kernel), List.mem_of_getElem? (i := 957) (by decide +kernel)⟩
theorem lw_p22 : lw_okq (⟨"DoorRoundsModel", "rowAt", "(II)I"⟩, 33) := ⟨⟨by decide +kernel, by decide +kernel⟩, List.mem_of_getElem? (i := 828) (by decide +kernel), List.mem_of_getElem? (i := 960) (by decide +kernel), List.mem_of_getElem? (i := 961) (by decide +kernel)⟩
theorem lw_p23 : lw_okq (⟨"DoorRoundsModel", "ask", "(II)I"⟩, 33) := ⟨⟨by decide +kernel, by decide +kernel⟩, List.mem_of_getElem? (i := 828) (by decide +kernel), List.mem_of_getElem? (i := 964) (by decide +kernel), List.mem_of_getElem? (i := 965) (by decide +kernel)⟩
theorem lw_p24 : lw_okq (⟨"DoorRoundsModel", "askedText", "(I)I"⟩, 33) := ⟨⟨by decide +kernel, by decide +kernel⟩, List.mem_of_getElem? (i := 828) (by decide +kernel), List.mem_of_getElem? (i := 996) (by decide +kernel), List.mem_of_getElem? (i := 997) (by decide +kernel)⟩
theorem lw_p25 : lw_okq (⟨"DoorRoundsModel", "goesOn", "(I)I"⟩, 33) := ⟨⟨by decide +kernel, by decide +kernel⟩, List.mem_of_getElem? (i := 828) (by decide +kernel), List.mem_of_getElem? (i := 1004) (by decide +kernel), List.mem_of_getElem? (i := 1005) (by decide +kernel)⟩
theorem lw_p26 : lw_okq (⟨"DoorRoundsModel", "here", "(I)I"⟩, 33) := ⟨⟨by decide +kernel, by decide +kernel⟩, List.mem_of_getElem? (i := 828) (by decide +kernel), List.mem_of_getElem? (i := 1008) (by decide +kernel), List.mem_of_getElem? (i := 1009) (by decide +kernel)⟩
theorem lw_p27 : lw_okq (⟨"DoorRoundsModel", "readsDoors", "(I)Z"⟩, 33) := ⟨⟨by decide +kernel, by decide +kernel⟩, List.mem_of_getElem? (i := 828) (by decide +kernel), List.mem_of_getElem? (i := 1012) (by decide +kernel), List.mem_of_getElem? (i := 1013) (by decide +kernel)⟩
theorem lw_p28 : lw_okq (⟨"DoorRoundsModel", "sees", "(II)Z"⟩, 33) := ⟨⟨by decide +kernel, by decide +kernel⟩, List.mem_of_getElem? (i := 828) (by decide +kernel), List.mem_of_getElem? (i := 1016) (by decide +kernel), List.mem_of_getElem? (i := 1017) (by decide +kernel)⟩
theorem lw_p29 : lw_okq (⟨"DoorRoundsModel", "readsNumber", "(III)Z"⟩, 33) := ⟨⟨by decide +kernel, by decide +kernel⟩, List.mem_of_getElem? (i := 828) (by decide +kernel), List.mem_of_getElem? (i := 1020) (by decide +kernel), List.mem_of_getElem? (i := 1021) (by decide +kernel)⟩
theorem lw_p30 : lw_okq (⟨"DoorRoundsModel", "readsShop", "(I)Z"⟩, 33) := ⟨⟨by decide +kernel, by decide +kernel⟩, List.mem_of_getElem? (i := 828) (by decide +kernel), List.mem_of_getElem? (i := 1024) (by decide +kernel), List.mem_of_getElem? (i := 1025) (by decide +kernel)⟩
theorem lw_p31 : lw_okq (⟨"DoorRoundsModel", "isTold", "(I)Z"⟩, 33) := ⟨⟨by decide +kernel, by decide +kernel⟩, List.mem_of_getElem? (i := 828) (by decide +kernel), List.mem_of_getElem? (i := 1031) (by decide +kernel), List.mem_of_getElem? (i := 1032) (by decide +kernel)⟩
def lw_privs_2 : List (MethodName × Nat) := [(⟨"DoorRounds", "tellFraction", "(JJ)V"⟩, 16), (⟨"DoorRounds", "imageFinding", "(LDoorRounds$Strip;)I"⟩, 16), (⟨"DoorRounds", "countOf", "(I)I"⟩, 16), (⟨"DoorRoundsModel", "meet", "(I)I"⟩, 33), (⟨"DoorRoundsModel", "setRow", "(III)V"⟩, 33), (⟨"DoorRoundsModel", "askedRow", "(I)I"⟩, 33), (⟨"DoorRoundsModel", "rowAt", "(II)I"⟩, 33), (⟨"DoorRoundsModel", "ask", "(II)I"⟩, 33), (⟨"DoorRoundsModel", "askedText", "(I)I"⟩, 33), (⟨"DoorRoundsModel", "goesOn", "(I)I"⟩, 33), (⟨"DoorRoundsModel", "here", "(I)I"⟩, 33), (⟨"DoorRoundsModel", "readsDoors", "(I)Z"⟩, 33), (⟨"DoorRoundsModel", "sees", "(II)Z"⟩, 33), (⟨"DoorRoundsModel", "readsNumber", "(III)Z"⟩, 33), (⟨"DoorRoundsModel", "readsShop", "(I)Z"⟩, 33), (⟨"DoorRoundsModel", "isTold", "(I)Z"⟩, 33)]
theorem lw_r2 : ∀ q ∈ lw_privs_2, lw_okq q := List.forall_mem_cons.mpr ⟨lw_p16, List.forall_mem_cons.mpr ⟨lw_p17, List.forall_mem_cons.mpr ⟨lw_p18, List.forall_mem_cons.mpr ⟨lw_p19, List.forall_mem_cons.mpr ⟨lw_p20, List.forall_mem_cons.mpr ⟨lw_p21, List.forall_mem_cons.mpr ⟨lw_p22, List.forall_mem_cons.mpr ⟨lw_p23, List.forall_mem_cons.mpr ⟨lw_p24, List.forall_mem_cons.mpr ⟨lw_p25, List.forall_mem_cons.mpr ⟨lw_p26, List.forall_mem_cons.mpr ⟨lw_p27, List.forall_mem_cons.mpr ⟨lw_p28, List.forall_mem_cons.mpr ⟨lw_p29, List.forall_mem_cons.mpr ⟨lw_p30, List.forall_mem_cons.mpr ⟨lw_p31, fun _ h => absurd h List.not_mem_nil⟩⟩⟩⟩⟩⟩⟩⟩⟩⟩⟩⟩⟩⟩⟩⟩
theorem lw_p32 : lw_okq (⟨"DoorRoundsModel", "readsFigure", "(II)Z"⟩, 33) := ⟨⟨by decide +kernel, by decide +kernel⟩, List.mem_of_getElem? (i := 828) (by decide +kernel), List.mem_of_getElem? (i := 1035) (by decide +kernel), List.mem_of_getElem? (i := 1036) (by decide +kernel)⟩
theorem lw_p33 : lw_okq (⟨"DoorRoundsModel", "tell", "(II)I"⟩, 33) := ⟨⟨by decide +kernel, by decide +kernel⟩, List.mem_of_getElem? (i := 828) (by decide +kernel), List.mem_of_getElem? (i := 1043) (by decide +kernel), List.mem_of_getElem? (i := 1044) (by decide +kernel)⟩
theorem lw_p34 : lw_okq (⟨"DoorRoundsModel", "isShop", "(I)Z"⟩, 33) := ⟨⟨by decide +kernel, by decide +kernel⟩, List.mem_of_getElem? (i := 828) (by decide +kernel), List.mem_of_getElem? (i := 1051) (by decide +kernel), List.mem_of_getElem? (i := 1052) (by decide +kernel)⟩
theorem lw_p35 : lw_okq (⟨"DoorRoundsModel", "aboutOf", "(II)I"⟩, 33) := ⟨⟨by decide +kernel, by decide +kernel⟩, List.mem_of_getElem? (i := 828) (by decide +kernel), List.mem_of_getElem? (i := 1055) (by decide +kernel), List.mem_of_getElem? (i := 1056) (by decide +kernel)⟩
theorem lw_p36 : lw_okq (⟨"DoorRoundsModel", "isSleeper", "(I)Z"⟩, 33) := ⟨⟨by decide +kernel, by decide +kernel⟩, List.mem_of_getElem? (i := 828) (by decide +kernel), List.mem_of_getElem? (i := 1063) (by decide +kernel), List.mem_of_getElem? (i := 1064) (by decide +kernel)⟩
theorem lw_p37 : lw_okq (⟨"DoorRoundsModel", "areBeside", "(II)Z"⟩, 33) := ⟨⟨by decide +kernel, by decide +kernel⟩, List.mem_of_getElem? (i := 828) (by decide +kernel), List.mem_of_getElem? (i := 1067) (by decide +kernel), List.mem_of_getElem? (i := 1068) (by decide +kernel)⟩
theorem lw_p38 : lw_okq (⟨"DoorRoundsModel", "doorAt", "(J)I"⟩, 33) := ⟨⟨by decide +kernel, by decide +kernel⟩, List.mem_of_getElem? (i := 828) (by decide +kernel), List.mem_of_getElem? (i := 1071) (by decide +kernel), List.mem_of_getElem? (i := 1072) (by decide +kernel)⟩
theorem lw_p39 : lw_okq (⟨"DoorRoundsModel", "going", "(II)I"⟩, 33) := ⟨⟨by decide +kernel, by decide +kernel⟩, List.mem_of_getElem? (i := 828) (by decide +kernel), List.mem_of_getElem? (i := 1075) (by decide +kernel), List.mem_of_getElem? (i := 1076) (by decide +kernel)⟩
theorem lw_p40 : lw_okq (⟨"DoorRoundsModel", "isDoor", "(I)Z"⟩, 33) := ⟨⟨by decide +kernel, by decide +kernel⟩, List.mem_of_getElem? (i := 828) (by decide +kernel), List.mem_of_getElem? (i := 1086) (by decide +kernel), List.mem_of_getElem? (i := 1087) (by decide +kernel)⟩
theorem lw_p41 : lw_okq (⟨"DoorRoundsModel", "shutMany", "()I"⟩, 33) := ⟨⟨by decide +kernel, by decide +kernel⟩, List.mem_of_getElem? (i := 828) (by decide +kernel), List.mem_of_getElem? (i := 1090) (by decide +kernel), List.mem_of_getElem? (i := 1091) (by decide +kernel)⟩
theorem lw_p42 : lw_okq (⟨"DoorRoundsModel", "fromNow", "()V"⟩, 33) := ⟨⟨by decide +kernel, by decide +kernel⟩, List.mem_of_getElem? (i := 828) (by decide +kernel), List.mem_of_getElem? (i := 1103) (by decide +kernel), List.mem_of_getElem? (i := 1104) (by decide +kernel)⟩
theorem lw_p43 : lw_okq (⟨"DoorRoundsModel", "passOne", "(II)V"⟩, 33) := ⟨⟨by decide +kernel, by decide +kernel⟩, List.mem_of_getElem? (i := 828) (by decide +kernel), List.mem_of_getElem? (i := 1107) (by decide +kernel), List.mem_of_getElem? (i := 1108) (by decide +kernel)⟩
theorem lw_p44 : lw_okq (⟨"DoorRoundsModel", "taker", "(I)I"⟩, 33) := ⟨⟨by decide +kernel, by decide +kernel⟩, List.mem_of_getElem? (i := 828) (by decide +kernel), List.mem_of_getElem? (i := 1111) (by decide +kernel), List.mem_of_getElem? (i := 1112) (by decide +kernel)⟩
theorem lw_p45 : lw_okq (⟨"DoorRoundsModel", "plainBy", "(IIIIJJ)I"⟩, 33) := ⟨⟨by decide +kernel, by decide +kernel⟩, List.mem_of_getElem? (i := 828) (by decide +kernel), List.mem_of_getElem? (i := 1137) (by decide +kernel), List.mem_of_getElem? (i := 1138) (by decide +kernel)⟩
theorem lw_p46 : lw_okq (⟨"DoorRoundsModel", "isPair", "(III)Z"⟩, 33) := ⟨⟨by decide +kernel, by decide +kernel⟩, List.mem_of_getElem? (i := 828) (by decide +kernel), List.mem_of_getElem? (i := 1169) (by decide +kernel), List.mem_of_getElem? (i := 1170) (by decide +kernel)⟩
theorem lw_p47 : lw_okq (⟨"DoorRoundsModel", "divisor", "(I)I"⟩, 33) := ⟨⟨by decide +kernel, by decide +kernel⟩, List.mem_of_getElem? (i := 828) (by decide +kernel), List.mem_of_getElem? (i := 1173) (by decide +kernel), List.mem_of_getElem? (i := 1174) (by decide +kernel)⟩
def lw_privs_3 : List (MethodName × Nat) := [(⟨"DoorRoundsModel", "readsFigure", "(II)Z"⟩, 33), (⟨"DoorRoundsModel", "tell", "(II)I"⟩, 33), (⟨"DoorRoundsModel", "isShop", "(I)Z"⟩, 33), (⟨"DoorRoundsModel", "aboutOf", "(II)I"⟩, 33), (⟨"DoorRoundsModel", "isSleeper", "(I)Z"⟩, 33), (⟨"DoorRoundsModel", "areBeside", "(II)Z"⟩, 33), (⟨"DoorRoundsModel", "doorAt", "(J)I"⟩, 33), (⟨"DoorRoundsModel", "going", "(II)I"⟩, 33), (⟨"DoorRoundsModel", "isDoor", "(I)Z"⟩, 33), (⟨"DoorRoundsModel", "shutMany", "()I"⟩, 33), (⟨"DoorRoundsModel", "fromNow", "()V"⟩, 33), (⟨"DoorRoundsModel", "passOne", "(II)V"⟩, 33), (⟨"DoorRoundsModel", "taker", "(I)I"⟩, 33), (⟨"DoorRoundsModel", "plainBy", "(IIIIJJ)I"⟩, 33), (⟨"DoorRoundsModel", "isPair", "(III)Z"⟩, 33), (⟨"DoorRoundsModel", "divisor", "(I)I"⟩, 33)]
theorem lw_r3 : ∀ q ∈ lw_privs_3, lw_okq q := List.forall_mem_cons.mpr ⟨lw_p32, List.forall_mem_cons.mpr ⟨lw_p33, List.forall_mem_cons.mpr ⟨lw_p34, List.forall_mem_cons.mpr ⟨lw_p35, List.forall_mem_cons.mpr ⟨lw_p36, List.forall_mem_cons.mpr ⟨lw_p37, List.forall_mem_cons.mpr ⟨lw_p38, List.forall_mem_cons.mpr ⟨lw_p39, List.forall_mem_cons.mpr ⟨lw_p40, List.forall_mem_cons.mpr ⟨lw_p41, List.forall_mem_cons.mpr ⟨lw_p42, List.forall_mem_cons.mpr ⟨lw_p43, List.forall_mem_cons.mpr ⟨lw_p44, List.forall_mem_cons.mpr ⟨lw_p45, List.forall_mem_cons.mpr ⟨lw_p46, List.forall_mem_cons.mpr ⟨lw_p47, fun _ h => absurd h List.not_mem_nil⟩⟩⟩⟩⟩⟩⟩⟩⟩⟩⟩⟩⟩⟩⟩⟩
theorem lw_p48 : lw_okq (⟨"DoorRoundsModel", "walkOf", "(II)I"⟩, 33) := ⟨⟨by decide +kernel, by decide +kernel⟩, List.mem_of_getElem? (i := 828) (by decide +kernel), List.mem_of_getElem? (i := 1185) (by decide +kernel), List.mem_of_getElem? (i := 1186) (by decide +kernel)⟩
theorem lw_p49 : lw_okq (⟨"DoorRoundsModel", "isSet", "(I)Z"⟩, 33) := ⟨⟨by decide +kernel, by decide +kernel⟩, List.mem_of_getElem? (i := 828) (by decide +kernel), List.mem_of_getElem? (i := 1193) (by decide +kernel), List.mem_of_getElem? (i := 1194) (by decide +kernel)⟩
theorem lw_p50 : lw_okq (⟨"DoorRoundsModel", "roundOf", "(II)I"⟩, 33) := ⟨⟨by decide +kernel, by decide +kernel⟩, List.mem_of_getElem? (i := 828) (by decide +kernel), List.mem_of_getElem? (i := 1197) (by decide +kernel), List.mem_of_getElem? (i := 1198) (by decide +kernel)⟩
theorem lw_p51 : lw_okq (⟨"DoorRoundsModel", "leastFor", "(II)I"⟩, 33) := ⟨⟨by decide +kernel, by decide +kernel⟩, List.mem_of_getElem? (i := 828) (by decide +kernel), List.mem_of_getElem? (i := 1210) (by decide +kernel), List.mem_of_getElem? (i := 1211) (by decide +kernel)⟩
theorem lw_p52 : lw_okq (⟨"DoorRoundsModel", "mayIn", "(II)Z"⟩, 33) := ⟨⟨by decide +kernel, by decide +kernel⟩, List.mem_of_getElem? (i := 828) (by decide +kernel), List.mem_of_getElem? (i := 1214) (by decide +kernel), List.mem_of_getElem? (i := 1215) (by decide +kernel)⟩
theorem lw_p53 : lw_okq (⟨"DoorRoundsModel", "joinsOf", "(II)I"⟩, 33) := ⟨⟨by decide +kernel, by decide +kernel⟩, List.mem_of_getElem? (i := 828) (by decide +kernel), List.mem_of_getElem? (i := 1226) (by decide +kernel), List.mem_of_getElem? (i := 1227) (by decide +kernel)⟩
theorem lw_p54 : lw_okq (⟨"DoorRoundsModel", "fits", "(IIII)Z"⟩, 33) := ⟨⟨by decide +kernel, by decide +kernel⟩, List.mem_of_getElem? (i := 828) (by decide +kernel), List.mem_of_getElem? (i := 1253) (by decide +kernel), List.mem_of_getElem? (i := 1254) (by decide +kernel)⟩
theorem lw_p55 : lw_okq (⟨"DoorRoundsModel", "askedRents", "(I)I"⟩, 33) := ⟨⟨by decide +kernel, by decide +kernel⟩, List.mem_of_getElem? (i := 828) (by decide +kernel), List.mem_of_getElem? (i := 1265) (by decide +kernel), List.mem_of_getElem? (i := 1266) (by decide +kernel)⟩
theorem lw_p56 : lw_okq (⟨"DoorRoundsModel", "setRents", "(II)V"⟩, 33) := ⟨⟨by decide +kernel, by decide +kernel⟩, List.mem_of_getElem? (i := 828) (by decide +kernel), List.mem_of_getElem? (i := 1269) (by decide +kernel), List.mem_of_getElem? (i := 1270) (by decide +kernel)⟩
theorem lw_p57 : lw_okq (⟨"DoorRoundsModel", "part", "(JJI)I"⟩, 33) := ⟨⟨by decide +kernel, by decide +kernel⟩, List.mem_of_getElem? (i := 828) (by decide +kernel), List.mem_of_getElem? (i := 1277) (by decide +kernel), List.mem_of_getElem? (i := 1278) (by decide +kernel)⟩
theorem lw_p58 : lw_okq (⟨"DoorRoundsModel", "setPlans", "(I)V"⟩, 33) := ⟨⟨by decide +kernel, by decide +kernel⟩, List.mem_of_getElem? (i := 828) (by decide +kernel), List.mem_of_getElem? (i := 1285) (by decide +kernel), List.mem_of_getElem? (i := 1286) (by decide +kernel)⟩
theorem lw_p59 : lw_okq (⟨"DoorRoundsModel", "othersBy", "(II)I"⟩, 33) := ⟨⟨by decide +kernel, by decide +kernel⟩, List.mem_of_getElem? (i := 828) (by decide +kernel), List.mem_of_getElem? (i := 1289) (by decide +kernel), List.mem_of_getElem? (i := 1290) (by decide +kernel)⟩
theorem lw_p60 : lw_okq (⟨"DoorRoundsModel", "isImage", "(I)Z"⟩, 33) := ⟨⟨by decide +kernel, by decide +kernel⟩, List.mem_of_getElem? (i := 828) (by decide +kernel), List.mem_of_getElem? (i := 1305) (by decide +kernel), List.mem_of_getElem? (i := 1306) (by decide +kernel)⟩
theorem lw_p61 : lw_okq (⟨"DoorRoundsModel", "counts", "(I)I"⟩, 33) := ⟨⟨by decide +kernel, by decide +kernel⟩, List.mem_of_getElem? (i := 828) (by decide +kernel), List.mem_of_getElem? (i := 1325) (by decide +kernel), List.mem_of_getElem? (i := 1326) (by decide +kernel)⟩
theorem lw_p62 : lw_okq (⟨"DoorRoundsModel", "mix", "(I)V"⟩, 33) := ⟨⟨by decide +kernel, by decide +kernel⟩, List.mem_of_getElem? (i := 828) (by decide +kernel), List.mem_of_getElem? (i := 1342) (by decide +kernel), List.mem_of_getElem? (i := 1343) (by decide +kernel)⟩
theorem lw_p63 : lw_okq (⟨"DoorRoundsModel", "mixSquare", "()V"⟩, 33) := ⟨⟨by decide +kernel, by decide +kernel⟩, List.mem_of_getElem? (i := 828) (by decide +kernel), List.mem_of_getElem? (i := 1347) (by decide +kernel), List.mem_of_getElem? (i := 1348) (by decide +kernel)⟩
def lw_privs_4 : List (MethodName × Nat) := [(⟨"DoorRoundsModel", "walkOf", "(II)I"⟩, 33), (⟨"DoorRoundsModel", "isSet", "(I)Z"⟩, 33), (⟨"DoorRoundsModel", "roundOf", "(II)I"⟩, 33), (⟨"DoorRoundsModel", "leastFor", "(II)I"⟩, 33), (⟨"DoorRoundsModel", "mayIn", "(II)Z"⟩, 33), (⟨"DoorRoundsModel", "joinsOf", "(II)I"⟩, 33), (⟨"DoorRoundsModel", "fits", "(IIII)Z"⟩, 33), (⟨"DoorRoundsModel", "askedRents", "(I)I"⟩, 33), (⟨"DoorRoundsModel", "setRents", "(II)V"⟩, 33), (⟨"DoorRoundsModel", "part", "(JJI)I"⟩, 33), (⟨"DoorRoundsModel", "setPlans", "(I)V"⟩, 33), (⟨"DoorRoundsModel", "othersBy", "(II)I"⟩, 33), (⟨"DoorRoundsModel", "isImage", "(I)Z"⟩, 33), (⟨"DoorRoundsModel", "counts", "(I)I"⟩, 33), (⟨"DoorRoundsModel", "mix", "(I)V"⟩, 33), (⟨"DoorRoundsModel", "mixSquare", "()V"⟩, 33)]
theorem lw_r4 : ∀ q ∈ lw_privs_4, lw_okq q := List.forall_mem_cons.mpr ⟨lw_p48, List.forall_mem_cons.mpr ⟨lw_p49, List.forall_mem_cons.mpr ⟨lw_p50, List.forall_mem_cons.mpr ⟨lw_p51, List.forall_mem_cons.mpr ⟨lw_p52, List.forall_mem_cons.mpr ⟨lw_p53, List.forall_mem_cons.mpr ⟨lw_p54, List.forall_mem_cons.mpr ⟨lw_p55, List.forall_mem_cons.mpr ⟨lw_p56, List.forall_mem_cons.mpr ⟨lw_p57, List.forall_mem_cons.mpr ⟨lw_p58, List.forall_mem_cons.mpr ⟨lw_p59, List.forall_mem_cons.mpr ⟨lw_p60, List.forall_mem_cons.mpr ⟨lw_p61, List.forall_mem_cons.mpr ⟨lw_p62, List.forall_mem_cons.mpr ⟨lw_p63, fun _ h => absurd h List.not_mem_nil⟩⟩⟩⟩⟩⟩⟩⟩⟩⟩⟩⟩⟩⟩⟩⟩
def lw_privs : List (MethodName × Nat) := lw_privs_1 ++ (lw_privs_2 ++ (lw_privs_3 ++ (lw_privs_4)))
def lw_tbl : List Cond := k2_sels lw_privs ++ tables_1
theorem lw_privs_ok : ∀ q ∈ lw_privs, lw_okq q := by
  show ∀ q ∈ lw_privs_1 ++ (lw_privs_2 ++ (lw_privs_3 ++ (lw_privs_4))), lw_okq q
  exact List.forall_mem_append.mpr ⟨lw_r1, List.forall_mem_append.mpr ⟨lw_r2, List.forall_mem_append.mpr ⟨lw_r3, lw_r4⟩⟩⟩
def lw_g : List Cond := lw_tbl.filter goodWord
theorem lw_in {w : Cond} {i : Nat} (h : tables_1[i]? = some w) (hg : goodWord w = true) : w ∈ lw_g := List.mem_filter.mpr ⟨List.mem_append_right _ (List.mem_of_getElem? h), hg⟩
theorem lw_ins (ws : List Cond) (ps : List Nat) (hp : ws = ps.filterMap (fun i => tables_1[i]?)) (hg : ws.all goodWord = true) : ∀ w ∈ ws, w ∈ lw_g := by
  intro w hw
  have h1 := List.all_eq_true.mp hg w hw
  rw [hp] at hw
  obtain ⟨i, -, hi⟩ := List.mem_filterMap.mp hw
  exact lw_in hi h1
theorem lw_insel {q : MethodName × Nat} {i : Nat} (h : lw_privs[i]? = some q) (hg : goodWord (Cond.selects q.1.cls q.1 q.1) = true) : Cond.selects q.1.cls q.1 q.1 ∈ lw_g := List.mem_filter.mpr ⟨List.mem_append_left _ (List.mem_map.mpr ⟨q, List.mem_of_getElem? h, rfl⟩), hg⟩
def TX0 : u_T := fun k => match k with
  | 0 => ("DoorRounds$Diary", "size", "I", false)
  | 1 => ("DoorRounds$Diary", "weeks", "[I", true)
  | 2 => ("DoorRounds$Diary", "shops", "[I", true)
  | _ => ("DoorRounds$Diary", "doors", "[I", true)
def tyX0 : Nat → FieldType := fun k => match k with
  | 0 => .int
  | 1 => .array .int
  | 2 => .array .int
  | _ => .array .int
def TX1 : u_T := fun k => match k with
  | 0 => ("DoorRounds$Errands", "together", "[J", true)
  | _ => ("DoorRounds$Errands", "shared", "[J", true)
def tyX1 : Nat → FieldType := fun k => match k with
  | 0 => .array .long
  | _ => .array .long
def TX2 : u_T := fun k => match k with
  | 0 => ("DoorRounds$Plan", "doors", "I", false)
  | 1 => ("DoorRounds$Plan", "size", "I", false)
  | 2 => ("DoorRounds$Plan", "shops", "[LDoorRounds$Shop;", true)
  | 3 => ("DoorRounds$Plan", "noShop", "LDoorRounds$Shop;", true)
  | 4 => ("DoorRounds$Plan", "order", "[I", true)
  | _ => ("DoorRounds$Plan", "reader", "LDoorRounds$Reader;", true)
def tyX2 : Nat → FieldType := fun k => match k with
  | 0 => .int
  | 1 => .int
  | 2 => .array (.object "DoorRounds$Shop")
  | 3 => .object "DoorRounds$Shop"
  | 4 => .array .int
  | _ => .object "DoorRounds$Reader"
def TX3 : u_T := fun k => match k with
  | 0 => ("DoorRounds$Reader", "text", "LDoorRounds$Strip;", false)
  | 1 => ("DoorRounds$Reader", "place", "I", false)
  | _ => ("DoorRounds$Reader", "number", "I", false)
def tyX3 : Nat → FieldType := fun k => match k with
  | 0 => .object "DoorRounds$Strip"
  | 1 => .int
  | _ => .int
def TX4 : u_T := fun k => match k with
  | 0 => ("DoorRounds$Shop", "kind", "I", false)
  | 1 => ("DoorRounds$Shop", "firstDoor", "I", false)
  | 2 => ("DoorRounds$Shop", "step", "I", false)
  | 3 => ("DoorRounds$Shop", "age", "I", false)
  | _ => ("DoorRounds$Shop", "k", "I", false)
def tyX4 : Nat → FieldType := fun k => match k with
  | 0 => .int
  | 1 => .int
  | 2 => .int
  | 3 => .int
  | _ => .int
def TX5 : u_T := fun k => match k with
  | 0 => ("DoorRounds$Standing", "week", "I", false)
  | 1 => ("DoorRounds$Standing", "shut", "I", false)
  | _ => ("DoorRounds$Standing", "doors", "[I", true)
def tyX5 : Nat → FieldType := fun k => match k with
  | 0 => .int
  | 1 => .int
  | _ => .array .int
def TX6 : u_T := fun k => match k with
  | 0 => ("DoorRounds$Strip", "places", "[I", true)
  | _ => ("DoorRounds$Strip", "size", "I", false)
def tyX6 : Nat → FieldType := fun k => match k with
  | 0 => .array .int
  | _ => .int
def TX7 : u_T := fun k => match k with
  | 0 => ("DoorRounds", "rows", "[LDoorRounds$Strip;", true)
  | 1 => ("DoorRounds", "texts", "[LDoorRounds$Strip;", true)
  | 2 => ("DoorRounds", "noStrip", "LDoorRounds$Strip;", true)
  | 3 => ("DoorRounds", "now", "LDoorRounds$Standing;", true)
  | 4 => ("DoorRounds", "kept", "[LDoorRounds$Standing;", true)
  | 5 => ("DoorRounds", "ahead", "LDoorRounds$Standing;", true)
  | 6 => ("DoorRounds", "mended", "LDoorRounds$Standing;", true)
  | 7 => ("DoorRounds", "diary", "LDoorRounds$Diary;", true)
  | 8 => ("DoorRounds", "trips", "LDoorRounds$Errands;", true)
  | 9 => ("DoorRounds", "findingCounts", "[I", true)
  | 10 => ("DoorRounds", "plan", "LDoorRounds$Plan;", false)
  | 11 => ("DoorRounds", "draft", "LDoorRounds$Plan;", false)
  | 12 => ("DoorRounds", "asked", "I", false)
  | 13 => ("DoorRounds", "upper", "J", false)
  | 14 => ("DoorRounds", "lower", "J", false)
  | _ => ("DoorRounds", "finding", "I", false)
def tyX7 : Nat → FieldType := fun k => match k with
  | 0 => .array (.object "DoorRounds$Strip")
  | 1 => .array (.object "DoorRounds$Strip")
  | 2 => .object "DoorRounds$Strip"
  | 3 => .object "DoorRounds$Standing"
  | 4 => .array (.object "DoorRounds$Standing")
  | 5 => .object "DoorRounds$Standing"
  | 6 => .object "DoorRounds$Standing"
  | 7 => .object "DoorRounds$Diary"
  | 8 => .object "DoorRounds$Errands"
  | 9 => .array .int
  | 10 => .object "DoorRounds$Plan"
  | 11 => .object "DoorRounds$Plan"
  | 12 => .int
  | 13 => .long
  | 14 => .long
  | _ => .int
def TX8 : u_T := fun k => match k with
  | 0 => ("DoorRoundsModel", "finding", "I", false)
  | 1 => ("DoorRoundsModel", "findings", "[I", true)
  | 2 => ("DoorRoundsModel", "asked", "I", false)
  | 3 => ("DoorRoundsModel", "upper", "J", false)
  | 4 => ("DoorRoundsModel", "lower", "J", false)
  | 5 => ("DoorRoundsModel", "sizes", "[I", true)
  | 6 => ("DoorRoundsModel", "rows", "[I", true)
  | 7 => ("DoorRoundsModel", "moving", "[I", true)
  | 8 => ("DoorRoundsModel", "lengths", "[I", true)
  | 9 => ("DoorRoundsModel", "texts", "[I", true)
  | 10 => ("DoorRoundsModel", "n", "I", false)
  | 11 => ("DoorRoundsModel", "many", "I", false)
  | 12 => ("DoorRoundsModel", "shops", "[I", true)
  | 13 => ("DoorRoundsModel", "readAt", "I", false)
  | 14 => ("DoorRoundsModel", "readNumber", "I", false)
  | 15 => ("DoorRoundsModel", "readDoors", "I", false)
  | 16 => ("DoorRoundsModel", "readMany", "I", false)
  | 17 => ("DoorRoundsModel", "doors", "[I", true)
  | 18 => ("DoorRoundsModel", "week", "I", false)
  | 19 => ("DoorRoundsModel", "shut", "I", false)
  | 20 => ("DoorRoundsModel", "went", "[I", true)
  | 21 => ("DoorRoundsModel", "before", "[I", true)
  | 22 => ("DoorRoundsModel", "kept", "[I", true)
  | 23 => ("DoorRoundsModel", "rounds", "[I", true)
  | 24 => ("DoorRoundsModel", "leasts", "[I", true)
  | 25 => ("DoorRoundsModel", "next", "[I", true)
  | 26 => ("DoorRoundsModel", "fixedWeeks", "[I", true)
  | 27 => ("DoorRoundsModel", "notes", "[I", true)
  | 28 => ("DoorRoundsModel", "noteMany", "I", false)
  | 29 => ("DoorRoundsModel", "rents", "[I", true)
  | 30 => ("DoorRoundsModel", "plans", "[I", true)
  | 31 => ("DoorRoundsModel", "firstOther", "I", false)
  | _ => ("DoorRoundsModel", "h0", "J", false)
def tyX8 : Nat → FieldType := fun k => match k with
  | 0 => .int
  | 1 => .array .int
  | 2 => .int
  | 3 => .long
  | 4 => .long
  | 5 => .array .int
  | 6 => .array .int
  | 7 => .array .int
  | 8 => .array .int
  | 9 => .array .int
  | 10 => .int
  | 11 => .int
  | 12 => .array .int
  | 13 => .int
  | 14 => .int
  | 15 => .int
  | 16 => .int
  | 17 => .array .int
  | 18 => .int
  | 19 => .int
  | 20 => .array .int
  | 21 => .array .int
  | 22 => .array .int
  | 23 => .array .int
  | 24 => .array .int
  | 25 => .array .int
  | 26 => .array .int
  | 27 => .array .int
  | 28 => .int
  | 29 => .array .int
  | 30 => .array .int
  | 31 => .int
  | _ => .long
abbrev cls9 : List vw_C := [("DoorRounds$Diary", TX0, 4), ("DoorRounds$Errands", TX1, 2), ("DoorRounds$Plan", TX2, 6), ("DoorRounds$Reader", TX3, 3), ("DoorRounds$Shop", TX4, 5), ("DoorRounds$Standing", TX5, 3), ("DoorRounds$Strip", TX6, 2), ("DoorRounds", TX7, 16), ("DoorRoundsModel", TX8, 33)]
def ftys : List (List Nat) := [[0, 2, 2, 2], [2, 2], [0, 0, 2, 2, 2, 2], [2, 0, 0], [0, 0, 0, 0, 0], [0, 0, 2], [2, 0], [2, 2, 2, 2, 2, 2, 2, 2, 2, 2, 2, 2, 0, 1, 1, 0], [0, 2, 0, 1, 1, 2, 2, 2, 2, 2, 0, 0, 2, 0, 0, 0, 0, 2, 0, 0, 2, 2, 2, 2, 2, 2, 2, 2, 0, 2, 2, 0, 1]]
def tyc (t : FieldType) : Nat := match t with
  | .int => 0
  | .long => 1
  | .object _ => 2
  | .array _ => 2
  | _ => 3
def fty (ci k : Nat) : Nat := (ftys.getD ci []).getD k 3
def clOK (ci : Nat) (r : vw_C) (ty : Nat → FieldType) : Prop := cls9[ci]? = some r ∧ (∀ w ∈ u_ws r.1 r.2.1 r.2.2, w ∈ lw_g) ∧ (∀ k, k < r.2.2 → parseFieldDescriptor (r.2.1 k).2.2.1 = some (ty k)) ∧ (∀ a, a < r.2.2 → ∀ b, b < r.2.2 → a ≠ b → (r.2.1 a).2.1 ≠ (r.2.1 b).2.1) ∧ r.2.2 = (ftys.getD ci []).length ∧ (∀ k, k < r.2.2 → tyc (ty k) = fty ci k) ∧ (∀ k, k < r.2.2 → (r.2.1 k).1 = r.1)
theorem cl_0 : clOK 0 ("DoorRounds$Diary", TX0, 4) tyX0 := ⟨rfl, lw_ins _ [73, 75, 77, 79] (by decide +kernel) (by decide +kernel), by decide +kernel, by decide +kernel, by decide +kernel, by decide +kernel, by decide +kernel⟩
theorem cl_1 : clOK 1 ("DoorRounds$Errands", TX1, 2) tyX1 := ⟨rfl, lw_ins _ [90, 92] (by decide +kernel) (by decide +kernel), by decide +kernel, by decide +kernel, by decide +kernel, by decide +kernel, by decide +kernel⟩
theorem cl_2 : clOK 2 ("DoorRounds$Plan", TX2, 6) tyX2 := ⟨rfl, lw_ins _ [168, 170, 172, 174, 176, 178] (by decide +kernel) (by decide +kernel), by decide +kernel, by decide +kernel, by decide +kernel, by decide +kernel, by decide +kernel⟩
theorem cl_3 : clOK 3 ("DoorRounds$Reader", TX3, 3) tyX3 := ⟨rfl, lw_ins _ [150, 152, 154] (by decide +kernel) (by decide +kernel), by decide +kernel, by decide +kernel, by decide +kernel, by decide +kernel, by decide +kernel⟩
theorem cl_4 : clOK 4 ("DoorRounds$Shop", TX4, 5) tyX4 := ⟨rfl, lw_ins _ [126, 128, 130, 132, 134] (by decide +kernel) (by decide +kernel), by decide +kernel, by decide +kernel, by decide +kernel, by decide +kernel, by decide +kernel⟩
theorem cl_5 : clOK 5 ("DoorRounds$Standing", TX5, 3) tyX5 := ⟨rfl, lw_ins _ [54, 56, 58] (by decide +kernel) (by decide +kernel), by decide +kernel, by decide +kernel, by decide +kernel, by decide +kernel, by decide +kernel⟩
theorem cl_6 : clOK 6 ("DoorRounds$Strip", TX6, 2) tyX6 := ⟨rfl, lw_ins _ [37, 39] (by decide +kernel) (by decide +kernel), by decide +kernel, by decide +kernel, by decide +kernel, by decide +kernel, by decide +kernel⟩
theorem cl_7 : clOK 7 ("DoorRounds", TX7, 16) tyX7 := ⟨rfl, lw_ins _ [197, 199, 201, 203, 205, 207, 209, 211, 213, 215, 217, 219, 221, 223, 225, 227] (by decide +kernel) (by decide +kernel), by decide +kernel, by decide +kernel, by decide +kernel, by decide +kernel, by decide +kernel⟩
theorem cl_8 : clOK 8 ("DoorRoundsModel", TX8, 33) tyX8 := ⟨rfl, lw_ins _ [866, 868, 870, 872, 874, 876, 878, 880, 882, 884, 886, 888, 890, 892, 894, 896, 898, 900, 902, 904, 906, 908, 910, 912, 914, 916, 918, 920, 922, 924, 926, 928, 930] (by decide +kernel) (by decide +kernel), by decide +kernel, by decide +kernel, by decide +kernel, by decide +kernel, by decide +kernel⟩
def nbM0 : List (String × Nat × MethodName × String) := [("DoorRounds", 27, ⟨"DoorRounds$Standing", "<init>", "()V"⟩, "DoorRounds"), ("DoorRounds", 44, ⟨"DoorRounds$Diary", "<init>", "()V"⟩, "DoorRounds"), ("DoorRounds", 51, ⟨"DoorRounds$Errands", "<init>", "()V"⟩, "DoorRounds"), ("DoorRounds$Plan", 24, ⟨"DoorRounds$Shop", "<init>", "()V"⟩, "DoorRounds"), ("DoorRounds$Plan", 35, ⟨"DoorRounds$Reader", "<init>", "()V"⟩, "DoorRounds"), ("DoorRounds$Standing", 46, ⟨"DoorRounds", "isIn", "(II)Z"⟩, "DoorRounds"), ("DoorRounds$Plan", 65, ⟨"DoorRounds", "greatestCommon", "(JJ)J"⟩, "DoorRounds"), ("DoorRounds$Errands", 42, ⟨"DoorRounds", "isIn", "(II)Z"⟩, "DoorRounds")]
end
section
/-! ===== the pure picture: cells by names (0 the script, 1 LETTERS, 2 and on those that are made, in order) ===== -/
abbrev pM : Type := (Nat → Nat → Int32) × (Nat → Nat → Int64) × (Nat → Nat → Nat) × (Nat → Nat × Nat) × Nat
def mI (u : pM) : Nat → Nat → Int32 := u.1
def mL (u : pM) : Nat → Nat → Int64 := u.2.1
def mR (u : pM) : Nat → Nat → Nat := u.2.2.1
def mS (u : pM) : Nat → Nat × Nat := u.2.2.2.1
def mX (u : pM) : Nat := u.2.2.2.2
def up2 {α : Type} (f : Nat → Nat → α) (n k : Nat) (v : α) : Nat → Nat → α := fun a b => if a = n ∧ b = k then v else f a b
def pI (u : pM) (n k : Nat) (v : Int32) : pM := (up2 (mI u) n k v, mL u, mR u, mS u, mX u)
def pL (u : pM) (n k : Nat) (v : Int64) : pM := (mI u, up2 (mL u) n k v, mR u, mS u, mX u)
def pR (u : pM) (n k : Nat) (v : Nat) : pM := (mI u, mL u, up2 (mR u) n k v, mS u, mX u)
/-- a new cell of the kind sh, all nought -/
def pN (u : pM) (sh : Nat × Nat) : pM := (fun a b => if a = mX u + 2 then 0 else mI u a b, fun a b => if a = mX u + 2 then 0 else mL u a b, fun a b => if a = mX u + 2 then 0 else mR u a b, fun a => if a = mX u + 2 then sh else mS u a, mX u + 1)
/-- launch, class numbers, slots, first address of ours, script, LETTERS, script's length and contents, array classes -/
abbrev pG : Type := Launch × (Nat → ClassId) × (Nat → Nat → Nat) × Nat × Nat × Nat × Nat × (Nat → Int32) × (Nat → ClassId)
abbrev gl (G : pG) : Launch := G.1
abbrev gC (G : pG) : Nat → ClassId := G.2.1
abbrev gI (G : pG) : Nat → Nat → Nat := G.2.2.1
abbrev gB (G : pG) : Nat := G.2.2.2.1
abbrev gb (G : pG) : Nat := G.2.2.2.2.1
abbrev gt (G : pG) : Nat := G.2.2.2.2.2.1
abbrev gn (G : pG) : Nat := G.2.2.2.2.2.2.1
abbrev gx (G : pG) : Nat → Int32 := G.2.2.2.2.2.2.2.1
abbrev gA (G : pG) : Nat → ClassId := G.2.2.2.2.2.2.2.2
def ad (G : pG) (n : Nat) : Nat := match n with
  | 0 => gb G
  | 1 => gt G
  | i + 2 => gB G + i
def tv (G : pG) (v : Value) : Value := match v with
  | .ref n => .ref (ad G n)
  | w => w
def rf (G : pG) (r : Nat) : Option Nat := if r = 0 then none else some (ad G r)
def fv (G : pG) (u : pM) (n k t : Nat) : Value := if t = 0 then .int (mI u n k) else if t = 1 then .long (mL u n k) else va_rf (rf G (mR u n k))
def fvs (G : pG) (u : pM) (n ci : Nat) : List Value := (ftys.getD ci []).mapIdx (fun k t => fv G u n k t)
def ce (G : pG) (u : pM) (n : Nat) : va_E := if (mS u n).1 < 9 then .inr ((mS u n).1, fvs G u n (mS u n).1) else if (mS u n).1 = 100 then .inl (gA G 0, (mS u n).2, .inl (mI u n)) else if (mS u n).1 = 101 then .inl (gA G 1, (mS u n).2, .inr (.inl (mL u n))) else .inl (gA G ((mS u n).1 - 100), (mS u n).2, .inr (.inr (.inr (.inr (fun j => rf G (mR u n j))))))
def wl (G : pG) (u : pM) : va_W := (List.range (mX u)).map (fun i => (gB G + i, ce G u (i + 2)))
def gty (G : pG) : List (ClassId × FieldType) := [(gA G 0, .int), (gA G 1, .long), (gA G 2, .object "DoorRounds$Strip"), (gA G 3, .object "DoorRounds$Standing"), (gA G 4, .object "DoorRounds$Shop")]
abbrev Ag (G : pG) : Nat → Prop := fun q => gB G ≤ q
def lets : Nat → Int32 := fun j => match j with
  | 0 => 115
  | 1 => 102
  | 2 => 121
  | 3 => 110
  | 4 => 111
  | _ => 112
def Rl (G : pG) (s : State) (H : Heap) (u : pM) : Prop := va_P (gC G, gI G) cls9 (wl G u) H ∧ va_D (Ag G) (wl G u) ∧ va_K (gC G, gI G) cls9 (gty G) s ∧ H.size = gB G + mX u
/-- words that move by rules of their own -/
def nbM : List (String × Nat × MethodName × String) := nbM0
def Stt (G : pG) (s : State) : Prop := va_X (gb G) (gn G) (gx G) s s.heap ∧ gb G < gB G ∧ va_X (gt G) 6 lets s s.heap ∧ gt G < gB G ∧ va_Z "DoorRounds" "LETTERS" "[I" (.ref (gt G)) (Ag G) s s.heap ∧ gB G ≤ s.heap.size ∧ (∀ q ∈ nbM, va_Nw (.methodLinkNest q.1 q.2.1 q.2.2.1 q.2.2.2) s) ∧ va_Nw (.fieldLinkNest "DoorRounds$Reader" 42 "DoorRounds" "LETTERS" "[I" "DoorRounds") s ∧ va_AO "DoorRounds$Strip" s ∧ va_AO "DoorRounds$Standing" s ∧ va_AO "DoorRounds$Shop" s
/-- a method: name, bytes, locals, answer, frames and locals' words that its calls need -/
abbrev pY : Type := MethodName × ByteArray × Nat × Option FieldType × Nat × Nat
def Cx (G : pG) (M : pY) (p : Program) (R : Room) (s : State) (m : MethodId) (args : Array Value) (meth : Method) (c : Code) : Prop := p.tables.exec = Jvm.exec ∧ c.code = M.2.1 ∧ meth.sig.returnType = M.2.2.2.1 ∧ c.maxLocals = M.2.2.1 ∧ s.vm.findClass M.1.cls = some m.cls ∧ (∀ w ∈ lw_g, w.before args s = true) ∧ meth.locks = false ∧ meth.name = M.1.name ∧ M.2.2.2.2.1 ≤ R.frames ∧ M.2.2.2.2.2 ≤ R.locals ∧ Stt G s
abbrev pLo : Type := List (Nat × Value)
def lm (G : pG) (l : pLo) : List (Nat × Value) := l.map (fun q => (q.1, tv G q.2))
/-- a return at pc that gives r -/
def isRet (M : pY) (pc : Nat) (r : Option Value) : Prop := match r with
  | none => decode M.2.1 pc = .ok (.return_, 1) ∧ M.2.2.2.1 = none
  | some (.int v) => decode M.2.1 pc = .ok (.ireturn, 1) ∧ ∃ ty, M.2.2.2.1 = some ty ∧ narrow ty (.int v) = .int v
  | some (.long _) => decode M.2.1 pc = .ok (.lreturn, 1) ∧ M.2.2.2.1 = some .long
  | some (.ref _) => decode M.2.1 pc = .ok (.areturn, 1) ∧ ∃ rt, M.2.2.2.1 = some rt ∧ ((∃ n, rt = .object n) ∨ ∃ t, rt = .array t)
  | _ => False
/-- from here, with the picture u, the method comes to its end, and Q of its answer and the picture then; kc cells of ks slots at most are made -/
def Wp (G : pG) (M : pY) (kc ks pc : Nat) (l : pLo) (st : List Value) (u : pM) (Q : Option Value → pM → Prop) : Prop :=
  ∀ (p : Program) (e : Env) (R : Room) (s : State) (m : MethodId) (args : Array Value) (below : List Frame) (meth : Method) (c : Code), Cx G M p R s m args meth c →
  ∀ (H : Heap) (ls : Array Slot) (locs : List Loc) (cells slots : Nat) (Qf : State → Prop) (mc ms : Nat), Rl G s H u → va_S (Ag G) s.heap H locs → lv_has ls M.2.2.1 (lm G l) → cells + kc ≤ mc → slots + ks ≤ ms → mc ≤ R.cells → ms ≤ R.slots →
  (∀ (r : Option Value) (u' : pM) (H' : Heap) (ls' : Array Slot) (locs' : List Loc) (pc' : Nat), Q r u' → Rl G s H' u' → va_S (Ag G) s.heap H' locs' → isRet M pc' r → W p (gl G) e R s m args below meth c H' locs' mc ms Qf (F0 m pc' ls' (r.toList.map (tv G)))) →
  W p (gl G) e R s m args below meth c H locs cells slots Qf (F0 m pc ls (st.map (tv G)))
abbrev RI (K : Int32 → pM → Prop) : Option Value → pM → Prop := fun r u => ∃ x : Int32, r = some (.int x) ∧ K x u
abbrev RJ (K : Int64 → pM → Prop) : Option Value → pM → Prop := fun r u => ∃ x : Int64, r = some (.long x) ∧ K x u
abbrev RR (K : Nat → pM → Prop) : Option Value → pM → Prop := fun r u => ∃ x : Nat, r = some (.ref x) ∧ K x u
abbrev RV (K : pM → Prop) : Option Value → pM → Prop := fun r u => r = none ∧ K u
/-! the rows of it -/
section CORE
variable {G : pG} {M : pY} {kc ks pc : Nat} {l : pLo} {st : List Value} {u : pM} {Q : Option Value → pM → Prop}
theorem Wp.mono {Q' : Option Value → pM → Prop} (h : Wp G M kc ks pc l st u Q') (hQ : ∀ r u, Q' r u → Q r u) : Wp G M kc ks pc l st u Q := fun p e R s m args below meth c C H ls locs cells slots Qf mc ms a1 a2 a3 a4 a5 a6 a7 k => h p e R s m args below meth c C H ls locs cells slots Qf mc ms a1 a2 a3 a4 a5 a6 a7 (fun r u' H' ls' locs' pc' q => k r u' H' ls' locs' pc' (hQ r u' q))
theorem Wp.more {kc' ks' : Nat} (h : Wp G M kc ks pc l st u Q) (h1 : kc ≤ kc') (h2 : ks ≤ ks') : Wp G M kc' ks' pc l st u Q := fun p e R s m args below meth c C H ls locs cells slots Qf mc ms a1 a2 a3 a4 a5 a6 a7 k => h p e R s m args below meth c C H ls locs cells slots Qf mc ms a1 a2 a3 (by omega) (by omega) a6 a7 k
theorem lm_get {l : pLo} {k i : Nat} {v : Value} (hk : l[k]? = some (i, v)) : (lm G l)[k]? = some (i, tv G v) := by simp [lm, hk]
theorem tv_cat (v : Value) : (tv G v).category = v.category := by cases v <;> rfl
theorem lm_filter (l : pLo) (f : Nat → Nat → Bool) : (lm G l).filter (fun q => f q.1 q.2.category) = lm G (l.filter (fun q => f q.1 q.2.category)) := by
  induction l with
  | nil => rfl
  | cons a t ih =>
    simp only [lm, List.map_cons, List.filter_cons, tv_cat] at ih ⊢
    by_cases h : f a.1 a.2.category = true
    · rw [if_pos h, if_pos h, List.map_cons, ← ih]
    · rw [if_neg h, if_neg h, ← ih]
def ls1 (l : pLo) (i : Nat) (v : Value) : pLo := (i, v) :: l.filter (fun q => !(q.1 == i) && !(q.1 + 1 == i && q.2.category == 2))
def ls2 (l : pLo) (i : Nat) (v : Value) : pLo := (i, v) :: l.filter (fun q => !(q.1 == i) && (!(q.1 == i + 1) && !(q.1 + 1 == i && q.2.category == 2)))
theorem lm_ls1 (l : pLo) (i : Nat) (v : Value) : (i, tv G v) :: (lm G l).filter (fun q => !(q.1 == i) && !(q.1 + 1 == i && q.2.category == 2)) = lm G (ls1 l i v) := by
  rw [lm_filter (G := G) l (fun a b => !(a == i) && !(a + 1 == i && b == 2))]
  rfl
theorem lm_ls2 (l : pLo) (i : Nat) (v : Value) : (i, tv G v) :: (lm G l).filter (fun q => !(q.1 == i) && (!(q.1 == i + 1) && !(q.1 + 1 == i && q.2.category == 2))) = lm G (ls2 l i v) := by
  rw [lm_filter (G := G) l (fun a b => !(a == i) && (!(a == i + 1) && !(a + 1 == i && b == 2)))]
  rfl
/-- fewer locals, or in another order -/
theorem wp_loc {l' : pLo} (ks' : List Nat) (hl : lv_pick l ks' = l') (h : Wp G M kc ks pc l' st u Q) : Wp G M kc ks pc l st u Q := by
  intro p e R s m args below meth c C H ls locs cells slots Qf mc ms a1 a2 a3 a4 a5 a6 a7 k
  refine h p e R s m args below meth c C H ls locs cells slots Qf mc ms a1 a2 (lv_sub a3 ks' ?_) a4 a5 a6 a7 k
  subst hl
  simp only [lv_pick, lm, List.getElem?_map, List.map_filterMap]
/-- one step of the machine that leaves the heap -/
theorem wp_go {pc' : Nat} {l' : pLo} {st' : List Value} (hW : ∀ (p : Program) (e : Env) (R : Room) (s : State) (m : MethodId) (args : Array Value) (below : List Frame) (meth : Method) (c : Code) (H : Heap) (locs : List Loc) (cells slots : Nat) (Qf : State → Prop) (ls : Array Slot), Cx G M p R s m args meth c → lv_has ls M.2.2.1 (lm G l) → (∀ ls', lv_has ls' M.2.2.1 (lm G l') → W p (gl G) e R s m args below meth c H locs cells slots Qf (F0 m pc' ls' (st'.map (tv G)))) → W p (gl G) e R s m args below meth c H locs cells slots Qf (F0 m pc ls (st.map (tv G)))) (h : Wp G M kc ks pc' l' st' u Q) : Wp G M kc ks pc l st u Q := by
  intro p e R s m args below meth c C H ls locs cells slots Qf mc ms a1 a2 a3 a4 a5 a6 a7 k
  exact hW p e R s m args below meth c H locs cells slots Qf ls C a3 (fun ls' hl' => h p e R s m args below meth c C H ls' locs cells slots Qf mc ms a1 a2 hl' a4 a5 a6 a7 k)
theorem wp_iconst {n : Int} {v : Int32} (hd : decode M.2.1 pc = .ok (.iconst n, 1)) (hv : Int32.ofInt n = v) (h : Wp G M kc ks (pc + 1) l (.int v :: st) u Q) : Wp G M kc ks pc l st u Q := wp_go (fun _ _ _ _ _ _ _ _ _ _ _ _ _ _ ls C hl k => lv_iconst C.1 C.2.1 hd hv (k ls hl)) h
theorem wp_bipush {n : Int} {v : Int32} (hd : decode M.2.1 pc = .ok (.bipush n, 2)) (hv : (Int8.ofInt n).toInt32 = v) (h : Wp G M kc ks (pc + 2) l (.int v :: st) u Q) : Wp G M kc ks pc l st u Q := wp_go (fun _ _ _ _ _ _ _ _ _ _ _ _ _ _ ls C hl k => lv_bipush C.1 C.2.1 hd hv (k ls hl)) h
theorem wp_sipush {n : Int} {v : Int32} (hd : decode M.2.1 pc = .ok (.sipush n, 3)) (hv : (Int16.ofInt n).toInt32 = v) (h : Wp G M kc ks (pc + 3) l (.int v :: st) u Q) : Wp G M kc ks pc l st u Q := wp_go (fun _ _ _ _ _ _ _ _ _ _ _ _ _ _ ls C hl k => lv_sipush C.1 C.2.1 hd hv (k ls hl)) h
theorem wp_lconst {n : Fin 2} {v : Int64} (hd : decode M.2.1 pc = .ok (.lconst n, 1)) (hv : Int64.ofNat (n : Nat) = v) (h : Wp G M kc ks (pc + 1) l (.long v :: st) u Q) : Wp G M kc ks pc l st u Q := wp_go (fun _ _ _ _ _ _ _ _ _ _ _ _ _ _ ls C hl k => lv_lconst C.1 C.2.1 hd hv (k ls hl)) h
theorem wp_ldc {i : Nat} {v : Int32} (hd : decode M.2.1 pc = .ok (.ldc i, 2)) (hw : Cond.constant M.1.cls i v ∈ lw_g) (h : Wp G M kc ks (pc + 2) l (.int v :: st) u Q) : Wp G M kc ks pc l st u Q := wp_go (fun _ _ _ _ _ _ _ _ _ _ _ _ _ _ ls C hl k => lv_ldc C.1 C.2.1 C.2.2.2.2.1 (C.2.2.2.2.2.1 _ hw) hd (k ls hl)) h
theorem wp_ldcw {i : Nat} {v : Int32} (hd : decode M.2.1 pc = .ok (.ldc_w i, 3)) (hw : Cond.constant M.1.cls i v ∈ lw_g) (h : Wp G M kc ks (pc + 3) l (.int v :: st) u Q) : Wp G M kc ks pc l st u Q := wp_go (fun _ _ _ _ _ _ _ _ _ _ _ _ _ _ ls C hl k => lv_ldcw C.1 C.2.1 C.2.2.2.2.1 (C.2.2.2.2.2.1 _ hw) hd (k ls hl)) h
theorem wp_ldc2 {i : Nat} {v : Int64} (hd : decode M.2.1 pc = .ok (.ldc2_w i, 3)) (hw : Cond.constantLong M.1.cls i v ∈ lw_g) (h : Wp G M kc ks (pc + 3) l (.long v :: st) u Q) : Wp G M kc ks pc l st u Q := wp_go (fun _ _ _ _ _ _ _ _ _ _ _ _ _ _ ls C hl k => lv_ldc2 C.1 C.2.1 C.2.2.2.2.1 (C.2.2.2.2.2.1 _ hw) hd (k ls hl)) h
theorem wp_iload_n {k0 : Fin 4} {x : Int32} (j : Nat) (hd : decode M.2.1 pc = .ok (.iload_n k0, 1)) (hl : l[j]? = some ((k0 : Nat), .int x)) (h : Wp G M kc ks (pc + 1) l (.int x :: st) u Q) : Wp G M kc ks pc l st u Q := wp_go (fun _ _ _ _ _ _ _ _ _ _ _ _ _ _ ls C hl' k => lv_iload_n C.1 C.2.1 hd rfl (lv_at hl' j (lm_get hl)) (k ls hl')) h
theorem wp_iload {i : Nat} {x : Int32} (j : Nat) (hd : decode M.2.1 pc = .ok (.iload i, 2)) (hl : l[j]? = some (i, .int x)) (h : Wp G M kc ks (pc + 2) l (.int x :: st) u Q) : Wp G M kc ks pc l st u Q := wp_go (fun _ _ _ _ _ _ _ _ _ _ _ _ _ _ ls C hl' k => lv_iload C.1 C.2.1 hd (lv_at hl' j (lm_get hl)) (k ls hl')) h
theorem wp_lload_n {k0 : Fin 4} {x : Int64} (j : Nat) (hd : decode M.2.1 pc = .ok (.lload_n k0, 1)) (hl : l[j]? = some ((k0 : Nat), .long x)) (h : Wp G M kc ks (pc + 1) l (.long x :: st) u Q) : Wp G M kc ks pc l st u Q := wp_go (fun _ _ _ _ _ _ _ _ _ _ _ _ _ _ ls C hl' k => lv_lload_n C.1 C.2.1 hd rfl (lv_at hl' j (lm_get hl)) (k ls hl')) h
theorem wp_lload {i : Nat} {x : Int64} (j : Nat) (hd : decode M.2.1 pc = .ok (.lload i, 2)) (hl : l[j]? = some (i, .long x)) (h : Wp G M kc ks (pc + 2) l (.long x :: st) u Q) : Wp G M kc ks pc l st u Q := wp_go (fun _ _ _ _ _ _ _ _ _ _ _ _ _ _ ls C hl' k => lv_lload C.1 C.2.1 hd (lv_at hl' j (lm_get hl)) (k ls hl')) h
theorem wp_aload_n {k0 : Fin 4} {x : Nat} (j : Nat) (hd : decode M.2.1 pc = .ok (.aload_n k0, 1)) (hl : l[j]? = some ((k0 : Nat), .ref x)) (h : Wp G M kc ks (pc + 1) l (.ref x :: st) u Q) : Wp G M kc ks pc l st u Q := wp_go (fun _ _ _ _ _ _ _ _ _ _ _ _ _ _ ls C hl' k => lv_aload_n C.1 C.2.1 hd rfl (lv_at hl' j (lm_get hl)) (k ls hl')) h
theorem wp_aload {i x : Nat} (j : Nat) (hd : decode M.2.1 pc = .ok (.aload i, 2)) (hl : l[j]? = some (i, .ref x)) (h : Wp G M kc ks (pc + 2) l (.ref x :: st) u Q) : Wp G M kc ks pc l st u Q := wp_go (fun _ _ _ _ _ _ _ _ _ _ _ _ _ _ ls C hl' k => lv_aload C.1 C.2.1 hd (lv_at hl' j (lm_get hl)) (k ls hl')) h
theorem wp_istore_n {k0 : Fin 4} {x : Int32} {l' : pLo} (hd : decode M.2.1 pc = .ok (.istore_n k0, 1)) (hn : (k0 : Nat) < M.2.2.1) (hl : ls1 l k0 (.int x) = l') (h : Wp G M kc ks (pc + 1) l' st u Q) : Wp G M kc ks pc l (.int x :: st) u Q := wp_go (fun _ _ _ _ _ _ _ _ _ _ _ _ _ _ ls C hl' k => lv_istore_n C.1 C.2.1 hd rfl hl' hn (by rw [← hl]; exact lm_ls1 (G := G) l k0 (.int x)) k) h
theorem wp_istore {i : Nat} {x : Int32} {l' : pLo} (hd : decode M.2.1 pc = .ok (.istore i, 2)) (hn : i < M.2.2.1) (hl : ls1 l i (.int x) = l') (h : Wp G M kc ks (pc + 2) l' st u Q) : Wp G M kc ks pc l (.int x :: st) u Q := wp_go (fun _ _ _ _ _ _ _ _ _ _ _ _ _ _ ls C hl' k => lv_istore C.1 C.2.1 hd hl' hn (by rw [← hl]; exact lm_ls1 (G := G) l i (.int x)) k) h
theorem wp_lstore_n {k0 : Fin 4} {x : Int64} {l' : pLo} (hd : decode M.2.1 pc = .ok (.lstore_n k0, 1)) (hn : (k0 : Nat) + 1 < M.2.2.1) (hl : ls2 l k0 (.long x) = l') (h : Wp G M kc ks (pc + 1) l' st u Q) : Wp G M kc ks pc l (.long x :: st) u Q := wp_go (fun _ _ _ _ _ _ _ _ _ _ _ _ _ _ ls C hl' k => lv_lstore_n C.1 C.2.1 hd rfl hl' hn (by rw [← hl]; exact lm_ls2 (G := G) l k0 (.long x)) k) h
theorem wp_lstore {i : Nat} {x : Int64} {l' : pLo} (hd : decode M.2.1 pc = .ok (.lstore i, 2)) (hn : i + 1 < M.2.2.1) (hl : ls2 l i (.long x) = l') (h : Wp G M kc ks (pc + 2) l' st u Q) : Wp G M kc ks pc l (.long x :: st) u Q := wp_go (fun _ _ _ _ _ _ _ _ _ _ _ _ _ _ ls C hl' k => lv_lstore C.1 C.2.1 hd hl' hn (by rw [← hl]; exact lm_ls2 (G := G) l i (.long x)) k) h
theorem wp_astore_n {k0 : Fin 4} {x : Nat} {l' : pLo} (hd : decode M.2.1 pc = .ok (.astore_n k0, 1)) (hn : (k0 : Nat) < M.2.2.1) (hl : ls1 l k0 (.ref x) = l') (h : Wp G M kc ks (pc + 1) l' st u Q) : Wp G M kc ks pc l (.ref x :: st) u Q := wp_go (fun _ _ _ _ _ _ _ _ _ _ _ _ _ _ ls C hl' k => lv_astore_n C.1 C.2.1 hd rfl hl' hn (by rw [← hl]; exact lm_ls1 (G := G) l k0 (.ref x)) k) h
theorem wp_astore {i x : Nat} {l' : pLo} (hd : decode M.2.1 pc = .ok (.astore i, 2)) (hn : i < M.2.2.1) (hl : ls1 l i (.ref x) = l') (h : Wp G M kc ks (pc + 2) l' st u Q) : Wp G M kc ks pc l (.ref x :: st) u Q := wp_go (fun _ _ _ _ _ _ _ _ _ _ _ _ _ _ ls C hl' k => lv_astore C.1 C.2.1 hd hl' hn (by rw [← hl]; exact lm_ls1 (G := G) l i (.ref x)) k) h
theorem wp_iinc {i : Nat} {n : Int} {x v : Int32} {l' : pLo} (j : Nat) (hd : decode M.2.1 pc = .ok (.iinc i n, 3)) (hj : l[j]? = some (i, .int x)) (hv : Int32.ofInt n = v) (hn : i < M.2.2.1) (hl : ls1 l i (.int (x + v)) = l') (h : Wp G M kc ks (pc + 3) l' st u Q) : Wp G M kc ks pc l st u Q := wp_go (fun _ _ _ _ _ _ _ _ _ _ _ _ _ _ ls C hl' k => lv_iinc C.1 C.2.1 hd hl' (lm_get hj) (by rw [hv]) hn (by rw [← hl]; exact lm_ls1 (G := G) l i (.int (x + v))) k) h
theorem wp_iadd {x y : Int32} (hd : decode M.2.1 pc = .ok (.iadd, 1)) (h : Wp G M kc ks (pc + 1) l (.int (x + y) :: st) u Q) : Wp G M kc ks pc l (.int y :: .int x :: st) u Q := wp_go (fun _ _ _ _ _ _ _ _ _ _ _ _ _ _ ls C hl k => lv_iadd C.1 C.2.1 hd (k ls hl)) h
theorem wp_isub {x y : Int32} (hd : decode M.2.1 pc = .ok (.isub, 1)) (h : Wp G M kc ks (pc + 1) l (.int (x - y) :: st) u Q) : Wp G M kc ks pc l (.int y :: .int x :: st) u Q := wp_go (fun _ _ _ _ _ _ _ _ _ _ _ _ _ _ ls C hl k => lv_isub C.1 C.2.1 hd (k ls hl)) h
theorem wp_imul {x y : Int32} (hd : decode M.2.1 pc = .ok (.imul, 1)) (h : Wp G M kc ks (pc + 1) l (.int (x * y) :: st) u Q) : Wp G M kc ks pc l (.int y :: .int x :: st) u Q := wp_go (fun _ _ _ _ _ _ _ _ _ _ _ _ _ _ ls C hl k => lv_imul C.1 C.2.1 hd (k ls hl)) h
theorem wp_iand {x y : Int32} (hd : decode M.2.1 pc = .ok (.iand, 1)) (h : Wp G M kc ks (pc + 1) l (.int (x &&& y) :: st) u Q) : Wp G M kc ks pc l (.int y :: .int x :: st) u Q := wp_go (fun _ _ _ _ _ _ _ _ _ _ _ _ _ _ ls C hl k => lv_iand C.1 C.2.1 hd (k ls hl)) h
theorem wp_ior {x y : Int32} (hd : decode M.2.1 pc = .ok (.ior, 1)) (h : Wp G M kc ks (pc + 1) l (.int (x ||| y) :: st) u Q) : Wp G M kc ks pc l (.int y :: .int x :: st) u Q := wp_go (fun _ _ _ _ _ _ _ _ _ _ _ _ _ _ ls C hl k => lv_ior C.1 C.2.1 hd (k ls hl)) h
theorem wp_ixor {x y : Int32} (hd : decode M.2.1 pc = .ok (.ixor, 1)) (h : Wp G M kc ks (pc + 1) l (.int (x ^^^ y) :: st) u Q) : Wp G M kc ks pc l (.int y :: .int x :: st) u Q := wp_go (fun _ _ _ _ _ _ _ _ _ _ _ _ _ _ ls C hl k => lv_ixor C.1 C.2.1 hd (k ls hl)) h
theorem wp_idiv {x y : Int32} (hd : decode M.2.1 pc = .ok (.idiv, 1)) (hne : ¬ y = 0) (h : Wp G M kc ks (pc + 1) l (.int (x / y) :: st) u Q) : Wp G M kc ks pc l (.int y :: .int x :: st) u Q := wp_go (fun _ _ _ _ _ _ _ _ _ _ _ _ _ _ ls C hl k => lv_idiv C.1 C.2.1 hd hne (k ls hl)) h
theorem wp_irem {x y : Int32} (hd : decode M.2.1 pc = .ok (.irem, 1)) (hne : ¬ y = 0) (h : Wp G M kc ks (pc + 1) l (.int (x - x / y * y) :: st) u Q) : Wp G M kc ks pc l (.int y :: .int x :: st) u Q := wp_go (fun _ _ _ _ _ _ _ _ _ _ _ _ _ _ ls C hl k => lv_irem C.1 C.2.1 hd hne (k ls hl)) h
theorem wp_ineg {x : Int32} (hd : decode M.2.1 pc = .ok (.ineg, 1)) (h : Wp G M kc ks (pc + 1) l (.int (-x) :: st) u Q) : Wp G M kc ks pc l (.int x :: st) u Q := wp_go (fun _ _ _ _ _ _ _ _ _ _ _ _ _ _ ls C hl k => lv_ineg C.1 C.2.1 hd (k ls hl)) h
theorem wp_ishl {x y : Int32} (hd : decode M.2.1 pc = .ok (.ishl, 1)) (h : Wp G M kc ks (pc + 1) l (.int (x <<< (y &&& 31)) :: st) u Q) : Wp G M kc ks pc l (.int y :: .int x :: st) u Q := wp_go (fun _ _ _ _ _ _ _ _ _ _ _ _ _ _ ls C hl k => lv_ishl C.1 C.2.1 hd (k ls hl)) h
theorem wp_ishr {x y : Int32} (hd : decode M.2.1 pc = .ok (.ishr, 1)) (h : Wp G M kc ks (pc + 1) l (.int (x >>> (y &&& 31)) :: st) u Q) : Wp G M kc ks pc l (.int y :: .int x :: st) u Q := wp_go (fun _ _ _ _ _ _ _ _ _ _ _ _ _ _ ls C hl k => lv_ishr C.1 C.2.1 hd (k ls hl)) h
theorem wp_iushr {x y : Int32} (hd : decode M.2.1 pc = .ok (.iushr, 1)) (h : Wp G M kc ks (pc + 1) l (.int (x.toUInt32 >>> (y.toUInt32 &&& Int32.toUInt32 31)).toInt32 :: st) u Q) : Wp G M kc ks pc l (.int y :: .int x :: st) u Q := wp_go (fun _ _ _ _ _ _ _ _ _ _ _ _ _ _ ls C hl k => lv_iushr C.1 C.2.1 hd rfl (k ls hl)) h
theorem wp_ladd {x y : Int64} (hd : decode M.2.1 pc = .ok (.ladd, 1)) (h : Wp G M kc ks (pc + 1) l (.long (x + y) :: st) u Q) : Wp G M kc ks pc l (.long y :: .long x :: st) u Q := wp_go (fun _ _ _ _ _ _ _ _ _ _ _ _ _ _ ls C hl k => lv_ladd C.1 C.2.1 hd (k ls hl)) h
theorem wp_lsub {x y : Int64} (hd : decode M.2.1 pc = .ok (.lsub, 1)) (h : Wp G M kc ks (pc + 1) l (.long (x - y) :: st) u Q) : Wp G M kc ks pc l (.long y :: .long x :: st) u Q := wp_go (fun _ _ _ _ _ _ _ _ _ _ _ _ _ _ ls C hl k => lv_lsub C.1 C.2.1 hd (k ls hl)) h
theorem wp_lmul {x y : Int64} (hd : decode M.2.1 pc = .ok (.lmul, 1)) (h : Wp G M kc ks (pc + 1) l (.long (x * y) :: st) u Q) : Wp G M kc ks pc l (.long y :: .long x :: st) u Q := wp_go (fun _ _ _ _ _ _ _ _ _ _ _ _ _ _ ls C hl k => lv_lmul C.1 C.2.1 hd (k ls hl)) h
theorem wp_lxor {x y : Int64} (hd : decode M.2.1 pc = .ok (.lxor, 1)) (h : Wp G M kc ks (pc + 1) l (.long (x ^^^ y) :: st) u Q) : Wp G M kc ks pc l (.long y :: .long x :: st) u Q := wp_go (fun _ _ _ _ _ _ _ _ _ _ _ _ _ _ ls C hl k => lv_lxor C.1 C.2.1 hd (k ls hl)) h
theorem wp_ldiv {x y : Int64} (hd : decode M.2.1 pc = .ok (.ldiv, 1)) (hne : ¬ y = 0) (h : Wp G M kc ks (pc + 1) l (.long (x / y) :: st) u Q) : Wp G M kc ks pc l (.long y :: .long x :: st) u Q := wp_go (fun _ _ _ _ _ _ _ _ _ _ _ _ _ _ ls C hl k => lv_ldiv C.1 C.2.1 hd hne (k ls hl)) h
theorem wp_lrem {x y : Int64} (hd : decode M.2.1 pc = .ok (.lrem, 1)) (hne : ¬ y = 0) (h : Wp G M kc ks (pc + 1) l (.long (x - x / y * y) :: st) u Q) : Wp G M kc ks pc l (.long y :: .long x :: st) u Q := wp_go (fun _ _ _ _ _ _ _ _ _ _ _ _ _ _ ls C hl k => lv_lrem C.1 C.2.1 hd hne (k ls hl)) h
theorem wp_lneg {x : Int64} (hd : decode M.2.1 pc = .ok (.lneg, 1)) (h : Wp G M kc ks (pc + 1) l (.long (-x) :: st) u Q) : Wp G M kc ks pc l (.long x :: st) u Q := wp_go (fun _ _ _ _ _ _ _ _ _ _ _ _ _ _ ls C hl k => lv_lneg C.1 C.2.1 hd (k ls hl)) h
theorem wp_lshl {x : Int64} {y : Int32} (hd : decode M.2.1 pc = .ok (.lshl, 1)) (h : Wp G M kc ks (pc + 1) l (.long (x <<< (y.toInt64 &&& 63)) :: st) u Q) : Wp G M kc ks pc l (.int y :: .long x :: st) u Q := wp_go (fun _ _ _ _ _ _ _ _ _ _ _ _ _ _ ls C hl k => lv_lshl C.1 C.2.1 hd rfl (k ls hl)) h
theorem wp_lshr {x : Int64} {y : Int32} (hd : decode M.2.1 pc = .ok (.lshr, 1)) (h : Wp G M kc ks (pc + 1) l (.long (x >>> (y.toInt64 &&& 63)) :: st) u Q) : Wp G M kc ks pc l (.int y :: .long x :: st) u Q := wp_go (fun _ _ _ _ _ _ _ _ _ _ _ _ _ _ ls C hl k => lv_lshr C.1 C.2.1 hd rfl (k ls hl)) h
theorem wp_i2l {x : Int32} (hd : decode M.2.1 pc = .ok (.i2l, 1)) (h : Wp G M kc ks (pc + 1) l (.long x.toInt64 :: st) u Q) : Wp G M kc ks pc l (.int x :: st) u Q := wp_go (fun _ _ _ _ _ _ _ _ _ _ _ _ _ _ ls C hl k => lv_i2l C.1 C.2.1 hd rfl (k ls hl)) h
theorem wp_l2i {x : Int64} (hd : decode M.2.1 pc = .ok (.l2i, 1)) (h : Wp G M kc ks (pc + 1) l (.int x.toInt32 :: st) u Q) : Wp G M kc ks pc l (.long x :: st) u Q := wp_go (fun _ _ _ _ _ _ _ _ _ _ _ _ _ _ ls C hl k => lv_l2i C.1 C.2.1 hd rfl (k ls hl)) h
theorem wp_i2b {x : Int32} (hd : decode M.2.1 pc = .ok (.i2b, 1)) (h : Wp G M kc ks (pc + 1) l (.int x.toInt8.toInt32 :: st) u Q) : Wp G M kc ks pc l (.int x :: st) u Q := wp_go (fun _ _ _ _ _ _ _ _ _ _ _ _ _ _ ls C hl k => lv_i2b C.1 C.2.1 hd rfl (k ls hl)) h
theorem wp_dup {v : Value} (hd : decode M.2.1 pc = .ok (.dup, 1)) (hv : v.category = 1) (h : Wp G M kc ks (pc + 1) l (v :: v :: st) u Q) : Wp G M kc ks pc l (v :: st) u Q := wp_go (fun _ _ _ _ _ _ _ _ _ _ _ _ _ _ ls C hl k => lv_dup C.1 C.2.1 hd ((tv_cat v).trans hv) (k ls hl)) h
theorem wp_pop {v : Value} (hd : decode M.2.1 pc = .ok (.pop, 1)) (hv : v.category = 1) (h : Wp G M kc ks (pc + 1) l st u Q) : Wp G M kc ks pc l (v :: st) u Q := wp_go (fun _ _ _ _ _ _ _ _ _ _ _ _ _ _ ls C hl k => lv_pop C.1 C.2.1 hd ((tv_cat v).trans hv) (k ls hl)) h
theorem wp_dup2 {v w : Value} (hd : decode M.2.1 pc = .ok (.dup2, 1)) (hv : v.category = 1) (hw : w.category = 1) (h : Wp G M kc ks (pc + 1) l (v :: w :: v :: w :: st) u Q) : Wp G M kc ks pc l (v :: w :: st) u Q := wp_go (fun _ _ _ _ _ _ _ _ _ _ _ _ _ _ ls C hl k => lv_dup2_11 C.1 C.2.1 hd ((tv_cat v).trans hv) ((tv_cat w).trans hw) (k ls hl)) h
theorem wp_dup_x1 {v w : Value} (hd : decode M.2.1 pc = .ok (.dup_x1, 1)) (hv : v.category = 1) (hw : w.category = 1) (h : Wp G M kc ks (pc + 1) l (v :: w :: v :: st) u Q) : Wp G M kc ks pc l (v :: w :: st) u Q := wp_go (fun _ _ _ _ _ _ _ _ _ _ _ _ _ _ ls C hl k => lv_dup_x1 C.1 C.2.1 hd ((tv_cat v).trans hv) ((tv_cat w).trans hw) (k ls hl)) h
theorem wp_pop2 {v : Value} (hd : decode M.2.1 pc = .ok (.pop2, 1)) (hv : v.category = 2) (h : Wp G M kc ks (pc + 1) l st u Q) : Wp G M kc ks pc l (v :: st) u Q := wp_go (fun _ _ _ _ _ _ _ _ _ _ _ _ _ _ ls C hl k => lv_pop2_2 C.1 C.2.1 hd ((tv_cat v).trans hv) (k ls hl)) h
theorem wp_goto {off : Int} {tgt : Nat} (hd : decode M.2.1 pc = .ok (.goto off, 3)) (ht : (pc : Int) + off = (tgt : Int)) (h : Wp G M kc ks tgt l st u Q) : Wp G M kc ks pc l st u Q := wp_go (fun _ _ _ _ _ _ _ _ _ _ _ _ _ _ ls C hl k => lv_goto C.1 C.2.1 hd ht (k ls hl)) h
theorem wp_ifnull {x : Nat} {off : Int} (hd : decode M.2.1 pc = .ok (.ifnull off, 3)) (h : Wp G M kc ks (pc + 3) l st u Q) : Wp G M kc ks pc l (.ref x :: st) u Q := wp_go (fun _ _ _ _ _ _ _ _ _ _ _ _ _ _ ls C hl k => lv_ifnull C.1 C.2.1 hd (k ls hl)) h
theorem wp_lcmp {x y : Int64} (hd : decode M.2.1 pc = .ok (.lcmp, 1)) (h : Wp G M kc ks (pc + 1) l (.int (lg_cmp x y) :: st) u Q) : Wp G M kc ks pc l (.long y :: .long x :: st) u Q := wp_go (fun _ _ _ _ _ _ _ _ _ _ _ _ _ _ ls C hl k => W.lcmp C.1 C.2.1 hd (k ls hl)) h
end CORE
end
