-- ===== PART A: goes FIRST, ahead of the names: the tables' words, and 'selects' of the private methods out of them =====
/-- a private method of a class that the tables say can be made, by its rows of tables_1 -/
def lw_okq (q : MethodName × Nat) : Prop := (q.1.cls ≠ "java/lang/invoke/MethodHandle" ∧ q.1.cls ≠ "java/lang/invoke/VarHandle") ∧ Cond.instantiable q.1.cls q.2 ∈ tables_1 ∧ Cond.privateMethod q.1 ∈ tables_1 ∧ Cond.instanceMethod q.1 ∈ tables_1
theorem lw_p0 : lw_okq (⟨"BellThatIsADoor", "rowOn", "(I)LBellThatIsADoor$Row;"⟩, 11) := ⟨⟨by decide +kernel, by decide +kernel⟩, List.mem_of_getElem? (i := 24) (by decide +kernel), List.mem_of_getElem? (i := 325) (by decide +kernel), List.mem_of_getElem? (i := 326) (by decide +kernel)⟩
theorem lw_p1 : lw_okq (⟨"BellThatIsADoor", "lackOfRow", "(I)I"⟩, 11) := ⟨⟨by decide +kernel, by decide +kernel⟩, List.mem_of_getElem? (i := 24) (by decide +kernel), List.mem_of_getElem? (i := 332) (by decide +kernel), List.mem_of_getElem? (i := 333) (by decide +kernel)⟩
theorem lw_p2 : lw_okq (⟨"BellThatIsADoor", "doStatements", "(LBellThatIsADoor$Row;)I"⟩, 11) := ⟨⟨by decide +kernel, by decide +kernel⟩, List.mem_of_getElem? (i := 24) (by decide +kernel), List.mem_of_getElem? (i := 357) (by decide +kernel), List.mem_of_getElem? (i := 358) (by decide +kernel)⟩
theorem lw_p3 : lw_okq (⟨"BellThatIsADoor", "isDone", "(LBellThatIsADoor$Row;I)Z"⟩, 11) := ⟨⟨by decide +kernel, by decide +kernel⟩, List.mem_of_getElem? (i := 24) (by decide +kernel), List.mem_of_getElem? (i := 365) (by decide +kernel), List.mem_of_getElem? (i := 366) (by decide +kernel)⟩
theorem lw_p4 : lw_okq (⟨"BellThatIsADoor", "houseOf", "(II)LBellThatIsADoor$Bell;"⟩, 11) := ⟨⟨by decide +kernel, by decide +kernel⟩, List.mem_of_getElem? (i := 24) (by decide +kernel), List.mem_of_getElem? (i := 372) (by decide +kernel), List.mem_of_getElem? (i := 373) (by decide +kernel)⟩
theorem lw_p5 : lw_okq (⟨"BellThatIsADoor$Marsh", "rungWithOneMore", "(III)I"⟩, 11) := ⟨⟨by decide +kernel, by decide +kernel⟩, List.mem_of_getElem? (i := 32) (by decide +kernel), List.mem_of_getElem? (i := 394) (by decide +kernel), List.mem_of_getElem? (i := 395) (by decide +kernel)⟩
theorem lw_p6 : lw_okq (⟨"BellThatIsADoor", "bellOn", "(I)LBellThatIsADoor$Bell;"⟩, 11) := ⟨⟨by decide +kernel, by decide +kernel⟩, List.mem_of_getElem? (i := 24) (by decide +kernel), List.mem_of_getElem? (i := 427) (by decide +kernel), List.mem_of_getElem? (i := 428) (by decide +kernel)⟩
theorem lw_p7 : lw_okq (⟨"BellThatIsADoor", "lackOfBell", "(I)I"⟩, 11) := ⟨⟨by decide +kernel, by decide +kernel⟩, List.mem_of_getElem? (i := 24) (by decide +kernel), List.mem_of_getElem? (i := 431) (by decide +kernel), List.mem_of_getElem? (i := 432) (by decide +kernel)⟩
theorem lw_p8 : lw_okq (⟨"BellThatIsADoor$Errand", "keepOrder", "(II)V"⟩, 5) := ⟨⟨by decide +kernel, by decide +kernel⟩, List.mem_of_getElem? (i := 81) (by decide +kernel), List.mem_of_getElem? (i := 526) (by decide +kernel), List.mem_of_getElem? (i := 527) (by decide +kernel)⟩
theorem lw_p9 : lw_okq (⟨"BellThatIsADoor$Errand", "ringsFrom", "(LBellThatIsADoor$Marsh;II)I"⟩, 5) := ⟨⟨by decide +kernel, by decide +kernel⟩, List.mem_of_getElem? (i := 81) (by decide +kernel), List.mem_of_getElem? (i := 544) (by decide +kernel), List.mem_of_getElem? (i := 545) (by decide +kernel)⟩
theorem lw_p10 : lw_okq (⟨"BellThatIsADoor", "mayBeHeard", "(LBellThatIsADoor$Row;II)Z"⟩, 11) := ⟨⟨by decide +kernel, by decide +kernel⟩, List.mem_of_getElem? (i := 24) (by decide +kernel), List.mem_of_getElem? (i := 586) (by decide +kernel), List.mem_of_getElem? (i := 587) (by decide +kernel)⟩
theorem lw_p11 : lw_okq (⟨"BellThatIsADoor", "whyNotHeard", "(III)I"⟩, 11) := ⟨⟨by decide +kernel, by decide +kernel⟩, List.mem_of_getElem? (i := 24) (by decide +kernel), List.mem_of_getElem? (i := 590) (by decide +kernel), List.mem_of_getElem? (i := 591) (by decide +kernel)⟩
theorem lw_p12 : lw_okq (⟨"BellThatIsADoor", "kindsThatRang", "(LBellThatIsADoor$Row;I)I"⟩, 11) := ⟨⟨by decide +kernel, by decide +kernel⟩, List.mem_of_getElem? (i := 24) (by decide +kernel), List.mem_of_getElem? (i := 594) (by decide +kernel), List.mem_of_getElem? (i := 595) (by decide +kernel)⟩
theorem lw_p13 : lw_okq (⟨"BellThatIsADoor", "couldRing", "(LBellThatIsADoor$Row;LBellThatIsADoor$Bell;I)Z"⟩, 11) := ⟨⟨by decide +kernel, by decide +kernel⟩, List.mem_of_getElem? (i := 24) (by decide +kernel), List.mem_of_getElem? (i := 603) (by decide +kernel), List.mem_of_getElem? (i := 604) (by decide +kernel)⟩
theorem lw_p14 : lw_okq (⟨"BellThatIsADoor", "figuresThatRang", "(LBellThatIsADoor$Row;I)I"⟩, 11) := ⟨⟨by decide +kernel, by decide +kernel⟩, List.mem_of_getElem? (i := 24) (by decide +kernel), List.mem_of_getElem? (i := 617) (by decide +kernel), List.mem_of_getElem? (i := 618) (by decide +kernel)⟩
theorem lw_p15 : lw_okq (⟨"BellThatIsADoor", "unlikeAt", "(III)I"⟩, 11) := ⟨⟨by decide +kernel, by decide +kernel⟩, List.mem_of_getElem? (i := 24) (by decide +kernel), List.mem_of_getElem? (i := 629) (by decide +kernel), List.mem_of_getElem? (i := 630) (by decide +kernel)⟩
def lw_privs_1 : List (MethodName × Nat) := [(⟨"BellThatIsADoor", "rowOn", "(I)LBellThatIsADoor$Row;"⟩, 11), (⟨"BellThatIsADoor", "lackOfRow", "(I)I"⟩, 11), (⟨"BellThatIsADoor", "doStatements", "(LBellThatIsADoor$Row;)I"⟩, 11), (⟨"BellThatIsADoor", "isDone", "(LBellThatIsADoor$Row;I)Z"⟩, 11), (⟨"BellThatIsADoor", "houseOf", "(II)LBellThatIsADoor$Bell;"⟩, 11), (⟨"BellThatIsADoor$Marsh", "rungWithOneMore", "(III)I"⟩, 11), (⟨"BellThatIsADoor", "bellOn", "(I)LBellThatIsADoor$Bell;"⟩, 11), (⟨"BellThatIsADoor", "lackOfBell", "(I)I"⟩, 11), (⟨"BellThatIsADoor$Errand", "keepOrder", "(II)V"⟩, 5), (⟨"BellThatIsADoor$Errand", "ringsFrom", "(LBellThatIsADoor$Marsh;II)I"⟩, 5), (⟨"BellThatIsADoor", "mayBeHeard", "(LBellThatIsADoor$Row;II)Z"⟩, 11), (⟨"BellThatIsADoor", "whyNotHeard", "(III)I"⟩, 11), (⟨"BellThatIsADoor", "kindsThatRang", "(LBellThatIsADoor$Row;I)I"⟩, 11), (⟨"BellThatIsADoor", "couldRing", "(LBellThatIsADoor$Row;LBellThatIsADoor$Bell;I)Z"⟩, 11), (⟨"BellThatIsADoor", "figuresThatRang", "(LBellThatIsADoor$Row;I)I"⟩, 11), (⟨"BellThatIsADoor", "unlikeAt", "(III)I"⟩, 11)]
theorem lw_r1 : ∀ q ∈ lw_privs_1, lw_okq q := List.forall_mem_cons.mpr ⟨lw_p0, List.forall_mem_cons.mpr ⟨lw_p1, List.forall_mem_cons.mpr ⟨lw_p2, List.forall_mem_cons.mpr ⟨lw_p3, List.forall_mem_cons.mpr ⟨lw_p4, List.forall_mem_cons.mpr ⟨lw_p5, List.forall_mem_cons.mpr ⟨lw_p6, List.forall_mem_cons.mpr ⟨lw_p7, List.forall_mem_cons.mpr ⟨lw_p8, List.forall_mem_cons.mpr ⟨lw_p9, List.forall_mem_cons.mpr ⟨lw_p10, List.forall_mem_cons.mpr ⟨lw_p11, List.forall_mem_cons.mpr ⟨lw_p12, List.forall_mem_cons.mpr ⟨lw_p13, List.forall_mem_cons.mpr ⟨lw_p14, List.forall_mem_cons.mpr ⟨lw_p15, fun _ h => absurd h List.not_mem_nil⟩⟩⟩⟩⟩⟩⟩⟩⟩⟩⟩⟩⟩⟩⟩⟩
theorem lw_p16 : lw_okq (⟨"BellThatIsADoor", "isAmong", "(II)Z"⟩, 11) := ⟨⟨by decide +kernel, by decide +kernel⟩, List.mem_of_getElem? (i := 24) (by decide +kernel), List.mem_of_getElem? (i := 633) (by decide +kernel), List.mem_of_getElem? (i := 634) (by decide +kernel)⟩
theorem lw_p17 : lw_okq (⟨"BellThatIsADoor", "waysStayingClosed", "(III)J"⟩, 11) := ⟨⟨by decide +kernel, by decide +kernel⟩, List.mem_of_getElem? (i := 24) (by decide +kernel), List.mem_of_getElem? (i := 657) (by decide +kernel), List.mem_of_getElem? (i := 658) (by decide +kernel)⟩
theorem lw_p18 : lw_okq (⟨"BellThatIsADoor", "allClosed", "()J"⟩, 11) := ⟨⟨by decide +kernel, by decide +kernel⟩, List.mem_of_getElem? (i := 24) (by decide +kernel), List.mem_of_getElem? (i := 663) (by decide +kernel), List.mem_of_getElem? (i := 664) (by decide +kernel)⟩
theorem lw_p19 : lw_okq (⟨"BellThatIsADoor$Marsh", "sumOf", "([I)I"⟩, 11) := ⟨⟨by decide +kernel, by decide +kernel⟩, List.mem_of_getElem? (i := 32) (by decide +kernel), List.mem_of_getElem? (i := 685) (by decide +kernel), List.mem_of_getElem? (i := 686) (by decide +kernel)⟩
theorem lw_p20 : lw_okq (⟨"BellThatIsADoor", "holdsNothing", "(I)Z"⟩, 11) := ⟨⟨by decide +kernel, by decide +kernel⟩, List.mem_of_getElem? (i := 24) (by decide +kernel), List.mem_of_getElem? (i := 771) (by decide +kernel), List.mem_of_getElem? (i := 772) (by decide +kernel)⟩
theorem lw_p21 : lw_okq (⟨"java/lang/Throwable", "fillInStackTrace", "(I)Ljava/lang/Throwable;"⟩, 6) := ⟨⟨by decide +kernel, by decide +kernel⟩, List.mem_of_getElem? (i := 841) (by decide +kernel), List.mem_of_getElem? (i := 839) (by decide +kernel), List.mem_of_getElem? (i := 840) (by decide +kernel)⟩
theorem lw_p22 : lw_okq (⟨"BellThatIsADoorModel", "wrongRow", "(II)I"⟩, 21) := ⟨⟨by decide +kernel, by decide +kernel⟩, List.mem_of_getElem? (i := 929) (by decide +kernel), List.mem_of_getElem? (i := 1003) (by decide +kernel), List.mem_of_getElem? (i := 1004) (by decide +kernel)⟩
theorem lw_p23 : lw_okq (⟨"BellThatIsADoorModel", "readsStatement", "()Z"⟩, 21) := ⟨⟨by decide +kernel, by decide +kernel⟩, List.mem_of_getElem? (i := 929) (by decide +kernel), List.mem_of_getElem? (i := 1013) (by decide +kernel), List.mem_of_getElem? (i := 1014) (by decide +kernel)⟩
theorem lw_p24 : lw_okq (⟨"BellThatIsADoorModel", "here", "()I"⟩, 21) := ⟨⟨by decide +kernel, by decide +kernel⟩, List.mem_of_getElem? (i := 929) (by decide +kernel), List.mem_of_getElem? (i := 1017) (by decide +kernel), List.mem_of_getElem? (i := 1018) (by decide +kernel)⟩
theorem lw_p25 : lw_okq (⟨"BellThatIsADoorModel", "readsNumber", "(II)Z"⟩, 21) := ⟨⟨by decide +kernel, by decide +kernel⟩, List.mem_of_getElem? (i := 929) (by decide +kernel), List.mem_of_getElem? (i := 1021) (by decide +kernel), List.mem_of_getElem? (i := 1022) (by decide +kernel)⟩
theorem lw_p26 : lw_okq (⟨"BellThatIsADoorModel", "isDone", "(I)Z"⟩, 21) := ⟨⟨by decide +kernel, by decide +kernel⟩, List.mem_of_getElem? (i := 929) (by decide +kernel), List.mem_of_getElem? (i := 1028) (by decide +kernel), List.mem_of_getElem? (i := 1029) (by decide +kernel)⟩
theorem lw_p27 : lw_okq (⟨"BellThatIsADoorModel", "adds", "(III)V"⟩, 21) := ⟨⟨by decide +kernel, by decide +kernel⟩, List.mem_of_getElem? (i := 929) (by decide +kernel), List.mem_of_getElem? (i := 1035) (by decide +kernel), List.mem_of_getElem? (i := 1036) (by decide +kernel)⟩
theorem lw_p28 : lw_okq (⟨"BellThatIsADoorModel", "isBell", "(I)Z"⟩, 21) := ⟨⟨by decide +kernel, by decide +kernel⟩, List.mem_of_getElem? (i := 929) (by decide +kernel), List.mem_of_getElem? (i := 1042) (by decide +kernel), List.mem_of_getElem? (i := 1043) (by decide +kernel)⟩
theorem lw_p29 : lw_okq (⟨"BellThatIsADoorModel", "canGo", "(I)Z"⟩, 21) := ⟨⟨by decide +kernel, by decide +kernel⟩, List.mem_of_getElem? (i := 929) (by decide +kernel), List.mem_of_getElem? (i := 1073) (by decide +kernel), List.mem_of_getElem? (i := 1074) (by decide +kernel)⟩
theorem lw_p30 : lw_okq (⟨"BellThatIsADoorModel", "hoursGo", "(I)V"⟩, 21) := ⟨⟨by decide +kernel, by decide +kernel⟩, List.mem_of_getElem? (i := 929) (by decide +kernel), List.mem_of_getElem? (i := 1077) (by decide +kernel), List.mem_of_getElem? (i := 1078) (by decide +kernel)⟩
theorem lw_p31 : lw_okq (⟨"BellThatIsADoorModel", "wrongKept", "(I)I"⟩, 21) := ⟨⟨by decide +kernel, by decide +kernel⟩, List.mem_of_getElem? (i := 929) (by decide +kernel), List.mem_of_getElem? (i := 1092) (by decide +kernel), List.mem_of_getElem? (i := 1093) (by decide +kernel)⟩
def lw_privs_2 : List (MethodName × Nat) := [(⟨"BellThatIsADoor", "isAmong", "(II)Z"⟩, 11), (⟨"BellThatIsADoor", "waysStayingClosed", "(III)J"⟩, 11), (⟨"BellThatIsADoor", "allClosed", "()J"⟩, 11), (⟨"BellThatIsADoor$Marsh", "sumOf", "([I)I"⟩, 11), (⟨"BellThatIsADoor", "holdsNothing", "(I)Z"⟩, 11), (⟨"java/lang/Throwable", "fillInStackTrace", "(I)Ljava/lang/Throwable;"⟩, 6), (⟨"BellThatIsADoorModel", "wrongRow", "(II)I"⟩, 21), (⟨"BellThatIsADoorModel", "readsStatement", "()Z"⟩, 21), (⟨"BellThatIsADoorModel", "here", "()I"⟩, 21), (⟨"BellThatIsADoorModel", "readsNumber", "(II)Z"⟩, 21), (⟨"BellThatIsADoorModel", "isDone", "(I)Z"⟩, 21), (⟨"BellThatIsADoorModel", "adds", "(III)V"⟩, 21), (⟨"BellThatIsADoorModel", "isBell", "(I)Z"⟩, 21), (⟨"BellThatIsADoorModel", "canGo", "(I)Z"⟩, 21), (⟨"BellThatIsADoorModel", "hoursGo", "(I)V"⟩, 21), (⟨"BellThatIsADoorModel", "wrongKept", "(I)I"⟩, 21)]
theorem lw_r2 : ∀ q ∈ lw_privs_2, lw_okq q := List.forall_mem_cons.mpr ⟨lw_p16, List.forall_mem_cons.mpr ⟨lw_p17, List.forall_mem_cons.mpr ⟨lw_p18, List.forall_mem_cons.mpr ⟨lw_p19, List.forall_mem_cons.mpr ⟨lw_p20, List.forall_mem_cons.mpr ⟨lw_p21, List.forall_mem_cons.mpr ⟨lw_p22, List.forall_mem_cons.mpr ⟨lw_p23, List.forall_mem_cons.mpr ⟨lw_p24, List.forall_mem_cons.mpr ⟨lw_p25, List.forall_mem_cons.mpr ⟨lw_p26, List.forall_mem_cons.mpr ⟨lw_p27, List.forall_mem_cons.mpr ⟨lw_p28, List.forall_mem_cons.mpr ⟨lw_p29, List.forall_mem_cons.mpr ⟨lw_p30, List.forall_mem_cons.mpr ⟨lw_p31, fun _ h => absurd h List.not_mem_nil⟩⟩⟩⟩⟩⟩⟩⟩⟩⟩⟩⟩⟩⟩⟩⟩
theorem lw_p32 : lw_okq (⟨"BellThatIsADoorModel", "homeAt", "(I)I"⟩, 21) := ⟨⟨by decide +kernel, by decide +kernel⟩, List.mem_of_getElem? (i := 929) (by decide +kernel), List.mem_of_getElem? (i := 1112) (by decide +kernel), List.mem_of_getElem? (i := 1113) (by decide +kernel)⟩
theorem lw_p33 : lw_okq (⟨"BellThatIsADoorModel", "hoursHome", "(I)I"⟩, 21) := ⟨⟨by decide +kernel, by decide +kernel⟩, List.mem_of_getElem? (i := 929) (by decide +kernel), List.mem_of_getElem? (i := 1120) (by decide +kernel), List.mem_of_getElem? (i := 1121) (by decide +kernel)⟩
theorem lw_p34 : lw_okq (⟨"BellThatIsADoorModel", "opensWithin", "(II)I"⟩, 21) := ⟨⟨by decide +kernel, by decide +kernel⟩, List.mem_of_getElem? (i := 929) (by decide +kernel), List.mem_of_getElem? (i := 1132) (by decide +kernel), List.mem_of_getElem? (i := 1133) (by decide +kernel)⟩
theorem lw_p35 : lw_okq (⟨"BellThatIsADoorModel", "goesOn", "(IIII)V"⟩, 21) := ⟨⟨by decide +kernel, by decide +kernel⟩, List.mem_of_getElem? (i := 929) (by decide +kernel), List.mem_of_getElem? (i := 1153) (by decide +kernel), List.mem_of_getElem? (i := 1154) (by decide +kernel)⟩
theorem lw_p36 : lw_okq (⟨"BellThatIsADoorModel", "openedBy", "(II)I"⟩, 21) := ⟨⟨by decide +kernel, by decide +kernel⟩, List.mem_of_getElem? (i := 929) (by decide +kernel), List.mem_of_getElem? (i := 1163) (by decide +kernel), List.mem_of_getElem? (i := 1164) (by decide +kernel)⟩
theorem lw_p37 : lw_okq (⟨"BellThatIsADoorModel", "areHome", "(I)Z"⟩, 21) := ⟨⟨by decide +kernel, by decide +kernel⟩, List.mem_of_getElem? (i := 929) (by decide +kernel), List.mem_of_getElem? (i := 1174) (by decide +kernel), List.mem_of_getElem? (i := 1175) (by decide +kernel)⟩
theorem lw_p38 : lw_okq (⟨"BellThatIsADoorModel", "wrongHeard", "(I)I"⟩, 21) := ⟨⟨by decide +kernel, by decide +kernel⟩, List.mem_of_getElem? (i := 929) (by decide +kernel), List.mem_of_getElem? (i := 1190) (by decide +kernel), List.mem_of_getElem? (i := 1191) (by decide +kernel)⟩
theorem lw_p39 : lw_okq (⟨"BellThatIsADoorModel", "heardBy", "(III)I"⟩, 21) := ⟨⟨by decide +kernel, by decide +kernel⟩, List.mem_of_getElem? (i := 929) (by decide +kernel), List.mem_of_getElem? (i := 1194) (by decide +kernel), List.mem_of_getElem? (i := 1195) (by decide +kernel)⟩
theorem lw_p40 : lw_okq (⟨"BellThatIsADoorModel", "isHeard", "(II)Z"⟩, 21) := ⟨⟨by decide +kernel, by decide +kernel⟩, List.mem_of_getElem? (i := 929) (by decide +kernel), List.mem_of_getElem? (i := 1198) (by decide +kernel), List.mem_of_getElem? (i := 1199) (by decide +kernel)⟩
theorem lw_p41 : lw_okq (⟨"BellThatIsADoorModel", "stepsAll", "()I"⟩, 21) := ⟨⟨by decide +kernel, by decide +kernel⟩, List.mem_of_getElem? (i := 929) (by decide +kernel), List.mem_of_getElem? (i := 1243) (by decide +kernel), List.mem_of_getElem? (i := 1244) (by decide +kernel)⟩
theorem lw_p42 : lw_okq (⟨"BellThatIsADoorModel", "drawn", "(I)I"⟩, 21) := ⟨⟨by decide +kernel, by decide +kernel⟩, List.mem_of_getElem? (i := 929) (by decide +kernel), List.mem_of_getElem? (i := 1263) (by decide +kernel), List.mem_of_getElem? (i := 1264) (by decide +kernel)⟩
def lw_privs_3 : List (MethodName × Nat) := [(⟨"BellThatIsADoorModel", "homeAt", "(I)I"⟩, 21), (⟨"BellThatIsADoorModel", "hoursHome", "(I)I"⟩, 21), (⟨"BellThatIsADoorModel", "opensWithin", "(II)I"⟩, 21), (⟨"BellThatIsADoorModel", "goesOn", "(IIII)V"⟩, 21), (⟨"BellThatIsADoorModel", "openedBy", "(II)I"⟩, 21), (⟨"BellThatIsADoorModel", "areHome", "(I)Z"⟩, 21), (⟨"BellThatIsADoorModel", "wrongHeard", "(I)I"⟩, 21), (⟨"BellThatIsADoorModel", "heardBy", "(III)I"⟩, 21), (⟨"BellThatIsADoorModel", "isHeard", "(II)Z"⟩, 21), (⟨"BellThatIsADoorModel", "stepsAll", "()I"⟩, 21), (⟨"BellThatIsADoorModel", "drawn", "(I)I"⟩, 21)]
theorem lw_r3 : ∀ q ∈ lw_privs_3, lw_okq q := List.forall_mem_cons.mpr ⟨lw_p32, List.forall_mem_cons.mpr ⟨lw_p33, List.forall_mem_cons.mpr ⟨lw_p34, List.forall_mem_cons.mpr ⟨lw_p35, List.forall_mem_cons.mpr ⟨lw_p36, List.forall_mem_cons.mpr ⟨lw_p37, List.forall_mem_cons.mpr ⟨lw_p38, List.forall_mem_cons.mpr ⟨lw_p39, List.forall_mem_cons.mpr ⟨lw_p40, List.forall_mem_cons.mpr ⟨lw_p41, List.forall_mem_cons.mpr ⟨lw_p42, fun _ h => absurd h List.not_mem_nil⟩⟩⟩⟩⟩⟩⟩⟩⟩⟩⟩
def lw_privs : List (MethodName × Nat) := lw_privs_1 ++ (lw_privs_2 ++ (lw_privs_3))
def lw_tbl : List Cond := k2_sels lw_privs ++ tables_1
theorem lw_privs_ok : ∀ q ∈ lw_privs, lw_okq q := by
  show ∀ q ∈ lw_privs_1 ++ (lw_privs_2 ++ (lw_privs_3)), lw_okq q
  exact List.forall_mem_append.mpr ⟨lw_r1, List.forall_mem_append.mpr ⟨lw_r2, lw_r3⟩⟩
/-! ===== by program: the methods that are walked, their pools ===== -/
def z_F0 : u_T := fun k => match k with
  | 0 => ("BellThatIsADoor$Bell", "kind", "I", true)
  | 1 => ("BellThatIsADoor$Bell", "figure", "I", true)
  | 2 => ("BellThatIsADoor$Bell", "hoursAtHome", "I", false)
  | 3 => ("BellThatIsADoor$Bell", "wants", "I", false)
  | 4 => ("BellThatIsADoor$Bell", "steps", "I", false)
  | _ => ("BellThatIsADoor$Bell", "price", "I", false)
def z_t0 : Nat → FieldType := fun k => match k with
  | 0 => .int
  | 1 => .int
  | 2 => .int
  | 3 => .int
  | 4 => .int
  | _ => .int
def z_F1 : u_T := fun k => match k with
  | 0 => ("BellThatIsADoor$Bell", "kind", "I", true)
  | 1 => ("BellThatIsADoor$Bell", "figure", "I", true)
  | 2 => ("BellThatIsADoor$Bell", "hoursAtHome", "I", false)
  | 3 => ("BellThatIsADoor$Bell", "wants", "I", false)
  | 4 => ("BellThatIsADoor$Bell", "steps", "I", false)
  | _ => ("BellThatIsADoor$Bell", "price", "I", false)
def z_t1 : Nat → FieldType := fun k => match k with
  | 0 => .int
  | 1 => .int
  | 2 => .int
  | 3 => .int
  | 4 => .int
  | _ => .int
def z_F2 : u_T := fun k => match k with
  | 0 => ("BellThatIsADoor$Bell", "kind", "I", true)
  | 1 => ("BellThatIsADoor$Bell", "figure", "I", true)
  | 2 => ("BellThatIsADoor$Bell", "hoursAtHome", "I", false)
  | 3 => ("BellThatIsADoor$Bell", "wants", "I", false)
  | 4 => ("BellThatIsADoor$Bell", "steps", "I", false)
  | _ => ("BellThatIsADoor$Bell", "price", "I", false)
def z_t2 : Nat → FieldType := fun k => match k with
  | 0 => .int
  | 1 => .int
  | 2 => .int
  | 3 => .int
  | 4 => .int
  | _ => .int
def z_F3 : u_T := fun k => match k with
  | 0 => ("BellThatIsADoor$Bell", "kind", "I", true)
  | 1 => ("BellThatIsADoor$Bell", "figure", "I", true)
  | 2 => ("BellThatIsADoor$Bell", "hoursAtHome", "I", false)
  | 3 => ("BellThatIsADoor$Bell", "wants", "I", false)
  | 4 => ("BellThatIsADoor$Bell", "steps", "I", false)
  | _ => ("BellThatIsADoor$Bell", "price", "I", false)
def z_t3 : Nat → FieldType := fun k => match k with
  | 0 => .int
  | 1 => .int
  | 2 => .int
  | 3 => .int
  | 4 => .int
  | _ => .int
def z_F4 : u_T := fun k => match k with
  | 0 => ("BellThatIsADoor$Bell", "kind", "I", true)
  | 1 => ("BellThatIsADoor$Bell", "figure", "I", true)
  | 2 => ("BellThatIsADoor$Bell", "hoursAtHome", "I", false)
  | 3 => ("BellThatIsADoor$Bell", "wants", "I", false)
  | 4 => ("BellThatIsADoor$Bell", "steps", "I", false)
  | _ => ("BellThatIsADoor$Bell", "price", "I", false)
def z_t4 : Nat → FieldType := fun k => match k with
  | 0 => .int
  | 1 => .int
  | 2 => .int
  | 3 => .int
  | 4 => .int
  | _ => .int
def z_F5 : u_T := fun k => match k with
  | 0 => ("BellThatIsADoor$Bell", "kind", "I", true)
  | 1 => ("BellThatIsADoor$Bell", "figure", "I", true)
  | 2 => ("BellThatIsADoor$Bell", "hoursAtHome", "I", false)
  | 3 => ("BellThatIsADoor$Bell", "wants", "I", false)
  | 4 => ("BellThatIsADoor$Bell", "steps", "I", false)
  | _ => ("BellThatIsADoor$Bell", "price", "I", false)
def z_t5 : Nat → FieldType := fun k => match k with
  | 0 => .int
  | 1 => .int
  | 2 => .int
  | 3 => .int
  | 4 => .int
  | _ => .int
def z_F6 : u_T := fun k => match k with
  | 0 => ("BellThatIsADoor$Bell", "kind", "I", true)
  | 1 => ("BellThatIsADoor$Bell", "figure", "I", true)
  | 2 => ("BellThatIsADoor$Bell", "hoursAtHome", "I", false)
  | 3 => ("BellThatIsADoor$Bell", "wants", "I", false)
  | 4 => ("BellThatIsADoor$Bell", "steps", "I", false)
  | _ => ("BellThatIsADoor$Bell", "price", "I", false)
def z_t6 : Nat → FieldType := fun k => match k with
  | 0 => .int
  | 1 => .int
  | 2 => .int
  | 3 => .int
  | 4 => .int
  | _ => .int
def z_F7 : u_T := fun k => match k with
  | 0 => ("BellThatIsADoor$Bell", "kind", "I", true)
  | 1 => ("BellThatIsADoor$Bell", "figure", "I", true)
  | 2 => ("BellThatIsADoor$Bell", "hoursAtHome", "I", false)
  | 3 => ("BellThatIsADoor$Bell", "wants", "I", false)
  | 4 => ("BellThatIsADoor$Bell", "steps", "I", false)
  | _ => ("BellThatIsADoor$Bell", "price", "I", false)
def z_t7 : Nat → FieldType := fun k => match k with
  | 0 => .int
  | 1 => .int
  | 2 => .int
  | 3 => .int
  | 4 => .int
  | _ => .int
def z_F8 : u_T := fun k => match k with
  | 0 => ("BellThatIsADoor$Marsh", "kinds", "[I", true)
  | 1 => ("BellThatIsADoor$Marsh", "figures", "[I", true)
  | 2 => ("BellThatIsADoor$Marsh", "places", "[I", true)
  | 3 => ("BellThatIsADoor$Marsh", "rung", "[I", true)
  | 4 => ("BellThatIsADoor$Marsh", "opened", "[I", true)
  | 5 => ("BellThatIsADoor$Marsh", "hoursAtHome", "[I", true)
  | 6 => ("BellThatIsADoor$Marsh", "wants", "[I", true)
  | 7 => ("BellThatIsADoor$Marsh", "steps", "[I", true)
  | 8 => ("BellThatIsADoor$Marsh", "size", "I", false)
  | 9 => ("BellThatIsADoor$Marsh", "hour", "I", false)
  | _ => ("BellThatIsADoor$Marsh", "day", "I", false)
def z_t8 : Nat → FieldType := fun k => match k with
  | 0 => .array (.int)
  | 1 => .array (.int)
  | 2 => .array (.int)
  | 3 => .array (.int)
  | 4 => .array (.int)
  | 5 => .array (.int)
  | 6 => .array (.int)
  | 7 => .array (.int)
  | 8 => .int
  | 9 => .int
  | _ => .int
def z_F9 : u_T := fun k => match k with
  | 0 => ("BellThatIsADoor$Row", "sort", "I", true)
  | _ => ("BellThatIsADoor$Row", "elements", "[I", true)
def z_t9 : Nat → FieldType := fun k => match k with
  | 0 => .int
  | _ => .array (.int)
def z_F10 : u_T := fun k => match k with
  | 0 => ("BellThatIsADoor$Errand", "rings", "[I", true)
  | 1 => ("BellThatIsADoor$Errand", "order", "[I", true)
  | 2 => ("BellThatIsADoor$Errand", "best", "[I", true)
  | 3 => ("BellThatIsADoor$Errand", "fewestHours", "I", false)
  | _ => ("BellThatIsADoor$Errand", "many", "I", false)
def z_t10 : Nat → FieldType := fun k => match k with
  | 0 => .array (.int)
  | 1 => .array (.int)
  | 2 => .array (.int)
  | 3 => .int
  | _ => .int
def z_F11 : u_T := fun k => match k with
  | 0 => ("BellThatIsADoor", "now", "LBellThatIsADoor$Marsh;", true)
  | 1 => ("BellThatIsADoor", "mind", "LBellThatIsADoor$Marsh;", true)
  | 2 => ("BellThatIsADoor", "imaged", "LBellThatIsADoor$Marsh;", true)
  | 3 => ("BellThatIsADoor", "isImaged", "Z", false)
  | 4 => ("BellThatIsADoor", "houses", "[LBellThatIsADoor$Bell;", true)
  | 5 => ("BellThatIsADoor", "bellsHeld", "[LBellThatIsADoor$Bell;", true)
  | 6 => ("BellThatIsADoor", "rowsHeld", "[LBellThatIsADoor$Row;", true)
  | 7 => ("BellThatIsADoor", "errand", "LBellThatIsADoor$Errand;", true)
  | 8 => ("BellThatIsADoor", "homeByHour", "[I", true)
  | 9 => ("BellThatIsADoor", "heardByKind", "[I", true)
  | _ => ("BellThatIsADoor", "closedByRung", "[J", true)
def z_t11 : Nat → FieldType := fun k => match k with
  | 0 => .object "BellThatIsADoor$Marsh"
  | 1 => .object "BellThatIsADoor$Marsh"
  | 2 => .object "BellThatIsADoor$Marsh"
  | 3 => .boolean
  | 4 => .array (.object "BellThatIsADoor$Bell")
  | 5 => .array (.object "BellThatIsADoor$Bell")
  | 6 => .array (.object "BellThatIsADoor$Row")
  | 7 => .object "BellThatIsADoor$Errand"
  | 8 => .array (.int)
  | 9 => .array (.int)
  | _ => .array (.long)
def z_F12 : u_T := fun k => match k with
  | 0 => ("BellThatIsADoorModel", "s", "[I", true)
  | 1 => ("BellThatIsADoorModel", "m", "[I", true)
  | 2 => ("BellThatIsADoorModel", "image", "[I", true)
  | 3 => ("BellThatIsADoorModel", "was", "[I", true)
  | 4 => ("BellThatIsADoorModel", "hasImage", "Z", false)
  | 5 => ("BellThatIsADoorModel", "place", "I", false)
  | 6 => ("BellThatIsADoorModel", "rowAt", "I", false)
  | 7 => ("BellThatIsADoorModel", "rowEnd", "I", false)
  | 8 => ("BellThatIsADoorModel", "numbers", "[I", true)
  | 9 => ("BellThatIsADoorModel", "line", "[I", true)
  | 10 => ("BellThatIsADoorModel", "bestLine", "[I", true)
  | 11 => ("BellThatIsADoorModel", "bestDone", "I", false)
  | 12 => ("BellThatIsADoorModel", "feetTake", "[I", true)
  | 13 => ("BellThatIsADoorModel", "seed", "I", false)
  | 14 => ("BellThatIsADoorModel", "kept", "[I", true)
  | 15 => ("BellThatIsADoorModel", "keptKind", "[I", true)
  | 16 => ("BellThatIsADoorModel", "keptFigure", "[I", true)
  | 17 => ("BellThatIsADoorModel", "sort", "[I", true)
  | 18 => ("BellThatIsADoorModel", "size", "[I", true)
  | 19 => ("BellThatIsADoorModel", "element", "[I", true)
  | _ => ("BellThatIsADoorModel", "thrown", "I", false)
def z_t12 : Nat → FieldType := fun k => match k with
  | 0 => .array (.int)
  | 1 => .array (.int)
  | 2 => .array (.int)
  | 3 => .array (.int)
  | 4 => .boolean
  | 5 => .int
  | 6 => .int
  | 7 => .int
  | 8 => .array (.int)
  | 9 => .array (.int)
  | 10 => .array (.int)
  | 11 => .int
  | 12 => .array (.int)
  | 13 => .int
  | 14 => .array (.int)
  | 15 => .array (.int)
  | 16 => .array (.int)
  | 17 => .array (.int)
  | 18 => .array (.int)
  | 19 => .array (.int)
  | _ => .int
def z_cl : List vw_C := [("BellThatIsADoor$Bell", z_F0, 6), ("BellThatIsADoor$Hen", z_F1, 6), ("BellThatIsADoor$Echo", z_F2, 6), ("BellThatIsADoor$Door", z_F3, 6), ("BellThatIsADoor$Maid", z_F4, 6), ("BellThatIsADoor$Suited", z_F5, 6), ("BellThatIsADoor$Cough", z_F6, 6), ("BellThatIsADoor$Marble", z_F7, 6), ("BellThatIsADoor$Marsh", z_F8, 11), ("BellThatIsADoor$Row", z_F9, 2), ("BellThatIsADoor$Errand", z_F10, 5), ("BellThatIsADoor", z_F11, 11), ("BellThatIsADoorModel", z_F12, 21)]
def z_blanks : List (List Value) := [[.int 0, .int 0, .int 0, .int 0, .int 0, .int 0],
  [.int 0, .int 0, .int 0, .int 0, .int 0, .int 0],
  [.int 0, .int 0, .int 0, .int 0, .int 0, .int 0],
  [.int 0, .int 0, .int 0, .int 0, .int 0, .int 0],
  [.int 0, .int 0, .int 0, .int 0, .int 0, .int 0],
  [.int 0, .int 0, .int 0, .int 0, .int 0, .int 0],
  [.int 0, .int 0, .int 0, .int 0, .int 0, .int 0],
  [.int 0, .int 0, .int 0, .int 0, .int 0, .int 0],
  [.null, .null, .null, .null, .null, .null, .null, .null, .int 0, .int 0, .int 0],
  [.int 0, .null],
  [.null, .null, .null, .int 0, .int 0],
  [.null, .null, .null, .int 0, .null, .null, .null, .null, .null, .null, .null],
  [.null, .null, .null, .null, .int 0, .int 0, .int 0, .int 0, .null, .null, .null, .int 0, .null, .int 0, .null, .null, .null, .null, .null, .null, .int 0]]
def z_blank (ci : Nat) : List Value := (z_blanks[ci]?).getD []
def z_cns : List String := ["BellThatIsADoor$Bell", "BellThatIsADoor$Hen", "BellThatIsADoor$Echo", "BellThatIsADoor$Door", "BellThatIsADoor$Maid", "BellThatIsADoor$Suited", "BellThatIsADoor$Cough", "BellThatIsADoor$Marble", "BellThatIsADoor$Marsh", "BellThatIsADoor$Row", "BellThatIsADoor$Errand", "BellThatIsADoor", "BellThatIsADoorModel"]
def z_cnm (ci : Nat) : String := (z_cns[ci]?).getD ""
/-- rows of references: which classes one takes -/
def z_takes (C : String) (ci : Nat) : Bool := (C == "BellThatIsADoor$Bell" && ci ≤ 7) || (C == "BellThatIsADoor$Row" && ci == 9)
def z_nms : List MethodName := [⟨"BellThatIsADoor$Row", "<init>", "(II)V"⟩,
  ⟨"BellThatIsADoor$Row", "length", "()I"⟩,
  ⟨"BellThatIsADoor$Row", "has", "(I)Z"⟩,
  ⟨"BellThatIsADoor$Row", "hasAll", "(II)Z"⟩,
  ⟨"BellThatIsADoor$Row", "at", "(I)I"⟩,
  ⟨"BellThatIsADoor$Row", "setAt", "(II)V"⟩,
  ⟨"BellThatIsADoor$Row", "least", "()I"⟩,
  ⟨"BellThatIsADoor$Bell", "<init>", "(II)V"⟩,
  ⟨"BellThatIsADoor$Door", "<init>", "(II)V"⟩,
  ⟨"BellThatIsADoor$Hen", "<init>", "(II)V"⟩,
  ⟨"BellThatIsADoor$Cough", "<init>", "(II)V"⟩,
  ⟨"BellThatIsADoor$Maid", "<init>", "(II)V"⟩,
  ⟨"BellThatIsADoor$Suited", "<init>", "(II)V"⟩,
  ⟨"BellThatIsADoor$Echo", "<init>", "(II)V"⟩,
  ⟨"BellThatIsADoor$Marble", "<init>", "(II)V"⟩,
  ⟨"BellThatIsADoor$Marsh", "<init>", "()V"⟩,
  ⟨"BellThatIsADoor$Marsh", "takeFrom", "(LBellThatIsADoor$Marsh;)V"⟩,
  ⟨"BellThatIsADoor$Marsh", "holdOnly", "(LBellThatIsADoor$Bell;II)V"⟩,
  ⟨"BellThatIsADoor$Marsh", "has", "(I)Z"⟩,
  ⟨"BellThatIsADoor$Marsh", "add", "(LBellThatIsADoor$Bell;I)I"⟩,
  ⟨"BellThatIsADoor$Marsh", "told", "(II)I"⟩,
  ⟨"BellThatIsADoor$Marsh", "kindOf", "(I)I"⟩,
  ⟨"BellThatIsADoor$Marsh", "figureOf", "(I)I"⟩,
  ⟨"BellThatIsADoor$Marsh", "placeOf", "(I)I"⟩,
  ⟨"BellThatIsADoor$Marsh", "rungOf", "(I)I"⟩,
  ⟨"BellThatIsADoor$Marsh", "wantsOf", "(I)I"⟩,
  ⟨"BellThatIsADoor$Marsh", "ringsLacking", "(I)I"⟩,
  ⟨"BellThatIsADoor$Marsh", "farFrom", "(II)I"⟩,
  ⟨"BellThatIsADoor$Marsh", "move", "(II)I"⟩,
  ⟨"BellThatIsADoor$Marsh", "isHomeAt", "(II)Z"⟩,
  ⟨"BellThatIsADoor$Marsh", "homeAt", "(I)I"⟩,
  ⟨"BellThatIsADoor$Marsh", "hoursAtHomeOf", "(I)I"⟩,
  ⟨"BellThatIsADoor$Marsh", "hear", "(I)I"⟩,
  ⟨"BellThatIsADoor$Marsh", "rungWithOneMore", "(III)I"⟩,
  ⟨"BellThatIsADoor$Marsh", "passOne", "()V"⟩,
  ⟨"BellThatIsADoor$Marsh", "pass", "(I)Z"⟩,
  ⟨"BellThatIsADoor$Marsh", "soonestOf", "(I)I"⟩,
  ⟨"BellThatIsADoor$Marsh", "ringsTillOpen", "(II)I"⟩,
  ⟨"BellThatIsADoor$Marsh", "areOneDoor", "(II)Z"⟩,
  ⟨"BellThatIsADoor$Marsh", "allRung", "()I"⟩,
  ⟨"BellThatIsADoor$Marsh", "allOpened", "()I"⟩,
  ⟨"BellThatIsADoor$Marsh", "allSteps", "()I"⟩,
  ⟨"BellThatIsADoor$Marsh", "sumOf", "([I)I"⟩,
  ⟨"BellThatIsADoor$Errand", "<init>", "()V"⟩,
  ⟨"BellThatIsADoor$Errand", "seek", "(LBellThatIsADoor$Marsh;II)V"⟩,
  ⟨"BellThatIsADoor$Errand", "hoursNeeded", "()I"⟩,
  ⟨"BellThatIsADoor$Errand", "bellAt", "(I)I"⟩,
  ⟨"BellThatIsADoor$Errand", "goOn", "(LBellThatIsADoor$Errand;LBellThatIsADoor$Marsh;IIII)V"⟩,
  ⟨"BellThatIsADoor$Errand", "keepOrder", "(II)V"⟩,
  ⟨"BellThatIsADoor$Errand", "wayHours", "(I)I"⟩,
  ⟨"BellThatIsADoor$Errand", "ringsFrom", "(LBellThatIsADoor$Marsh;II)I"⟩,
  ⟨"BellThatIsADoor", "<init>", "()V"⟩,
  ⟨"BellThatIsADoor", "marsh", "(I)I"⟩,
  ⟨"BellThatIsADoor", "bell", "(II)I"⟩,
  ⟨"BellThatIsADoor", "comes", "(II)I"⟩,
  ⟨"BellThatIsADoor", "rings", "(I)I"⟩,
  ⟨"BellThatIsADoor", "hours", "(I)I"⟩,
  ⟨"BellThatIsADoor", "moves", "(II)I"⟩,
  ⟨"BellThatIsADoor", "home", "(I)I"⟩,
  ⟨"BellThatIsADoor", "hoursOf", "(I)I"⟩,
  ⟨"BellThatIsADoor", "behind", "(III)I"⟩,
  ⟨"BellThatIsADoor", "soonest", "(I)I"⟩,
  ⟨"BellThatIsADoor", "fewest", "(II)I"⟩,
  ⟨"BellThatIsADoor", "never", "()I"⟩,
  ⟨"BellThatIsADoor", "first", "()I"⟩,
  ⟨"BellThatIsADoor", "errands", "(III)I"⟩,
  ⟨"BellThatIsADoor", "forAll", "()I"⟩,
  ⟨"BellThatIsADoor", "busiest", "(I)I"⟩,
  ⟨"BellThatIsADoor", "alone", "()I"⟩,
  ⟨"BellThatIsADoor", "whatRang", "(III)I"⟩,
  ⟨"BellThatIsADoor", "tell", "(III)I"⟩,
  ⟨"BellThatIsADoor", "oneDoor", "(I)I"⟩,
  ⟨"BellThatIsADoor", "feet", "(III)I"⟩,
  ⟨"BellThatIsADoor", "odds", "(IIII)J"⟩,
  ⟨"BellThatIsADoor", "run", "(I)I"⟩,
  ⟨"BellThatIsADoor", "mean", "(I)J"⟩,
  ⟨"BellThatIsADoor", "nearest", "(II)I"⟩,
  ⟨"BellThatIsADoor", "forged", "(I)I"⟩,
  ⟨"BellThatIsADoor", "judge", "(I)I"⟩,
  ⟨"BellThatIsADoor", "days", "(III)I"⟩,
  ⟨"BellThatIsADoor", "image", "()I"⟩,
  ⟨"BellThatIsADoor", "restore", "()I"⟩,
  ⟨"BellThatIsADoor", "count", "(I)I"⟩,
  ⟨"BellThatIsADoor", "keep", "(IIII)I"⟩,
  ⟨"BellThatIsADoor", "row", "(III)I"⟩,
  ⟨"BellThatIsADoor", "put", "(III)I"⟩,
  ⟨"BellThatIsADoor", "copy", "(IIIII)I"⟩,
  ⟨"BellThatIsADoor", "cost", "(I)I"⟩,
  ⟨"BellThatIsADoor", "toss", "(I)I"⟩,
  ⟨"BellThatIsADoor", "isShelf", "(I)Z"⟩,
  ⟨"BellThatIsADoor", "isPlace", "(I)Z"⟩,
  ⟨"BellThatIsADoor", "isHour", "(I)Z"⟩,
  ⟨"BellThatIsADoor", "isFirstOrSecond", "(I)Z"⟩,
  ⟨"BellThatIsADoor", "refusedAsLong", "(I)J"⟩,
  ⟨"BellThatIsADoor", "holdsNothing", "(I)Z"⟩,
  ⟨"BellThatIsADoor", "rowOn", "(I)LBellThatIsADoor$Row;"⟩,
  ⟨"BellThatIsADoor", "bellOn", "(I)LBellThatIsADoor$Bell;"⟩,
  ⟨"BellThatIsADoor", "lackOfRow", "(I)I"⟩,
  ⟨"BellThatIsADoor", "lackOfBell", "(I)I"⟩,
  ⟨"BellThatIsADoor", "newHouse", "(II)LBellThatIsADoor$Bell;"⟩,
  ⟨"BellThatIsADoor", "houseOf", "(II)LBellThatIsADoor$Bell;"⟩,
  ⟨"BellThatIsADoor", "digitsBehind", "(I)I"⟩,
  ⟨"BellThatIsADoor", "isDigit", "(I)Z"⟩,
  ⟨"BellThatIsADoor", "strayPlace", "(LBellThatIsADoor$Row;)I"⟩,
  ⟨"BellThatIsADoor", "doStatements", "(LBellThatIsADoor$Row;)I"⟩,
  ⟨"BellThatIsADoor", "isDone", "(LBellThatIsADoor$Row;I)Z"⟩,
  ⟨"BellThatIsADoor", "digit", "(LBellThatIsADoor$Row;I)I"⟩,
  ⟨"BellThatIsADoor", "twoDigits", "(LBellThatIsADoor$Row;I)I"⟩,
  ⟨"BellThatIsADoor", "openedOrHeard", "(II)I"⟩,
  ⟨"BellThatIsADoor", "leastHoursFor", "([IIII)I"⟩,
  ⟨"BellThatIsADoor", "mayBeHeard", "(LBellThatIsADoor$Row;II)Z"⟩,
  ⟨"BellThatIsADoor", "whyNotHeard", "(III)I"⟩,
  ⟨"BellThatIsADoor", "kindsThatRang", "(LBellThatIsADoor$Row;I)I"⟩,
  ⟨"BellThatIsADoor", "figuresThatRang", "(LBellThatIsADoor$Row;I)I"⟩,
  ⟨"BellThatIsADoor", "couldRing", "(LBellThatIsADoor$Row;LBellThatIsADoor$Bell;I)Z"⟩,
  ⟨"BellThatIsADoor", "unlikeAt", "(III)I"⟩,
  ⟨"BellThatIsADoor", "isAmong", "(II)Z"⟩,
  ⟨"BellThatIsADoor", "waysStayingClosed", "(III)J"⟩,
  ⟨"BellThatIsADoor", "allClosed", "()J"⟩,
  ⟨"BellThatIsADoor", "partOfFraction", "(JJI)J"⟩,
  ⟨"BellThatIsADoor", "greatestDivisor", "(JJ)J"⟩,
  ⟨"BellThatIsADoor", "nextSeed", "(I)I"⟩,
  ⟨"BellThatIsADoor", "drawBelow", "(II)I"⟩,
  ⟨"BellThatIsADoorModel", "<init>", "()V"⟩,
  ⟨"BellThatIsADoorModel", "isIn", "(III)Z"⟩,
  ⟨"BellThatIsADoorModel", "least", "(II)I"⟩,
  ⟨"BellThatIsADoorModel", "copies", "([I[I)V"⟩,
  ⟨"BellThatIsADoorModel", "of", "(II)I"⟩,
  ⟨"BellThatIsADoorModel", "isBell", "(I)Z"⟩,
  ⟨"BellThatIsADoorModel", "isPlace", "(I)Z"⟩,
  ⟨"BellThatIsADoorModel", "has", "(II)Z"⟩,
  ⟨"BellThatIsADoorModel", "bits", "(I)I"⟩,
  ⟨"BellThatIsADoorModel", "isHomeBy", "(III)Z"⟩,
  ⟨"BellThatIsADoorModel", "wants", "(II)I"⟩,
  ⟨"BellThatIsADoorModel", "steps", "(II)I"⟩,
  ⟨"BellThatIsADoorModel", "isHome", "([III)Z"⟩,
  ⟨"BellThatIsADoorModel", "wantsOf", "([II)I"⟩,
  ⟨"BellThatIsADoorModel", "stepsOf", "([II)I"⟩,
  ⟨"BellThatIsADoorModel", "ringsAs", "([IIZ)I"⟩,
  ⟨"BellThatIsADoorModel", "ringsIn", "([II)I"⟩,
  ⟨"BellThatIsADoorModel", "hour", "([I)V"⟩,
  ⟨"BellThatIsADoorModel", "here", "()I"⟩,
  ⟨"BellThatIsADoorModel", "readsNumber", "(II)Z"⟩,
  ⟨"BellThatIsADoorModel", "readsStatement", "()Z"⟩,
  ⟨"BellThatIsADoorModel", "adds", "(III)V"⟩,
  ⟨"BellThatIsADoorModel", "canGo", "(I)Z"⟩,
  ⟨"BellThatIsADoorModel", "hoursGo", "(I)V"⟩,
  ⟨"BellThatIsADoorModel", "isDone", "(I)Z"⟩,
  ⟨"BellThatIsADoorModel", "marsh", "(I)I"⟩,
  ⟨"BellThatIsADoorModel", "bell", "(II)I"⟩,
  ⟨"BellThatIsADoorModel", "comes", "(II)I"⟩,
  ⟨"BellThatIsADoorModel", "rings", "(I)I"⟩,
  ⟨"BellThatIsADoorModel", "hours", "(I)I"⟩,
  ⟨"BellThatIsADoorModel", "moves", "(II)I"⟩,
  ⟨"BellThatIsADoorModel", "homeAt", "(I)I"⟩,
  ⟨"BellThatIsADoorModel", "home", "(I)I"⟩,
  ⟨"BellThatIsADoorModel", "hoursHome", "(I)I"⟩,
  ⟨"BellThatIsADoorModel", "hoursOf", "(I)I"⟩,
  ⟨"BellThatIsADoorModel", "behind", "(III)I"⟩,
  ⟨"BellThatIsADoorModel", "opensWithin", "(II)I"⟩,
  ⟨"BellThatIsADoorModel", "soonest", "(I)I"⟩,
  ⟨"BellThatIsADoorModel", "fewest", "(II)I"⟩,
  ⟨"BellThatIsADoorModel", "never", "()I"⟩,
  ⟨"BellThatIsADoorModel", "first", "()I"⟩,
  ⟨"BellThatIsADoorModel", "openedBy", "(II)I"⟩,
  ⟨"BellThatIsADoorModel", "far", "(II)I"⟩,
  ⟨"BellThatIsADoorModel", "goesOn", "(IIII)V"⟩,
  ⟨"BellThatIsADoorModel", "errands", "(III)I"⟩,
  ⟨"BellThatIsADoorModel", "areHome", "(I)Z"⟩,
  ⟨"BellThatIsADoorModel", "forAll", "()I"⟩,
  ⟨"BellThatIsADoorModel", "busiest", "(I)I"⟩,
  ⟨"BellThatIsADoorModel", "alone", "()I"⟩,
  ⟨"BellThatIsADoorModel", "leastOf", "(I)I"⟩,
  ⟨"BellThatIsADoorModel", "wrongHeard", "(I)I"⟩,
  ⟨"BellThatIsADoorModel", "isHeard", "(II)Z"⟩,
  ⟨"BellThatIsADoorModel", "heardBy", "(III)I"⟩,
  ⟨"BellThatIsADoorModel", "whatRang", "(III)I"⟩,
  ⟨"BellThatIsADoorModel", "ringOf", "(III)I"⟩,
  ⟨"BellThatIsADoorModel", "unlikeAt", "(III)I"⟩,
  ⟨"BellThatIsADoorModel", "tell", "(III)I"⟩,
  ⟨"BellThatIsADoorModel", "oneDoor", "(I)I"⟩,
  ⟨"BellThatIsADoorModel", "feet", "(III)I"⟩,
  ⟨"BellThatIsADoorModel", "gcd", "(JJ)J"⟩,
  ⟨"BellThatIsADoorModel", "partOf", "(JJI)J"⟩,
  ⟨"BellThatIsADoorModel", "odds", "(IIII)J"⟩,
  ⟨"BellThatIsADoorModel", "run", "(I)I"⟩,
  ⟨"BellThatIsADoorModel", "stepsAll", "()I"⟩,
  ⟨"BellThatIsADoorModel", "mean", "(I)J"⟩,
  ⟨"BellThatIsADoorModel", "nearest", "(II)I"⟩,
  ⟨"BellThatIsADoorModel", "forged", "(I)I"⟩,
  ⟨"BellThatIsADoorModel", "judge", "(I)I"⟩,
  ⟨"BellThatIsADoorModel", "drawn", "(I)I"⟩,
  ⟨"BellThatIsADoorModel", "days", "(III)I"⟩,
  ⟨"BellThatIsADoorModel", "image", "()I"⟩,
  ⟨"BellThatIsADoorModel", "restore", "()I"⟩,
  ⟨"BellThatIsADoorModel", "count", "(I)I"⟩,
  ⟨"BellThatIsADoorModel", "thrown", "()I"⟩,
  ⟨"BellThatIsADoorModel", "isShelf", "(I)Z"⟩,
  ⟨"BellThatIsADoorModel", "wrongRow", "(II)I"⟩,
  ⟨"BellThatIsADoorModel", "wrongKept", "(I)I"⟩,
  ⟨"BellThatIsADoorModel", "keep", "(IIII)I"⟩,
  ⟨"BellThatIsADoorModel", "row", "(III)I"⟩,
  ⟨"BellThatIsADoorModel", "put", "(III)I"⟩,
  ⟨"BellThatIsADoorModel", "element", "(II)J"⟩,
  ⟨"BellThatIsADoorModel", "copy", "(IIIII)I"⟩,
  ⟨"BellThatIsADoorModel", "costBy", "(II)I"⟩,
  ⟨"BellThatIsADoorModel", "cost", "(I)I"⟩,
  ⟨"BellThatIsADoorModel", "toss", "(I)I"⟩,
  ⟨"java/lang/Integer", "bitCount", "(I)I"⟩,
  ⟨"BellThatIsADoorLaw", "law", "([I)Z"⟩,
  ⟨"BellThatIsADoor$Bell", "fail", "()V"⟩,
  ⟨"BellThatIsADoor$Door", "fail", "()V"⟩,
  ⟨"BellThatIsADoor$Hen", "fail", "()V"⟩,
  ⟨"BellThatIsADoor$Echo", "fail", "()V"⟩,
  ⟨"BellThatIsADoor$Marble", "fail", "()V"⟩,
  ⟨"BellThatIsADoor", "element", "(II)J"⟩,
  ⟨"BellThatIsADoor", "caughtFrom", "(LBellThatIsADoor$Bell;)I"⟩,
  ⟨"BellThatIsADoorLaw", "element", "(LBellThatIsADoor;II[J)I"⟩]
def z_nm (m : Nat) : MethodName := (z_nms[m]?).getD ⟨"", "", ""⟩
def z_bys : List ByteArray := [prog_11_method_1_code, prog_11_method_2_code, prog_11_method_3_code, prog_11_method_4_code, prog_11_method_5_code, prog_11_method_6_code, prog_11_method_7_code, prog_2_method_1_code, prog_4_method_1_code, prog_7_method_1_code, prog_3_method_1_code, prog_8_method_1_code, prog_12_method_1_code, prog_5_method_1_code, prog_9_method_1_code, prog_10_method_1_code, prog_10_method_2_code, prog_10_method_3_code, prog_10_method_4_code, prog_10_method_5_code, prog_10_method_6_code, prog_10_method_7_code, prog_10_method_8_code, prog_10_method_9_code, prog_10_method_10_code, prog_10_method_11_code, prog_10_method_12_code, prog_10_method_13_code, prog_10_method_14_code, prog_10_method_15_code, prog_10_method_16_code, prog_10_method_17_code, prog_10_method_18_code, prog_10_method_19_code, prog_10_method_20_code, prog_10_method_21_code, prog_10_method_22_code, prog_10_method_23_code, prog_10_method_24_code, prog_10_method_25_code, prog_10_method_26_code, prog_10_method_27_code, prog_10_method_28_code, prog_6_method_1_code, prog_6_method_2_code, prog_6_method_3_code, prog_6_method_4_code, prog_6_method_5_code, prog_6_method_6_code, prog_6_method_7_code, prog_6_method_8_code, prog_1_method_1_code, prog_1_method_2_code, prog_1_method_3_code, prog_1_method_4_code, prog_1_method_5_code, prog_1_method_6_code, prog_1_method_7_code, prog_1_method_8_code, prog_1_method_9_code, prog_1_method_10_code, prog_1_method_11_code, prog_1_method_12_code, prog_1_method_13_code, prog_1_method_14_code, prog_1_method_15_code, prog_1_method_16_code, prog_1_method_17_code, prog_1_method_18_code, prog_1_method_19_code, prog_1_method_20_code, prog_1_method_21_code, prog_1_method_22_code, prog_1_method_23_code, prog_1_method_24_code, prog_1_method_25_code, prog_1_method_26_code, prog_1_method_27_code, prog_1_method_28_code, prog_1_method_29_code, prog_1_method_30_code, prog_1_method_31_code, prog_1_method_32_code, prog_1_method_33_code, prog_1_method_34_code, prog_1_method_35_code, prog_1_method_37_code, prog_1_method_38_code, prog_1_method_39_code, prog_1_method_40_code, prog_1_method_41_code, prog_1_method_42_code, prog_1_method_43_code, prog_1_method_44_code, prog_1_method_45_code, prog_1_method_46_code, prog_1_method_47_code, prog_1_method_48_code, prog_1_method_49_code, prog_1_method_51_code, prog_1_method_52_code, prog_1_method_53_code, prog_1_method_54_code, prog_1_method_55_code, prog_1_method_56_code, prog_1_method_57_code, prog_1_method_58_code, prog_1_method_59_code, prog_1_method_60_code, prog_1_method_61_code, prog_1_method_62_code, prog_1_method_63_code, prog_1_method_64_code, prog_1_method_65_code, prog_1_method_66_code, prog_1_method_67_code, prog_1_method_68_code, prog_1_method_69_code, prog_1_method_70_code, prog_1_method_71_code, prog_1_method_72_code, prog_1_method_73_code, prog_1_method_74_code, prog_14_method_1_code, prog_14_method_2_code, prog_14_method_3_code, prog_14_method_4_code, prog_14_method_5_code, prog_14_method_6_code, prog_14_method_7_code, prog_14_method_8_code, prog_14_method_9_code, prog_14_method_10_code, prog_14_method_11_code, prog_14_method_12_code, prog_14_method_13_code, prog_14_method_14_code, prog_14_method_15_code, prog_14_method_16_code, prog_14_method_17_code, prog_14_method_18_code, prog_14_method_19_code, prog_14_method_20_code, prog_14_method_21_code, prog_14_method_22_code, prog_14_method_23_code, prog_14_method_24_code, prog_14_method_25_code, prog_14_method_26_code, prog_14_method_27_code, prog_14_method_28_code, prog_14_method_29_code, prog_14_method_30_code, prog_14_method_31_code, prog_14_method_32_code, prog_14_method_33_code, prog_14_method_34_code, prog_14_method_35_code, prog_14_method_36_code, prog_14_method_37_code, prog_14_method_38_code, prog_14_method_39_code, prog_14_method_40_code, prog_14_method_41_code, prog_14_method_42_code, prog_14_method_43_code, prog_14_method_44_code, prog_14_method_45_code, prog_14_method_46_code, prog_14_method_47_code, prog_14_method_48_code, prog_14_method_49_code, prog_14_method_50_code, prog_14_method_51_code, prog_14_method_52_code, prog_14_method_53_code, prog_14_method_54_code, prog_14_method_55_code, prog_14_method_56_code, prog_14_method_57_code, prog_14_method_58_code, prog_14_method_59_code, prog_14_method_60_code, prog_14_method_61_code, prog_14_method_62_code, prog_14_method_63_code, prog_14_method_64_code, prog_14_method_65_code, prog_14_method_66_code, prog_14_method_67_code, prog_14_method_68_code, prog_14_method_69_code, prog_14_method_70_code, prog_14_method_71_code, prog_14_method_72_code, prog_14_method_73_code, prog_14_method_74_code, prog_14_method_75_code, prog_14_method_76_code, prog_14_method_77_code, prog_14_method_78_code, prog_14_method_79_code, prog_14_method_80_code, prog_14_method_81_code, prog_14_method_82_code, prog_14_method_83_code, prog_14_method_84_code, prog_14_method_85_code, prog_18_method_49_code, code, prog_2_method_2_code, prog_4_method_2_code, prog_7_method_2_code, prog_5_method_2_code, prog_9_method_2_code, prog_1_method_36_code, prog_1_method_50_code, method_3_code]
def z_by (m : Nat) : ByteArray := (z_bys[m]?).getD ⟨#[]⟩
def z_mls : List Nat := [3, 1, 2, 3, 2, 3, 1, 3, 3, 3, 3, 3, 3, 5, 3, 1, 3, 4, 2, 4, 3, 2, 2, 2, 2, 2, 2, 3, 4, 3, 4, 2, 3, 4, 1, 4, 4, 5, 3, 1, 1, 1, 4, 1, 5, 1, 2, 9, 4, 1, 5, 2, 4, 3, 4, 2, 2, 3, 2, 2, 7, 2, 4, 3, 5, 5, 4, 6, 4, 5, 10, 6, 7, 9, 4, 2, 7, 4, 7, 8, 1, 1, 2, 6, 4, 5, 8, 3, 3, 1, 1, 1, 1, 1, 2, 2, 2, 2, 2, 2, 4, 1, 1, 4, 4, 7, 2, 2, 3, 6, 4, 4, 5, 5, 8, 8, 4, 10, 4, 7, 11, 1, 2, 1, 3, 2, 3, 2, 2, 1, 2, 3, 5, 2, 2, 3, 2, 2, 3, 2, 1, 1, 4, 3, 5, 2, 3, 4, 8, 3, 4, 2, 2, 4, 4, 2, 4, 2, 7, 5, 2, 3, 3, 5, 5, 2, 6, 4, 3, 4, 4, 3, 1, 3, 6, 6, 5, 3, 7, 9, 6, 6, 10, 5, 14, 6, 3, 2, 7, 5, 5, 2, 9, 1, 1, 4, 1, 1, 3, 2, 5, 5, 5, 3, 8, 2, 3, 5, 1, 8, 1, 1, 1, 1, 1, 4, 2, 5]
def z_ml (m : Nat) : Nat := (z_mls[m]?).getD 0
def z_rts : List (Option FieldType) := [none, (some .int), (some .boolean), (some .boolean), (some .int), none, (some .int), none, none, none, none, none, none, none, none, none, none, none, (some .boolean), (some .int), (some .int), (some .int), (some .int), (some .int), (some .int), (some .int), (some .int), (some .int), (some .int), (some .boolean), (some .int), (some .int), (some .int), (some .int), none, (some .boolean), (some .int), (some .int), (some .boolean), (some .int), (some .int), (some .int), (some .int), none, none, (some .int), (some .int), none, none, (some .int), (some .int), none, (some .int), (some .int), (some .int), (some .int), (some .int), (some .int), (some .int), (some .int), (some .int), (some .int), (some .int), (some .int), (some .int), (some .int), (some .int), (some .int), (some .int), (some .int), (some .int), (some .int), (some .int), (some .long), (some .int), (some .long), (some .int), (some .int), (some .int), (some .int), (some .int), (some .int), (some .int), (some .int), (some .int), (some .int), (some .int), (some .int), (some .int), (some .boolean), (some .boolean), (some .boolean), (some .boolean), (some .long), (some .boolean), (some (.object "BellThatIsADoor$Row")), (some (.object "BellThatIsADoor$Bell")), (some .int), (some .int), (some (.object "BellThatIsADoor$Bell")), (some (.object "BellThatIsADoor$Bell")), (some .int), (some .boolean), (some .int), (some .int), (some .boolean), (some .int), (some .int), (some .int), (some .int), (some .boolean), (some .int), (some .int), (some .int), (some .boolean), (some .int), (some .boolean), (some .long), (some .long), (some .long), (some .long), (some .int), (some .int), none, (some .boolean), (some .int), none, (some .int), (some .boolean), (some .boolean), (some .boolean), (some .int), (some .boolean), (some .int), (some .int), (some .boolean), (some .int), (some .int), (some .int), (some .int), none, (some .int), (some .boolean), (some .boolean), none, (some .boolean), none, (some .boolean), (some .int), (some .int), (some .int), (some .int), (some .int), (some .int), (some .int), (some .int), (some .int), (some .int), (some .int), (some .int), (some .int), (some .int), (some .int), (some .int), (some .int), (some .int), none, (some .int), (some .boolean), (some .int), (some .int), (some .int), (some .int), (some .int), (some .boolean), (some .int), (some .int), (some .int), (some .int), (some .int), (some .int), (some .int), (some .long), (some .long), (some .long), (some .int), (some .int), (some .long), (some .int), (some .int), (some .int), (some .int), (some .int), (some .int), (some .int), (some .int), (some .int), (some .boolean), (some .int), (some .int), (some .int), (some .int), (some .int), (some .long), (some .int), (some .int), (some .int), (some .int), (some .int), (some .boolean), none, none, none, none, none, (some .long), (some .int), (some .int)]
def z_rt (m : Nat) : Option FieldType := (z_rts[m]?).getD none
def z_rtas : List Bool := [false, false, false, false, false, false, false, false, false, false, false, false, false, false, false, false, false, false, false, false, false, false, false, false, false, false, false, false, false, false, false, false, false, false, false, false, false, false, false, false, false, false, false, false, false, false, false, false, false, false, false, false, false, false, false, false, false, false, false, false, false, false, false, false, false, false, false, false, false, false, false, false, false, false, false, false, false, false, false, false, false, false, false, false, false, false, false, false, false, false, false, false, false, false, false, true, true, false, false, true, true, false, false, false, false, false, false, false, false, false, false, false, false, false, false, false, false, false, false, false, false, false, false, false, false, false, false, false, false, false, false, false, false, false, false, false, false, false, false, false, false, false, false, false, false, false, false, false, false, false, false, false, false, false, false, false, false, false, false, false, false, false, false, false, false, false, false, false, false, false, false, false, false, false, false, false, false, false, false, false, false, false, false, false, false, false, false, false, false, false, false, false, false, false, false, false, false, false, false, false, false, false, false, false, false, false, false, false, false, false, false, false, false, false, false, false, false, false]
def z_rtA (m : Nat) : Bool := (z_rtas[m]?).getD false
def z_inits : List Bool := [true, false, false, false, false, false, false, true, true, true, true, true, true, true, true, true, false, false, false, false, false, false, false, false, false, false, false, false, false, false, false, false, false, false, false, false, false, false, false, false, false, false, false, true, false, false, false, false, false, false, false, true, false, false, false, false, false, false, false, false, false, false, false, false, false, false, false, false, false, false, false, false, false, false, false, false, false, false, false, false, false, false, false, false, false, false, false, false, false, false, false, false, false, false, false, false, false, false, false, false, false, false, false, false, false, false, false, false, false, false, false, false, false, false, false, false, false, false, false, false, false, false, false, true, false, false, false, false, false, false, false, false, false, false, false, false, false, false, false, false, false, false, false, false, false, false, false, false, false, false, false, false, false, false, false, false, false, false, false, false, false, false, false, false, false, false, false, false, false, false, false, false, false, false, false, false, false, false, false, false, false, false, false, false, false, false, false, false, false, false, false, false, false, false, false, false, false, false, false, false, false, false, false, false, false, false, false, false, false, false, false, false, false, false, false, false, false, false]
def z_init (m : Nat) : Bool := (z_inits[m]?).getD false
def z_lgs : List (List Nat) := [[], [], [], [], [], [], [], [], [], [], [], [], [], [], [], [], [], [], [], [], [], [], [], [], [], [], [], [], [], [], [], [], [], [], [], [], [], [], [], [], [], [], [], [], [], [], [], [], [], [], [], [], [], [], [], [], [], [], [], [], [], [], [], [], [], [], [], [], [], [], [], [], [], [6], [], [], [], [], [], [], [], [], [], [], [], [], [], [], [], [], [], [], [], [], [], [], [], [], [], [], [], [], [], [], [], [], [], [], [], [], [], [], [], [], [], [], [], [7], [1], [0, 2, 5], [0, 2, 4, 6, 9], [], [], [], [], [], [], [], [], [], [], [], [], [], [], [], [], [], [], [], [], [], [], [], [], [], [], [], [], [], [], [], [], [], [], [], [], [], [], [], [], [], [], [], [], [], [], [], [], [], [], [], [], [], [], [], [], [], [], [], [], [], [0, 2, 4, 6, 8], [0, 2], [5, 7, 10], [], [], [], [], [], [], [], [], [], [], [], [], [], [], [], [], [], [], [], [], [], [], [], [], [6], [], [], [], [], [], [], [], []]
def z_lg (m : Nat) : List Nat := (z_lgs[m]?).getD []
def z_rks : List Nat := [1, 1, 1, 1, 2, 2, 1, 1, 2, 2, 3, 3, 4, 2, 4, 1, 1, 2, 1, 1, 2, 3, 3, 3, 3, 3, 4, 4, 2, 1, 2, 2, 3, 2, 1, 1, 5, 4, 2, 2, 2, 2, 1, 1, 13, 1, 1, 6, 1, 1, 5, 6, 7, 3, 3, 4, 2, 3, 3, 3, 4, 6, 6, 6, 6, 14, 5, 3, 3, 6, 6, 3, 2, 5, 4, 3, 5, 4, 3, 4, 2, 2, 3, 2, 2, 3, 4, 3, 8, 1, 1, 1, 1, 1, 3, 2, 2, 2, 2, 5, 1, 1, 1, 3, 6, 5, 3, 4, 1, 1, 2, 3, 5, 5, 4, 4, 1, 4, 1, 2, 1, 1, 1, 1, 1, 1, 1, 1, 2, 2, 1, 1, 1, 1, 1, 2, 2, 2, 3, 4, 1, 1, 2, 3, 2, 1, 2, 5, 6, 3, 4, 5, 3, 3, 3, 4, 3, 4, 5, 3, 4, 4, 4, 4, 3, 1, 4, 11, 4, 5, 4, 4, 1, 4, 5, 6, 7, 2, 3, 7, 4, 2, 1, 2, 4, 5, 3, 4, 3, 5, 4, 1, 5, 2, 2, 3, 1, 2, 3, 3, 3, 3, 4, 3, 3, 1, 4, 4, 1, 15, 6, 6, 6, 6, 6, 6, 7, 7]
def z_rk (m : Nat) : Nat := (z_rks[m]?).getD 0
def z_ocs : List Nat := [0, 0, 0, 0, 0, 0, 0, 1, 2, 3, 4, 5, 6, 7, 8, 9, 9, 9, 9, 9, 9, 9, 9, 9, 9, 9, 9, 9, 9, 9, 9, 9, 9, 9, 9, 9, 9, 9, 9, 9, 9, 9, 9, 10, 10, 10, 10, 10, 10, 10, 10, 11, 11, 11, 11, 11, 11, 11, 11, 11, 11, 11, 11, 11, 11, 11, 11, 11, 11, 11, 11, 11, 11, 11, 11, 11, 11, 11, 11, 11, 11, 11, 11, 11, 11, 11, 11, 11, 11, 11, 11, 11, 11, 11, 11, 11, 11, 11, 11, 11, 11, 11, 11, 11, 11, 11, 11, 11, 11, 11, 11, 11, 11, 11, 11, 11, 11, 11, 11, 11, 11, 11, 11, 12, 12, 12, 12, 12, 12, 12, 12, 12, 12, 12, 12, 12, 12, 12, 12, 12, 12, 12, 12, 12, 12, 12, 12, 12, 12, 12, 12, 12, 12, 12, 12, 12, 12, 12, 12, 12, 12, 12, 12, 12, 12, 12, 12, 12, 12, 12, 12, 12, 12, 12, 12, 12, 12, 12, 12, 12, 12, 12, 12, 12, 12, 12, 12, 12, 12, 12, 12, 12, 12, 12, 12, 12, 12, 12, 12, 12, 12, 12, 12, 12, 12, 12, 12, 12, 13, 14, 1, 2, 3, 7, 8, 11, 11, 14]
def z_oc (m : Nat) : Nat := (z_ocs[m]?).getD 99
def z_prm (m : Nat) : Bool := decide (1000 ≤ m)
def z_lk (T : List (List (Nat × List Nat))) (m j : Nat) : List Nat := ((((T[z_oc m]?).getD []).find? (fun q => q.1 == j)).map (fun q => q.2)).getD []
def z_fT : List (List (Nat × List Nat)) := [[(9, [0, 9, 9, 0, 1]), (21, [1, 9, 9, 3, 1])],
  [(9, [3, 0, 7, 0, 0]), (15, [5, 0, 7, 0, 0]), (18, [0, 0, 7, 0, 1]), (21, [1, 0, 7, 0, 1]), (24, [2, 0, 7, 0, 0]), (27, [4, 0, 7, 0, 0])],
  [(9, [2, 3, 7, 0, 0]), (15, [3, 3, 7, 0, 0]), (18, [4, 3, 7, 0, 0]), (21, [5, 3, 7, 0, 0]), (24, [1, 3, 7, 0, 2])],
  [(10, [2, 1, 1, 0, 0]), (16, [4, 1, 1, 0, 0]), (19, [5, 1, 1, 0, 0])],
  [(10, [2, 6, 7, 0, 0]), (16, [3, 6, 7, 0, 0]), (19, [4, 6, 7, 0, 0]), (22, [5, 6, 7, 0, 0])],
  [(9, [2, 4, 5, 0, 0]), (16, [4, 4, 5, 0, 0]), (19, [5, 4, 5, 0, 0])],
  [(7, [2, 5, 5, 0, 0]), (13, [5, 5, 5, 0, 0])],
  [(9, [2, 2, 2, 0, 0]), (21, [3, 2, 2, 0, 0]), (24, [4, 2, 2, 0, 0]), (27, [5, 2, 2, 0, 0])],
  [(9, [2, 7, 7, 0, 0]), (15, [3, 7, 7, 0, 0]), (18, [4, 7, 7, 0, 0]), (21, [5, 7, 7, 0, 0]), (24, [1, 7, 7, 0, 2])],
  [(9, [0, 8, 8, 3, 1]), (15, [1, 8, 8, 3, 1]), (18, [2, 8, 8, 3, 1]), (21, [3, 8, 8, 3, 1]), (24, [4, 8, 8, 3, 1]), (27, [5, 8, 8, 3, 1]), (30, [6, 8, 8, 3, 1]), (33, [7, 8, 8, 3, 1]), (36, [9, 8, 8, 0, 0]), (40, [8, 8, 8, 0, 0]), (43, [10, 8, 8, 0, 0]), (50, [0, 0, 7, 0, 2]), (55, [1, 0, 7, 0, 2]), (58, [2, 0, 7, 0, 0]), (60, [3, 0, 7, 0, 0]), (62, [4, 0, 7, 0, 0])],
  [(9, [0, 10, 10, 3, 1]), (15, [1, 10, 10, 3, 1]), (18, [2, 10, 10, 3, 1]), (21, [3, 10, 10, 0, 0]), (25, [4, 10, 10, 0, 0]), (46, [9, 8, 8, 0, 0])],
  [(12, [0, 11, 11, 2, 1]), (16, [1, 11, 11, 2, 1]), (19, [2, 11, 11, 2, 1]), (24, [4, 11, 11, 3, 1]), (28, [5, 11, 11, 3, 1]), (33, [6, 11, 11, 3, 1]), (40, [7, 11, 11, 2, 1]), (44, [8, 11, 11, 3, 1]), (48, [9, 11, 11, 3, 1]), (51, [10, 11, 11, 3, 1]), (67, [0, 9, 9, 0, 2]), (103, [9, 8, 8, 0, 0]), (140, [8, 8, 8, 0, 0]), (226, [3, 11, 11, 1, 0]), (230, [10, 8, 8, 0, 0]), (270, [1, 9, 9, 3, 2]), (279, [5, 0, 7, 0, 0]), (291, [1, 0, 7, 0, 2])],
  [(9, [0, 12, 12, 3, 1]), (13, [1, 12, 12, 3, 1]), (16, [2, 12, 12, 3, 1]), (19, [3, 12, 12, 3, 1]), (22, [8, 12, 12, 3, 1]), (25, [9, 12, 12, 3, 1]), (28, [10, 12, 12, 3, 1]), (31, [12, 12, 12, 3, 1]), (34, [14, 12, 12, 3, 1]), (37, [15, 12, 12, 3, 1]), (40, [16, 12, 12, 3, 1]), (43, [17, 12, 12, 3, 1]), (46, [18, 12, 12, 3, 1]), (49, [19, 12, 12, 3, 1]), (87, [5, 12, 12, 0, 0]), (91, [7, 12, 12, 0, 0]), (94, [6, 12, 12, 0, 0]), (158, [11, 12, 12, 0, 0]), (213, [13, 12, 12, 0, 0]), (222, [4, 12, 12, 1, 0]), (226, [20, 12, 12, 0, 0])],
  [],
  []]
def z_mT : List (List (Nat × List Nat)) := [[(3, [6]), (15, [7]), (25, [0, 2, 2, 0, 0, 9])],
  [(3, [6])],
  [(3, [2, 7, 3, 0, 0, 0])],
  [(3, [2, 7, 3, 0, 0, 0])],
  [(3, [2, 8, 3, 0, 0, 3])],
  [(3, [2, 8, 3, 0, 0, 3])],
  [(1, [2, 11, 3, 0, 0, 4])],
  [(3, [2, 7, 3, 0, 0, 0]), (15, [7])],
  [(3, [2, 10, 3, 0, 0, 6])],
  [(3, [6]), (46, [0, 19, 3, 0, 0, 8]), (64, [0, 18, 2, 0, 0, 8]), (68, [0, 29, 3, 0, 0, 8]), (72, [0, 20, 3, 0, 0, 8]), (76, [0, 25, 2, 0, 0, 8]), (80, [0, 24, 2, 0, 0, 8]), (83, [0, 23, 2, 0, 0, 8]), (86, [9]), (91, [4, 90, 1, 0, 0, 11]), (94, [0, 33, 4, 0, 0, 8]), (98, [8]), (101, [0, 26, 2, 0, 0, 8]), (104, [0, 42, 2, 0, 0, 8])],
  [(3, [6]), (28, [1, 47, 6, 0, 6, 10]), (32, [0, 48, 3, 0, 0, 10]), (36, [0, 27, 3, 0, 0, 8]), (42, [1, 49, 1, 0, 0, 10]), (49, [0, 50, 4, 0, 0, 10]), (53, [0, 23, 2, 0, 0, 8]), (56, [0, 37, 3, 0, 0, 8])],
  [(3, [6]), (11, [5, 15, 1, 0, 0, 8]), (39, [5, 43, 1, 0, 0, 10]), (55, [1, 99, 2, 0, 0, 11]), (59, [0, 95, 2, 0, 0, 11]), (63, [0, 97, 2, 0, 0, 11]), (71, [1, 103, 1, 0, 0, 11]), (75, [0, 104, 2, 0, 0, 11]), (78, [0, 20, 3, 0, 0, 8]), (82, [1, 90, 1, 0, 0, 11]), (86, [0, 96, 2, 0, 0, 11]), (90, [0, 98, 2, 0, 0, 11]), (93, [0, 19, 3, 0, 0, 8]), (97, [0, 32, 2, 0, 0, 8]), (100, [0, 35, 2, 0, 0, 8]), (106, [0, 28, 3, 0, 0, 8]), (109, [1, 91, 1, 0, 0, 11]), (112, [0, 30, 2, 0, 0, 8]), (115, [0, 31, 2, 0, 0, 8]), (118, [0, 18, 2, 0, 0, 8]), (121, [1, 92, 1, 0, 0, 11]), (124, [0, 16, 2, 0, 0, 8]), (128, [1, 108, 2, 0, 0, 11]), (131, [0, 34, 1, 0, 0, 8]), (134, [0, 36, 2, 0, 0, 8]), (137, [0, 26, 2, 0, 0, 8]), (143, [0, 44, 4, 0, 0, 10]), (147, [0, 45, 1, 0, 0, 10]), (151, [0, 46, 2, 0, 0, 10]), (154, [1, 109, 4, 0, 3, 11]), (158, [1, 208, 1, 0, 0, 99]), (163, [0, 110, 4, 0, 0, 11]), (167, [0, 111, 4, 0, 0, 11]), (171, [0, 112, 3, 0, 0, 11]), (175, [0, 113, 3, 0, 0, 11]), (178, [0, 22, 2, 0, 0, 8]), (181, [0, 115, 4, 0, 0, 11]), (184, [0, 38, 3, 0, 0, 8]), (188, [1, 93, 1, 0, 0, 11]), (192, [0, 117, 4, 0, 0, 11]), (196, [1, 119, 3, 0, 0, 11]), (200, [0, 41, 1, 0, 0, 8]), (203, [7]), (208, [0, 27, 3, 0, 0, 8]), (211, [0, 1, 1, 0, 0, 9]), (214, [0, 4, 2, 0, 0, 9]), (217, [0, 6, 1, 0, 0, 9]), (220, [1, 121, 1, 0, 0, 11]), (223, [1, 122, 2, 0, 0, 11]), (233, [0, 39, 1, 0, 0, 8]), (236, [0, 40, 1, 0, 0, 8]), (239, [1, 89, 1, 0, 0, 11]), (242, [0, 100, 3, 0, 0, 11]), (245, [2, 0, 3, 0, 0, 9]), (248, [0, 2, 2, 0, 0, 9]), (249, [0, 5, 3, 0, 0, 9]), (264, [0, 94, 2, 0, 0, 11]), (267, [0, 3, 3, 0, 0, 9]), (273, [10]), (282, [1, 1000, 1, 0, 0, 0]), (298, [2, 8, 3, 0, 0, 3]), (301, [2, 9, 3, 0, 0, 1]), (304, [2, 10, 3, 0, 0, 6]), (307, [2, 11, 3, 0, 0, 4]), (310, [2, 12, 3, 0, 0, 5]), (313, [2, 13, 3, 0, 0, 2]), (316, [2, 14, 3, 0, 0, 7]), (317, [2, 7, 3, 0, 0, 0]), (318, [1, 101, 1, 0, 0, 11]), (321, [1, 102, 1, 0, 0, 11]), (324, [0, 105, 3, 0, 0, 11]), (328, [1, 106, 2, 0, 0, 11]), (331, [1, 107, 2, 0, 0, 11]), (334, [0, 24, 2, 0, 0, 8]), (337, [0, 114, 4, 0, 0, 11]), (341, [0, 21, 2, 0, 0, 8]), (344, [0, 17, 4, 0, 0, 8]), (348, [0, 116, 3, 0, 0, 11]), (351, [0, 25, 2, 0, 0, 8]), (354, [8]), (357, [0, 118, 1, 0, 0, 11]), (361, [1, 120, 2, 0, 0, 11])],
  [(1, [6]), (52, [1, 124, 3, 0, 0, 12]), (56, [1, 127, 2, 0, 0, 12]), (60, [1, 132, 3, 0, 0, 12]), (63, [1, 133, 2, 0, 0, 12]), (66, [1, 134, 2, 0, 0, 12]), (69, [1, 136, 2, 0, 0, 12]), (73, [1, 137, 2, 0, 0, 12]), (76, [1, 125, 2, 0, 0, 12]), (79, [1, 135, 3, 0, 0, 12]), (83, [1, 138, 3, 0, 0, 12]), (97, [0, 141, 1, 0, 0, 12]), (101, [0, 142, 3, 0, 0, 12]), (105, [1, 140, 1, 0, 0, 12]), (109, [1, 129, 1, 0, 0, 12]), (113, [0, 144, 4, 0, 0, 12]), (117, [0, 128, 2, 0, 0, 12]), (120, [1, 139, 2, 0, 0, 12]), (123, [0, 145, 2, 0, 0, 12]), (126, [0, 146, 2, 0, 0, 12]), (130, [0, 198, 3, 0, 0, 12]), (133, [0, 143, 1, 0, 0, 12]), (137, [1, 126, 2, 0, 0, 12]), (141, [0, 147, 2, 0, 0, 12]), (144, [0, 199, 2, 0, 0, 12]), (148, [0, 154, 2, 0, 0, 12]), (151, [0, 156, 2, 0, 0, 12]), (154, [0, 159, 3, 0, 0, 12]), (161, [1, 130, 2, 0, 0, 12]), (164, [1, 165, 2, 0, 0, 12]), (167, [0, 164, 3, 0, 0, 12]), (170, [0, 166, 5, 0, 6, 12]), (174, [1, 131, 1, 0, 0, 12]), (177, [0, 168, 2, 0, 0, 12]), (181, [1, 172, 1, 0, 0, 12]), (184, [0, 174, 3, 0, 0, 12]), (187, [0, 173, 2, 0, 0, 12]), (190, [0, 175, 4, 0, 0, 12]), (194, [1, 177, 3, 0, 0, 12]), (197, [1, 178, 3, 0, 0, 12]), (200, [1, 182, 2, 0, 0, 12]), (206, [1, 183, 3, 0, 0, 12]), (210, [0, 186, 1, 0, 0, 12]), (219, [0, 191, 2, 0, 0, 12]), (229, [1, 197, 1, 0, 0, 12]), (232, [1, 205, 2, 0, 0, 12])],
  [],
  [(17, [2, 51, 1, 0, 0, 11]), (20, [2, 123, 1, 0, 0, 12]), (21, [0, 52, 2, 0, 0, 11]), (25, [0, 148, 2, 0, 0, 12]), (26, [0, 53, 3, 0, 0, 11]), (30, [0, 149, 3, 0, 0, 12]), (31, [0, 54, 3, 0, 0, 11]), (34, [0, 150, 3, 0, 0, 12]), (35, [0, 55, 2, 0, 0, 11]), (38, [0, 151, 2, 0, 0, 12]), (39, [0, 56, 2, 0, 0, 11]), (42, [0, 152, 2, 0, 0, 12]), (43, [0, 57, 3, 0, 0, 11]), (46, [0, 153, 3, 0, 0, 12]), (47, [0, 58, 2, 0, 0, 11]), (50, [0, 155, 2, 0, 0, 12]), (51, [0, 59, 2, 0, 0, 11]), (54, [0, 157, 2, 0, 0, 12]), (55, [0, 60, 4, 0, 0, 11]), (59, [0, 158, 4, 0, 0, 12]), (60, [0, 61, 2, 0, 0, 11]), (63, [0, 160, 2, 0, 0, 12]), (64, [0, 62, 3, 0, 0, 11]), (67, [0, 161, 3, 0, 0, 12]), (68, [0, 63, 1, 0, 0, 11]), (72, [0, 162, 1, 0, 0, 12]), (73, [0, 64, 1, 0, 0, 11]), (76, [0, 163, 1, 0, 0, 12]), (77, [0, 65, 4, 0, 0, 11]), (80, [0, 167, 4, 0, 0, 12]), (81, [0, 66, 1, 0, 0, 11]), (84, [0, 169, 1, 0, 0, 12]), (85, [0, 67, 2, 0, 0, 11]), (88, [0, 170, 2, 0, 0, 12]), (89, [0, 68, 1, 0, 0, 11]), (92, [0, 171, 1, 0, 0, 12]), (93, [0, 69, 4, 0, 0, 11]), (96, [0, 176, 4, 0, 0, 12]), (97, [0, 70, 4, 0, 0, 11]), (100, [0, 179, 4, 0, 0, 12]), (101, [0, 71, 2, 0, 0, 11]), (104, [0, 180, 2, 0, 0, 12]), (105, [0, 72, 4, 0, 0, 11]), (108, [0, 181, 4, 0, 0, 12]), (109, [0, 73, 5, 0, 0, 11]), (113, [0, 184, 5, 0, 0, 12]), (114, [0, 74, 2, 0, 0, 11]), (117, [0, 185, 2, 0, 0, 12]), (118, [0, 75, 2, 0, 0, 11]), (122, [0, 187, 2, 0, 0, 12]), (123, [0, 76, 3, 0, 0, 11]), (126, [0, 188, 3, 0, 0, 12]), (127, [0, 77, 2, 0, 0, 11]), (130, [0, 189, 2, 0, 0, 12]), (131, [0, 78, 2, 0, 0, 11]), (134, [0, 190, 2, 0, 0, 12]), (135, [0, 79, 4, 0, 0, 11]), (138, [0, 192, 4, 0, 0, 12]), (139, [0, 80, 1, 0, 0, 11]), (142, [0, 193, 1, 0, 0, 12]), (143, [0, 81, 1, 0, 0, 11]), (146, [0, 194, 1, 0, 0, 12]), (147, [0, 82, 2, 0, 0, 11]), (150, [0, 195, 2, 0, 0, 12]), (151, [0, 83, 5, 0, 0, 11]), (155, [0, 200, 5, 0, 0, 12]), (156, [0, 84, 4, 0, 0, 11]), (159, [0, 201, 4, 0, 0, 12]), (160, [0, 85, 4, 0, 0, 11]), (163, [0, 202, 4, 0, 0, 12]), (164, [1, 1001, 4, 0, 0, 0]), (169, [0, 203, 3, 0, 0, 12]), (170, [0, 196, 1, 0, 0, 12]), (173, [0, 86, 6, 0, 0, 11]), (177, [0, 204, 6, 0, 0, 12]), (178, [0, 87, 2, 0, 0, 11]), (181, [0, 206, 2, 0, 0, 12]), (182, [0, 88, 2, 0, 0, 11]), (185, [0, 207, 2, 0, 0, 12])]]
def z_nT : List (List (Nat × List Nat)) := [[],
  [],
  [],
  [],
  [],
  [],
  [],
  [],
  [],
  [],
  [],
  [(9, [0, 8, 11]), (22, [0, 0, 6]), (31, [0, 9, 2]), (37, [0, 10, 5]), (296, [0, 3, 6]), (299, [0, 1, 6]), (302, [0, 6, 6]), (305, [0, 4, 6]), (308, [0, 5, 6]), (311, [0, 2, 6]), (314, [0, 7, 6])],
  [],
  [],
  [(8, [0, 11, 11]), (18, [0, 12, 21])]]
def z_cT : List (List (Nat × List Nat)) := [[(29, [0, 2147483648])],
  [],
  [],
  [(9, [0, 16777215])],
  [(9, [0, 16777215])],
  [(15, [0, 5592405])],
  [],
  [],
  [],
  [],
  [],
  [(286, [1, 1000000000]), (365, [0, 1103515245]), (366, [0, 2147483647]), (367, [0, 65536])],
  [(157, [0, 1000000000]), (180, [0, 2147483648]), (204, [1, 1000000001]), (216, [0, 1103515245]), (217, [0, 2147483647]), (218, [0, 65536])],
  [(265, [0, 1431655765]), (266, [0, 858993459]), (267, [0, 252645135])],
  []]
def z_aT : List (List (Nat × List Nat)) := [[],
  [],
  [],
  [],
  [],
  [],
  [],
  [],
  [],
  [],
  [],
  [(22, [1, 0]), (31, [1, 9])],
  [],
  [],
  []]
def z_fe (m j : Nat) : List Nat := z_lk z_fT m j
def z_me (m j : Nat) : List Nat := z_lk z_mT m j
def z_ne (m j : Nat) : List Nat := z_lk z_nT m j
def z_ce (m j : Nat) : List Nat := z_lk z_cT m j
def z_ae (m j : Nat) : List Nat := z_lk z_aT m j
abbrev i_R_init : Nat := 0
abbrev i_R_length : Nat := 1
abbrev i_R_has : Nat := 2
abbrev i_R_hasAll : Nat := 3
abbrev i_R_at : Nat := 4
abbrev i_R_setAt : Nat := 5
abbrev i_R_least : Nat := 6
abbrev i_B0_init : Nat := 7
abbrev i_B1_init : Nat := 8
abbrev i_B2_init : Nat := 9
abbrev i_B3_init : Nat := 10
abbrev i_B4_init : Nat := 11
abbrev i_B5_init : Nat := 12
abbrev i_B6_init : Nat := 13
abbrev i_B7_init : Nat := 14
abbrev i_M_init : Nat := 15
abbrev i_M_takeFrom : Nat := 16
abbrev i_M_holdOnly : Nat := 17
abbrev i_M_has : Nat := 18
abbrev i_M_add : Nat := 19
abbrev i_M_told : Nat := 20
abbrev i_M_kindOf : Nat := 21
abbrev i_M_figureOf : Nat := 22
abbrev i_M_placeOf : Nat := 23
abbrev i_M_rungOf : Nat := 24
abbrev i_M_wantsOf : Nat := 25
abbrev i_M_ringsLacking : Nat := 26
abbrev i_M_farFrom : Nat := 27
abbrev i_M_move : Nat := 28
abbrev i_M_isHomeAt : Nat := 29
abbrev i_M_homeAt : Nat := 30
abbrev i_M_hoursAtHomeOf : Nat := 31
abbrev i_M_hear : Nat := 32
abbrev i_M_rungWithOneMore : Nat := 33
abbrev i_M_passOne : Nat := 34
abbrev i_M_pass : Nat := 35
abbrev i_M_soonestOf : Nat := 36
abbrev i_M_ringsTillOpen : Nat := 37
abbrev i_M_areOneDoor : Nat := 38
abbrev i_M_allRung : Nat := 39
abbrev i_M_allOpened : Nat := 40
abbrev i_M_allSteps : Nat := 41
abbrev i_M_sumOf : Nat := 42
abbrev i_E_init : Nat := 43
abbrev i_E_seek : Nat := 44
abbrev i_E_hoursNeeded : Nat := 45
abbrev i_E_bellAt : Nat := 46
abbrev i_E_goOn : Nat := 47
abbrev i_E_keepOrder : Nat := 48
abbrev i_E_wayHours : Nat := 49
abbrev i_E_ringsFrom : Nat := 50
abbrev i_X_init : Nat := 51
abbrev i_X_marsh : Nat := 52
abbrev i_X_bell : Nat := 53
abbrev i_X_comes : Nat := 54
abbrev i_X_rings : Nat := 55
abbrev i_X_hours : Nat := 56
abbrev i_X_moves : Nat := 57
abbrev i_X_home : Nat := 58
abbrev i_X_hoursOf : Nat := 59
abbrev i_X_behind : Nat := 60
abbrev i_X_soonest : Nat := 61
abbrev i_X_fewest : Nat := 62
abbrev i_X_never : Nat := 63
abbrev i_X_first : Nat := 64
abbrev i_X_errands : Nat := 65
abbrev i_X_forAll : Nat := 66
abbrev i_X_busiest : Nat := 67
abbrev i_X_alone : Nat := 68
abbrev i_X_whatRang : Nat := 69
abbrev i_X_tell : Nat := 70
abbrev i_X_oneDoor : Nat := 71
abbrev i_X_feet : Nat := 72
abbrev i_X_odds : Nat := 73
abbrev i_X_run : Nat := 74
abbrev i_X_mean : Nat := 75
abbrev i_X_nearest : Nat := 76
abbrev i_X_forged : Nat := 77
abbrev i_X_judge : Nat := 78
abbrev i_X_days : Nat := 79
abbrev i_X_image : Nat := 80
abbrev i_X_restore : Nat := 81
abbrev i_X_count : Nat := 82
abbrev i_X_keep : Nat := 83
abbrev i_X_row : Nat := 84
abbrev i_X_put : Nat := 85
abbrev i_X_copy : Nat := 86
abbrev i_X_cost : Nat := 87
abbrev i_X_toss : Nat := 88
abbrev i_X_isShelf : Nat := 89
abbrev i_X_isPlace : Nat := 90
abbrev i_X_isHour : Nat := 91
abbrev i_X_isFirstOrSecond : Nat := 92
abbrev i_X_refusedAsLong : Nat := 93
abbrev i_X_holdsNothing : Nat := 94
abbrev i_X_rowOn : Nat := 95
abbrev i_X_bellOn : Nat := 96
abbrev i_X_lackOfRow : Nat := 97
abbrev i_X_lackOfBell : Nat := 98
abbrev i_X_newHouse : Nat := 99
abbrev i_X_houseOf : Nat := 100
abbrev i_X_digitsBehind : Nat := 101
abbrev i_X_isDigit : Nat := 102
abbrev i_X_strayPlace : Nat := 103
abbrev i_X_doStatements : Nat := 104
abbrev i_X_isDone : Nat := 105
abbrev i_X_digit : Nat := 106
abbrev i_X_twoDigits : Nat := 107
abbrev i_X_openedOrHeard : Nat := 108
abbrev i_X_leastHoursFor : Nat := 109
abbrev i_X_mayBeHeard : Nat := 110
abbrev i_X_whyNotHeard : Nat := 111
abbrev i_X_kindsThatRang : Nat := 112
abbrev i_X_figuresThatRang : Nat := 113
abbrev i_X_couldRing : Nat := 114
abbrev i_X_unlikeAt : Nat := 115
abbrev i_X_isAmong : Nat := 116
abbrev i_X_waysStayingClosed : Nat := 117
abbrev i_X_allClosed : Nat := 118
abbrev i_X_partOfFraction : Nat := 119
abbrev i_X_greatestDivisor : Nat := 120
abbrev i_X_nextSeed : Nat := 121
abbrev i_X_drawBelow : Nat := 122
abbrev i_D_init : Nat := 123
abbrev i_D_isIn : Nat := 124
abbrev i_D_least : Nat := 125
abbrev i_D_copies : Nat := 126
abbrev i_D_of : Nat := 127
abbrev i_D_isBell : Nat := 128
abbrev i_D_isPlace : Nat := 129
abbrev i_D_has : Nat := 130
abbrev i_D_bits : Nat := 131
abbrev i_D_isHomeBy : Nat := 132
abbrev i_D_wants : Nat := 133
abbrev i_D_steps : Nat := 134
abbrev i_D_isHome : Nat := 135
abbrev i_D_wantsOf : Nat := 136
abbrev i_D_stepsOf : Nat := 137
abbrev i_D_ringsAs : Nat := 138
abbrev i_D_ringsIn : Nat := 139
abbrev i_D_hour : Nat := 140
abbrev i_D_here : Nat := 141
abbrev i_D_readsNumber : Nat := 142
abbrev i_D_readsStatement : Nat := 143
abbrev i_D_adds : Nat := 144
abbrev i_D_canGo : Nat := 145
abbrev i_D_hoursGo : Nat := 146
abbrev i_D_isDone : Nat := 147
abbrev i_D_marsh : Nat := 148
abbrev i_D_bell : Nat := 149
abbrev i_D_comes : Nat := 150
abbrev i_D_rings : Nat := 151
abbrev i_D_hours : Nat := 152
abbrev i_D_moves : Nat := 153
abbrev i_D_homeAt : Nat := 154
abbrev i_D_home : Nat := 155
abbrev i_D_hoursHome : Nat := 156
abbrev i_D_hoursOf : Nat := 157
abbrev i_D_behind : Nat := 158
abbrev i_D_opensWithin : Nat := 159
abbrev i_D_soonest : Nat := 160
abbrev i_D_fewest : Nat := 161
abbrev i_D_never : Nat := 162
abbrev i_D_first : Nat := 163
abbrev i_D_openedBy : Nat := 164
abbrev i_D_far : Nat := 165
abbrev i_D_goesOn : Nat := 166
abbrev i_D_errands : Nat := 167
abbrev i_D_areHome : Nat := 168
abbrev i_D_forAll : Nat := 169
abbrev i_D_busiest : Nat := 170
abbrev i_D_alone : Nat := 171
abbrev i_D_leastOf : Nat := 172
abbrev i_D_wrongHeard : Nat := 173
abbrev i_D_isHeard : Nat := 174
abbrev i_D_heardBy : Nat := 175
abbrev i_D_whatRang : Nat := 176
abbrev i_D_ringOf : Nat := 177
abbrev i_D_unlikeAt : Nat := 178
abbrev i_D_tell : Nat := 179
abbrev i_D_oneDoor : Nat := 180
abbrev i_D_feet : Nat := 181
abbrev i_D_gcd : Nat := 182
abbrev i_D_partOf : Nat := 183
abbrev i_D_odds : Nat := 184
abbrev i_D_run : Nat := 185
abbrev i_D_stepsAll : Nat := 186
abbrev i_D_mean : Nat := 187
abbrev i_D_nearest : Nat := 188
abbrev i_D_forged : Nat := 189
abbrev i_D_judge : Nat := 190
abbrev i_D_drawn : Nat := 191
abbrev i_D_days : Nat := 192
abbrev i_D_image : Nat := 193
abbrev i_D_restore : Nat := 194
abbrev i_D_count : Nat := 195
abbrev i_D_thrown : Nat := 196
abbrev i_D_isShelf : Nat := 197
abbrev i_D_wrongRow : Nat := 198
abbrev i_D_wrongKept : Nat := 199
abbrev i_D_keep : Nat := 200
abbrev i_D_row : Nat := 201
abbrev i_D_put : Nat := 202
abbrev i_D_element : Nat := 203
abbrev i_D_copy : Nat := 204
abbrev i_D_costBy : Nat := 205
abbrev i_D_cost : Nat := 206
abbrev i_D_toss : Nat := 207
abbrev i_J_bitCount : Nat := 208
abbrev i_L_law : Nat := 209
abbrev i_B0_fail : Nat := 210
abbrev i_B1_fail : Nat := 211
abbrev i_B2_fail : Nat := 212
abbrev i_B6_fail : Nat := 213
abbrev i_B7_fail : Nat := 214
abbrev i_X_element : Nat := 215
abbrev i_X_caughtFrom : Nat := 216
abbrev i_L_element : Nat := 217
