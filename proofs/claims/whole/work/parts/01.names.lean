-- ===== PART A: goes FIRST, ahead of the names: the tables' words, and 'selects' of the private methods out of them =====
/-- a private method of a class that the tables say can be made, by its rows of tables_1 -/
def lw_okq (q : MethodName × Nat) : Prop := (q.1.cls ≠ "java/lang/invoke/MethodHandle" ∧ q.1.cls ≠ "java/lang/invoke/VarHandle") ∧ Cond.instantiable q.1.cls q.2 ∈ tables_1 ∧ Cond.privateMethod q.1 ∈ tables_1 ∧ Cond.instanceMethod q.1 ∈ tables_1
theorem lw_p0 : lw_okq (⟨"ClickEachTurn", "refuse", "(I)I"⟩, 12) := ⟨⟨by decide +kernel, by decide +kernel⟩, List.mem_of_getElem? (i := 10) (by decide +kernel), List.mem_of_getElem? (i := 238) (by decide +kernel), List.mem_of_getElem? (i := 239) (by decide +kernel)⟩
theorem lw_p1 : lw_okq (⟨"ClickEachTurn$Tape", "peek", "()I"⟩, 6) := ⟨⟨by decide +kernel, by decide +kernel⟩, List.mem_of_getElem? (i := 18) (by decide +kernel), List.mem_of_getElem? (i := 258) (by decide +kernel), List.mem_of_getElem? (i := 259) (by decide +kernel)⟩
theorem lw_p2 : lw_okq (⟨"ClickEachTurn$Tape", "readFault", "()Z"⟩, 6) := ⟨⟨by decide +kernel, by decide +kernel⟩, List.mem_of_getElem? (i := 18) (by decide +kernel), List.mem_of_getElem? (i := 262) (by decide +kernel), List.mem_of_getElem? (i := 263) (by decide +kernel)⟩
theorem lw_p3 : lw_okq (⟨"ClickEachTurn$Tape", "readNumber", "(III)Z"⟩, 6) := ⟨⟨by decide +kernel, by decide +kernel⟩, List.mem_of_getElem? (i := 18) (by decide +kernel), List.mem_of_getElem? (i := 269) (by decide +kernel), List.mem_of_getElem? (i := 270) (by decide +kernel)⟩
theorem lw_p4 : lw_okq (⟨"ClickEachTurn$Tape", "skip", "(I)Z"⟩, 6) := ⟨⟨by decide +kernel, by decide +kernel⟩, List.mem_of_getElem? (i := 18) (by decide +kernel), List.mem_of_getElem? (i := 273) (by decide +kernel), List.mem_of_getElem? (i := 274) (by decide +kernel)⟩
theorem lw_p5 : lw_okq (⟨"ClickEachTurn$Tape", "readBall", "()Z"⟩, 6) := ⟨⟨by decide +kernel, by decide +kernel⟩, List.mem_of_getElem? (i := 18) (by decide +kernel), List.mem_of_getElem? (i := 277) (by decide +kernel), List.mem_of_getElem? (i := 278) (by decide +kernel)⟩
theorem lw_p6 : lw_okq (⟨"ClickEachTurn", "takeStatements", "(I)I"⟩, 12) := ⟨⟨by decide +kernel, by decide +kernel⟩, List.mem_of_getElem? (i := 10) (by decide +kernel), List.mem_of_getElem? (i := 281) (by decide +kernel), List.mem_of_getElem? (i := 282) (by decide +kernel)⟩
theorem lw_p7 : lw_okq (⟨"ClickEachTurn$Bike", "addCog", "(I)Z"⟩, 13) := ⟨⟨by decide +kernel, by decide +kernel⟩, List.mem_of_getElem? (i := 50) (by decide +kernel), List.mem_of_getElem? (i := 301) (by decide +kernel), List.mem_of_getElem? (i := 302) (by decide +kernel)⟩
theorem lw_p8 : lw_okq (⟨"ClickEachTurn$Bike", "addFault", "(LClickEachTurn$Tape;)Z"⟩, 13) := ⟨⟨by decide +kernel, by decide +kernel⟩, List.mem_of_getElem? (i := 50) (by decide +kernel), List.mem_of_getElem? (i := 305) (by decide +kernel), List.mem_of_getElem? (i := 306) (by decide +kernel)⟩
theorem lw_p9 : lw_okq (⟨"ClickEachTurn", "isGear", "(I)Z"⟩, 12) := ⟨⟨by decide +kernel, by decide +kernel⟩, List.mem_of_getElem? (i := 10) (by decide +kernel), List.mem_of_getElem? (i := 317) (by decide +kernel), List.mem_of_getElem? (i := 318) (by decide +kernel)⟩
theorem lw_p10 : lw_okq (⟨"ClickEachTurn", "isFault", "(I)Z"⟩, 12) := ⟨⟨by decide +kernel, by decide +kernel⟩, List.mem_of_getElem? (i := 10) (by decide +kernel), List.mem_of_getElem? (i := 325) (by decide +kernel), List.mem_of_getElem? (i := 326) (by decide +kernel)⟩
theorem lw_p11 : lw_okq (⟨"ClickEachTurn$Rider", "listen", "(IIIII)V"⟩, 8) := ⟨⟨by decide +kernel, by decide +kernel⟩, List.mem_of_getElem? (i := 161) (by decide +kernel), List.mem_of_getElem? (i := 409) (by decide +kernel), List.mem_of_getElem? (i := 410) (by decide +kernel)⟩
theorem lw_p12 : lw_okq (⟨"ClickEachTurn$Rider", "partsInStep", "(I)I"⟩, 8) := ⟨⟨by decide +kernel, by decide +kernel⟩, List.mem_of_getElem? (i := 161) (by decide +kernel), List.mem_of_getElem? (i := 426) (by decide +kernel), List.mem_of_getElem? (i := 427) (by decide +kernel)⟩
theorem lw_p13 : lw_okq (⟨"ClickEachTurn", "clicksInStage", "(IIII)I"⟩, 12) := ⟨⟨by decide +kernel, by decide +kernel⟩, List.mem_of_getElem? (i := 10) (by decide +kernel), List.mem_of_getElem? (i := 442) (by decide +kernel), List.mem_of_getElem? (i := 443) (by decide +kernel)⟩
theorem lw_p14 : lw_okq (⟨"ClickEachTurn", "listenToRide", "()V"⟩, 12) := ⟨⟨by decide +kernel, by decide +kernel⟩, List.mem_of_getElem? (i := 10) (by decide +kernel), List.mem_of_getElem? (i := 456) (by decide +kernel), List.mem_of_getElem? (i := 457) (by decide +kernel)⟩
theorem lw_p15 : lw_okq (⟨"ClickEachTurn", "fittingBits", "(II)I"⟩, 12) := ⟨⟨by decide +kernel, by decide +kernel⟩, List.mem_of_getElem? (i := 10) (by decide +kernel), List.mem_of_getElem? (i := 476) (by decide +kernel), List.mem_of_getElem? (i := 477) (by decide +kernel)⟩
def lw_privs_1 : List (MethodName × Nat) := [(⟨"ClickEachTurn", "refuse", "(I)I"⟩, 12), (⟨"ClickEachTurn$Tape", "peek", "()I"⟩, 6), (⟨"ClickEachTurn$Tape", "readFault", "()Z"⟩, 6), (⟨"ClickEachTurn$Tape", "readNumber", "(III)Z"⟩, 6), (⟨"ClickEachTurn$Tape", "skip", "(I)Z"⟩, 6), (⟨"ClickEachTurn$Tape", "readBall", "()Z"⟩, 6), (⟨"ClickEachTurn", "takeStatements", "(I)I"⟩, 12), (⟨"ClickEachTurn$Bike", "addCog", "(I)Z"⟩, 13), (⟨"ClickEachTurn$Bike", "addFault", "(LClickEachTurn$Tape;)Z"⟩, 13), (⟨"ClickEachTurn", "isGear", "(I)Z"⟩, 12), (⟨"ClickEachTurn", "isFault", "(I)Z"⟩, 12), (⟨"ClickEachTurn$Rider", "listen", "(IIIII)V"⟩, 8), (⟨"ClickEachTurn$Rider", "partsInStep", "(I)I"⟩, 8), (⟨"ClickEachTurn", "clicksInStage", "(IIII)I"⟩, 12), (⟨"ClickEachTurn", "listenToRide", "()V"⟩, 12), (⟨"ClickEachTurn", "fittingBits", "(II)I"⟩, 12)]
theorem lw_r1 : ∀ q ∈ lw_privs_1, lw_okq q := List.forall_mem_cons.mpr ⟨lw_p0, List.forall_mem_cons.mpr ⟨lw_p1, List.forall_mem_cons.mpr ⟨lw_p2, List.forall_mem_cons.mpr ⟨lw_p3, List.forall_mem_cons.mpr ⟨lw_p4, List.forall_mem_cons.mpr ⟨lw_p5, List.forall_mem_cons.mpr ⟨lw_p6, List.forall_mem_cons.mpr ⟨lw_p7, List.forall_mem_cons.mpr ⟨lw_p8, List.forall_mem_cons.mpr ⟨lw_p9, List.forall_mem_cons.mpr ⟨lw_p10, List.forall_mem_cons.mpr ⟨lw_p11, List.forall_mem_cons.mpr ⟨lw_p12, List.forall_mem_cons.mpr ⟨lw_p13, List.forall_mem_cons.mpr ⟨lw_p14, List.forall_mem_cons.mpr ⟨lw_p15, fun _ h => absurd h List.not_mem_nil⟩⟩⟩⟩⟩⟩⟩⟩⟩⟩⟩⟩⟩⟩⟩⟩
theorem lw_p16 : lw_okq (⟨"ClickEachTurn", "areTwoFaults", "(II)Z"⟩, 12) := ⟨⟨by decide +kernel, by decide +kernel⟩, List.mem_of_getElem? (i := 10) (by decide +kernel), List.mem_of_getElem? (i := 505) (by decide +kernel), List.mem_of_getElem? (i := 506) (by decide +kernel)⟩
theorem lw_p17 : lw_okq (⟨"ClickEachTurn", "unlikeCounts", "(III)I"⟩, 12) := ⟨⟨by decide +kernel, by decide +kernel⟩, List.mem_of_getElem? (i := 10) (by decide +kernel), List.mem_of_getElem? (i := 513) (by decide +kernel), List.mem_of_getElem? (i := 514) (by decide +kernel)⟩
theorem lw_p18 : lw_okq (⟨"ClickEachTurn", "findLeastOrder", "()V"⟩, 12) := ⟨⟨by decide +kernel, by decide +kernel⟩, List.mem_of_getElem? (i := 10) (by decide +kernel), List.mem_of_getElem? (i := 546) (by decide +kernel), List.mem_of_getElem? (i := 547) (by decide +kernel)⟩
theorem lw_p19 : lw_okq (⟨"ClickEachTurn", "sumOf", "([I)I"⟩, 12) := ⟨⟨by decide +kernel, by decide +kernel⟩, List.mem_of_getElem? (i := 10) (by decide +kernel), List.mem_of_getElem? (i := 554) (by decide +kernel), List.mem_of_getElem? (i := 555) (by decide +kernel)⟩
theorem lw_p20 : lw_okq (⟨"ClickEachTurn", "isToldEachFaultOnce", "()Z"⟩, 12) := ⟨⟨by decide +kernel, by decide +kernel⟩, List.mem_of_getElem? (i := 10) (by decide +kernel), List.mem_of_getElem? (i := 573) (by decide +kernel), List.mem_of_getElem? (i := 574) (by decide +kernel)⟩
theorem lw_p21 : lw_okq (⟨"ClickEachTurnModel", "refuse", "(I)I"⟩, 25) := ⟨⟨by decide +kernel, by decide +kernel⟩, List.mem_of_getElem? (i := 593) (by decide +kernel), List.mem_of_getElem? (i := 679) (by decide +kernel), List.mem_of_getElem? (i := 680) (by decide +kernel)⟩
theorem lw_p22 : lw_okq (⟨"ClickEachTurnModel", "reads", "()I"⟩, 25) := ⟨⟨by decide +kernel, by decide +kernel⟩, List.mem_of_getElem? (i := 593) (by decide +kernel), List.mem_of_getElem? (i := 688) (by decide +kernel), List.mem_of_getElem? (i := 689) (by decide +kernel)⟩
theorem lw_p23 : lw_okq (⟨"ClickEachTurnModel", "readsStatement", "()Z"⟩, 25) := ⟨⟨by decide +kernel, by decide +kernel⟩, List.mem_of_getElem? (i := 593) (by decide +kernel), List.mem_of_getElem? (i := 692) (by decide +kernel), List.mem_of_getElem? (i := 693) (by decide +kernel)⟩
theorem lw_p24 : lw_okq (⟨"ClickEachTurnModel", "sign", "()I"⟩, 25) := ⟨⟨by decide +kernel, by decide +kernel⟩, List.mem_of_getElem? (i := 593) (by decide +kernel), List.mem_of_getElem? (i := 696) (by decide +kernel), List.mem_of_getElem? (i := 697) (by decide +kernel)⟩
theorem lw_p25 : lw_okq (⟨"ClickEachTurnModel", "readsNumber", "(III)Z"⟩, 25) := ⟨⟨by decide +kernel, by decide +kernel⟩, List.mem_of_getElem? (i := 593) (by decide +kernel), List.mem_of_getElem? (i := 700) (by decide +kernel), List.mem_of_getElem? (i := 701) (by decide +kernel)⟩
theorem lw_p26 : lw_okq (⟨"ClickEachTurnModel", "takes", "(I)Z"⟩, 25) := ⟨⟨by decide +kernel, by decide +kernel⟩, List.mem_of_getElem? (i := 593) (by decide +kernel), List.mem_of_getElem? (i := 704) (by decide +kernel), List.mem_of_getElem? (i := 705) (by decide +kernel)⟩
theorem lw_p27 : lw_okq (⟨"ClickEachTurnModel", "comes", "(I)Z"⟩, 25) := ⟨⟨by decide +kernel, by decide +kernel⟩, List.mem_of_getElem? (i := 593) (by decide +kernel), List.mem_of_getElem? (i := 711) (by decide +kernel), List.mem_of_getElem? (i := 712) (by decide +kernel)⟩
theorem lw_p28 : lw_okq (⟨"ClickEachTurnModel", "isGear", "(I)Z"⟩, 25) := ⟨⟨by decide +kernel, by decide +kernel⟩, List.mem_of_getElem? (i := 593) (by decide +kernel), List.mem_of_getElem? (i := 722) (by decide +kernel), List.mem_of_getElem? (i := 723) (by decide +kernel)⟩
theorem lw_p29 : lw_okq (⟨"ClickEachTurnModel", "isFault", "(I)Z"⟩, 25) := ⟨⟨by decide +kernel, by decide +kernel⟩, List.mem_of_getElem? (i := 593) (by decide +kernel), List.mem_of_getElem? (i := 733) (by decide +kernel), List.mem_of_getElem? (i := 734) (by decide +kernel)⟩
theorem lw_p30 : lw_okq (⟨"ClickEachTurnModel", "get", "(II)I"⟩, 25) := ⟨⟨by decide +kernel, by decide +kernel⟩, List.mem_of_getElem? (i := 593) (by decide +kernel), List.mem_of_getElem? (i := 737) (by decide +kernel), List.mem_of_getElem? (i := 738) (by decide +kernel)⟩
theorem lw_p31 : lw_okq (⟨"ClickEachTurnModel", "limitOf", "(II)I"⟩, 25) := ⟨⟨by decide +kernel, by decide +kernel⟩, List.mem_of_getElem? (i := 593) (by decide +kernel), List.mem_of_getElem? (i := 741) (by decide +kernel), List.mem_of_getElem? (i := 742) (by decide +kernel)⟩
def lw_privs_2 : List (MethodName × Nat) := [(⟨"ClickEachTurn", "areTwoFaults", "(II)Z"⟩, 12), (⟨"ClickEachTurn", "unlikeCounts", "(III)I"⟩, 12), (⟨"ClickEachTurn", "findLeastOrder", "()V"⟩, 12), (⟨"ClickEachTurn", "sumOf", "([I)I"⟩, 12), (⟨"ClickEachTurn", "isToldEachFaultOnce", "()Z"⟩, 12), (⟨"ClickEachTurnModel", "refuse", "(I)I"⟩, 25), (⟨"ClickEachTurnModel", "reads", "()I"⟩, 25), (⟨"ClickEachTurnModel", "readsStatement", "()Z"⟩, 25), (⟨"ClickEachTurnModel", "sign", "()I"⟩, 25), (⟨"ClickEachTurnModel", "readsNumber", "(III)Z"⟩, 25), (⟨"ClickEachTurnModel", "takes", "(I)Z"⟩, 25), (⟨"ClickEachTurnModel", "comes", "(I)Z"⟩, 25), (⟨"ClickEachTurnModel", "isGear", "(I)Z"⟩, 25), (⟨"ClickEachTurnModel", "isFault", "(I)Z"⟩, 25), (⟨"ClickEachTurnModel", "get", "(II)I"⟩, 25), (⟨"ClickEachTurnModel", "limitOf", "(II)I"⟩, 25)]
theorem lw_r2 : ∀ q ∈ lw_privs_2, lw_okq q := List.forall_mem_cons.mpr ⟨lw_p16, List.forall_mem_cons.mpr ⟨lw_p17, List.forall_mem_cons.mpr ⟨lw_p18, List.forall_mem_cons.mpr ⟨lw_p19, List.forall_mem_cons.mpr ⟨lw_p20, List.forall_mem_cons.mpr ⟨lw_p21, List.forall_mem_cons.mpr ⟨lw_p22, List.forall_mem_cons.mpr ⟨lw_p23, List.forall_mem_cons.mpr ⟨lw_p24, List.forall_mem_cons.mpr ⟨lw_p25, List.forall_mem_cons.mpr ⟨lw_p26, List.forall_mem_cons.mpr ⟨lw_p27, List.forall_mem_cons.mpr ⟨lw_p28, List.forall_mem_cons.mpr ⟨lw_p29, List.forall_mem_cons.mpr ⟨lw_p30, List.forall_mem_cons.mpr ⟨lw_p31, fun _ h => absurd h List.not_mem_nil⟩⟩⟩⟩⟩⟩⟩⟩⟩⟩⟩⟩⟩⟩⟩⟩
theorem lw_p32 : lw_okq (⟨"ClickEachTurnModel", "upOf", "(I)I"⟩, 25) := ⟨⟨by decide +kernel, by decide +kernel⟩, List.mem_of_getElem? (i := 593) (by decide +kernel), List.mem_of_getElem? (i := 749) (by decide +kernel), List.mem_of_getElem? (i := 750) (by decide +kernel)⟩
theorem lw_p33 : lw_okq (⟨"ClickEachTurnModel", "downOf", "(II)I"⟩, 25) := ⟨⟨by decide +kernel, by decide +kernel⟩, List.mem_of_getElem? (i := 593) (by decide +kernel), List.mem_of_getElem? (i := 753) (by decide +kernel), List.mem_of_getElem? (i := 754) (by decide +kernel)⟩
theorem lw_p34 : lw_okq (⟨"ClickEachTurnModel", "loadOf", "(II)I"⟩, 25) := ⟨⟨by decide +kernel, by decide +kernel⟩, List.mem_of_getElem? (i := 593) (by decide +kernel), List.mem_of_getElem? (i := 767) (by decide +kernel), List.mem_of_getElem? (i := 768) (by decide +kernel)⟩
theorem lw_p35 : lw_okq (⟨"ClickEachTurnModel", "counted", "()V"⟩, 25) := ⟨⟨by decide +kernel, by decide +kernel⟩, List.mem_of_getElem? (i := 593) (by decide +kernel), List.mem_of_getElem? (i := 798) (by decide +kernel), List.mem_of_getElem? (i := 799) (by decide +kernel)⟩
theorem lw_p36 : lw_okq (⟨"ClickEachTurnModel", "begins", "()V"⟩, 25) := ⟨⟨by decide +kernel, by decide +kernel⟩, List.mem_of_getElem? (i := 593) (by decide +kernel), List.mem_of_getElem? (i := 802) (by decide +kernel), List.mem_of_getElem? (i := 803) (by decide +kernel)⟩
theorem lw_p37 : lw_okq (⟨"ClickEachTurnModel", "rides", "()V"⟩, 25) := ⟨⟨by decide +kernel, by decide +kernel⟩, List.mem_of_getElem? (i := 593) (by decide +kernel), List.mem_of_getElem? (i := 806) (by decide +kernel), List.mem_of_getElem? (i := 807) (by decide +kernel)⟩
theorem lw_p38 : lw_okq (⟨"ClickEachTurnModel", "goesStage", "(III)V"⟩, 25) := ⟨⟨by decide +kernel, by decide +kernel⟩, List.mem_of_getElem? (i := 593) (by decide +kernel), List.mem_of_getElem? (i := 810) (by decide +kernel), List.mem_of_getElem? (i := 811) (by decide +kernel)⟩
theorem lw_p39 : lw_okq (⟨"ClickEachTurnModel", "opensStage", "(I)V"⟩, 25) := ⟨⟨by decide +kernel, by decide +kernel⟩, List.mem_of_getElem? (i := 593) (by decide +kernel), List.mem_of_getElem? (i := 814) (by decide +kernel), List.mem_of_getElem? (i := 815) (by decide +kernel)⟩
theorem lw_p40 : lw_okq (⟨"ClickEachTurnModel", "goesStep", "(II)V"⟩, 25) := ⟨⟨by decide +kernel, by decide +kernel⟩, List.mem_of_getElem? (i := 593) (by decide +kernel), List.mem_of_getElem? (i := 818) (by decide +kernel), List.mem_of_getElem? (i := 819) (by decide +kernel)⟩
theorem lw_p41 : lw_okq (⟨"ClickEachTurnModel", "comesBy", "(II)Z"⟩, 25) := ⟨⟨by decide +kernel, by decide +kernel⟩, List.mem_of_getElem? (i := 593) (by decide +kernel), List.mem_of_getElem? (i := 822) (by decide +kernel), List.mem_of_getElem? (i := 823) (by decide +kernel)⟩
theorem lw_p42 : lw_okq (⟨"ClickEachTurnModel", "isSilent", "(I)Z"⟩, 25) := ⟨⟨by decide +kernel, by decide +kernel⟩, List.mem_of_getElem? (i := 593) (by decide +kernel), List.mem_of_getElem? (i := 826) (by decide +kernel), List.mem_of_getElem? (i := 827) (by decide +kernel)⟩
theorem lw_p43 : lw_okq (⟨"ClickEachTurnModel", "clicks", "(I)V"⟩, 25) := ⟨⟨by decide +kernel, by decide +kernel⟩, List.mem_of_getElem? (i := 593) (by decide +kernel), List.mem_of_getElem? (i := 830) (by decide +kernel), List.mem_of_getElem? (i := 831) (by decide +kernel)⟩
theorem lw_p44 : lw_okq (⟨"ClickEachTurnModel", "stageAlone", "(III)V"⟩, 25) := ⟨⟨by decide +kernel, by decide +kernel⟩, List.mem_of_getElem? (i := 593) (by decide +kernel), List.mem_of_getElem? (i := 841) (by decide +kernel), List.mem_of_getElem? (i := 842) (by decide +kernel)⟩
theorem lw_p45 : lw_okq (⟨"ClickEachTurnModel", "fitOf", "(II)I"⟩, 25) := ⟨⟨by decide +kernel, by decide +kernel⟩, List.mem_of_getElem? (i := 593) (by decide +kernel), List.mem_of_getElem? (i := 864) (by decide +kernel), List.mem_of_getElem? (i := 865) (by decide +kernel)⟩
theorem lw_p46 : lw_okq (⟨"ClickEachTurnModel", "partOf", "(III)I"⟩, 25) := ⟨⟨by decide +kernel, by decide +kernel⟩, List.mem_of_getElem? (i := 593) (by decide +kernel), List.mem_of_getElem? (i := 875) (by decide +kernel), List.mem_of_getElem? (i := 876) (by decide +kernel)⟩
theorem lw_p47 : lw_okq (⟨"ClickEachTurnModel", "areTwo", "(II)Z"⟩, 25) := ⟨⟨by decide +kernel, by decide +kernel⟩, List.mem_of_getElem? (i := 593) (by decide +kernel), List.mem_of_getElem? (i := 890) (by decide +kernel), List.mem_of_getElem? (i := 891) (by decide +kernel)⟩
def lw_privs_3 : List (MethodName × Nat) := [(⟨"ClickEachTurnModel", "upOf", "(I)I"⟩, 25), (⟨"ClickEachTurnModel", "downOf", "(II)I"⟩, 25), (⟨"ClickEachTurnModel", "loadOf", "(II)I"⟩, 25), (⟨"ClickEachTurnModel", "counted", "()V"⟩, 25), (⟨"ClickEachTurnModel", "begins", "()V"⟩, 25), (⟨"ClickEachTurnModel", "rides", "()V"⟩, 25), (⟨"ClickEachTurnModel", "goesStage", "(III)V"⟩, 25), (⟨"ClickEachTurnModel", "opensStage", "(I)V"⟩, 25), (⟨"ClickEachTurnModel", "goesStep", "(II)V"⟩, 25), (⟨"ClickEachTurnModel", "comesBy", "(II)Z"⟩, 25), (⟨"ClickEachTurnModel", "isSilent", "(I)Z"⟩, 25), (⟨"ClickEachTurnModel", "clicks", "(I)V"⟩, 25), (⟨"ClickEachTurnModel", "stageAlone", "(III)V"⟩, 25), (⟨"ClickEachTurnModel", "fitOf", "(II)I"⟩, 25), (⟨"ClickEachTurnModel", "partOf", "(III)I"⟩, 25), (⟨"ClickEachTurnModel", "areTwo", "(II)Z"⟩, 25)]
theorem lw_r3 : ∀ q ∈ lw_privs_3, lw_okq q := List.forall_mem_cons.mpr ⟨lw_p32, List.forall_mem_cons.mpr ⟨lw_p33, List.forall_mem_cons.mpr ⟨lw_p34, List.forall_mem_cons.mpr ⟨lw_p35, List.forall_mem_cons.mpr ⟨lw_p36, List.forall_mem_cons.mpr ⟨lw_p37, List.forall_mem_cons.mpr ⟨lw_p38, List.forall_mem_cons.mpr ⟨lw_p39, List.forall_mem_cons.mpr ⟨lw_p40, List.forall_mem_cons.mpr ⟨lw_p41, List.forall_mem_cons.mpr ⟨lw_p42, List.forall_mem_cons.mpr ⟨lw_p43, List.forall_mem_cons.mpr ⟨lw_p44, List.forall_mem_cons.mpr ⟨lw_p45, List.forall_mem_cons.mpr ⟨lw_p46, List.forall_mem_cons.mpr ⟨lw_p47, fun _ h => absurd h List.not_mem_nil⟩⟩⟩⟩⟩⟩⟩⟩⟩⟩⟩⟩⟩⟩⟩⟩
theorem lw_p48 : lw_okq (⟨"ClickEachTurnModel", "unlike", "()I"⟩, 25) := ⟨⟨by decide +kernel, by decide +kernel⟩, List.mem_of_getElem? (i := 593) (by decide +kernel), List.mem_of_getElem? (i := 898) (by decide +kernel), List.mem_of_getElem? (i := 899) (by decide +kernel)⟩
theorem lw_p49 : lw_okq (⟨"ClickEachTurnModel", "weights", "()I"⟩, 25) := ⟨⟨by decide +kernel, by decide +kernel⟩, List.mem_of_getElem? (i := 593) (by decide +kernel), List.mem_of_getElem? (i := 914) (by decide +kernel), List.mem_of_getElem? (i := 915) (by decide +kernel)⟩
theorem lw_p50 : lw_okq (⟨"ClickEachTurnModel", "findLeast", "()V"⟩, 25) := ⟨⟨by decide +kernel, by decide +kernel⟩, List.mem_of_getElem? (i := 593) (by decide +kernel), List.mem_of_getElem? (i := 926) (by decide +kernel), List.mem_of_getElem? (i := 927) (by decide +kernel)⟩
theorem lw_p51 : lw_okq (⟨"ClickEachTurnModel", "orders", "(II)V"⟩, 25) := ⟨⟨by decide +kernel, by decide +kernel⟩, List.mem_of_getElem? (i := 593) (by decide +kernel), List.mem_of_getElem? (i := 930) (by decide +kernel), List.mem_of_getElem? (i := 931) (by decide +kernel)⟩
theorem lw_p52 : lw_okq (⟨"ClickEachTurnModel", "sumOf", "(I)I"⟩, 25) := ⟨⟨by decide +kernel, by decide +kernel⟩, List.mem_of_getElem? (i := 593) (by decide +kernel), List.mem_of_getElem? (i := 934) (by decide +kernel), List.mem_of_getElem? (i := 935) (by decide +kernel)⟩
def lw_privs_4 : List (MethodName × Nat) := [(⟨"ClickEachTurnModel", "unlike", "()I"⟩, 25), (⟨"ClickEachTurnModel", "weights", "()I"⟩, 25), (⟨"ClickEachTurnModel", "findLeast", "()V"⟩, 25), (⟨"ClickEachTurnModel", "orders", "(II)V"⟩, 25), (⟨"ClickEachTurnModel", "sumOf", "(I)I"⟩, 25)]
theorem lw_r4 : ∀ q ∈ lw_privs_4, lw_okq q := List.forall_mem_cons.mpr ⟨lw_p48, List.forall_mem_cons.mpr ⟨lw_p49, List.forall_mem_cons.mpr ⟨lw_p50, List.forall_mem_cons.mpr ⟨lw_p51, List.forall_mem_cons.mpr ⟨lw_p52, fun _ h => absurd h List.not_mem_nil⟩⟩⟩⟩⟩
def lw_privs : List (MethodName × Nat) := lw_privs_1 ++ (lw_privs_2 ++ (lw_privs_3 ++ (lw_privs_4)))
def lw_tbl : List Cond := k2_sels lw_privs ++ tables_1
theorem lw_privs_ok : ∀ q ∈ lw_privs, lw_okq q := by
  show ∀ q ∈ lw_privs_1 ++ (lw_privs_2 ++ (lw_privs_3 ++ (lw_privs_4))), lw_okq q
  exact List.forall_mem_append.mpr ⟨lw_r1, List.forall_mem_append.mpr ⟨lw_r2, List.forall_mem_append.mpr ⟨lw_r3, lw_r4⟩⟩⟩
-- names
def RX0 : String := "ClickEachTurn$Bike"
def TX0 : u_T := fun k => match k with
  | 0 => ("ClickEachTurn$Bike", "front", "I", false)
  | 1 => ("ClickEachTurn$Bike", "links", "I", false)
  | 2 => ("ClickEachTurn$Bike", "cogs", "[I", true)
  | 3 => ("ClickEachTurn$Bike", "cogCount", "I", false)
  | 4 => ("ClickEachTurn$Bike", "faults", "[LClickEachTurn$Fault;", true)
  | 5 => ("ClickEachTurn$Bike", "faultCount", "I", false)
  | 6 => ("ClickEachTurn$Bike", "settings", "[I", true)
  | 7 => ("ClickEachTurn$Bike", "ridden", "I", false)
  | 8 => ("ClickEachTurn$Bike", "oiledAfter", "I", false)
  | 9 => ("ClickEachTurn$Bike", "stageActs", "[I", true)
  | 10 => ("ClickEachTurn$Bike", "stageGears", "[I", true)
  | 11 => ("ClickEachTurn$Bike", "stageTurns", "[I", true)
  | _ => ("ClickEachTurn$Bike", "stageCount", "I", false)
def tyX0 : Nat → FieldType := fun k => match k with
  | 0 => .int
  | 1 => .int
  | 2 => .array .int
  | 3 => .int
  | 4 => .array (.object "ClickEachTurn$Fault")
  | 5 => .int
  | 6 => .array .int
  | 7 => .int
  | 8 => .int
  | 9 => .array .int
  | 10 => .array .int
  | 11 => .array .int
  | _ => .int
abbrev wsX00 : List Cond := u_ws RX0 TX0 13
theorem nmX0 : ∀ a, a < 13 → ∀ b, b < 13 → a ≠ b → (TX0 a).2.1 ≠ (TX0 b).2.1 := by decide +kernel
theorem tyX0_ok : ∀ k, k < 13 → parseFieldDescriptor (TX0 k).2.2.1 = some (tyX0 k) := by decide +kernel
abbrev cX0_init : ByteArray := prog_2_method_1_code
def yX0_init : MethodName := ⟨RX0, "<init>", "()V"⟩
abbrev cX0_copyFrom : ByteArray := prog_2_method_2_code
def yX0_copyFrom : MethodName := ⟨RX0, "copyFrom", "(LClickEachTurn$Bike;)V"⟩
abbrev cX0_takeStatement : ByteArray := prog_2_method_3_code
def yX0_takeStatement : MethodName := ⟨RX0, "takeStatement", "(LClickEachTurn$Tape;)Z"⟩
abbrev cX0_addCog : ByteArray := prog_2_method_4_code
def yX0_addCog : MethodName := ⟨RX0, "addCog", "(I)Z"⟩
abbrev cX0_addFault : ByteArray := prog_2_method_5_code
def yX0_addFault : MethodName := ⟨RX0, "addFault", "(LClickEachTurn$Tape;)Z"⟩
abbrev cX0_addStage : ByteArray := prog_2_method_6_code
def yX0_addStage : MethodName := ⟨RX0, "addStage", "(III)V"⟩
abbrev cX0_turnsOfRide : ByteArray := prog_2_method_7_code
def yX0_turnsOfRide : MethodName := ⟨RX0, "turnsOfRide", "()I"⟩
abbrev cX0_upOf : ByteArray := prog_2_method_8_code
def yX0_upOf : MethodName := ⟨RX0, "upOf", "(LClickEachTurn$Fault;)I"⟩
abbrev cX0_downOf : ByteArray := prog_2_method_9_code
def yX0_downOf : MethodName := ⟨RX0, "downOf", "(LClickEachTurn$Fault;I)I"⟩
abbrev cX0_loadIn : ByteArray := prog_2_method_10_code
def yX0_loadIn : MethodName := ⟨RX0, "loadIn", "(II)I"⟩
abbrev cX0_wasOiled : ByteArray := prog_2_method_11_code
def yX0_wasOiled : MethodName := ⟨RX0, "wasOiled", "()Z"⟩
abbrev cX0_isSilent : ByteArray := prog_2_method_12_code
def yX0_isSilent : MethodName := ⟨RX0, "isSilent", "(LClickEachTurn$Fault;I)Z"⟩
abbrev cX0_weightOf : ByteArray := prog_2_method_13_code
def yX0_weightOf : MethodName := ⟨RX0, "weightOf", "(I)I"⟩
def RX1 : String := "ClickEachTurn$Fault"
def TX1 : u_T := fun k => match k with
  | 0 => ("ClickEachTurn$Fault", "kind", "I", false)
  | 1 => ("ClickEachTurn$Fault", "place", "I", false)
  | 2 => ("ClickEachTurn$Fault", "ownLoad", "I", false)
  | 3 => ("ClickEachTurn$Fault", "weight", "I", false)
  | 4 => ("ClickEachTurn$Fault", "minutes", "I", false)
  | 5 => ("ClickEachTurn$Fault", "ballUp", "I", false)
  | 6 => ("ClickEachTurn$Fault", "ballDown", "I", false)
  | 7 => ("ClickEachTurn$Fault", "at", "I", false)
  | _ => ("ClickEachTurn$Fault", "atDown", "I", false)
def tyX1 : Nat → FieldType := fun k => match k with
  | 0 => .int
  | 1 => .int
  | 2 => .int
  | 3 => .int
  | 4 => .int
  | 5 => .int
  | 6 => .int
  | 7 => .int
  | _ => .int
abbrev wsX10 : List Cond := u_ws RX1 TX1 9
theorem nmX1 : ∀ a, a < 9 → ∀ b, b < 9 → a ≠ b → (TX1 a).2.1 ≠ (TX1 b).2.1 := by decide +kernel
theorem tyX1_ok : ∀ k, k < 9 → parseFieldDescriptor (TX1 k).2.2.1 = some (tyX1 k) := by decide +kernel
abbrev cX1_init : ByteArray := prog_3_method_1_code
def yX1_init : MethodName := ⟨RX1, "<init>", "()V"⟩
abbrev cX1_copyFrom : ByteArray := prog_3_method_2_code
def yX1_copyFrom : MethodName := ⟨RX1, "copyFrom", "(LClickEachTurn$Fault;)V"⟩
abbrev cX1_become : ByteArray := prog_3_method_3_code
def yX1_become : MethodName := ⟨RX1, "become", "(LClickEachTurn$Tape;)Z"⟩
abbrev cX1_limitAfter : ByteArray := prog_3_method_4_code
def yX1_limitAfter : MethodName := ⟨RX1, "limitAfter", "(I)I"⟩
abbrev cX1_goesBack : ByteArray := prog_3_method_5_code
def yX1_goesBack : MethodName := ⟨RX1, "goesBack", "()Z"⟩
abbrev cX1_goesAheadOf : ByteArray := prog_3_method_6_code
def yX1_goesAheadOf : MethodName := ⟨RX1, "goesAheadOf", "(LClickEachTurn$Fault;)Z"⟩
abbrev cX1_scaleTo : ByteArray := prog_3_method_7_code
def yX1_scaleTo : MethodName := ⟨RX1, "scaleTo", "(I)V"⟩
abbrev cX1_partsToClick : ByteArray := prog_3_method_8_code
def yX1_partsToClick : MethodName := ⟨RX1, "partsToClick", "()I"⟩
abbrev cX1_move : ByteArray := prog_3_method_9_code
def yX1_move : MethodName := ⟨RX1, "move", "(I)V"⟩
def RX2 : String := "ClickEachTurn$Rider"
def TX2 : u_T := fun k => match k with
  | 0 => ("ClickEachTurn$Rider", "bike", "LClickEachTurn$Bike;", true)
  | 1 => ("ClickEachTurn$Rider", "fault", "LClickEachTurn$Fault;", true)
  | 2 => ("ClickEachTurn$Rider", "pace", "I", false)
  | 3 => ("ClickEachTurn$Rider", "riddenBefore", "I", false)
  | 4 => ("ClickEachTurn$Rider", "stepsBefore", "I", false)
  | 5 => ("ClickEachTurn$Rider", "clicks", "I", false)
  | 6 => ("ClickEachTurn$Rider", "wantedClick", "I", false)
  | _ => ("ClickEachTurn$Rider", "foundStep", "I", false)
def tyX2 : Nat → FieldType := fun k => match k with
  | 0 => .object "ClickEachTurn$Bike"
  | 1 => .object "ClickEachTurn$Fault"
  | 2 => .int
  | 3 => .int
  | 4 => .int
  | 5 => .int
  | 6 => .int
  | _ => .int
abbrev wsX20 : List Cond := u_ws RX2 TX2 8
theorem nmX2 : ∀ a, a < 8 → ∀ b, b < 8 → a ≠ b → (TX2 a).2.1 ≠ (TX2 b).2.1 := by decide +kernel
theorem tyX2_ok : ∀ k, k < 8 → parseFieldDescriptor (TX2 k).2.2.1 = some (tyX2 k) := by decide +kernel
abbrev cX2_init : ByteArray := prog_4_method_1_code
def yX2_init : MethodName := ⟨RX2, "<init>", "(LClickEachTurn$Bike;)V"⟩
abbrev cX2_begin : ByteArray := prog_4_method_2_code
def yX2_begin : MethodName := ⟨RX2, "begin", "(LClickEachTurn$Fault;I)V"⟩
abbrev cX2_passRide : ByteArray := prog_4_method_3_code
def yX2_passRide : MethodName := ⟨RX2, "passRide", "(LClickEachTurn$Fault;I)I"⟩
abbrev cX2_passStage : ByteArray := prog_4_method_4_code
def yX2_passStage : MethodName := ⟨RX2, "passStage", "(III)V"⟩
abbrev cX2_shiftTo : ByteArray := prog_4_method_5_code
def yX2_shiftTo : MethodName := ⟨RX2, "shiftTo", "(I)V"⟩
abbrev cX2_comesByIn : ByteArray := prog_4_method_6_code
def yX2_comesByIn : MethodName := ⟨RX2, "comesByIn", "(I)Z"⟩
abbrev cX2_partsInStep : ByteArray := prog_4_method_7_code
def yX2_partsInStep : MethodName := ⟨RX2, "partsInStep", "(I)I"⟩
abbrev cX2_listen : ByteArray := prog_4_method_8_code
def yX2_listen : MethodName := ⟨RX2, "listen", "(IIIII)V"⟩
def RX3 : String := "ClickEachTurn$Tape"
def TX3 : u_T := fun k => match k with
  | 0 => ("ClickEachTurn$Tape", "bytes", "[I", true)
  | 1 => ("ClickEachTurn$Tape", "size", "I", false)
  | 2 => ("ClickEachTurn$Tape", "place", "I", false)
  | 3 => ("ClickEachTurn$Tape", "letter", "I", false)
  | 4 => ("ClickEachTurn$Tape", "kind", "I", false)
  | _ => ("ClickEachTurn$Tape", "numbers", "[I", true)
def tyX3 : Nat → FieldType := fun k => match k with
  | 0 => .array .int
  | 1 => .int
  | 2 => .int
  | 3 => .int
  | 4 => .int
  | _ => .array .int
abbrev wsX30 : List Cond := u_ws RX3 TX3 6
theorem nmX3 : ∀ a, a < 6 → ∀ b, b < 6 → a ≠ b → (TX3 a).2.1 ≠ (TX3 b).2.1 := by decide +kernel
theorem tyX3_ok : ∀ k, k < 6 → parseFieldDescriptor (TX3 k).2.2.1 = some (tyX3 k) := by decide +kernel
abbrev cX3_init : ByteArray := prog_5_method_1_code
def yX3_init : MethodName := ⟨RX3, "<init>", "()V"⟩
abbrev cX3_add : ByteArray := prog_5_method_2_code
def yX3_add : MethodName := ⟨RX3, "add", "(I)V"⟩
abbrev cX3_checkForm : ByteArray := prog_5_method_3_code
def yX3_checkForm : MethodName := ⟨RX3, "checkForm", "()I"⟩
abbrev cX3_readStatement : ByteArray := prog_5_method_4_code
def yX3_readStatement : MethodName := ⟨RX3, "readStatement", "()Z"⟩
abbrev cX3_readFault : ByteArray := prog_5_method_5_code
def yX3_readFault : MethodName := ⟨RX3, "readFault", "()Z"⟩
abbrev cX3_readBall : ByteArray := prog_5_method_6_code
def yX3_readBall : MethodName := ⟨RX3, "readBall", "()Z"⟩
abbrev cX3_readNumber : ByteArray := prog_5_method_7_code
def yX3_readNumber : MethodName := ⟨RX3, "readNumber", "(III)Z"⟩
abbrev cX3_skip : ByteArray := prog_5_method_8_code
def yX3_skip : MethodName := ⟨RX3, "skip", "(I)Z"⟩
abbrev cX3_peek : ByteArray := prog_5_method_9_code
def yX3_peek : MethodName := ⟨RX3, "peek", "()I"⟩
abbrev cX3_kindOf : ByteArray := prog_5_method_10_code
def yX3_kindOf : MethodName := ⟨RX3, "kindOf", "(I)I"⟩
def RX4 : String := "ClickEachTurn"
def TX4 : u_T := fun k => match k with
  | 0 => ("ClickEachTurn", "tape", "LClickEachTurn$Tape;", true)
  | 1 => ("ClickEachTurn", "now", "LClickEachTurn$Bike;", true)
  | 2 => ("ClickEachTurn", "draft", "LClickEachTurn$Bike;", true)
  | 3 => ("ClickEachTurn", "kept", "LClickEachTurn$Bike;", true)
  | 4 => ("ClickEachTurn", "hasKept", "Z", false)
  | 5 => ("ClickEachTurn", "one", "LClickEachTurn$Rider;", true)
  | 6 => ("ClickEachTurn", "two", "LClickEachTurn$Rider;", true)
  | 7 => ("ClickEachTurn", "clicks", "[I", true)
  | 8 => ("ClickEachTurn", "order", "[I", true)
  | 9 => ("ClickEachTurn", "told", "[I", true)
  | 10 => ("ClickEachTurn", "toldSize", "I", false)
  | _ => ("ClickEachTurn", "refusals", "[I", true)
def tyX4 : Nat → FieldType := fun k => match k with
  | 0 => .object "ClickEachTurn$Tape"
  | 1 => .object "ClickEachTurn$Bike"
  | 2 => .object "ClickEachTurn$Bike"
  | 3 => .object "ClickEachTurn$Bike"
  | 4 => .boolean
  | 5 => .object "ClickEachTurn$Rider"
  | 6 => .object "ClickEachTurn$Rider"
  | 7 => .array .int
  | 8 => .array .int
  | 9 => .array .int
  | 10 => .int
  | _ => .array .int
abbrev wsX40 : List Cond := u_ws RX4 TX4 12
theorem nmX4 : ∀ a, a < 12 → ∀ b, b < 12 → a ≠ b → (TX4 a).2.1 ≠ (TX4 b).2.1 := by decide +kernel
theorem tyX4_ok : ∀ k, k < 12 → parseFieldDescriptor (TX4 k).2.2.1 = some (tyX4 k) := by decide +kernel
abbrev cX4_init : ByteArray := prog_1_method_1_code
def yX4_init : MethodName := ⟨RX4, "<init>", "()V"⟩
abbrev cX4_feed : ByteArray := prog_1_method_2_code
def yX4_feed : MethodName := ⟨RX4, "feed", "(IJ)I"⟩
abbrev cX4_bicycle : ByteArray := prog_1_method_3_code
def yX4_bicycle : MethodName := ⟨RX4, "bicycle", "()I"⟩
abbrev cX4_part : ByteArray := prog_1_method_4_code
def yX4_part : MethodName := ⟨RX4, "part", "(I)I"⟩
abbrev cX4_fault : ByteArray := prog_1_method_5_code
def yX4_fault : MethodName := ⟨RX4, "fault", "(II)I"⟩
abbrev cX4_rounds : ByteArray := prog_1_method_6_code
def yX4_rounds : MethodName := ⟨RX4, "rounds", "(III)I"⟩
abbrev cX4_load : ByteArray := prog_1_method_7_code
def yX4_load : MethodName := ⟨RX4, "load", "(II)I"⟩
abbrev cX4_set : ByteArray := prog_1_method_8_code
def yX4_set : MethodName := ⟨RX4, "set", "(II)I"⟩
abbrev cX4_oil : ByteArray := prog_1_method_9_code
def yX4_oil : MethodName := ⟨RX4, "oil", "()I"⟩
abbrev cX4_stage : ByteArray := prog_1_method_10_code
def yX4_stage : MethodName := ⟨RX4, "stage", "(III)I"⟩
abbrev cX4_stageOf : ByteArray := prog_1_method_11_code
def yX4_stageOf : MethodName := ⟨RX4, "stageOf", "(II)I"⟩
abbrev cX4_drop : ByteArray := prog_1_method_12_code
def yX4_drop : MethodName := ⟨RX4, "drop", "()I"⟩
abbrev cX4_counts : ByteArray := prog_1_method_13_code
def yX4_counts : MethodName := ⟨RX4, "counts", "(I)I"⟩
abbrev cX4_stageCounts : ByteArray := prog_1_method_14_code
def yX4_stageCounts : MethodName := ⟨RX4, "stageCounts", "(IIII)I"⟩
abbrev cX4_when : ByteArray := prog_1_method_15_code
def yX4_when : MethodName := ⟨RX4, "when", "(II)I"⟩
abbrev cX4_heard : ByteArray := prog_1_method_16_code
def yX4_heard : MethodName := ⟨RX4, "heard", "(I)I"⟩
abbrev cX4_go : ByteArray := prog_1_method_17_code
def yX4_go : MethodName := ⟨RX4, "go", "()I"⟩
abbrev cX4_fit : ByteArray := prog_1_method_18_code
def yX4_fit : MethodName := ⟨RX4, "fit", "(II)I"⟩
abbrev cX4_odds : ByteArray := prog_1_method_19_code
def yX4_odds : MethodName := ⟨RX4, "odds", "(IIII)I"⟩
abbrev cX4_twos : ByteArray := prog_1_method_20_code
def yX4_twos : MethodName := ⟨RX4, "twos", "(III)I"⟩
abbrev cX4_apart : ByteArray := prog_1_method_21_code
def yX4_apart : MethodName := ⟨RX4, "apart", "(II)I"⟩
abbrev cX4_tells : ByteArray := prog_1_method_22_code
def yX4_tells : MethodName := ⟨RX4, "tells", "(II)I"⟩
abbrev cX4_length : ByteArray := prog_1_method_23_code
def yX4_length : MethodName := ⟨RX4, "length", "(IIIII)I"⟩
abbrev cX4_beat : ByteArray := prog_1_method_24_code
def yX4_beat : MethodName := ⟨RX4, "beat", "(III)I"⟩
abbrev cX4_away : ByteArray := prog_1_method_25_code
def yX4_away : MethodName := ⟨RX4, "away", "(I)I"⟩
abbrev cX4_danger : ByteArray := prog_1_method_26_code
def yX4_danger : MethodName := ⟨RX4, "danger", "(I)I"⟩
abbrev cX4_least : ByteArray := prog_1_method_27_code
def yX4_least : MethodName := ⟨RX4, "least", "(I)I"⟩
abbrev cX4_row : ByteArray := prog_1_method_28_code
def yX4_row : MethodName := ⟨RX4, "row", "(I)I"⟩
abbrev cX4_judge : ByteArray := prog_1_method_29_code
def yX4_judge : MethodName := ⟨RX4, "judge", "()I"⟩
abbrev cX4_held : ByteArray := prog_1_method_30_code
def yX4_held : MethodName := ⟨RX4, "held", "()I"⟩
abbrev cX4_image : ByteArray := prog_1_method_31_code
def yX4_image : MethodName := ⟨RX4, "image", "()I"⟩
abbrev cX4_on : ByteArray := prog_1_method_32_code
def yX4_on : MethodName := ⟨RX4, "on", "()I"⟩
abbrev cX4_count : ByteArray := prog_1_method_33_code
def yX4_count : MethodName := ⟨RX4, "count", "(I)I"⟩
abbrev cX4_refuse : ByteArray := prog_1_method_34_code
def yX4_refuse : MethodName := ⟨RX4, "refuse", "(I)I"⟩
abbrev cX4_isFault : ByteArray := prog_1_method_35_code
def yX4_isFault : MethodName := ⟨RX4, "isFault", "(I)Z"⟩
abbrev cX4_areTwoFaults : ByteArray := prog_1_method_36_code
def yX4_areTwoFaults : MethodName := ⟨RX4, "areTwoFaults", "(II)Z"⟩
abbrev cX4_isGear : ByteArray := prog_1_method_37_code
def yX4_isGear : MethodName := ⟨RX4, "isGear", "(I)Z"⟩
abbrev cX4_isAct : ByteArray := prog_1_method_38_code
def yX4_isAct : MethodName := ⟨RX4, "isAct", "(I)Z"⟩
abbrev cX4_isWithin : ByteArray := prog_1_method_39_code
def yX4_isWithin : MethodName := ⟨RX4, "isWithin", "(III)Z"⟩
abbrev cX4_takeStatements : ByteArray := prog_1_method_40_code
def yX4_takeStatements : MethodName := ⟨RX4, "takeStatements", "(I)I"⟩
abbrev cX4_clicksInStage : ByteArray := prog_1_method_41_code
def yX4_clicksInStage : MethodName := ⟨RX4, "clicksInStage", "(IIII)I"⟩
abbrev cX4_listenToRide : ByteArray := prog_1_method_42_code
def yX4_listenToRide : MethodName := ⟨RX4, "listenToRide", "()V"⟩
abbrev cX4_fittingBits : ByteArray := prog_1_method_43_code
def yX4_fittingBits : MethodName := ⟨RX4, "fittingBits", "(II)I"⟩
abbrev cX4_unlikeCounts : ByteArray := prog_1_method_44_code
def yX4_unlikeCounts : MethodName := ⟨RX4, "unlikeCounts", "(III)I"⟩
abbrev cX4_leastTerm : ByteArray := prog_1_method_45_code
def yX4_leastTerm : MethodName := ⟨RX4, "leastTerm", "(III)I"⟩
abbrev cX4_wrap : ByteArray := prog_1_method_46_code
def yX4_wrap : MethodName := ⟨RX4, "wrap", "(II)I"⟩
abbrev cX4_findLeastOrder : ByteArray := prog_1_method_47_code
def yX4_findLeastOrder : MethodName := ⟨RX4, "findLeastOrder", "()V"⟩
abbrev cX4_sumOf : ByteArray := prog_1_method_48_code
def yX4_sumOf : MethodName := ⟨RX4, "sumOf", "([I)I"⟩
abbrev cX4_isToldEachFaultOnce : ByteArray := prog_1_method_49_code
def yX4_isToldEachFaultOnce : MethodName := ⟨RX4, "isToldEachFaultOnce", "()Z"⟩
def RX5 : String := "ClickEachTurnModel"
def TX5 : u_T := fun k => match k with
  | 0 => ("ClickEachTurnModel", "refusals", "[I", true)
  | 1 => ("ClickEachTurnModel", "s", "[I", true)
  | 2 => ("ClickEachTurnModel", "image", "[I", true)
  | 3 => ("ClickEachTurnModel", "read", "[I", true)
  | 4 => ("ClickEachTurnModel", "isImage", "Z", false)
  | 5 => ("ClickEachTurnModel", "tape", "[I", true)
  | 6 => ("ClickEachTurnModel", "told", "[I", true)
  | 7 => ("ClickEachTurnModel", "taped", "I", false)
  | 8 => ("ClickEachTurnModel", "at", "I", false)
  | 9 => ("ClickEachTurnModel", "where", "[I", true)
  | 10 => ("ClickEachTurnModel", "by", "[I", true)
  | 11 => ("ClickEachTurnModel", "count", "[I", true)
  | 12 => ("ClickEachTurnModel", "turns", "I", false)
  | 13 => ("ClickEachTurnModel", "steps", "I", false)
  | 14 => ("ClickEachTurnModel", "seed", "I", false)
  | 15 => ("ClickEachTurnModel", "missed", "I", false)
  | 16 => ("ClickEachTurnModel", "hears", "Z", false)
  | 17 => ("ClickEachTurnModel", "asked", "I", false)
  | 18 => ("ClickEachTurnModel", "askedTime", "I", false)
  | 19 => ("ClickEachTurnModel", "found", "I", false)
  | 20 => ("ClickEachTurnModel", "order", "[I", true)
  | 21 => ("ClickEachTurnModel", "bestOrder", "[I", true)
  | 22 => ("ClickEachTurnModel", "bestSum", "I", false)
  | 23 => ("ClickEachTurnModel", "row", "[I", true)
  | _ => ("ClickEachTurnModel", "rowed", "I", false)
def tyX5 : Nat → FieldType := fun k => match k with
  | 0 => .array .int
  | 1 => .array .int
  | 2 => .array .int
  | 3 => .array .int
  | 4 => .boolean
  | 5 => .array .int
  | 6 => .array .int
  | 7 => .int
  | 8 => .int
  | 9 => .array .int
  | 10 => .array .int
  | 11 => .array .int
  | 12 => .int
  | 13 => .int
  | 14 => .int
  | 15 => .int
  | 16 => .boolean
  | 17 => .int
  | 18 => .int
  | 19 => .int
  | 20 => .array .int
  | 21 => .array .int
  | 22 => .int
  | 23 => .array .int
  | _ => .int
abbrev wsX50 : List Cond := u_ws RX5 TX5 25
theorem nmX5 : ∀ a, a < 25 → ∀ b, b < 25 → a ≠ b → (TX5 a).2.1 ≠ (TX5 b).2.1 := by decide +kernel
theorem tyX5_ok : ∀ k, k < 25 → parseFieldDescriptor (TX5 k).2.2.1 = some (tyX5 k) := by decide +kernel
abbrev cX5_init : ByteArray := prog_7_method_1_code
def yX5_init : MethodName := ⟨RX5, "<init>", "()V"⟩
abbrev cX5_refuse : ByteArray := prog_7_method_2_code
def yX5_refuse : MethodName := ⟨RX5, "refuse", "(I)I"⟩
abbrev cX5_isIn : ByteArray := prog_7_method_3_code
def yX5_isIn : MethodName := ⟨RX5, "isIn", "(II)Z"⟩
abbrev cX5_within : ByteArray := prog_7_method_4_code
def yX5_within : MethodName := ⟨RX5, "within", "(III)I"⟩
abbrev cX5_isFault : ByteArray := prog_7_method_5_code
def yX5_isFault : MethodName := ⟨RX5, "isFault", "(I)Z"⟩
abbrev cX5_isGear : ByteArray := prog_7_method_6_code
def yX5_isGear : MethodName := ⟨RX5, "isGear", "(I)Z"⟩
abbrev cX5_isAct : ByteArray := prog_7_method_7_code
def yX5_isAct : MethodName := ⟨RX5, "isAct", "(I)Z"⟩
abbrev cX5_get : ByteArray := prog_7_method_8_code
def yX5_get : MethodName := ⟨RX5, "get", "(II)I"⟩
abbrev cX5_feed : ByteArray := prog_7_method_9_code
def yX5_feed : MethodName := ⟨RX5, "feed", "(IJ)I"⟩
abbrev cX5_sign : ByteArray := prog_7_method_10_code
def yX5_sign : MethodName := ⟨RX5, "sign", "()I"⟩
abbrev cX5_takes : ByteArray := prog_7_method_11_code
def yX5_takes : MethodName := ⟨RX5, "takes", "(I)Z"⟩
abbrev cX5_readsNumber : ByteArray := prog_7_method_12_code
def yX5_readsNumber : MethodName := ⟨RX5, "readsNumber", "(III)Z"⟩
abbrev cX5_kindOf : ByteArray := prog_7_method_13_code
def yX5_kindOf : MethodName := ⟨RX5, "kindOf", "(I)I"⟩
abbrev cX5_readsStatement : ByteArray := prog_7_method_14_code
def yX5_readsStatement : MethodName := ⟨RX5, "readsStatement", "()Z"⟩
abbrev cX5_between : ByteArray := prog_7_method_15_code
def yX5_between : MethodName := ⟨RX5, "between", "(III)Z"⟩
abbrev cX5_comes : ByteArray := prog_7_method_16_code
def yX5_comes : MethodName := ⟨RX5, "comes", "(I)Z"⟩
abbrev cX5_reads : ByteArray := prog_7_method_17_code
def yX5_reads : MethodName := ⟨RX5, "reads", "()I"⟩
abbrev cX5_bicycle : ByteArray := prog_7_method_18_code
def yX5_bicycle : MethodName := ⟨RX5, "bicycle", "()I"⟩
abbrev cX5_part : ByteArray := prog_7_method_19_code
def yX5_part : MethodName := ⟨RX5, "part", "(I)I"⟩
abbrev cX5_limitOf : ByteArray := prog_7_method_20_code
def yX5_limitOf : MethodName := ⟨RX5, "limitOf", "(II)I"⟩
abbrev cX5_fault : ByteArray := prog_7_method_21_code
def yX5_fault : MethodName := ⟨RX5, "fault", "(II)I"⟩
abbrev cX5_upOf : ByteArray := prog_7_method_22_code
def yX5_upOf : MethodName := ⟨RX5, "upOf", "(I)I"⟩
abbrev cX5_downOf : ByteArray := prog_7_method_23_code
def yX5_downOf : MethodName := ⟨RX5, "downOf", "(II)I"⟩
abbrev cX5_rounds : ByteArray := prog_7_method_24_code
def yX5_rounds : MethodName := ⟨RX5, "rounds", "(III)I"⟩
abbrev cX5_loadOf : ByteArray := prog_7_method_25_code
def yX5_loadOf : MethodName := ⟨RX5, "loadOf", "(II)I"⟩
abbrev cX5_load : ByteArray := prog_7_method_26_code
def yX5_load : MethodName := ⟨RX5, "load", "(II)I"⟩
abbrev cX5_most : ByteArray := prog_7_method_27_code
def yX5_most : MethodName := ⟨RX5, "most", "(I)I"⟩
abbrev cX5_set : ByteArray := prog_7_method_28_code
def yX5_set : MethodName := ⟨RX5, "set", "(II)I"⟩
abbrev cX5_oil : ByteArray := prog_7_method_29_code
def yX5_oil : MethodName := ⟨RX5, "oil", "()I"⟩
abbrev cX5_stage : ByteArray := prog_7_method_30_code
def yX5_stage : MethodName := ⟨RX5, "stage", "(III)I"⟩
abbrev cX5_stageOf : ByteArray := prog_7_method_31_code
def yX5_stageOf : MethodName := ⟨RX5, "stageOf", "(II)I"⟩
abbrev cX5_drop : ByteArray := prog_7_method_32_code
def yX5_drop : MethodName := ⟨RX5, "drop", "()I"⟩
abbrev cX5_begins : ByteArray := prog_7_method_33_code
def yX5_begins : MethodName := ⟨RX5, "begins", "()V"⟩
abbrev cX5_opensStage : ByteArray := prog_7_method_34_code
def yX5_opensStage : MethodName := ⟨RX5, "opensStage", "(I)V"⟩
abbrev cX5_comesBy : ByteArray := prog_7_method_35_code
def yX5_comesBy : MethodName := ⟨RX5, "comesBy", "(II)Z"⟩
abbrev cX5_isSilent : ByteArray := prog_7_method_36_code
def yX5_isSilent : MethodName := ⟨RX5, "isSilent", "(I)Z"⟩
abbrev cX5_clicks : ByteArray := prog_7_method_37_code
def yX5_clicks : MethodName := ⟨RX5, "clicks", "(I)V"⟩
abbrev cX5_goesStep : ByteArray := prog_7_method_38_code
def yX5_goesStep : MethodName := ⟨RX5, "goesStep", "(II)V"⟩
abbrev cX5_goesStage : ByteArray := prog_7_method_39_code
def yX5_goesStage : MethodName := ⟨RX5, "goesStage", "(III)V"⟩
abbrev cX5_rides : ByteArray := prog_7_method_40_code
def yX5_rides : MethodName := ⟨RX5, "rides", "()V"⟩
abbrev cX5_counted : ByteArray := prog_7_method_41_code
def yX5_counted : MethodName := ⟨RX5, "counted", "()V"⟩
abbrev cX5_counts : ByteArray := prog_7_method_42_code
def yX5_counts : MethodName := ⟨RX5, "counts", "(I)I"⟩
abbrev cX5_stageAlone : ByteArray := prog_7_method_43_code
def yX5_stageAlone : MethodName := ⟨RX5, "stageAlone", "(III)V"⟩
abbrev cX5_stageCounts : ByteArray := prog_7_method_44_code
def yX5_stageCounts : MethodName := ⟨RX5, "stageCounts", "(IIII)I"⟩
abbrev cX5_when : ByteArray := prog_7_method_45_code
def yX5_when : MethodName := ⟨RX5, "when", "(II)I"⟩
abbrev cX5_heard : ByteArray := prog_7_method_46_code
def yX5_heard : MethodName := ⟨RX5, "heard", "(I)I"⟩
abbrev cX5_go : ByteArray := prog_7_method_47_code
def yX5_go : MethodName := ⟨RX5, "go", "()I"⟩
abbrev cX5_wrongCount : ByteArray := prog_7_method_48_code
def yX5_wrongCount : MethodName := ⟨RX5, "wrongCount", "(II)I"⟩
abbrev cX5_amount : ByteArray := prog_7_method_49_code
def yX5_amount : MethodName := ⟨RX5, "amount", "(I)I"⟩
abbrev cX5_fitOf : ByteArray := prog_7_method_50_code
def yX5_fitOf : MethodName := ⟨RX5, "fitOf", "(II)I"⟩
abbrev cX5_fit : ByteArray := prog_7_method_51_code
def yX5_fit : MethodName := ⟨RX5, "fit", "(II)I"⟩
abbrev cX5_common : ByteArray := prog_7_method_52_code
def yX5_common : MethodName := ⟨RX5, "common", "(II)I"⟩
abbrev cX5_partOf : ByteArray := prog_7_method_53_code
def yX5_partOf : MethodName := ⟨RX5, "partOf", "(III)I"⟩
abbrev cX5_odds : ByteArray := prog_7_method_54_code
def yX5_odds : MethodName := ⟨RX5, "odds", "(IIII)I"⟩
abbrev cX5_twos : ByteArray := prog_7_method_55_code
def yX5_twos : MethodName := ⟨RX5, "twos", "(III)I"⟩
abbrev cX5_areTwo : ByteArray := prog_7_method_56_code
def yX5_areTwo : MethodName := ⟨RX5, "areTwo", "(II)Z"⟩
abbrev cX5_apart : ByteArray := prog_7_method_57_code
def yX5_apart : MethodName := ⟨RX5, "apart", "(II)I"⟩
abbrev cX5_unlike : ByteArray := prog_7_method_58_code
def yX5_unlike : MethodName := ⟨RX5, "unlike", "()I"⟩
abbrev cX5_tells : ByteArray := prog_7_method_59_code
def yX5_tells : MethodName := ⟨RX5, "tells", "(II)I"⟩
abbrev cX5_length : ByteArray := prog_7_method_60_code
def yX5_length : MethodName := ⟨RX5, "length", "(IIIII)I"⟩
abbrev cX5_beat : ByteArray := prog_7_method_61_code
def yX5_beat : MethodName := ⟨RX5, "beat", "(III)I"⟩
abbrev cX5_weights : ByteArray := prog_7_method_62_code
def yX5_weights : MethodName := ⟨RX5, "weights", "()I"⟩
abbrev cX5_away : ByteArray := prog_7_method_63_code
def yX5_away : MethodName := ⟨RX5, "away", "(I)I"⟩
abbrev cX5_danger : ByteArray := prog_7_method_64_code
def yX5_danger : MethodName := ⟨RX5, "danger", "(I)I"⟩
abbrev cX5_sumOf : ByteArray := prog_7_method_65_code
def yX5_sumOf : MethodName := ⟨RX5, "sumOf", "(I)I"⟩
abbrev cX5_orders : ByteArray := prog_7_method_66_code
def yX5_orders : MethodName := ⟨RX5, "orders", "(II)V"⟩
abbrev cX5_findLeast : ByteArray := prog_7_method_67_code
def yX5_findLeast : MethodName := ⟨RX5, "findLeast", "()V"⟩
abbrev cX5_least : ByteArray := prog_7_method_68_code
def yX5_least : MethodName := ⟨RX5, "least", "(I)I"⟩
abbrev cX5_row : ByteArray := prog_7_method_69_code
def yX5_row : MethodName := ⟨RX5, "row", "(I)I"⟩
abbrev cX5_judge : ByteArray := prog_7_method_70_code
def yX5_judge : MethodName := ⟨RX5, "judge", "()I"⟩
abbrev cX5_held : ByteArray := prog_7_method_71_code
def yX5_held : MethodName := ⟨RX5, "held", "()I"⟩
abbrev cX5_image : ByteArray := prog_7_method_72_code
def yX5_image : MethodName := ⟨RX5, "image", "()I"⟩
abbrev cX5_on : ByteArray := prog_7_method_73_code
def yX5_on : MethodName := ⟨RX5, "on", "()I"⟩
abbrev cX5_count : ByteArray := prog_7_method_74_code
def yX5_count : MethodName := ⟨RX5, "count", "(I)I"⟩
def RJ9 : String := "java/lang/Math"
def TJ9 : u_T := fun k => match k with
  | _ => ("", "", "", false)
def tyJ9 : Nat → FieldType := fun k => match k with
  | _ => .int
abbrev wsJ90 : List Cond := u_ws RJ9 TJ9 0
theorem nmJ9 : ∀ a, a < 0 → ∀ b, b < 0 → a ≠ b → (TJ9 a).2.1 ≠ (TJ9 b).2.1 := by decide +kernel
theorem tyJ9_ok : ∀ k, k < 0 → parseFieldDescriptor (TJ9 k).2.2.1 = some (tyJ9 k) := by decide +kernel
abbrev cJ9_abs_0f7a4 : ByteArray := prog_8_method_59_code
def yJ9_abs_0f7a4 : MethodName := ⟨RJ9, "abs", "(I)I"⟩
abbrev cJ9_max_7cf53 : ByteArray := prog_8_method_65_code
def yJ9_max_7cf53 : MethodName := ⟨RJ9, "max", "(II)I"⟩
abbrev cJ9_min_7cf53 : ByteArray := prog_8_method_69_code
def yJ9_min_7cf53 : MethodName := ⟨RJ9, "min", "(II)I"⟩
def RJ10 : String := "java/lang/System"
def TJ10 : u_T := fun k => match k with
  | _ => ("", "", "", false)
def tyJ10 : Nat → FieldType := fun k => match k with
  | _ => .int
abbrev wsJ100 : List Cond := u_ws RJ10 TJ10 0
theorem nmJ10 : ∀ a, a < 0 → ∀ b, b < 0 → a ≠ b → (TJ10 a).2.1 ≠ (TJ10 b).2.1 := by decide +kernel
theorem tyJ10_ok : ∀ k, k < 0 → parseFieldDescriptor (TJ10 k).2.2.1 = some (tyJ10 k) := by decide +kernel
def RL : String := "ClickEachTurnLaw"
abbrev cL_law : ByteArray := code
def yL_law : MethodName := ⟨RL, "law", "([I)Z"⟩
abbrev vwCl : List vw_C := [(RX0, TX0, 13), (RX1, TX1, 9), (RX2, TX2, 8), (RX3, TX3, 6), (RX4, TX4, 12), (RX5, TX5, 25)]
