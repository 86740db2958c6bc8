section
-- ===== PART A: goes FIRST, ahead of the names: the tables' words, and 'selects' of the private methods out of them =====
/-- a private method of a class that the tables say can be made, by its rows of tables_1 -/
def lw_okq (q : MethodName × Nat) : Prop := (q.1.cls ≠ "java/lang/invoke/MethodHandle" ∧ q.1.cls ≠ "java/lang/invoke/VarHandle") ∧ Cond.instantiable q.1.cls q.2 ∈ tables_1 ∧ Cond.privateMethod q.1 ∈ tables_1 ∧ Cond.instanceMethod q.1 ∈ tables_1
theorem lw_p0 : lw_okq (⟨"ClickEachTurn", "refuse", "(I)I"⟩, 12) := ⟨⟨by decide +kernel, by decide +kernel⟩, List.mem_of_getElem? (i := 10) (by decide +kernel), List.mem_of_getElem? (i := 238) (by decide +kernel), List.mem_of_getElem? (i := 239) (by decide +kernel)⟩
theorem lw_p1 : lw_okq (⟨"ClickEachTurn$Tape", "peek", "()I"⟩, 6) := ⟨⟨by decide +kernel, by decide +kernel⟩, List.mem_of_getElem? (i := 18) (by decide +kernel), List.mem_of_getElem? (i := 258) (by decide +kernel), List.mem_of_getElem? (i := 259) (by decide +kernel)⟩
theorem lw_p2 : lw_okq (⟨"ClickEachTurn$Tape", "readFault", "()Z"⟩, 6) := ⟨⟨by decide +kernel, by decide +kernel⟩, List.mem_of_getElem? (i := 18) (by decide +kernel), List.mem_of_getElem? (i := 262) (by decide +kernel), List.mem_of_getElem? (i := 263) (by decide +kernel)⟩
theorem lw_p3 : lw_okq (⟨"ClickEachTurn$Tape", "readNumber", "(III)Z"⟩, 6) := ⟨⟨by decide +kernel, by decide +kernel⟩, List.mem_of_getElem? (i := 18) (by decide +kernel), List.mem_of_getElem? (i := 269) (by decide +kernel), List.mem_of_getElem? (i := 270) (by decide +kernel)⟩
theorem lw_p4 : lw_okq (⟨"ClickEachTurn$Tape", "skip", "(I)Z"⟩, 6) := ⟨⟨by decide +kernel, by decide +kernel⟩, List.mem_of_getElem? (i := 18) (by decide +kernel), List.mem_of_getElem? (i := 273) (by decide +kernel), List.mem_of_getElem? (i := 274) (by decide +kernel)⟩
theorem lw_p5 : lw_okq (⟨"ClickEachTurn$Tape", "readBall", "()Z"⟩, 6) := ⟨⟨by decide +kernel, by decide +kernel⟩, List.mem_of_getElem? (i := 18) (by decide +kernel), List.mem_of_getElem? (i := 277) (by decide +kernel), List.mem_of_getElem? (i := 278) (by decide +kernel)⟩
theorem lw_p6 : lw_okq (⟨"ClickEachTurn", "takeStatements", "(I)I"⟩, 12) := ⟨⟨by decide +kernel, by decide +kernel⟩, List.mem_of_getElem? (i := 10) (by decide +kernel), List.mem_of_getElem? (i := 281) (by decide +kernel), List.mem_of_getElem? (i := 282) (by decide +kernel)⟩
theorem lw_p7 : lw_okq (⟨"ClickEachTurn$Bike", "addCog", "(I)Z"⟩, 13) := ⟨⟨by decide +kernel, by decide +kernel⟩, List.mem_of_getElem? (i := 50) (by decide +kernel), List.mem_of_getElem? (i := 301) (by decide +kernel), List.mem_of_getElem? (i := 302) (by decide +kernel)⟩
theorem lw_p8 : lw_okq (⟨"ClickEachTurn$Bike", "addFault", "(LClickEachTurn$Tape;)Z"⟩, 13) := ⟨⟨by decide +kernel, by decide +kernel⟩, List.mem_of_getElem? (i := 50) (by decide +kernel), List.mem_of_getElem? (i := 305) (by decide +kernel), List.mem_of_getElem? (i := 306) (by decide +kernel)⟩
theorem lw_p9 : lw_okq (⟨"ClickEachTurn", "isGear", "(I)Z"⟩, 12) := ⟨⟨by decide +kernel, by decide +kernel⟩, List.mem_of_getElem? (i := 10) (by decide +kernel), List.mem_of_getElem? (i := 317) (by decide +kernel), List.mem_of_getElem? (i := 318) (by decide +kernel)⟩
theorem lw_p10 : lw_okq (⟨"ClickEachTurn", "isFault", "(I)Z"⟩, 12) := ⟨⟨by decide +kernel, by decide +kernel⟩, List.mem_of_getElem? (i := 10) (by decide +kernel), List.mem_of_getElem? (i := 325) (by decide +kernel), List.mem_of_getElem? (i := 326) (by decide +kernel)⟩
theorem lw_p11 : lw_okq (⟨"ClickEachTurn$Rider", "listen", "(IIIII)V"⟩, 8) := ⟨⟨by decide +kernel, by decide +kernel⟩, List.mem_of_getElem? (i := 161) (by decide +kernel), List.mem_of_getElem? (i := 409) (by decide +kernel), List.mem_of_getElem? (i := 410) (by decide +kernel)⟩
theorem lw_p12 : lw_okq (⟨"ClickEachTurn$Rider", "partsInStep", "(I)I"⟩, 8) := ⟨⟨by decide +kernel, by decide +kernel⟩, List.mem_of_getElem? (i := 161) (by decide +kernel), List.mem_of_getElem? (i := 426) (by decide +kernel), List.mem_of_getElem? (i := 427) (by decide +kernel)⟩
theorem lw_p13 : lw_okq (⟨"ClickEachTurn", "clicksInStage", "(IIII)I"⟩, 12) := ⟨⟨by decide +kernel, by decide +kernel⟩, List.mem_of_getElem? (i := 10) (by decide +kernel), List.mem_of_getElem? (i := 442) (by decide +kernel), List.mem_of_getElem? (i := 443) (by decide +kernel)⟩
theorem lw_p14 : lw_okq (⟨"ClickEachTurn", "listenToRide", "()V"⟩, 12) := ⟨⟨by decide +kernel, by decide +kernel⟩, List.mem_of_getElem? (i := 10) (by decide +kernel), List.mem_of_getElem? (i := 456) (by decide +kernel), List.mem_of_getElem? (i := 457) (by decide +kernel)⟩
theorem lw_p15 : lw_okq (⟨"ClickEachTurn", "fittingBits", "(II)I"⟩, 12) := ⟨⟨by decide +kernel, by decide +kernel⟩, List.mem_of_getElem? (i := 10) (by decide +kernel), List.mem_of_getElem? (i := 476) (by decide +kernel), List.mem_of_getElem? (i := 477) (by decide +kernel)⟩
def lw_privs_1 : List (MethodName × Nat) := [(⟨"ClickEachTurn", "refuse", "(I)I"⟩, 12), (⟨"ClickEachTurn$Tape", "peek", "()I"⟩, 6), (⟨"ClickEachTurn$Tape", "readFault", "()Z"⟩, 6), (⟨"ClickEachTurn$Tape", "readNumber", "(III)Z"⟩, 6), (⟨"ClickEachTurn$Tape", "skip", "(I)Z"⟩, 6), (⟨"ClickEachTurn$Tape", "readBall", "()Z"⟩, 6), (⟨"ClickEachTurn", "takeStatements", "(I)I"⟩, 12), (⟨"ClickEachTurn$Bike", "addCog", "(I)Z"⟩, 13), (⟨"ClickEachTurn$Bike", "addFault", "(LClickEachTurn$Tape;)Z"⟩, 13), (⟨"ClickEachTurn", "isGear", "(I)Z"⟩, 12), (⟨"ClickEachTurn", "isFault", "(I)Z"⟩, 12), (⟨"ClickEachTurn$Rider", "listen", "(IIIII)V"⟩, 8), (⟨"ClickEachTurn$Rider", "partsInStep", "(I)I"⟩, 8), (⟨"ClickEachTurn", "clicksInStage", "(IIII)I"⟩, 12), (⟨"ClickEachTurn", "listenToRide", "()V"⟩, 12), (⟨"ClickEachTurn", "fittingBits", "(II)I"⟩, 12)]
theorem lw_r1 : ∀ q ∈ lw_privs_1, lw_okq q := List.forall_mem_cons.mpr ⟨lw_p0, List.forall_mem_cons.mpr ⟨lw_p1, List.forall_mem_cons.mpr ⟨lw_p2, List.forall_mem_cons.mpr ⟨lw_p3, List.forall_mem_cons.mpr ⟨lw_p4, List.forall_mem_cons.mpr ⟨lw_p5, List.forall_mem_cons.mpr ⟨lw_p6, List.forall_mem_cons.mpr ⟨lw_p7, List.forall_mem_cons.mpr ⟨lw_p8, List.forall_mem_cons.mpr ⟨lw_p9, List.forall_mem_cons.mpr ⟨lw_p10, List.forall_mem_cons.mpr ⟨lw_p11, List.forall_mem_cons.mpr ⟨lw_p12, List.forall_mem_cons.mpr ⟨lw_p13, List.forall_mem_cons.mpr ⟨lw_p14, List.forall_mem_cons.mpr ⟨lw_p15, fun _ h => absurd h List.not_mem_nil⟩⟩⟩⟩⟩⟩⟩⟩⟩⟩⟩⟩⟩⟩⟩⟩
theorem lw_p16 : lw_okq (⟨"ClickEachTurn", "areTwoFaults", "(II)Z"⟩, 12) := ⟨⟨by decide +kernel, by decide +kernel⟩, List.mem_of_getElem? (i := 10) (by decide +kernel), List.mem_of_getElem? (i := 505) (by decide +kernel), List.mem_of_getElem? (i := 506) (by decide +kernel)⟩
theorem lw_p17 : lw_okq (⟨"ClickEachTurn", "unlikeCounts", "(III)I"⟩, 12) := ⟨⟨by decide +kernel, by decide +kernel⟩, List.mem_of_getElem? (i := 10) (by decide +kernel), List.mem_of_getElem? (i := 513) (by decide +kernel), List.mem_of_getElem? (i := 514) (by decide +kernel)⟩
theorem lw_p18 : lw_okq (⟨"ClickEachTurn", "findLeastOrder", "()V"⟩, 12) := ⟨⟨by decide +kernel, by decide +kernel⟩, List.mem_of_getElem? (i := 10) (by decide +kernel), List.mem_of_getElem? (i := 546) (by decide +kernel), List.mem_of_getElem? (i := 547) (by decide +kernel)⟩
theorem lw_p19 : lw_okq (⟨"ClickEachTurn", "sumOf", "([I)I"⟩, 12) := ⟨⟨by decide +kernel, by decide +kernel⟩, List.mem_of_getElem? (i := 10) (by decide +kernel), List.mem_of_getElem? (i := 554) (by decide +kernel), List.mem_of_getElem? (i := 555) (by decide +kernel)⟩
theorem lw_p20 : lw_okq (⟨"ClickEachTurn", "isToldEachFaultOnce", "()Z"⟩, 12) := ⟨⟨by decide +kernel, by decide +kernel⟩, List.mem_of_getElem? (i := 10) (by decide +kernel), List.mem_of_getElem? (i := 573) (by decide +kernel), List.mem_of_getElem? (i := 574) (by decide +kernel)⟩
theorem lw_p21 : lw_okq (⟨"ClickEachTurnModel", "refuse", "(I)I"⟩, 25) := ⟨⟨by decide +kernel, by decide +kernel⟩, List.mem_of_getElem? (i := 593) (by decide +kernel), List.mem_of_getElem? (i := 679) (by decide +kernel), List.mem_of_getElem? (i := 680) (by decide +kernel)⟩
theorem lw_p22 : lw_okq (⟨"ClickEachTurnModel", "reads", "()I"⟩, 25) := ⟨⟨by decide +kernel, by decide +kernel⟩, List.mem_of_getElem? (i := 593) (by decide +kernel), List.mem_of_getElem? (i := 688) (by decide +kernel), List.mem_of_getElem? (i := 689) (by decide +kernel)⟩
theorem lw_p23 : lw_okq (⟨"ClickEachTurnModel", "readsStatement", "()Z"⟩, 25) := ⟨⟨by decide +kernel, by decide +kernel⟩, List.mem_of_getElem? (i := 593) (by decide +kernel), List.mem_of_getElem? (i := 692) (by decide +kernel), List.mem_of_getElem? (i := 693) (by decide +kernel)⟩
theorem lw_p24 : lw_okq (⟨"ClickEachTurnModel", "sign", "()I"⟩, 25) := ⟨⟨by decide +kernel, by decide +kernel⟩, List.mem_of_getElem? (i := 593) (by decide +kernel), List.mem_of_getElem? (i := 696) (by decide +kernel), List.mem_of_getElem? (i := 697) (by decide +kernel)⟩
theorem lw_p25 : lw_okq (⟨"ClickEachTurnModel", "readsNumber", "(III)Z"⟩, 25) := ⟨⟨by decide +kernel, by decide +kernel⟩, List.mem_of_getElem? (i := 593) (by decide +kernel), List.mem_of_getElem? (i := 700) (by decide +kernel), List.mem_of_getElem? (i := 701) (by decide +kernel)⟩
theorem lw_p26 : lw_okq (⟨"ClickEachTurnModel", "takes", "(I)Z"⟩, 25) := ⟨⟨by decide +kernel, by decide +kernel⟩, List.mem_of_getElem? (i := 593) (by decide +kernel), List.mem_of_getElem? (i := 704) (by decide +kernel), List.mem_of_getElem? (i := 705) (by decide +kernel)⟩
theorem lw_p27 : lw_okq (⟨"ClickEachTurnModel", "comes", "(I)Z"⟩, 25) := ⟨⟨by decide +kernel, by decide +kernel⟩, List.mem_of_getElem? (i := 593) (by decide +kernel), List.mem_of_getElem? (i := 711) (by decide +kernel), List.mem_of_getElem? (i := 712) (by decide +kernel)⟩
theorem lw_p28 : lw_okq (⟨"ClickEachTurnModel", "isGear", "(I)Z"⟩, 25) := ⟨⟨by decide +kernel, by decide +kernel⟩, List.mem_of_getElem? (i := 593) (by decide +kernel), List.mem_of_getElem? (i := 722) (by decide +kernel), List.mem_of_getElem? (i := 723) (by decide +kernel)⟩
theorem lw_p29 : lw_okq (⟨"ClickEachTurnModel", "isFault", "(I)Z"⟩, 25) := ⟨⟨by decide +kernel, by decide +kernel⟩, List.mem_of_getElem? (i := 593) (by decide +kernel), List.mem_of_getElem? (i := 733) (by decide +kernel), List.mem_of_getElem? (i := 734) (by decide +kernel)⟩
theorem lw_p30 : lw_okq (⟨"ClickEachTurnModel", "get", "(II)I"⟩, 25) := ⟨⟨by decide +kernel, by decide +kernel⟩, List.mem_of_getElem? (i := 593) (by decide +kernel), List.mem_of_getElem? (i := 737) (by decide +kernel), List.mem_of_getElem? (i := 738) (by decide +kernel)⟩
theorem lw_p31 : lw_okq (⟨"ClickEachTurnModel", "limitOf", "(II)I"⟩, 25) := ⟨⟨by decide +kernel, by decide +kernel⟩, List.mem_of_getElem? (i := 593) (by decide +kernel), List.mem_of_getElem? (i := 741) (by decide +kernel), List.mem_of_getElem? (i := 742) (by decide +kernel)⟩
def lw_privs_2 : List (MethodName × Nat) := [(⟨"ClickEachTurn", "areTwoFaults", "(II)Z"⟩, 12), (⟨"ClickEachTurn", "unlikeCounts", "(III)I"⟩, 12), (⟨"ClickEachTurn", "findLeastOrder", "()V"⟩, 12), (⟨"ClickEachTurn", "sumOf", "([I)I"⟩, 12), (⟨"ClickEachTurn", "isToldEachFaultOnce", "()Z"⟩, 12), (⟨"ClickEachTurnModel", "refuse", "(I)I"⟩, 25), (⟨"ClickEachTurnModel", "reads", "()I"⟩, 25), (⟨"ClickEachTurnModel", "readsStatement", "()Z"⟩, 25), (⟨"ClickEachTurnModel", "sign", "()I"⟩, 25), (⟨"ClickEachTurnModel", "readsNumber", "(III)Z"⟩, 25), (⟨"ClickEachTurnModel", "takes", "(I)Z"⟩, 25), (⟨"ClickEachTurnModel", "comes", "(I)Z"⟩, 25), (⟨"ClickEachTurnModel", "isGear", "(I)Z"⟩, 25), (⟨"ClickEachTurnModel", "isFault", "(I)Z"⟩, 25), (⟨"ClickEachTurnModel", "get", "(II)I"⟩, 25), (⟨"ClickEachTurnModel", "limitOf", "(II)I"⟩, 25)]
theorem lw_r2 : ∀ q ∈ lw_privs_2, lw_okq q := List.forall_mem_cons.mpr ⟨lw_p16, List.forall_mem_cons.mpr ⟨lw_p17, List.forall_mem_cons.mpr ⟨lw_p18, List.forall_mem_cons.mpr ⟨lw_p19, List.forall_mem_cons.mpr ⟨lw_p20, List.forall_mem_cons.mpr ⟨lw_p21, List.forall_mem_cons.mpr ⟨lw_p22, List.forall_mem_cons.mpr ⟨lw_p23, List.forall_mem_cons.mpr ⟨lw_p24, List.forall_mem_cons.mpr ⟨lw_p25, List.forall_mem_cons.mpr ⟨lw_p26, List.forall_mem_cons.mpr ⟨lw_p27, List.forall_mem_cons.mpr ⟨lw_p28, List.forall_mem_cons.mpr ⟨lw_p29, List.forall_mem_cons.mpr ⟨lw_p30, List.forall_mem_cons.mpr ⟨lw_p31, fun _ h => absurd h List.not_mem_nil⟩⟩⟩⟩⟩⟩⟩⟩⟩⟩⟩⟩⟩⟩⟩⟩
theorem lw_p32 : lw_okq (⟨"ClickEachTurnModel", "upOf", "(I)I"⟩, 25) := ⟨⟨by decide +kernel, by decide +kernel⟩, List.mem_of_getElem? (i := 593) (by decide +kernel), List.mem_of_getElem? (i := 749) (by decide +kernel), List.mem_of_getElem? (i := 750) (by decide +kernel)⟩
theorem lw_p33 : lw_okq (⟨"ClickEachTurnModel", "downOf", "(II)I"⟩, 25) := ⟨⟨by decide +kernel, by decide +kernel⟩, List.mem_of_getElem? (i := 593) (by decide +kernel), List.mem_of_getElem? (i := 753) (by decide +kernel), List.mem_of_getElem? (i := 754) (by decide +kernel)⟩
theorem lw_p34 : lw_okq (⟨"ClickEachTurnModel", "loadOf", "(II)I"⟩, 25) := ⟨⟨by decide +kernel, by decide +kernel⟩, List.mem_of_getElem? (i := 593) (by decide +kernel), List.mem_of_getElem? (i := 767) (by decide +kernel), List.mem_of_getElem? (i := 768) (by decide +kernel)⟩
theorem lw_p35 : lw_okq (⟨"ClickEachTurnModel", "counted", "()V"⟩, 25) := ⟨⟨by decide +kernel, by decide +kernel⟩, List.mem_of_getElem? (i := 593) (by decide +kernel), List.mem_of_getElem? (i := 798) (by decide +kernel), List.mem_of_getElem? (i := 799) (by decide +kernel)⟩
theorem lw_p36 : lw_okq (⟨"ClickEachTurnModel", "begins", "()V"⟩, 25) := ⟨⟨by decide +kernel, by decide +kernel⟩, List.mem_of_getElem? (i := 593) (by decide +kernel), List.mem_of_getElem? (i := 802) (by decide +kernel), List.mem_of_getElem? (i := 803) (by decide +kernel)⟩
theorem lw_p37 : lw_okq (⟨"ClickEachTurnModel", "rides", "()V"⟩, 25) := ⟨⟨by decide +kernel, by decide +kernel⟩, List.mem_of_getElem? (i := 593) (by decide +kernel), List.mem_of_getElem? (i := 806) (by decide +kernel), List.mem_of_getElem? (i := 807) (by decide +kernel)⟩
theorem lw_p38 : lw_okq (⟨"ClickEachTurnModel", "goesStage", "(III)V"⟩, 25) := ⟨⟨by decide +kernel, by decide +kernel⟩, List.mem_of_getElem? (i := 593) (by decide +kernel), List.mem_of_getElem? (i := 810) (by decide +kernel), List.mem_of_getElem? (i := 811) (by decide +kernel)⟩
theorem lw_p39 : lw_okq (⟨"ClickEachTurnModel", "opensStage", "(I)V"⟩, 25) := ⟨⟨by decide +kernel, by decide +kernel⟩, List.mem_of_getElem? (i := 593) (by decide +kernel), List.mem_of_getElem? (i := 814) (by decide +kernel), List.mem_of_getElem? (i := 815) (by decide +kernel)⟩
theorem lw_p40 : lw_okq (⟨"ClickEachTurnModel", "goesStep", "(II)V"⟩, 25) := ⟨⟨by decide +kernel, by decide +kernel⟩, List.mem_of_getElem? (i := 593) (by decide +kernel), List.mem_of_getElem? (i := 818) (by decide +kernel), List.mem_of_getElem? (i := 819) (by decide +kernel)⟩
theorem lw_p41 : lw_okq (⟨"ClickEachTurnModel", "comesBy", "(II)Z"⟩, 25) := ⟨⟨by decide +kernel, by decide +kernel⟩, List.mem_of_getElem? (i := 593) (by decide +kernel), List.mem_of_getElem? (i := 822) (by decide +kernel), List.mem_of_getElem? (i := 823) (by decide +kernel)⟩
theorem lw_p42 : lw_okq (⟨"ClickEachTurnModel", "isSilent", "(I)Z"⟩, 25) := ⟨⟨by decide +kernel, by decide +kernel⟩, List.mem_of_getElem? (i := 593) (by decide +kernel), List.mem_of_getElem? (i := 826) (by decide +kernel), List.mem_of_getElem? (i := 827) (by decide +kernel)⟩
theorem lw_p43 : lw_okq (⟨"ClickEachTurnModel", "clicks", "(I)V"⟩, 25) := ⟨⟨by decide +kernel, by decide +kernel⟩, List.mem_of_getElem? (i := 593) (by decide +kernel), List.mem_of_getElem? (i := 830) (by decide +kernel), List.mem_of_getElem? (i := 831) (by decide +kernel)⟩
theorem lw_p44 : lw_okq (⟨"ClickEachTurnModel", "stageAlone", "(III)V"⟩, 25) := ⟨⟨by decide +kernel, by decide +kernel⟩, List.mem_of_getElem? (i := 593) (by decide +kernel), List.mem_of_getElem? (i := 841) (by decide +kernel), List.mem_of_getElem? (i := 842) (by decide +kernel)⟩
theorem lw_p45 : lw_okq (⟨"ClickEachTurnModel", "fitOf", "(II)I"⟩, 25) := ⟨⟨by decide +kernel, by decide +kernel⟩, List.mem_of_getElem? (i := 593) (by decide +kernel), List.mem_of_getElem? (i := 864) (by decide +kernel), List.mem_of_getElem? (i := 865) (by decide +kernel)⟩
theorem lw_p46 : lw_okq (⟨"ClickEachTurnModel", "partOf", "(III)I"⟩, 25) := ⟨⟨by decide +kernel, by decide +kernel⟩, List.mem_of_getElem? (i := 593) (by decide +kernel), List.mem_of_getElem? (i := 875) (by decide +kernel), List.mem_of_getElem? (i := 876) (by decide +kernel)⟩
theorem lw_p47 : lw_okq (⟨"ClickEachTurnModel", "areTwo", "(II)Z"⟩, 25) := ⟨⟨by decide +kernel, by decide +kernel⟩, List.mem_of_getElem? (i := 593) (by decide +kernel), List.mem_of_getElem? (i := 890) (by decide +kernel), List.mem_of_getElem? (i := 891) (by decide +kernel)⟩
def lw_privs_3 : List (MethodName × Nat) := [(⟨"ClickEachTurnModel", "upOf", "(I)I"⟩, 25), (⟨"ClickEachTurnModel", "downOf", "(II)I"⟩, 25), (⟨"ClickEachTurnModel", "loadOf", "(II)I"⟩, 25), (⟨"ClickEachTurnModel", "counted", "()V"⟩, 25), (⟨"ClickEachTurnModel", "begins", "()V"⟩, 25), (⟨"ClickEachTurnModel", "rides", "()V"⟩, 25), (⟨"ClickEachTurnModel", "goesStage", "(III)V"⟩, 25), (⟨"ClickEachTurnModel", "opensStage", "(I)V"⟩, 25), (⟨"ClickEachTurnModel", "goesStep", "(II)V"⟩, 25), (⟨"ClickEachTurnModel", "comesBy", "(II)Z"⟩, 25), (⟨"ClickEachTurnModel", "isSilent", "(I)Z"⟩, 25), (⟨"ClickEachTurnModel", "clicks", "(I)V"⟩, 25), (⟨"ClickEachTurnModel", "stageAlone", "(III)V"⟩, 25), (⟨"ClickEachTurnModel", "fitOf", "(II)I"⟩, 25), (⟨"ClickEachTurnModel", "partOf", "(III)I"⟩, 25), (⟨"ClickEachTurnModel", "areTwo", "(II)Z"⟩, 25)]
theorem lw_r3 : ∀ q ∈ lw_privs_3, lw_okq q := List.forall_mem_cons.mpr ⟨lw_p32, List.forall_mem_cons.mpr ⟨lw_p33, List.forall_mem_cons.mpr ⟨lw_p34, List.forall_mem_cons.mpr ⟨lw_p35, List.forall_mem_cons.mpr ⟨lw_p36, List.forall_mem_cons.mpr ⟨lw_p37, List.forall_mem_cons.mpr ⟨lw_p38, List.forall_mem_cons.mpr ⟨lw_p39, List.forall_mem_cons.mpr ⟨lw_p40, List.forall_mem_cons.mpr ⟨lw_p41, List.forall_mem_cons.mpr ⟨lw_p42, List.forall_mem_cons.mpr ⟨lw_p43, List.forall_mem_cons.mpr ⟨lw_p44, List.forall_mem_cons.mpr ⟨lw_p45, List.forall_mem_cons.mpr ⟨lw_p46, List.forall_mem_cons.mpr ⟨lw_p47, fun _ h => absurd h List.not_mem_nil⟩⟩⟩⟩⟩⟩⟩⟩⟩⟩⟩⟩⟩⟩⟩⟩
theorem lw_p48 : lw_okq (⟨"ClickEachTurnModel", "unlike", "()I"⟩, 25) := ⟨⟨by decide +kernel, by decide +kernel⟩, List.mem_of_getElem? (i := 593) (by decide +kernel), List.mem_of_getElem? (i := 898) (by decide +kernel), List.mem_of_getElem? (i := 899) (by decide +kernel)⟩
theorem lw_p49 : lw_okq (⟨"ClickEachTurnModel", "weights", "()I"⟩, 25) := ⟨⟨by decide +kernel, by decide +kernel⟩, List.mem_of_getElem? (i := 593) (by decide +kernel), List.mem_of_getElem? (i := 914) (by decide +kernel), List.mem_of_getElem? (i := 915) (by decide +kernel)⟩
theorem lw_p50 : lw_okq (⟨"ClickEachTurnModel", "findLeast", "()V"⟩, 25) := ⟨⟨by decide +kernel, by decide +kernel⟩, List.mem_of_getElem? (i := 593) (by decide +kernel), List.mem_of_getElem? (i := 926) (by decide +kernel), List.mem_of_getElem? (i := 927) (by decide +kernel)⟩
theorem lw_p51 : lw_okq (⟨"ClickEachTurnModel", "orders", "(II)V"⟩, 25) := ⟨⟨by decide +kernel, by decide +kernel⟩, List.mem_of_getElem? (i := 593) (by decide +kernel), List.mem_of_getElem? (i := 930) (by decide +kernel), List.mem_of_getElem? (i := 931) (by decide +kernel)⟩
theorem lw_p52 : lw_okq (⟨"ClickEachTurnModel", "sumOf", "(I)I"⟩, 25) := ⟨⟨by decide +kernel, by decide +kernel⟩, List.mem_of_getElem? (i := 593) (by decide +kernel), List.mem_of_getElem? (i := 934) (by decide +kernel), List.mem_of_getElem? (i := 935) (by decide +kernel)⟩
def lw_privs_4 : List (MethodName × Nat) := [(⟨"ClickEachTurnModel", "unlike", "()I"⟩, 25), (⟨"ClickEachTurnModel", "weights", "()I"⟩, 25), (⟨"ClickEachTurnModel", "findLeast", "()V"⟩, 25), (⟨"ClickEachTurnModel", "orders", "(II)V"⟩, 25), (⟨"ClickEachTurnModel", "sumOf", "(I)I"⟩, 25)]
theorem lw_r4 : ∀ q ∈ lw_privs_4, lw_okq q := List.forall_mem_cons.mpr ⟨lw_p48, List.forall_mem_cons.mpr ⟨lw_p49, List.forall_mem_cons.mpr ⟨lw_p50, List.forall_mem_cons.mpr ⟨lw_p51, List.forall_mem_cons.mpr ⟨lw_p52, fun _ h => absurd h List.not_mem_nil⟩⟩⟩⟩⟩
def lw_privs : List (MethodName × Nat) := lw_privs_1 ++ (lw_privs_2 ++ (lw_privs_3 ++ (lw_privs_4)))
def lw_tbl : List Cond := k2_sels lw_privs ++ tables_1
theorem lw_privs_ok : ∀ q ∈ lw_privs, lw_okq q := by
  show ∀ q ∈ lw_privs_1 ++ (lw_privs_2 ++ (lw_privs_3 ++ (lw_privs_4))), lw_okq q
  exact List.forall_mem_append.mpr ⟨lw_r1, List.forall_mem_append.mpr ⟨lw_r2, List.forall_mem_append.mpr ⟨lw_r3, lw_r4⟩⟩⟩
-- names
def RX0 : String := "ClickEachTurn$Bike"
def TX0 : u_T := fun k => match k with
  | 0 => ("ClickEachTurn$Bike", "front", "I", false)
  | 1 => ("ClickEachTurn$Bike", "links", "I", false)
  | 2 => ("ClickEachTurn$Bike", "cogs", "[I", true)
  | 3 => ("ClickEachTurn$Bike", "cogCount", "I", false)
  | 4 => ("ClickEachTurn$Bike", "faults", "[LClickEachTurn$Fault;", true)
  | 5 => ("ClickEachTurn$Bike", "faultCount", "I", false)
  | 6 => ("ClickEachTurn$Bike", "settings", "[I", true)
  | 7 => ("ClickEachTurn$Bike", "ridden", "I", false)
  | 8 => ("ClickEachTurn$Bike", "oiledAfter", "I", false)
  | 9 => ("ClickEachTurn$Bike", "stageActs", "[I", true)
  | 10 => ("ClickEachTurn$Bike", "stageGears", "[I", true)
  | 11 => ("ClickEachTurn$Bike", "stageTurns", "[I", true)
  | _ => ("ClickEachTurn$Bike", "stageCount", "I", false)
def tyX0 : Nat → FieldType := fun k => match k with
  | 0 => .int
  | 1 => .int
  | 2 => .array .int
  | 3 => .int
  | 4 => .array (.object "ClickEachTurn$Fault")
  | 5 => .int
  | 6 => .array .int
  | 7 => .int
  | 8 => .int
  | 9 => .array .int
  | 10 => .array .int
  | 11 => .array .int
  | _ => .int
abbrev wsX00 : List Cond := u_ws RX0 TX0 13
theorem nmX0 : ∀ a, a < 13 → ∀ b, b < 13 → a ≠ b → (TX0 a).2.1 ≠ (TX0 b).2.1 := by decide +kernel
theorem tyX0_ok : ∀ k, k < 13 → parseFieldDescriptor (TX0 k).2.2.1 = some (tyX0 k) := by decide +kernel
abbrev cX0_init : ByteArray := prog_2_method_1_code
def yX0_init : MethodName := ⟨RX0, "<init>", "()V"⟩
abbrev cX0_copyFrom : ByteArray := prog_2_method_2_code
def yX0_copyFrom : MethodName := ⟨RX0, "copyFrom", "(LClickEachTurn$Bike;)V"⟩
abbrev cX0_takeStatement : ByteArray := prog_2_method_3_code
def yX0_takeStatement : MethodName := ⟨RX0, "takeStatement", "(LClickEachTurn$Tape;)Z"⟩
abbrev cX0_addCog : ByteArray := prog_2_method_4_code
def yX0_addCog : MethodName := ⟨RX0, "addCog", "(I)Z"⟩
abbrev cX0_addFault : ByteArray := prog_2_method_5_code
def yX0_addFault : MethodName := ⟨RX0, "addFault", "(LClickEachTurn$Tape;)Z"⟩
abbrev cX0_addStage : ByteArray := prog_2_method_6_code
def yX0_addStage : MethodName := ⟨RX0, "addStage", "(III)V"⟩
abbrev cX0_turnsOfRide : ByteArray := prog_2_method_7_code
def yX0_turnsOfRide : MethodName := ⟨RX0, "turnsOfRide", "()I"⟩
abbrev cX0_upOf : ByteArray := prog_2_method_8_code
def yX0_upOf : MethodName := ⟨RX0, "upOf", "(LClickEachTurn$Fault;)I"⟩
abbrev cX0_downOf : ByteArray := prog_2_method_9_code
def yX0_downOf : MethodName := ⟨RX0, "downOf", "(LClickEachTurn$Fault;I)I"⟩
abbrev cX0_loadIn : ByteArray := prog_2_method_10_code
def yX0_loadIn : MethodName := ⟨RX0, "loadIn", "(II)I"⟩
abbrev cX0_wasOiled : ByteArray := prog_2_method_11_code
def yX0_wasOiled : MethodName := ⟨RX0, "wasOiled", "()Z"⟩
abbrev cX0_isSilent : ByteArray := prog_2_method_12_code
def yX0_isSilent : MethodName := ⟨RX0, "isSilent", "(LClickEachTurn$Fault;I)Z"⟩
abbrev cX0_weightOf : ByteArray := prog_2_method_13_code
def yX0_weightOf : MethodName := ⟨RX0, "weightOf", "(I)I"⟩
def RX1 : String := "ClickEachTurn$Fault"
def TX1 : u_T := fun k => match k with
  | 0 => ("ClickEachTurn$Fault", "kind", "I", false)
  | 1 => ("ClickEachTurn$Fault", "place", "I", false)
  | 2 => ("ClickEachTurn$Fault", "ownLoad", "I", false)
  | 3 => ("ClickEachTurn$Fault", "weight", "I", false)
  | 4 => ("ClickEachTurn$Fault", "minutes", "I", false)
  | 5 => ("ClickEachTurn$Fault", "ballUp", "I", false)
  | 6 => ("ClickEachTurn$Fault", "ballDown", "I", false)
  | 7 => ("ClickEachTurn$Fault", "at", "I", false)
  | _ => ("ClickEachTurn$Fault", "atDown", "I", false)
def tyX1 : Nat → FieldType := fun k => match k with
  | 0 => .int
  | 1 => .int
  | 2 => .int
  | 3 => .int
  | 4 => .int
  | 5 => .int
  | 6 => .int
  | 7 => .int
  | _ => .int
abbrev wsX10 : List Cond := u_ws RX1 TX1 9
theorem nmX1 : ∀ a, a < 9 → ∀ b, b < 9 → a ≠ b → (TX1 a).2.1 ≠ (TX1 b).2.1 := by decide +kernel
theorem tyX1_ok : ∀ k, k < 9 → parseFieldDescriptor (TX1 k).2.2.1 = some (tyX1 k) := by decide +kernel
abbrev cX1_init : ByteArray := prog_3_method_1_code
def yX1_init : MethodName := ⟨RX1, "<init>", "()V"⟩
abbrev cX1_copyFrom : ByteArray := prog_3_method_2_code
def yX1_copyFrom : MethodName := ⟨RX1, "copyFrom", "(LClickEachTurn$Fault;)V"⟩
abbrev cX1_become : ByteArray := prog_3_method_3_code
def yX1_become : MethodName := ⟨RX1, "become", "(LClickEachTurn$Tape;)Z"⟩
abbrev cX1_limitAfter : ByteArray := prog_3_method_4_code
def yX1_limitAfter : MethodName := ⟨RX1, "limitAfter", "(I)I"⟩
abbrev cX1_goesBack : ByteArray := prog_3_method_5_code
def yX1_goesBack : MethodName := ⟨RX1, "goesBack", "()Z"⟩
abbrev cX1_goesAheadOf : ByteArray := prog_3_method_6_code
def yX1_goesAheadOf : MethodName := ⟨RX1, "goesAheadOf", "(LClickEachTurn$Fault;)Z"⟩
abbrev cX1_scaleTo : ByteArray := prog_3_method_7_code
def yX1_scaleTo : MethodName := ⟨RX1, "scaleTo", "(I)V"⟩
abbrev cX1_partsToClick : ByteArray := prog_3_method_8_code
def yX1_partsToClick : MethodName := ⟨RX1, "partsToClick", "()I"⟩
abbrev cX1_move : ByteArray := prog_3_method_9_code
def yX1_move : MethodName := ⟨RX1, "move", "(I)V"⟩
def RX2 : String := "ClickEachTurn$Rider"
def TX2 : u_T := fun k => match k with
  | 0 => ("ClickEachTurn$Rider", "bike", "LClickEachTurn$Bike;", true)
  | 1 => ("ClickEachTurn$Rider", "fault", "LClickEachTurn$Fault;", true)
  | 2 => ("ClickEachTurn$Rider", "pace", "I", false)
  | 3 => ("ClickEachTurn$Rider", "riddenBefore", "I", false)
  | 4 => ("ClickEachTurn$Rider", "stepsBefore", "I", false)
  | 5 => ("ClickEachTurn$Rider", "clicks", "I", false)
  | 6 => ("ClickEachTurn$Rider", "wantedClick", "I", false)
  | _ => ("ClickEachTurn$Rider", "foundStep", "I", false)
def tyX2 : Nat → FieldType := fun k => match k with
  | 0 => .object "ClickEachTurn$Bike"
  | 1 => .object "ClickEachTurn$Fault"
  | 2 => .int
  | 3 => .int
  | 4 => .int
  | 5 => .int
  | 6 => .int
  | _ => .int
abbrev wsX20 : List Cond := u_ws RX2 TX2 8
theorem nmX2 : ∀ a, a < 8 → ∀ b, b < 8 → a ≠ b → (TX2 a).2.1 ≠ (TX2 b).2.1 := by decide +kernel
theorem tyX2_ok : ∀ k, k < 8 → parseFieldDescriptor (TX2 k).2.2.1 = some (tyX2 k) := by decide +kernel
abbrev cX2_init : ByteArray := prog_4_method_1_code
def yX2_init : MethodName := ⟨RX2, "<init>", "(LClickEachTurn$Bike;)V"⟩
abbrev cX2_begin : ByteArray := prog_4_method_2_code
def yX2_begin : MethodName := ⟨RX2, "begin", "(LClickEachTurn$Fault;I)V"⟩
abbrev cX2_passRide : ByteArray := prog_4_method_3_code
def yX2_passRide : MethodName := ⟨RX2, "passRide", "(LClickEachTurn$Fault;I)I"⟩
abbrev cX2_passStage : ByteArray := prog_4_method_4_code
def yX2_passStage : MethodName := ⟨RX2, "passStage", "(III)V"⟩
abbrev cX2_shiftTo : ByteArray := prog_4_method_5_code
def yX2_shiftTo : MethodName := ⟨RX2, "shiftTo", "(I)V"⟩
abbrev cX2_comesByIn : ByteArray := prog_4_method_6_code
def yX2_comesByIn : MethodName := ⟨RX2, "comesByIn", "(I)Z"⟩
abbrev cX2_partsInStep : ByteArray := prog_4_method_7_code
def yX2_partsInStep : MethodName := ⟨RX2, "partsInStep", "(I)I"⟩
abbrev cX2_listen : ByteArray := prog_4_method_8_code
def yX2_listen : MethodName := ⟨RX2, "listen", "(IIIII)V"⟩
def RX3 : String := "ClickEachTurn$Tape"
def TX3 : u_T := fun k => match k with
  | 0 => ("ClickEachTurn$Tape", "bytes", "[I", true)
  | 1 => ("ClickEachTurn$Tape", "size", "I", false)
  | 2 => ("ClickEachTurn$Tape", "place", "I", false)
  | 3 => ("ClickEachTurn$Tape", "letter", "I", false)
  | 4 => ("ClickEachTurn$Tape", "kind", "I", false)
  | _ => ("ClickEachTurn$Tape", "numbers", "[I", true)
def tyX3 : Nat → FieldType := fun k => match k with
  | 0 => .array .int
  | 1 => .int
  | 2 => .int
  | 3 => .int
  | 4 => .int
  | _ => .array .int
abbrev wsX30 : List Cond := u_ws RX3 TX3 6
theorem nmX3 : ∀ a, a < 6 → ∀ b, b < 6 → a ≠ b → (TX3 a).2.1 ≠ (TX3 b).2.1 := by decide +kernel
theorem tyX3_ok : ∀ k, k < 6 → parseFieldDescriptor (TX3 k).2.2.1 = some (tyX3 k) := by decide +kernel
abbrev cX3_init : ByteArray := prog_5_method_1_code
def yX3_init : MethodName := ⟨RX3, "<init>", "()V"⟩
abbrev cX3_add : ByteArray := prog_5_method_2_code
def yX3_add : MethodName := ⟨RX3, "add", "(I)V"⟩
abbrev cX3_checkForm : ByteArray := prog_5_method_3_code
def yX3_checkForm : MethodName := ⟨RX3, "checkForm", "()I"⟩
abbrev cX3_readStatement : ByteArray := prog_5_method_4_code
def yX3_readStatement : MethodName := ⟨RX3, "readStatement", "()Z"⟩
abbrev cX3_readFault : ByteArray := prog_5_method_5_code
def yX3_readFault : MethodName := ⟨RX3, "readFault", "()Z"⟩
abbrev cX3_readBall : ByteArray := prog_5_method_6_code
def yX3_readBall : MethodName := ⟨RX3, "readBall", "()Z"⟩
abbrev cX3_readNumber : ByteArray := prog_5_method_7_code
def yX3_readNumber : MethodName := ⟨RX3, "readNumber", "(III)Z"⟩
abbrev cX3_skip : ByteArray := prog_5_method_8_code
def yX3_skip : MethodName := ⟨RX3, "skip", "(I)Z"⟩
abbrev cX3_peek : ByteArray := prog_5_method_9_code
def yX3_peek : MethodName := ⟨RX3, "peek", "()I"⟩
abbrev cX3_kindOf : ByteArray := prog_5_method_10_code
def yX3_kindOf : MethodName := ⟨RX3, "kindOf", "(I)I"⟩
def RX4 : String := "ClickEachTurn"
def TX4 : u_T := fun k => match k with
  | 0 => ("ClickEachTurn", "tape", "LClickEachTurn$Tape;", true)
  | 1 => ("ClickEachTurn", "now", "LClickEachTurn$Bike;", true)
  | 2 => ("ClickEachTurn", "draft", "LClickEachTurn$Bike;", true)
  | 3 => ("ClickEachTurn", "kept", "LClickEachTurn$Bike;", true)
  | 4 => ("ClickEachTurn", "hasKept", "Z", false)
  | 5 => ("ClickEachTurn", "one", "LClickEachTurn$Rider;", true)
  | 6 => ("ClickEachTurn", "two", "LClickEachTurn$Rider;", true)
  | 7 => ("ClickEachTurn", "clicks", "[I", true)
  | 8 => ("ClickEachTurn", "order", "[I", true)
  | 9 => ("ClickEachTurn", "told", "[I", true)
  | 10 => ("ClickEachTurn", "toldSize", "I", false)
  | _ => ("ClickEachTurn", "refusals", "[I", true)
def tyX4 : Nat → FieldType := fun k => match k with
  | 0 => .object "ClickEachTurn$Tape"
  | 1 => .object "ClickEachTurn$Bike"
  | 2 => .object "ClickEachTurn$Bike"
  | 3 => .object "ClickEachTurn$Bike"
  | 4 => .boolean
  | 5 => .object "ClickEachTurn$Rider"
  | 6 => .object "ClickEachTurn$Rider"
  | 7 => .array .int
  | 8 => .array .int
  | 9 => .array .int
  | 10 => .int
  | _ => .array .int
abbrev wsX40 : List Cond := u_ws RX4 TX4 12
theorem nmX4 : ∀ a, a < 12 → ∀ b, b < 12 → a ≠ b → (TX4 a).2.1 ≠ (TX4 b).2.1 := by decide +kernel
theorem tyX4_ok : ∀ k, k < 12 → parseFieldDescriptor (TX4 k).2.2.1 = some (tyX4 k) := by decide +kernel
abbrev cX4_init : ByteArray := prog_1_method_1_code
def yX4_init : MethodName := ⟨RX4, "<init>", "()V"⟩
abbrev cX4_feed : ByteArray := prog_1_method_2_code
def yX4_feed : MethodName := ⟨RX4, "feed", "(IJ)I"⟩
abbrev cX4_bicycle : ByteArray := prog_1_method_3_code
def yX4_bicycle : MethodName := ⟨RX4, "bicycle", "()I"⟩
abbrev cX4_part : ByteArray := prog_1_method_4_code
def yX4_part : MethodName := ⟨RX4, "part", "(I)I"⟩
abbrev cX4_fault : ByteArray := prog_1_method_5_code
def yX4_fault : MethodName := ⟨RX4, "fault", "(II)I"⟩
abbrev cX4_rounds : ByteArray := prog_1_method_6_code
def yX4_rounds : MethodName := ⟨RX4, "rounds", "(III)I"⟩
abbrev cX4_load : ByteArray := prog_1_method_7_code
def yX4_load : MethodName := ⟨RX4, "load", "(II)I"⟩
abbrev cX4_set : ByteArray := prog_1_method_8_code
def yX4_set : MethodName := ⟨RX4, "set", "(II)I"⟩
abbrev cX4_oil : ByteArray := prog_1_method_9_code
def yX4_oil : MethodName := ⟨RX4, "oil", "()I"⟩
abbrev cX4_stage : ByteArray := prog_1_method_10_code
def yX4_stage : MethodName := ⟨RX4, "stage", "(III)I"⟩
abbrev cX4_stageOf : ByteArray := prog_1_method_11_code
def yX4_stageOf : MethodName := ⟨RX4, "stageOf", "(II)I"⟩
abbrev cX4_drop : ByteArray := prog_1_method_12_code
def yX4_drop : MethodName := ⟨RX4, "drop", "()I"⟩
abbrev cX4_counts : ByteArray := prog_1_method_13_code
def yX4_counts : MethodName := ⟨RX4, "counts", "(I)I"⟩
abbrev cX4_stageCounts : ByteArray := prog_1_method_14_code
def yX4_stageCounts : MethodName := ⟨RX4, "stageCounts", "(IIII)I"⟩
abbrev cX4_when : ByteArray := prog_1_method_15_code
def yX4_when : MethodName := ⟨RX4, "when", "(II)I"⟩
abbrev cX4_heard : ByteArray := prog_1_method_16_code
def yX4_heard : MethodName := ⟨RX4, "heard", "(I)I"⟩
abbrev cX4_go : ByteArray := prog_1_method_17_code
def yX4_go : MethodName := ⟨RX4, "go", "()I"⟩
abbrev cX4_fit : ByteArray := prog_1_method_18_code
def yX4_fit : MethodName := ⟨RX4, "fit", "(II)I"⟩
abbrev cX4_odds : ByteArray := prog_1_method_19_code
def yX4_odds : MethodName := ⟨RX4, "odds", "(IIII)I"⟩
abbrev cX4_twos : ByteArray := prog_1_method_20_code
def yX4_twos : MethodName := ⟨RX4, "twos", "(III)I"⟩
abbrev cX4_apart : ByteArray := prog_1_method_21_code
def yX4_apart : MethodName := ⟨RX4, "apart", "(II)I"⟩
abbrev cX4_tells : ByteArray := prog_1_method_22_code
def yX4_tells : MethodName := ⟨RX4, "tells", "(II)I"⟩
abbrev cX4_length : ByteArray := prog_1_method_23_code
def yX4_length : MethodName := ⟨RX4, "length", "(IIIII)I"⟩
abbrev cX4_beat : ByteArray := prog_1_method_24_code
def yX4_beat : MethodName := ⟨RX4, "beat", "(III)I"⟩
abbrev cX4_away : ByteArray := prog_1_method_25_code
def yX4_away : MethodName := ⟨RX4, "away", "(I)I"⟩
abbrev cX4_danger : ByteArray := prog_1_method_26_code
def yX4_danger : MethodName := ⟨RX4, "danger", "(I)I"⟩
abbrev cX4_least : ByteArray := prog_1_method_27_code
def yX4_least : MethodName := ⟨RX4, "least", "(I)I"⟩
abbrev cX4_row : ByteArray := prog_1_method_28_code
def yX4_row : MethodName := ⟨RX4, "row", "(I)I"⟩
abbrev cX4_judge : ByteArray := prog_1_method_29_code
def yX4_judge : MethodName := ⟨RX4, "judge", "()I"⟩
abbrev cX4_held : ByteArray := prog_1_method_30_code
def yX4_held : MethodName := ⟨RX4, "held", "()I"⟩
abbrev cX4_image : ByteArray := prog_1_method_31_code
def yX4_image : MethodName := ⟨RX4, "image", "()I"⟩
abbrev cX4_on : ByteArray := prog_1_method_32_code
def yX4_on : MethodName := ⟨RX4, "on", "()I"⟩
abbrev cX4_count : ByteArray := prog_1_method_33_code
def yX4_count : MethodName := ⟨RX4, "count", "(I)I"⟩
abbrev cX4_refuse : ByteArray := prog_1_method_34_code
def yX4_refuse : MethodName := ⟨RX4, "refuse", "(I)I"⟩
abbrev cX4_isFault : ByteArray := prog_1_method_35_code
def yX4_isFault : MethodName := ⟨RX4, "isFault", "(I)Z"⟩
abbrev cX4_areTwoFaults : ByteArray := prog_1_method_36_code
def yX4_areTwoFaults : MethodName := ⟨RX4, "areTwoFaults", "(II)Z"⟩
abbrev cX4_isGear : ByteArray := prog_1_method_37_code
def yX4_isGear : MethodName := ⟨RX4, "isGear", "(I)Z"⟩
abbrev cX4_isAct : ByteArray := prog_1_method_38_code
def yX4_isAct : MethodName := ⟨RX4, "isAct", "(I)Z"⟩
abbrev cX4_isWithin : ByteArray := prog_1_method_39_code
def yX4_isWithin : MethodName := ⟨RX4, "isWithin", "(III)Z"⟩
abbrev cX4_takeStatements : ByteArray := prog_1_method_40_code
def yX4_takeStatements : MethodName := ⟨RX4, "takeStatements", "(I)I"⟩
abbrev cX4_clicksInStage : ByteArray := prog_1_method_41_code
def yX4_clicksInStage : MethodName := ⟨RX4, "clicksInStage", "(IIII)I"⟩
abbrev cX4_listenToRide : ByteArray := prog_1_method_42_code
def yX4_listenToRide : MethodName := ⟨RX4, "listenToRide", "()V"⟩
abbrev cX4_fittingBits : ByteArray := prog_1_method_43_code
def yX4_fittingBits : MethodName := ⟨RX4, "fittingBits", "(II)I"⟩
abbrev cX4_unlikeCounts : ByteArray := prog_1_method_44_code
def yX4_unlikeCounts : MethodName := ⟨RX4, "unlikeCounts", "(III)I"⟩
abbrev cX4_leastTerm : ByteArray := prog_1_method_45_code
def yX4_leastTerm : MethodName := ⟨RX4, "leastTerm", "(III)I"⟩
abbrev cX4_wrap : ByteArray := prog_1_method_46_code
def yX4_wrap : MethodName := ⟨RX4, "wrap", "(II)I"⟩
abbrev cX4_findLeastOrder : ByteArray := prog_1_method_47_code
def yX4_findLeastOrder : MethodName := ⟨RX4, "findLeastOrder", "()V"⟩
abbrev cX4_sumOf : ByteArray := prog_1_method_48_code
def yX4_sumOf : MethodName := ⟨RX4, "sumOf", "([I)I"⟩
abbrev cX4_isToldEachFaultOnce : ByteArray := prog_1_method_49_code
def yX4_isToldEachFaultOnce : MethodName := ⟨RX4, "isToldEachFaultOnce", "()Z"⟩
def RX5 : String := "ClickEachTurnModel"
def TX5 : u_T := fun k => match k with
  | 0 => ("ClickEachTurnModel", "refusals", "[I", true)
  | 1 => ("ClickEachTurnModel", "s", "[I", true)
  | 2 => ("ClickEachTurnModel", "image", "[I", true)
  | 3 => ("ClickEachTurnModel", "read", "[I", true)
  | 4 => ("ClickEachTurnModel", "isImage", "Z", false)
  | 5 => ("ClickEachTurnModel", "tape", "[I", true)
  | 6 => ("ClickEachTurnModel", "told", "[I", true)
  | 7 => ("ClickEachTurnModel", "taped", "I", false)
  | 8 => ("ClickEachTurnModel", "at", "I", false)
  | 9 => ("ClickEachTurnModel", "where", "[I", true)
  | 10 => ("ClickEachTurnModel", "by", "[I", true)
  | 11 => ("ClickEachTurnModel", "count", "[I", true)
  | 12 => ("ClickEachTurnModel", "turns", "I", false)
  | 13 => ("ClickEachTurnModel", "steps", "I", false)
  | 14 => ("ClickEachTurnModel", "seed", "I", false)
  | 15 => ("ClickEachTurnModel", "missed", "I", false)
  | 16 => ("ClickEachTurnModel", "hears", "Z", false)
  | 17 => ("ClickEachTurnModel", "asked", "I", false)
  | 18 => ("ClickEachTurnModel", "askedTime", "I", false)
  | 19 => ("ClickEachTurnModel", "found", "I", false)
  | 20 => ("ClickEachTurnModel", "order", "[I", true)
  | 21 => ("ClickEachTurnModel", "bestOrder", "[I", true)
  | 22 => ("ClickEachTurnModel", "bestSum", "I", false)
  | 23 => ("ClickEachTurnModel", "row", "[I", true)
  | _ => ("ClickEachTurnModel", "rowed", "I", false)
def tyX5 : Nat → FieldType := fun k => match k with
  | 0 => .array .int
  | 1 => .array .int
  | 2 => .array .int
  | 3 => .array .int
  | 4 => .boolean
  | 5 => .array .int
  | 6 => .array .int
  | 7 => .int
  | 8 => .int
  | 9 => .array .int
  | 10 => .array .int
  | 11 => .array .int
  | 12 => .int
  | 13 => .int
  | 14 => .int
  | 15 => .int
  | 16 => .boolean
  | 17 => .int
  | 18 => .int
  | 19 => .int
  | 20 => .array .int
  | 21 => .array .int
  | 22 => .int
  | 23 => .array .int
  | _ => .int
abbrev wsX50 : List Cond := u_ws RX5 TX5 25
theorem nmX5 : ∀ a, a < 25 → ∀ b, b < 25 → a ≠ b → (TX5 a).2.1 ≠ (TX5 b).2.1 := by decide +kernel
theorem tyX5_ok : ∀ k, k < 25 → parseFieldDescriptor (TX5 k).2.2.1 = some (tyX5 k) := by decide +kernel
abbrev cX5_init : ByteArray := prog_7_method_1_code
def yX5_init : MethodName := ⟨RX5, "<init>", "()V"⟩
abbrev cX5_refuse : ByteArray := prog_7_method_2_code
def yX5_refuse : MethodName := ⟨RX5, "refuse", "(I)I"⟩
abbrev cX5_isIn : ByteArray := prog_7_method_3_code
def yX5_isIn : MethodName := ⟨RX5, "isIn", "(II)Z"⟩
abbrev cX5_within : ByteArray := prog_7_method_4_code
def yX5_within : MethodName := ⟨RX5, "within", "(III)I"⟩
abbrev cX5_isFault : ByteArray := prog_7_method_5_code
def yX5_isFault : MethodName := ⟨RX5, "isFault", "(I)Z"⟩
abbrev cX5_isGear : ByteArray := prog_7_method_6_code
def yX5_isGear : MethodName := ⟨RX5, "isGear", "(I)Z"⟩
abbrev cX5_isAct : ByteArray := prog_7_method_7_code
def yX5_isAct : MethodName := ⟨RX5, "isAct", "(I)Z"⟩
abbrev cX5_get : ByteArray := prog_7_method_8_code
def yX5_get : MethodName := ⟨RX5, "get", "(II)I"⟩
abbrev cX5_feed : ByteArray := prog_7_method_9_code
def yX5_feed : MethodName := ⟨RX5, "feed", "(IJ)I"⟩
abbrev cX5_sign : ByteArray := prog_7_method_10_code
def yX5_sign : MethodName := ⟨RX5, "sign", "()I"⟩
abbrev cX5_takes : ByteArray := prog_7_method_11_code
def yX5_takes : MethodName := ⟨RX5, "takes", "(I)Z"⟩
abbrev cX5_readsNumber : ByteArray := prog_7_method_12_code
def yX5_readsNumber : MethodName := ⟨RX5, "readsNumber", "(III)Z"⟩
abbrev cX5_kindOf : ByteArray := prog_7_method_13_code
def yX5_kindOf : MethodName := ⟨RX5, "kindOf", "(I)I"⟩
abbrev cX5_readsStatement : ByteArray := prog_7_method_14_code
def yX5_readsStatement : MethodName := ⟨RX5, "readsStatement", "()Z"⟩
abbrev cX5_between : ByteArray := prog_7_method_15_code
def yX5_between : MethodName := ⟨RX5, "between", "(III)Z"⟩
abbrev cX5_comes : ByteArray := prog_7_method_16_code
def yX5_comes : MethodName := ⟨RX5, "comes", "(I)Z"⟩
abbrev cX5_reads : ByteArray := prog_7_method_17_code
def yX5_reads : MethodName := ⟨RX5, "reads", "()I"⟩
abbrev cX5_bicycle : ByteArray := prog_7_method_18_code
def yX5_bicycle : MethodName := ⟨RX5, "bicycle", "()I"⟩
abbrev cX5_part : ByteArray := prog_7_method_19_code
def yX5_part : MethodName := ⟨RX5, "part", "(I)I"⟩
abbrev cX5_limitOf : ByteArray := prog_7_method_20_code
def yX5_limitOf : MethodName := ⟨RX5, "limitOf", "(II)I"⟩
abbrev cX5_fault : ByteArray := prog_7_method_21_code
def yX5_fault : MethodName := ⟨RX5, "fault", "(II)I"⟩
abbrev cX5_upOf : ByteArray := prog_7_method_22_code
def yX5_upOf : MethodName := ⟨RX5, "upOf", "(I)I"⟩
abbrev cX5_downOf : ByteArray := prog_7_method_23_code
def yX5_downOf : MethodName := ⟨RX5, "downOf", "(II)I"⟩
abbrev cX5_rounds : ByteArray := prog_7_method_24_code
def yX5_rounds : MethodName := ⟨RX5, "rounds", "(III)I"⟩
abbrev cX5_loadOf : ByteArray := prog_7_method_25_code
def yX5_loadOf : MethodName := ⟨RX5, "loadOf", "(II)I"⟩
abbrev cX5_load : ByteArray := prog_7_method_26_code
def yX5_load : MethodName := ⟨RX5, "load", "(II)I"⟩
abbrev cX5_most : ByteArray := prog_7_method_27_code
def yX5_most : MethodName := ⟨RX5, "most", "(I)I"⟩
abbrev cX5_set : ByteArray := prog_7_method_28_code
def yX5_set : MethodName := ⟨RX5, "set", "(II)I"⟩
abbrev cX5_oil : ByteArray := prog_7_method_29_code
def yX5_oil : MethodName := ⟨RX5, "oil", "()I"⟩
abbrev cX5_stage : ByteArray := prog_7_method_30_code
def yX5_stage : MethodName := ⟨RX5, "stage", "(III)I"⟩
abbrev cX5_stageOf : ByteArray := prog_7_method_31_code
def yX5_stageOf : MethodName := ⟨RX5, "stageOf", "(II)I"⟩
abbrev cX5_drop : ByteArray := prog_7_method_32_code
def yX5_drop : MethodName := ⟨RX5, "drop", "()I"⟩
abbrev cX5_begins : ByteArray := prog_7_method_33_code
def yX5_begins : MethodName := ⟨RX5, "begins", "()V"⟩
abbrev cX5_opensStage : ByteArray := prog_7_method_34_code
def yX5_opensStage : MethodName := ⟨RX5, "opensStage", "(I)V"⟩
abbrev cX5_comesBy : ByteArray := prog_7_method_35_code
def yX5_comesBy : MethodName := ⟨RX5, "comesBy", "(II)Z"⟩
abbrev cX5_isSilent : ByteArray := prog_7_method_36_code
def yX5_isSilent : MethodName := ⟨RX5, "isSilent", "(I)Z"⟩
abbrev cX5_clicks : ByteArray := prog_7_method_37_code
def yX5_clicks : MethodName := ⟨RX5, "clicks", "(I)V"⟩
abbrev cX5_goesStep : ByteArray := prog_7_method_38_code
def yX5_goesStep : MethodName := ⟨RX5, "goesStep", "(II)V"⟩
abbrev cX5_goesStage : ByteArray := prog_7_method_39_code
def yX5_goesStage : MethodName := ⟨RX5, "goesStage", "(III)V"⟩
abbrev cX5_rides : ByteArray := prog_7_method_40_code
def yX5_rides : MethodName := ⟨RX5, "rides", "()V"⟩
abbrev cX5_counted : ByteArray := prog_7_method_41_code
def yX5_counted : MethodName := ⟨RX5, "counted", "()V"⟩
abbrev cX5_counts : ByteArray := prog_7_method_42_code
def yX5_counts : MethodName := ⟨RX5, "counts", "(I)I"⟩
abbrev cX5_stageAlone : ByteArray := prog_7_method_43_code
def yX5_stageAlone : MethodName := ⟨RX5, "stageAlone", "(III)V"⟩
abbrev cX5_stageCounts : ByteArray := prog_7_method_44_code
def yX5_stageCounts : MethodName := ⟨RX5, "stageCounts", "(IIII)I"⟩
abbrev cX5_when : ByteArray := prog_7_method_45_code
def yX5_when : MethodName := ⟨RX5, "when", "(II)I"⟩
abbrev cX5_heard : ByteArray := prog_7_method_46_code
def yX5_heard : MethodName := ⟨RX5, "heard", "(I)I"⟩
abbrev cX5_go : ByteArray := prog_7_method_47_code
def yX5_go : MethodName := ⟨RX5, "go", "()I"⟩
abbrev cX5_wrongCount : ByteArray := prog_7_method_48_code
def yX5_wrongCount : MethodName := ⟨RX5, "wrongCount", "(II)I"⟩
abbrev cX5_amount : ByteArray := prog_7_method_49_code
def yX5_amount : MethodName := ⟨RX5, "amount", "(I)I"⟩
abbrev cX5_fitOf : ByteArray := prog_7_method_50_code
def yX5_fitOf : MethodName := ⟨RX5, "fitOf", "(II)I"⟩
abbrev cX5_fit : ByteArray := prog_7_method_51_code
def yX5_fit : MethodName := ⟨RX5, "fit", "(II)I"⟩
abbrev cX5_common : ByteArray := prog_7_method_52_code
def yX5_common : MethodName := ⟨RX5, "common", "(II)I"⟩
abbrev cX5_partOf : ByteArray := prog_7_method_53_code
def yX5_partOf : MethodName := ⟨RX5, "partOf", "(III)I"⟩
abbrev cX5_odds : ByteArray := prog_7_method_54_code
def yX5_odds : MethodName := ⟨RX5, "odds", "(IIII)I"⟩
abbrev cX5_twos : ByteArray := prog_7_method_55_code
def yX5_twos : MethodName := ⟨RX5, "twos", "(III)I"⟩
abbrev cX5_areTwo : ByteArray := prog_7_method_56_code
def yX5_areTwo : MethodName := ⟨RX5, "areTwo", "(II)Z"⟩
abbrev cX5_apart : ByteArray := prog_7_method_57_code
def yX5_apart : MethodName := ⟨RX5, "apart", "(II)I"⟩
abbrev cX5_unlike : ByteArray := prog_7_method_58_code
def yX5_unlike : MethodName := ⟨RX5, "unlike", "()I"⟩
abbrev cX5_tells : ByteArray := prog_7_method_59_code
def yX5_tells : MethodName := ⟨RX5, "tells", "(II)I"⟩
abbrev cX5_length : ByteArray := prog_7_method_60_code
def yX5_length : MethodName := ⟨RX5, "length", "(IIIII)I"⟩
abbrev cX5_beat : ByteArray := prog_7_method_61_code
def yX5_beat : MethodName := ⟨RX5, "beat", "(III)I"⟩
abbrev cX5_weights : ByteArray := prog_7_method_62_code
def yX5_weights : MethodName := ⟨RX5, "weights", "()I"⟩
abbrev cX5_away : ByteArray := prog_7_method_63_code
def yX5_away : MethodName := ⟨RX5, "away", "(I)I"⟩
abbrev cX5_danger : ByteArray := prog_7_method_64_code
def yX5_danger : MethodName := ⟨RX5, "danger", "(I)I"⟩
abbrev cX5_sumOf : ByteArray := prog_7_method_65_code
def yX5_sumOf : MethodName := ⟨RX5, "sumOf", "(I)I"⟩
abbrev cX5_orders : ByteArray := prog_7_method_66_code
def yX5_orders : MethodName := ⟨RX5, "orders", "(II)V"⟩
abbrev cX5_findLeast : ByteArray := prog_7_method_67_code
def yX5_findLeast : MethodName := ⟨RX5, "findLeast", "()V"⟩
abbrev cX5_least : ByteArray := prog_7_method_68_code
def yX5_least : MethodName := ⟨RX5, "least", "(I)I"⟩
abbrev cX5_row : ByteArray := prog_7_method_69_code
def yX5_row : MethodName := ⟨RX5, "row", "(I)I"⟩
abbrev cX5_judge : ByteArray := prog_7_method_70_code
def yX5_judge : MethodName := ⟨RX5, "judge", "()I"⟩
abbrev cX5_held : ByteArray := prog_7_method_71_code
def yX5_held : MethodName := ⟨RX5, "held", "()I"⟩
abbrev cX5_image : ByteArray := prog_7_method_72_code
def yX5_image : MethodName := ⟨RX5, "image", "()I"⟩
abbrev cX5_on : ByteArray := prog_7_method_73_code
def yX5_on : MethodName := ⟨RX5, "on", "()I"⟩
abbrev cX5_count : ByteArray := prog_7_method_74_code
def yX5_count : MethodName := ⟨RX5, "count", "(I)I"⟩
def RJ9 : String := "java/lang/Math"
def TJ9 : u_T := fun k => match k with
  | _ => ("", "", "", false)
def tyJ9 : Nat → FieldType := fun k => match k with
  | _ => .int
abbrev wsJ90 : List Cond := u_ws RJ9 TJ9 0
theorem nmJ9 : ∀ a, a < 0 → ∀ b, b < 0 → a ≠ b → (TJ9 a).2.1 ≠ (TJ9 b).2.1 := by decide +kernel
theorem tyJ9_ok : ∀ k, k < 0 → parseFieldDescriptor (TJ9 k).2.2.1 = some (tyJ9 k) := by decide +kernel
abbrev cJ9_abs_0f7a4 : ByteArray := prog_8_method_59_code
def yJ9_abs_0f7a4 : MethodName := ⟨RJ9, "abs", "(I)I"⟩
abbrev cJ9_max_7cf53 : ByteArray := prog_8_method_65_code
def yJ9_max_7cf53 : MethodName := ⟨RJ9, "max", "(II)I"⟩
abbrev cJ9_min_7cf53 : ByteArray := prog_8_method_69_code
def yJ9_min_7cf53 : MethodName := ⟨RJ9, "min", "(II)I"⟩
def RJ10 : String := "java/lang/System"
def TJ10 : u_T := fun k => match k with
  | _ => ("", "", "", false)
def tyJ10 : Nat → FieldType := fun k => match k with
  | _ => .int
abbrev wsJ100 : List Cond := u_ws RJ10 TJ10 0
theorem nmJ10 : ∀ a, a < 0 → ∀ b, b < 0 → a ≠ b → (TJ10 a).2.1 ≠ (TJ10 b).2.1 := by decide +kernel
theorem tyJ10_ok : ∀ k, k < 0 → parseFieldDescriptor (TJ10 k).2.2.1 = some (tyJ10 k) := by decide +kernel
def RL : String := "ClickEachTurnLaw"
abbrev cL_law : ByteArray := code
def yL_law : MethodName := ⟨RL, "law", "([I)Z"⟩
abbrev vwCl : List vw_C := [(RX0, TX0, 13), (RX1, TX1, 9), (RX2, TX2, 8), (RX3, TX3, 6), (RX4, TX4, 12), (RX5, TX5, 25)]
end
section
abbrev AV : Type := Option (Int32 ⊕ (Int64 ⊕ (Nat × Nat)))
abbrev vI (x : Int32) : AV := some (.inl x)
abbrev vL (x : Int64) : AV := some (.inr (.inl x))
abbrev vR (b o : Nat) : AV := some (.inr (.inr (b, o)))
abbrev IE : Type := Nat × Instr × Nat × AV × Nat × Nat × List (Int32 × Nat) × MethodName
def yz : MethodName := ⟨"", "", ""⟩
def q0 (pc : Nat) (i : Instr) (n : Nat) : IE := (pc, i, n, none, 0, 0, [], yz)
def q1 (pc : Nat) (i : Instr) (n : Nat) (k : AV) : IE := (pc, i, n, k, 0, 0, [], yz)
def q2 (pc : Nat) (i : Instr) (n : Nat) (t : Nat) : IE := (pc, i, n, none, t, 0, [], yz)
def q3 (pc : Nat) (i : Instr) (n : Nat) (k : AV) (t u : Nat) : IE := (pc, i, n, k, t, u, [], yz)
def q4 (pc : Nat) (i : Instr) (n : Nat) (t : Nat) (sw : List (Int32 × Nat)) : IE := (pc, i, n, none, t, 0, sw, yz)
def q5 (pc : Nat) (i : Instr) (n : Nat) (t u : Nat) (y : MethodName) : IE := (pc, i, n, none, t, u, [], y)
def ab_cn (k : Nat) : String := match k with
  | 0 => RX0
  | 1 => RX1
  | 2 => RX2
  | 3 => RX3
  | 4 => RX4
  | 5 => RX5
  | _ => RL

def iX0_init : List IE := [
  q0 0 (.aload_n 0) 1,
  q5 1 (.invokespecial 3) 3 6 0 yz,
  q0 4 (.aload_n 0) 1,
  q1 5 (.bipush 44) 2 (vI 44),
  q3 7 (.putfield 9) 3 (vI 0) 0 0,
  q0 10 (.aload_n 0) 1,
  q1 11 (.bipush 108) 2 (vI 108),
  q3 13 (.putfield 15) 3 (vI 0) 0 1,
  q0 16 (.aload_n 0) 1,
  q1 17 (.iconst 5) 1 (vI 5),
  q0 18 (.newarray .int) 2,
  q3 20 (.putfield 18) 3 (vI 2) 0 2,
  q0 23 (.aload_n 0) 1,
  q1 24 (.bipush 8) 2 (vI 8),
  q0 26 (.anewarray 22) 3,
  q3 29 (.putfield 24) 3 (vI 2) 0 4,
  q1 32 (.iconst 0) 1 (vI 0),
  q0 33 (.istore_n 1) 1,
  q0 34 (.iload_n 1) 1,
  q1 35 (.bipush 8) 2 (vI 8),
  q2 37 (.if_icmp .ge 22) 3 59,
  q0 40 (.aload_n 0) 1,
  q3 41 (.getfield 24) 3 (vI 2) 0 4,
  q0 44 (.iload_n 1) 1,
  q3 45 (.new 22) 3 none 1 9,
  q0 48 .dup 1,
  q5 49 (.invokespecial 28) 3 0 1 yX1_init,
  q0 52 .aastore 1,
  q1 53 (.iinc 1 1) 3 (vI 1),
  q2 56 (.goto (-22)) 3 34,
  q0 59 (.aload_n 0) 1,
  q1 60 (.iconst 4) 1 (vI 4),
  q0 61 (.newarray .int) 2,
  q3 63 (.putfield 29) 3 (vI 2) 0 6,
  q0 66 (.aload_n 0) 1,
  q3 67 (.getfield 29) 3 (vI 2) 0 6,
  q1 70 (.iconst 3) 1 (vI 3),
  q1 71 (.bipush 30) 2 (vI 30),
  q0 73 .iastore 1,
  q0 74 (.aload_n 0) 1,
  q1 75 (.bipush (-9)) 2 (vI (-9)),
  q3 77 (.putfield 32) 3 (vI 0) 0 8,
  q0 80 (.aload_n 0) 1,
  q1 81 (.bipush 8) 2 (vI 8),
  q0 83 (.newarray .int) 2,
  q3 85 (.putfield 35) 3 (vI 2) 0 9,
  q0 88 (.aload_n 0) 1,
  q1 89 (.bipush 8) 2 (vI 8),
  q0 91 (.newarray .int) 2,
  q3 93 (.putfield 38) 3 (vI 2) 0 10,
  q0 96 (.aload_n 0) 1,
  q1 97 (.bipush 8) 2 (vI 8),
  q0 99 (.newarray .int) 2,
  q3 101 (.putfield 41) 3 (vI 2) 0 11,
  q0 104 .return_ 1]
def iX0_copyFrom : List IE := [
  q0 0 (.aload_n 0) 1,
  q0 1 (.aload_n 1) 1,
  q3 2 (.getfield 9) 3 (vI 0) 0 0,
  q3 5 (.putfield 9) 3 (vI 0) 0 0,
  q0 8 (.aload_n 0) 1,
  q0 9 (.aload_n 1) 1,
  q3 10 (.getfield 15) 3 (vI 0) 0 1,
  q3 13 (.putfield 15) 3 (vI 0) 0 1,
  q0 16 (.aload_n 1) 1,
  q3 17 (.getfield 18) 3 (vI 2) 0 2,
  q1 20 (.iconst 0) 1 (vI 0),
  q0 21 (.aload_n 0) 1,
  q3 22 (.getfield 18) 3 (vI 2) 0 2,
  q1 25 (.iconst 0) 1 (vI 0),
  q1 26 (.iconst 5) 1 (vI 5),
  q5 27 (.invokestatic 44) 3 4 0 yz,
  q0 30 (.aload_n 0) 1,
  q0 31 (.aload_n 1) 1,
  q3 32 (.getfield 50) 3 (vI 0) 0 3,
  q3 35 (.putfield 50) 3 (vI 0) 0 3,
  q1 38 (.iconst 0) 1 (vI 0),
  q0 39 (.istore_n 2) 1,
  q0 40 (.iload_n 2) 1,
  q1 41 (.bipush 8) 2 (vI 8),
  q2 43 (.if_icmp .ge 24) 3 67,
  q0 46 (.aload_n 0) 1,
  q3 47 (.getfield 24) 3 (vI 2) 0 4,
  q0 50 (.iload_n 2) 1,
  q0 51 .aaload 1,
  q0 52 (.aload_n 1) 1,
  q3 53 (.getfield 24) 3 (vI 2) 0 4,
  q0 56 (.iload_n 2) 1,
  q0 57 .aaload 1,
  q5 58 (.invokevirtual 53) 3 1 2 yX1_copyFrom,
  q1 61 (.iinc 2 1) 3 (vI 1),
  q2 64 (.goto (-24)) 3 40,
  q0 67 (.aload_n 0) 1,
  q0 68 (.aload_n 1) 1,
  q3 69 (.getfield 57) 3 (vI 0) 0 5,
  q3 72 (.putfield 57) 3 (vI 0) 0 5,
  q0 75 (.aload_n 1) 1,
  q3 76 (.getfield 29) 3 (vI 2) 0 6,
  q1 79 (.iconst 0) 1 (vI 0),
  q0 80 (.aload_n 0) 1,
  q3 81 (.getfield 29) 3 (vI 2) 0 6,
  q1 84 (.iconst 0) 1 (vI 0),
  q1 85 (.iconst 4) 1 (vI 4),
  q5 86 (.invokestatic 44) 3 4 0 yz,
  q0 89 (.aload_n 0) 1,
  q0 90 (.aload_n 1) 1,
  q3 91 (.getfield 60) 3 (vI 0) 0 7,
  q3 94 (.putfield 60) 3 (vI 0) 0 7,
  q0 97 (.aload_n 0) 1,
  q0 98 (.aload_n 1) 1,
  q3 99 (.getfield 32) 3 (vI 0) 0 8,
  q3 102 (.putfield 32) 3 (vI 0) 0 8,
  q0 105 (.aload_n 1) 1,
  q3 106 (.getfield 35) 3 (vI 2) 0 9,
  q1 109 (.iconst 0) 1 (vI 0),
  q0 110 (.aload_n 0) 1,
  q3 111 (.getfield 35) 3 (vI 2) 0 9,
  q1 114 (.iconst 0) 1 (vI 0),
  q1 115 (.bipush 8) 2 (vI 8),
  q5 117 (.invokestatic 44) 3 4 0 yz,
  q0 120 (.aload_n 1) 1,
  q3 121 (.getfield 38) 3 (vI 2) 0 10,
  q1 124 (.iconst 0) 1 (vI 0),
  q0 125 (.aload_n 0) 1,
  q3 126 (.getfield 38) 3 (vI 2) 0 10,
  q1 129 (.iconst 0) 1 (vI 0),
  q1 130 (.bipush 8) 2 (vI 8),
  q5 132 (.invokestatic 44) 3 4 0 yz,
  q0 135 (.aload_n 1) 1,
  q3 136 (.getfield 41) 3 (vI 2) 0 11,
  q1 139 (.iconst 0) 1 (vI 0),
  q0 140 (.aload_n 0) 1,
  q3 141 (.getfield 41) 3 (vI 2) 0 11,
  q1 144 (.iconst 0) 1 (vI 0),
  q1 145 (.bipush 8) 2 (vI 8),
  q5 147 (.invokestatic 44) 3 4 0 yz,
  q0 150 (.aload_n 0) 1,
  q0 151 (.aload_n 1) 1,
  q3 152 (.getfield 63) 3 (vI 0) 0 12,
  q3 155 (.putfield 63) 3 (vI 0) 0 12,
  q0 158 .return_ 1]
def iX0_takeStatement : List IE := [
  q0 0 (.aload_n 1) 1,
  q3 1 (.getfield 66) 3 (vI 2) 3 5,
  q1 4 (.iconst 0) 1 (vI 0),
  q0 5 .iaload 1,
  q0 6 (.istore_n 2) 1,
  q0 7 (.aload_n 1) 1,
  q3 8 (.getfield 71) 3 (vI 0) 3 3,
  q4 11 (.lookupswitch 86 #[(102, 33), (107, 56), (114, 80)]) 33 97 [(102, 44), (107, 67), (114, 91)],
  q0 44 (.aload_n 0) 1,
  q0 45 (.iload_n 2) 1,
  q3 46 (.putfield 9) 3 (vI 0) 0 0,
  q0 49 (.iload_n 2) 1,
  q1 50 (.bipush 20) 2 (vI 20),
  q2 52 (.if_icmp .lt 13) 3 65,
  q0 55 (.iload_n 2) 1,
  q1 56 (.bipush 60) 2 (vI 60),
  q2 58 (.if_icmp .gt 7) 3 65,
  q1 61 (.iconst 1) 1 (vI 1),
  q2 62 (.goto 4) 3 66,
  q1 65 (.iconst 0) 1 (vI 0),
  q0 66 .ireturn 1,
  q0 67 (.aload_n 0) 1,
  q0 68 (.iload_n 2) 1,
  q3 69 (.putfield 15) 3 (vI 0) 0 1,
  q0 72 (.iload_n 2) 1,
  q1 73 (.bipush 60) 2 (vI 60),
  q2 75 (.if_icmp .lt 14) 3 89,
  q0 78 (.iload_n 2) 1,
  q1 79 (.sipush 140) 3 (vI 140),
  q2 82 (.if_icmp .gt 7) 3 89,
  q1 85 (.iconst 1) 1 (vI 1),
  q2 86 (.goto 4) 3 90,
  q1 89 (.iconst 0) 1 (vI 0),
  q0 90 .ireturn 1,
  q0 91 (.aload_n 0) 1,
  q0 92 (.iload_n 2) 1,
  q5 93 (.invokevirtual 74) 3 0 2 yX0_addCog,
  q0 96 .ireturn 1,
  q0 97 (.aload_n 0) 1,
  q0 98 (.aload_n 1) 1,
  q5 99 (.invokevirtual 78) 3 0 2 yX0_addFault,
  q0 102 .ireturn 1]
def iX0_addCog : List IE := [
  q0 0 (.aload_n 0) 1,
  q3 1 (.getfield 50) 3 (vI 0) 0 3,
  q1 4 (.iconst 5) 1 (vI 5),
  q2 5 (.if_icmp .ge 15) 3 20,
  q0 8 (.iload_n 1) 1,
  q1 9 (.bipush 10) 2 (vI 10),
  q2 11 (.if_icmp .lt 9) 3 20,
  q0 14 (.iload_n 1) 1,
  q1 15 (.bipush 40) 2 (vI 40),
  q2 17 (.if_icmp .le 5) 3 22,
  q1 20 (.iconst 0) 1 (vI 0),
  q0 21 .ireturn 1,
  q0 22 (.aload_n 0) 1,
  q3 23 (.getfield 18) 3 (vI 2) 0 2,
  q0 26 (.aload_n 0) 1,
  q3 27 (.getfield 50) 3 (vI 0) 0 3,
  q0 30 (.iload_n 1) 1,
  q0 31 .iastore 1,
  q0 32 (.aload_n 0) 1,
  q0 33 .dup 1,
  q3 34 (.getfield 50) 3 (vI 0) 0 3,
  q1 37 (.iconst 1) 1 (vI 1),
  q0 38 .iadd 1,
  q3 39 (.putfield 50) 3 (vI 0) 0 3,
  q1 42 (.iconst 1) 1 (vI 1),
  q0 43 .ireturn 1]
def iX0_addFault : List IE := [
  q0 0 (.aload_n 0) 1,
  q3 1 (.getfield 57) 3 (vI 0) 0 5,
  q1 4 (.bipush 8) 2 (vI 8),
  q2 6 (.if_icmp .ge 19) 3 25,
  q0 9 (.aload_n 0) 1,
  q3 10 (.getfield 24) 3 (vI 2) 0 4,
  q0 13 (.aload_n 0) 1,
  q3 14 (.getfield 57) 3 (vI 0) 0 5,
  q0 17 .aaload 1,
  q0 18 (.aload_n 1) 1,
  q5 19 (.invokevirtual 82) 3 1 2 yX1_become,
  q2 22 (.ifCond .ne 5) 3 27,
  q1 25 (.iconst 0) 1 (vI 0),
  q0 26 .ireturn 1,
  q0 27 (.aload_n 0) 1,
  q0 28 .dup 1,
  q3 29 (.getfield 57) 3 (vI 0) 0 5,
  q1 32 (.iconst 1) 1 (vI 1),
  q0 33 .iadd 1,
  q3 34 (.putfield 57) 3 (vI 0) 0 5,
  q1 37 (.iconst 1) 1 (vI 1),
  q0 38 .ireturn 1]
def iX0_addStage : List IE := [
  q0 0 (.aload_n 0) 1,
  q3 1 (.getfield 63) 3 (vI 0) 0 12,
  q1 4 (.bipush 8) 2 (vI 8),
  q2 6 (.if_icmp .ge 43) 3 49,
  q0 9 (.aload_n 0) 1,
  q3 10 (.getfield 35) 3 (vI 2) 0 9,
  q0 13 (.aload_n 0) 1,
  q3 14 (.getfield 63) 3 (vI 0) 0 12,
  q0 17 (.iload_n 1) 1,
  q0 18 .iastore 1,
  q0 19 (.aload_n 0) 1,
  q3 20 (.getfield 38) 3 (vI 2) 0 10,
  q0 23 (.aload_n 0) 1,
  q3 24 (.getfield 63) 3 (vI 0) 0 12,
  q0 27 (.iload_n 2) 1,
  q0 28 .iastore 1,
  q0 29 (.aload_n 0) 1,
  q3 30 (.getfield 41) 3 (vI 2) 0 11,
  q0 33 (.aload_n 0) 1,
  q3 34 (.getfield 63) 3 (vI 0) 0 12,
  q0 37 (.iload_n 3) 1,
  q0 38 .iastore 1,
  q0 39 (.aload_n 0) 1,
  q0 40 .dup 1,
  q3 41 (.getfield 63) 3 (vI 0) 0 12,
  q1 44 (.iconst 1) 1 (vI 1),
  q0 45 .iadd 1,
  q3 46 (.putfield 63) 3 (vI 0) 0 12,
  q0 49 .return_ 1]
def iX0_turnsOfRide : List IE := [
  q1 0 (.iconst 0) 1 (vI 0),
  q0 1 (.istore_n 1) 1,
  q1 2 (.iconst 0) 1 (vI 0),
  q0 3 (.istore_n 2) 1,
  q0 4 (.iload_n 2) 1,
  q0 5 (.aload_n 0) 1,
  q3 6 (.getfield 63) 3 (vI 0) 0 12,
  q2 9 (.if_icmp .ge 18) 3 27,
  q0 12 (.iload_n 1) 1,
  q0 13 (.aload_n 0) 1,
  q3 14 (.getfield 41) 3 (vI 2) 0 11,
  q0 17 (.iload_n 2) 1,
  q0 18 .iaload 1,
  q0 19 .iadd 1,
  q0 20 (.istore_n 1) 1,
  q1 21 (.iinc 2 1) 3 (vI 1),
  q2 24 (.goto (-20)) 3 4,
  q0 27 (.iload_n 1) 1,
  q0 28 .ireturn 1]
def iX0_upOf : List IE := [
  q0 0 (.aload_n 1) 1,
  q3 1 (.getfield 85) 3 (vI 0) 1 0,
  q4 4 (.tableswitch 38 1 3 #[28, 33, 33]) 28 42 [(1, 32), (2, 37), (3, 37)],
  q0 32 (.aload_n 1) 1,
  q3 33 (.getfield 88) 3 (vI 0) 1 5,
  q0 36 .ireturn 1,
  q0 37 (.aload_n 0) 1,
  q3 38 (.getfield 9) 3 (vI 0) 0 0,
  q0 41 .ireturn 1,
  q1 42 (.iconst 1) 1 (vI 1),
  q0 43 .ireturn 1]
def iX0_downOf : List IE := [
  q0 0 (.aload_n 1) 1,
  q3 1 (.getfield 85) 3 (vI 0) 1 0,
  q4 4 (.tableswitch 61 1 3 #[28, 33, 38]) 28 65 [(1, 32), (2, 37), (3, 42)],
  q0 32 (.aload_n 1) 1,
  q3 33 (.getfield 91) 3 (vI 0) 1 6,
  q0 36 .ireturn 1,
  q0 37 (.aload_n 0) 1,
  q3 38 (.getfield 15) 3 (vI 0) 0 1,
  q0 41 .ireturn 1,
  q0 42 (.iload_n 2) 1,
  q2 43 (.ifCond .lt 20) 3 63,
  q0 46 (.iload_n 2) 1,
  q0 47 (.aload_n 0) 1,
  q3 48 (.getfield 50) 3 (vI 0) 0 3,
  q2 51 (.if_icmp .ge 12) 3 63,
  q0 54 (.aload_n 0) 1,
  q3 55 (.getfield 18) 3 (vI 2) 0 2,
  q0 58 (.iload_n 2) 1,
  q0 59 .iaload 1,
  q2 60 (.goto 4) 3 64,
  q1 63 (.iconst 1) 1 (vI 1),
  q0 64 .ireturn 1,
  q1 65 (.iconst 1) 1 (vI 1),
  q0 66 .ireturn 1]
def iX0_loadIn : List IE := [
  q0 0 (.iload_n 2) 1,
  q1 1 (.bipush 15) 2 (vI 15),
  q2 3 (.if_icmp .lt 13) 3 16,
  q0 6 (.iload_n 2) 1,
  q1 7 (.bipush 34) 2 (vI 34),
  q2 9 (.if_icmp .gt 7) 3 16,
  q1 12 (.iconst 1) 1 (vI 1),
  q2 13 (.goto 4) 3 17,
  q1 16 (.iconst 0) 1 (vI 0),
  q0 17 (.istore_n 3) 1,
  q0 18 (.iload_n 3) 1,
  q2 19 (.ifCond .ne 15) 3 34,
  q0 22 (.iload_n 2) 1,
  q1 23 (.bipush 65) 2 (vI 65),
  q2 25 (.if_icmp .lt 13) 3 38,
  q0 28 (.iload_n 2) 1,
  q1 29 (.bipush 84) 2 (vI 84),
  q2 31 (.if_icmp .gt 7) 3 38,
  q1 34 (.iconst 1) 1 (vI 1),
  q2 35 (.goto 4) 3 39,
  q1 38 (.iconst 0) 1 (vI 0),
  q0 39 (.istore 4) 2,
  q0 41 (.aload_n 0) 1,
  q3 42 (.getfield 29) 3 (vI 2) 0 6,
  q1 45 (.iconst 0) 1 (vI 0),
  q0 46 .iaload 1,
  q0 47 (.istore 5) 2,
  q0 49 (.iload_n 1) 1,
  q4 50 (.tableswitch 88 0 3 #[30, 45, 60, 74]) 30 138 [(0, 80), (1, 95), (2, 110), (3, 124)],
  q0 80 (.iload 4) 2,
  q2 82 (.ifCond .eq 11) 3 93,
  q1 85 (.bipush 6) 2 (vI 6),
  q0 87 (.iload 5) 2,
  q0 89 .iadd 1,
  q2 90 (.goto 4) 3 94,
  q1 93 (.iconst 2) 1 (vI 2),
  q0 94 .ireturn 1,
  q0 95 (.iload 4) 2,
  q2 97 (.ifCond .eq 11) 3 108,
  q1 100 (.bipush 8) 2 (vI 8),
  q0 102 (.iload 5) 2,
  q0 104 .iadd 1,
  q2 105 (.goto 4) 3 109,
  q1 108 (.iconst 1) 1 (vI 1),
  q0 109 .ireturn 1,
  q0 110 (.iload 4) 2,
  q2 112 (.ifCond .eq 10) 3 122,
  q1 115 (.iconst 5) 1 (vI 5),
  q0 116 (.iload 5) 2,
  q0 118 .iadd 1,
  q2 119 (.goto 4) 3 123,
  q1 122 (.iconst 1) 1 (vI 1),
  q0 123 .ireturn 1,
  q0 124 (.iload_n 3) 1,
  q2 125 (.ifCond .eq 11) 3 136,
  q1 128 (.bipush 6) 2 (vI 6),
  q0 130 (.iload 5) 2,
  q0 132 .iadd 1,
  q2 133 (.goto 4) 3 137,
  q1 136 (.iconst 2) 1 (vI 2),
  q0 137 .ireturn 1,
  q1 138 (.iconst 0) 1 (vI 0),
  q0 139 .ireturn 1]
def iX0_wasOiled : List IE := [
  q0 0 (.aload_n 0) 1,
  q3 1 (.getfield 32) 3 (vI 0) 0 8,
  q2 4 (.ifCond .lt 7) 3 11,
  q1 7 (.iconst 1) 1 (vI 1),
  q2 8 (.goto 4) 3 12,
  q1 11 (.iconst 0) 1 (vI 0),
  q0 12 .ireturn 1]
def iX0_isSilent : List IE := [
  q0 0 (.aload_n 1) 1,
  q3 1 (.getfield 85) 3 (vI 0) 1 0,
  q1 4 (.iconst 5) 1 (vI 5),
  q2 5 (.if_icmp .ne 31) 3 36,
  q0 8 (.aload_n 0) 1,
  q3 9 (.getfield 32) 3 (vI 0) 0 8,
  q2 12 (.ifCond .lt 22) 3 34,
  q0 15 (.iload_n 2) 1,
  q0 16 (.aload_n 0) 1,
  q3 17 (.getfield 32) 3 (vI 0) 0 8,
  q0 20 .isub 1,
  q0 21 (.aload_n 0) 1,
  q3 22 (.getfield 29) 3 (vI 2) 0 6,
  q1 25 (.iconst 3) 1 (vI 3),
  q0 26 .iaload 1,
  q2 27 (.if_icmp .ge 7) 3 34,
  q1 30 (.iconst 1) 1 (vI 1),
  q2 31 (.goto 4) 3 35,
  q1 34 (.iconst 0) 1 (vI 0),
  q0 35 .ireturn 1,
  q0 36 (.aload_n 1) 1,
  q3 37 (.getfield 85) 3 (vI 0) 1 0,
  q1 40 (.bipush 7) 2 (vI 7),
  q2 42 (.if_icmp .ne 16) 3 58,
  q0 45 (.aload_n 0) 1,
  q3 46 (.getfield 29) 3 (vI 2) 0 6,
  q1 49 (.iconst 1) 1 (vI 1),
  q0 50 .iaload 1,
  q2 51 (.ifCond .eq 7) 3 58,
  q1 54 (.iconst 1) 1 (vI 1),
  q2 55 (.goto 4) 3 59,
  q1 58 (.iconst 0) 1 (vI 0),
  q0 59 .ireturn 1]
def iX0_weightOf : List IE := [
  q1 0 (.iconst 0) 1 (vI 0),
  q0 1 (.istore_n 2) 1,
  q1 2 (.iconst 0) 1 (vI 0),
  q0 3 (.istore_n 3) 1,
  q0 4 (.iload_n 3) 1,
  q0 5 (.aload_n 0) 1,
  q3 6 (.getfield 57) 3 (vI 0) 0 5,
  q2 9 (.if_icmp .ge 27) 3 36,
  q0 12 (.iload_n 2) 1,
  q0 13 (.iload_n 1) 1,
  q0 14 (.iload_n 3) 1,
  q0 15 .ishr 1,
  q1 16 (.iconst 1) 1 (vI 1),
  q0 17 .iand 1,
  q0 18 (.aload_n 0) 1,
  q3 19 (.getfield 24) 3 (vI 2) 0 4,
  q0 22 (.iload_n 3) 1,
  q0 23 .aaload 1,
  q3 24 (.getfield 94) 3 (vI 0) 1 3,
  q0 27 .imul 1,
  q0 28 .iadd 1,
  q0 29 (.istore_n 2) 1,
  q1 30 (.iinc 3 1) 3 (vI 1),
  q2 33 (.goto (-29)) 3 4,
  q0 36 (.iload_n 2) 1,
  q0 37 .ireturn 1]
def iX1_init : List IE := [
  q0 0 (.aload_n 0) 1,
  q5 1 (.invokespecial 3) 3 6 0 yz,
  q0 4 (.aload_n 0) 1,
  q1 5 (.iconst 1) 1 (vI 1),
  q3 6 (.putfield 9) 3 (vI 0) 1 5,
  q0 9 (.aload_n 0) 1,
  q1 10 (.iconst 1) 1 (vI 1),
  q3 11 (.putfield 15) 3 (vI 0) 1 6,
  q0 14 (.aload_n 0) 1,
  q1 15 (.iconst 1) 1 (vI 1),
  q3 16 (.putfield 18) 3 (vI 0) 1 8,
  q0 19 .return_ 1]
def iX1_copyFrom : List IE := [
  q0 0 (.aload_n 0) 1,
  q0 1 (.aload_n 1) 1,
  q3 2 (.getfield 21) 3 (vI 0) 1 0,
  q3 5 (.putfield 21) 3 (vI 0) 1 0,
  q0 8 (.aload_n 0) 1,
  q0 9 (.aload_n 1) 1,
  q3 10 (.getfield 24) 3 (vI 0) 1 1,
  q3 13 (.putfield 24) 3 (vI 0) 1 1,
  q0 16 (.aload_n 0) 1,
  q0 17 (.aload_n 1) 1,
  q3 18 (.getfield 27) 3 (vI 0) 1 2,
  q3 21 (.putfield 27) 3 (vI 0) 1 2,
  q0 24 (.aload_n 0) 1,
  q0 25 (.aload_n 1) 1,
  q3 26 (.getfield 30) 3 (vI 0) 1 3,
  q3 29 (.putfield 30) 3 (vI 0) 1 3,
  q0 32 (.aload_n 0) 1,
  q0 33 (.aload_n 1) 1,
  q3 34 (.getfield 33) 3 (vI 0) 1 4,
  q3 37 (.putfield 33) 3 (vI 0) 1 4,
  q0 40 (.aload_n 0) 1,
  q0 41 (.aload_n 1) 1,
  q3 42 (.getfield 9) 3 (vI 0) 1 5,
  q3 45 (.putfield 9) 3 (vI 0) 1 5,
  q0 48 (.aload_n 0) 1,
  q0 49 (.aload_n 1) 1,
  q3 50 (.getfield 15) 3 (vI 0) 1 6,
  q3 53 (.putfield 15) 3 (vI 0) 1 6,
  q0 56 (.aload_n 0) 1,
  q0 57 (.aload_n 1) 1,
  q3 58 (.getfield 36) 3 (vI 0) 1 7,
  q3 61 (.putfield 36) 3 (vI 0) 1 7,
  q0 64 (.aload_n 0) 1,
  q0 65 (.aload_n 1) 1,
  q3 66 (.getfield 18) 3 (vI 0) 1 8,
  q3 69 (.putfield 18) 3 (vI 0) 1 8,
  q0 72 .return_ 1]
def iX1_become : List IE := [
  q0 0 (.aload_n 0) 1,
  q0 1 (.aload_n 1) 1,
  q3 2 (.getfield 39) 3 (vI 0) 3 4,
  q3 5 (.putfield 21) 3 (vI 0) 1 0,
  q0 8 (.aload_n 0) 1,
  q0 9 (.aload_n 1) 1,
  q3 10 (.getfield 42) 3 (vI 2) 3 5,
  q1 13 (.iconst 0) 1 (vI 0),
  q0 14 .iaload 1,
  q3 15 (.putfield 24) 3 (vI 0) 1 1,
  q0 18 (.aload_n 0) 1,
  q0 19 (.aload_n 1) 1,
  q3 20 (.getfield 42) 3 (vI 2) 3 5,
  q1 23 (.iconst 1) 1 (vI 1),
  q0 24 .iaload 1,
  q3 25 (.putfield 27) 3 (vI 0) 1 2,
  q0 28 (.aload_n 0) 1,
  q0 29 (.aload_n 1) 1,
  q3 30 (.getfield 42) 3 (vI 2) 3 5,
  q1 33 (.iconst 2) 1 (vI 2),
  q0 34 .iaload 1,
  q3 35 (.putfield 30) 3 (vI 0) 1 3,
  q0 38 (.aload_n 0) 1,
  q0 39 (.aload_n 1) 1,
  q3 40 (.getfield 42) 3 (vI 2) 3 5,
  q1 43 (.iconst 3) 1 (vI 3),
  q0 44 .iaload 1,
  q3 45 (.putfield 33) 3 (vI 0) 1 4,
  q0 48 (.aload_n 0) 1,
  q0 49 (.aload_n 0) 1,
  q3 50 (.getfield 21) 3 (vI 0) 1 0,
  q1 53 (.iconst 1) 1 (vI 1),
  q2 54 (.if_icmp .ne 12) 3 66,
  q0 57 (.aload_n 1) 1,
  q3 58 (.getfield 42) 3 (vI 2) 3 5,
  q1 61 (.iconst 4) 1 (vI 4),
  q0 62 .iaload 1,
  q2 63 (.goto 4) 3 67,
  q1 66 (.iconst 1) 1 (vI 1),
  q3 67 (.putfield 9) 3 (vI 0) 1 5,
  q0 70 (.aload_n 0) 1,
  q0 71 (.aload_n 0) 1,
  q3 72 (.getfield 21) 3 (vI 0) 1 0,
  q1 75 (.iconst 1) 1 (vI 1),
  q2 76 (.if_icmp .ne 12) 3 88,
  q0 79 (.aload_n 1) 1,
  q3 80 (.getfield 42) 3 (vI 2) 3 5,
  q1 83 (.iconst 5) 1 (vI 5),
  q0 84 .iaload 1,
  q2 85 (.goto 4) 3 89,
  q1 88 (.iconst 1) 1 (vI 1),
  q3 89 (.putfield 15) 3 (vI 0) 1 6,
  q0 92 (.aload_n 0) 1,
  q1 93 (.iconst 0) 1 (vI 0),
  q3 94 (.putfield 36) 3 (vI 0) 1 7,
  q0 97 (.aload_n 0) 1,
  q1 98 (.iconst 1) 1 (vI 1),
  q3 99 (.putfield 18) 3 (vI 0) 1 8,
  q0 102 (.aload_n 0) 1,
  q3 103 (.getfield 30) 3 (vI 0) 1 3,
  q1 106 (.iconst 1) 1 (vI 1),
  q2 107 (.if_icmp .lt 49) 3 156,
  q0 110 (.aload_n 0) 1,
  q3 111 (.getfield 33) 3 (vI 0) 1 4,
  q1 114 (.iconst 1) 1 (vI 1),
  q2 115 (.if_icmp .lt 41) 3 156,
  q0 118 (.aload_n 0) 1,
  q3 119 (.getfield 9) 3 (vI 0) 1 5,
  q1 122 (.iconst 1) 1 (vI 1),
  q2 123 (.if_icmp .lt 33) 3 156,
  q0 126 (.aload_n 0) 1,
  q3 127 (.getfield 9) 3 (vI 0) 1 5,
  q1 130 (.bipush 20) 2 (vI 20),
  q2 132 (.if_icmp .gt 24) 3 156,
  q0 135 (.aload_n 0) 1,
  q3 136 (.getfield 15) 3 (vI 0) 1 6,
  q1 139 (.iconst 1) 1 (vI 1),
  q2 140 (.if_icmp .lt 16) 3 156,
  q0 143 (.aload_n 0) 1,
  q3 144 (.getfield 15) 3 (vI 0) 1 6,
  q1 147 (.bipush 20) 2 (vI 20),
  q2 149 (.if_icmp .gt 7) 3 156,
  q1 152 (.iconst 1) 1 (vI 1),
  q2 153 (.goto 4) 3 157,
  q1 156 (.iconst 0) 1 (vI 0),
  q0 157 .ireturn 1]
def iX1_limitAfter : List IE := [
  q0 0 (.aload_n 0) 1,
  q3 1 (.getfield 21) 3 (vI 0) 1 0,
  q1 4 (.bipush 6) 2 (vI 6),
  q2 6 (.if_icmp .ne 10) 3 16,
  q0 9 (.iload_n 1) 1,
  q1 10 (.bipush 20) 2 (vI 20),
  q0 12 .idiv 1,
  q2 13 (.goto 4) 3 17,
  q1 16 (.iconst 0) 1 (vI 0),
  q0 17 (.istore_n 2) 1,
  q0 18 (.iload_n 2) 1,
  q0 19 (.aload_n 0) 1,
  q3 20 (.getfield 27) 3 (vI 0) 1 2,
  q2 23 (.if_icmp .ge 12) 3 35,
  q0 26 (.aload_n 0) 1,
  q3 27 (.getfield 27) 3 (vI 0) 1 2,
  q0 30 (.iload_n 2) 1,
  q0 31 .isub 1,
  q2 32 (.goto 4) 3 36,
  q1 35 (.iconst 0) 1 (vI 0),
  q0 36 .ireturn 1]
def iX1_goesBack : List IE := [
  q0 0 (.aload_n 0) 1,
  q3 1 (.getfield 21) 3 (vI 0) 1 0,
  q1 4 (.iconst 1) 1 (vI 1),
  q2 5 (.if_icmp .eq 31) 3 36,
  q0 8 (.aload_n 0) 1,
  q3 9 (.getfield 21) 3 (vI 0) 1 0,
  q1 12 (.iconst 2) 1 (vI 2),
  q2 13 (.if_icmp .eq 23) 3 36,
  q0 16 (.aload_n 0) 1,
  q3 17 (.getfield 21) 3 (vI 0) 1 0,
  q1 20 (.iconst 3) 1 (vI 3),
  q2 21 (.if_icmp .eq 15) 3 36,
  q0 24 (.aload_n 0) 1,
  q3 25 (.getfield 21) 3 (vI 0) 1 0,
  q1 28 (.iconst 4) 1 (vI 4),
  q2 29 (.if_icmp .eq 7) 3 36,
  q1 32 (.iconst 1) 1 (vI 1),
  q2 33 (.goto 4) 3 37,
  q1 36 (.iconst 0) 1 (vI 0),
  q0 37 .ireturn 1]
def iX1_goesAheadOf : List IE := [
  q0 0 (.aload_n 0) 1,
  q3 1 (.getfield 33) 3 (vI 0) 1 4,
  q0 4 (.aload_n 1) 1,
  q3 5 (.getfield 30) 3 (vI 0) 1 3,
  q0 8 .imul 1,
  q0 9 (.aload_n 1) 1,
  q3 10 (.getfield 33) 3 (vI 0) 1 4,
  q0 13 (.aload_n 0) 1,
  q3 14 (.getfield 30) 3 (vI 0) 1 3,
  q0 17 .imul 1,
  q2 18 (.if_icmp .ge 7) 3 25,
  q1 21 (.iconst 1) 1 (vI 1),
  q2 22 (.goto 4) 3 26,
  q1 25 (.iconst 0) 1 (vI 0),
  q0 26 .ireturn 1]
def iX1_scaleTo : List IE := [
  q0 0 (.aload_n 0) 1,
  q3 1 (.getfield 18) 3 (vI 0) 1 8,
  q2 4 (.ifCond .le 18) 3 22,
  q0 7 (.aload_n 0) 1,
  q0 8 (.aload_n 0) 1,
  q3 9 (.getfield 36) 3 (vI 0) 1 7,
  q0 12 (.iload_n 1) 1,
  q0 13 .imul 1,
  q0 14 (.aload_n 0) 1,
  q3 15 (.getfield 18) 3 (vI 0) 1 8,
  q0 18 .idiv 1,
  q3 19 (.putfield 36) 3 (vI 0) 1 7,
  q0 22 (.aload_n 0) 1,
  q0 23 (.iload_n 1) 1,
  q3 24 (.putfield 18) 3 (vI 0) 1 8,
  q0 27 .return_ 1]
def iX1_partsToClick : List IE := [
  q0 0 (.aload_n 0) 1,
  q3 1 (.getfield 24) 3 (vI 0) 1 1,
  q0 4 (.aload_n 0) 1,
  q3 5 (.getfield 18) 3 (vI 0) 1 8,
  q0 8 .imul 1,
  q0 9 (.aload_n 0) 1,
  q3 10 (.getfield 36) 3 (vI 0) 1 7,
  q0 13 .isub 1,
  q1 14 (.iconst 1) 1 (vI 1),
  q0 15 .isub 1,
  q1 16 (.bipush 100) 2 (vI 100),
  q0 18 (.aload_n 0) 1,
  q3 19 (.getfield 18) 3 (vI 0) 1 8,
  q0 22 .imul 1,
  q5 23 (.invokestatic 46) 3 5 2 yX4_wrap,
  q0 26 .ireturn 1]
def iX1_move : List IE := [
  q0 0 (.aload_n 0) 1,
  q0 1 (.aload_n 0) 1,
  q3 2 (.getfield 36) 3 (vI 0) 1 7,
  q0 5 (.iload_n 1) 1,
  q0 6 .iadd 1,
  q1 7 (.bipush 100) 2 (vI 100),
  q0 9 (.aload_n 0) 1,
  q3 10 (.getfield 18) 3 (vI 0) 1 8,
  q0 13 .imul 1,
  q5 14 (.invokestatic 46) 3 5 2 yX4_wrap,
  q3 17 (.putfield 36) 3 (vI 0) 1 7,
  q0 20 .return_ 1]
def iX2_init : List IE := [
  q0 0 (.aload_n 0) 1,
  q5 1 (.invokespecial 3) 3 6 0 yz,
  q0 4 (.aload_n 0) 1,
  q0 5 (.aload_n 1) 1,
  q3 6 (.putfield 9) 3 (vI 2) 2 0,
  q0 9 (.aload_n 0) 1,
  q3 10 (.new 15) 3 none 1 9,
  q0 13 .dup 1,
  q5 14 (.invokespecial 17) 3 0 1 yX1_init,
  q3 17 (.putfield 18) 3 (vI 2) 2 1,
  q0 20 .return_ 1]
def iX2_begin : List IE := [
  q0 0 (.aload_n 0) 1,
  q3 1 (.getfield 18) 3 (vI 2) 2 1,
  q0 4 (.aload_n 1) 1,
  q5 5 (.invokevirtual 22) 3 1 2 yX1_copyFrom,
  q0 8 (.aload_n 0) 1,
  q0 9 (.aload_n 0) 1,
  q3 10 (.getfield 9) 3 (vI 2) 2 0,
  q0 13 (.aload_n 1) 1,
  q5 14 (.invokevirtual 26) 3 0 2 yX0_upOf,
  q3 17 (.putfield 32) 3 (vI 0) 2 2,
  q0 20 (.aload_n 0) 1,
  q0 21 (.aload_n 0) 1,
  q3 22 (.getfield 9) 3 (vI 2) 2 0,
  q3 25 (.getfield 36) 3 (vI 0) 0 7,
  q3 28 (.putfield 39) 3 (vI 0) 2 3,
  q0 31 (.aload_n 0) 1,
  q1 32 (.iconst 0) 1 (vI 0),
  q3 33 (.putfield 42) 3 (vI 0) 2 4,
  q0 36 (.aload_n 0) 1,
  q1 37 (.iconst 0) 1 (vI 0),
  q3 38 (.putfield 45) 3 (vI 0) 2 5,
  q0 41 (.aload_n 0) 1,
  q0 42 (.iload_n 2) 1,
  q3 43 (.putfield 48) 3 (vI 0) 2 6,
  q0 46 (.aload_n 0) 1,
  q1 47 (.bipush (-9)) 2 (vI (-9)),
  q3 49 (.putfield 51) 3 (vI 0) 2 7,
  q0 52 .return_ 1]
def iX2_passRide : List IE := [
  q0 0 (.aload_n 0) 1,
  q0 1 (.aload_n 1) 1,
  q0 2 (.iload_n 2) 1,
  q5 3 (.invokevirtual 54) 3 2 3 yX2_begin,
  q1 6 (.iconst 0) 1 (vI 0),
  q0 7 (.istore_n 3) 1,
  q0 8 (.iload_n 3) 1,
  q0 9 (.aload_n 0) 1,
  q3 10 (.getfield 9) 3 (vI 2) 2 0,
  q3 13 (.getfield 58) 3 (vI 0) 0 12,
  q2 16 (.if_icmp .ge 40) 3 56,
  q0 19 (.aload_n 0) 1,
  q0 20 (.aload_n 0) 1,
  q3 21 (.getfield 9) 3 (vI 2) 2 0,
  q3 24 (.getfield 61) 3 (vI 2) 0 9,
  q0 27 (.iload_n 3) 1,
  q0 28 .iaload 1,
  q0 29 (.aload_n 0) 1,
  q3 30 (.getfield 9) 3 (vI 2) 2 0,
  q3 33 (.getfield 65) 3 (vI 2) 0 10,
  q0 36 (.iload_n 3) 1,
  q0 37 .iaload 1,
  q0 38 (.aload_n 0) 1,
  q3 39 (.getfield 9) 3 (vI 2) 2 0,
  q3 42 (.getfield 68) 3 (vI 2) 0 11,
  q0 45 (.iload_n 3) 1,
  q0 46 .iaload 1,
  q5 47 (.invokevirtual 71) 3 2 4 yX2_passStage,
  q1 50 (.iinc 3 1) 3 (vI 1),
  q2 53 (.goto (-45)) 3 8,
  q0 56 (.aload_n 0) 1,
  q3 57 (.getfield 45) 3 (vI 0) 2 5,
  q0 60 .ireturn 1]
def iX2_passStage : List IE := [
  q0 0 (.aload_n 0) 1,
  q0 1 (.iload_n 2) 1,
  q5 2 (.invokevirtual 75) 3 2 2 yX2_shiftTo,
  q0 5 (.aload_n 0) 1,
  q3 6 (.getfield 18) 3 (vI 2) 2 1,
  q3 9 (.getfield 79) 3 (vI 0) 1 0,
  q1 12 (.iconst 4) 1 (vI 4),
  q2 13 (.if_icmp .ne 17) 3 30,
  q0 16 (.aload_n 0) 1,
  q0 17 (.iload_n 1) 1,
  q0 18 (.iload_n 3) 1,
  q1 19 (.bipush 25) 2 (vI 25),
  q1 21 (.bipush 50) 2 (vI 50),
  q1 23 (.iconst 1) 1 (vI 1),
  q5 24 (.invokevirtual 82) 3 2 6 yX2_listen,
  q2 27 (.goto 35) 3 62,
  q0 30 (.iload_n 1) 1,
  q1 31 (.iconst 4) 1 (vI 4),
  q2 32 (.if_icmp .ge 30) 3 62,
  q0 35 (.aload_n 0) 1,
  q0 36 (.iload_n 1) 1,
  q0 37 (.iload_n 3) 1,
  q0 38 (.aload_n 0) 1,
  q3 39 (.getfield 18) 3 (vI 2) 2 1,
  q5 42 (.invokevirtual 86) 3 1 1 yX1_partsToClick,
  q1 45 (.bipush 100) 2 (vI 100),
  q0 47 (.aload_n 0) 1,
  q3 48 (.getfield 18) 3 (vI 2) 2 1,
  q3 51 (.getfield 90) 3 (vI 0) 1 8,
  q0 54 .imul 1,
  q0 55 (.aload_n 0) 1,
  q3 56 (.getfield 32) 3 (vI 0) 2 2,
  q5 59 (.invokevirtual 82) 3 2 6 yX2_listen,
  q0 62 (.aload_n 0) 1,
  q3 63 (.getfield 18) 3 (vI 2) 2 1,
  q0 66 (.aload_n 0) 1,
  q0 67 (.iload_n 1) 1,
  q5 68 (.invokevirtual 93) 3 2 2 yX2_partsInStep,
  q1 71 (.bipush 100) 2 (vI 100),
  q0 73 .imul 1,
  q0 74 (.iload_n 3) 1,
  q0 75 .imul 1,
  q5 76 (.invokevirtual 97) 3 1 2 yX1_move,
  q0 79 (.aload_n 0) 1,
  q0 80 .dup 1,
  q3 81 (.getfield 39) 3 (vI 0) 2 3,
  q0 84 (.iload_n 3) 1,
  q0 85 .iadd 1,
  q3 86 (.putfield 39) 3 (vI 0) 2 3,
  q0 89 (.aload_n 0) 1,
  q0 90 .dup 1,
  q3 91 (.getfield 42) 3 (vI 0) 2 4,
  q0 94 (.iload_n 3) 1,
  q1 95 (.bipush 100) 2 (vI 100),
  q0 97 .imul 1,
  q0 98 .iadd 1,
  q3 99 (.putfield 42) 3 (vI 0) 2 4,
  q0 102 .return_ 1]
def iX2_shiftTo : List IE := [
  q0 0 (.aload_n 0) 1,
  q3 1 (.getfield 18) 3 (vI 2) 2 1,
  q0 4 (.aload_n 0) 1,
  q3 5 (.getfield 9) 3 (vI 2) 2 0,
  q0 8 (.aload_n 0) 1,
  q3 9 (.getfield 18) 3 (vI 2) 2 1,
  q0 12 (.iload_n 1) 1,
  q5 13 (.invokevirtual 100) 3 0 3 yX0_downOf,
  q5 16 (.invokevirtual 104) 3 1 2 yX1_scaleTo,
  q0 19 .return_ 1]
def iX2_comesByIn : List IE := [
  q0 0 (.aload_n 0) 1,
  q3 1 (.getfield 18) 3 (vI 2) 2 1,
  q5 4 (.invokevirtual 86) 3 1 1 yX1_partsToClick,
  q0 7 (.iload_n 1) 1,
  q0 8 (.aload_n 0) 1,
  q3 9 (.getfield 32) 3 (vI 0) 2 2,
  q0 12 .imul 1,
  q0 13 .isub 1,
  q1 14 (.bipush 100) 2 (vI 100),
  q0 16 (.aload_n 0) 1,
  q3 17 (.getfield 18) 3 (vI 2) 2 1,
  q3 20 (.getfield 90) 3 (vI 0) 1 8,
  q0 23 .imul 1,
  q5 24 (.invokestatic 107) 3 5 2 yX4_wrap,
  q0 27 (.aload_n 0) 1,
  q3 28 (.getfield 32) 3 (vI 0) 2 2,
  q2 31 (.if_icmp .ge 7) 3 38,
  q1 34 (.iconst 1) 1 (vI 1),
  q2 35 (.goto 4) 3 39,
  q1 38 (.iconst 0) 1 (vI 0),
  q0 39 .ireturn 1]
def iX2_partsInStep : List IE := [
  q0 0 (.iload_n 1) 1,
  q1 1 (.iconst 4) 1 (vI 4),
  q2 2 (.if_icmp .ge 8) 3 10,
  q0 5 (.aload_n 0) 1,
  q3 6 (.getfield 32) 3 (vI 0) 2 2,
  q0 9 .ireturn 1,
  q0 10 (.iload_n 1) 1,
  q1 11 (.iconst 4) 1 (vI 4),
  q2 12 (.if_icmp .ne 21) 3 33,
  q0 15 (.aload_n 0) 1,
  q3 16 (.getfield 18) 3 (vI 2) 2 1,
  q5 19 (.invokevirtual 111) 3 1 1 yX1_goesBack,
  q2 22 (.ifCond .eq 11) 3 33,
  q0 25 (.aload_n 0) 1,
  q3 26 (.getfield 32) 3 (vI 0) 2 2,
  q0 29 .ineg 1,
  q2 30 (.goto 4) 3 34,
  q1 33 (.iconst 0) 1 (vI 0),
  q0 34 .ireturn 1]
def iX2_listen : List IE := [
  q0 0 (.iload 4) 2,
  q1 2 (.iconst 1) 1 (vI 1),
  q2 3 (.if_icmp .lt 9) 3 12,
  q0 6 (.iload 5) 2,
  q1 8 (.iconst 1) 1 (vI 1),
  q2 9 (.if_icmp .ge 4) 3 13,
  q0 12 .return_ 1,
  q0 13 (.iload_n 2) 1,
  q1 14 (.bipush 100) 2 (vI 100),
  q0 16 .imul 1,
  q0 17 (.iload 5) 2,
  q0 19 .imul 1,
  q0 20 (.istore 6) 2,
  q0 22 (.iload_n 3) 1,
  q0 23 (.istore 7) 2,
  q0 25 (.iload 7) 2,
  q0 27 (.iload 6) 2,
  q2 29 (.if_icmp .ge 109) 3 138,
  q0 32 (.iload 7) 2,
  q0 34 (.iload 5) 2,
  q0 36 .idiv 1,
  q0 37 (.istore 8) 2,
  q0 39 (.aload_n 0) 1,
  q3 40 (.getfield 39) 3 (vI 0) 2 3,
  q0 43 (.iload 8) 2,
  q1 45 (.bipush 100) 2 (vI 100),
  q0 47 .idiv 1,
  q0 48 .iadd 1,
  q0 49 (.istore 9) 2,
  q0 51 (.aload_n 0) 1,
  q3 52 (.getfield 9) 3 (vI 2) 2 0,
  q0 55 (.aload_n 0) 1,
  q3 56 (.getfield 18) 3 (vI 2) 2 1,
  q0 59 (.iload 9) 2,
  q5 61 (.invokevirtual 115) 3 0 3 yX0_isSilent,
  q0 64 (.istore 10) 2,
  q0 66 (.iload 10) 2,
  q2 68 (.ifCond .ne 60) 3 128,
  q0 71 (.aload_n 0) 1,
  q3 72 (.getfield 9) 3 (vI 2) 2 0,
  q0 75 (.iload_n 1) 1,
  q0 76 (.iload 8) 2,
  q1 78 (.bipush 100) 2 (vI 100),
  q0 80 .irem 1,
  q5 81 (.invokevirtual 119) 3 0 3 yX0_loadIn,
  q0 84 (.aload_n 0) 1,
  q3 85 (.getfield 18) 3 (vI 2) 2 1,
  q0 88 (.iload 9) 2,
  q5 90 (.invokevirtual 122) 3 1 2 yX1_limitAfter,
  q2 93 (.if_icmp .lt 35) 3 128,
  q0 96 (.aload_n 0) 1,
  q3 97 (.getfield 45) 3 (vI 0) 2 5,
  q0 100 (.aload_n 0) 1,
  q3 101 (.getfield 48) 3 (vI 0) 2 6,
  q2 104 (.if_icmp .ne 14) 3 118,
  q0 107 (.aload_n 0) 1,
  q0 108 (.aload_n 0) 1,
  q3 109 (.getfield 42) 3 (vI 0) 2 4,
  q0 112 (.iload 8) 2,
  q0 114 .iadd 1,
  q3 115 (.putfield 51) 3 (vI 0) 2 7,
  q0 118 (.aload_n 0) 1,
  q0 119 .dup 1,
  q3 120 (.getfield 45) 3 (vI 0) 2 5,
  q1 123 (.iconst 1) 1 (vI 1),
  q0 124 .iadd 1,
  q3 125 (.putfield 45) 3 (vI 0) 2 5,
  q0 128 (.iload 7) 2,
  q0 130 (.iload 4) 2,
  q0 132 .iadd 1,
  q0 133 (.istore 7) 2,
  q2 135 (.goto (-110)) 3 25,
  q0 138 .return_ 1]
def iX3_init : List IE := [
  q0 0 (.aload_n 0) 1,
  q5 1 (.invokespecial 3) 3 6 0 yz,
  q0 4 (.aload_n 0) 1,
  q1 5 (.bipush 64) 2 (vI 64),
  q0 7 (.newarray .int) 2,
  q3 9 (.putfield 9) 3 (vI 2) 3 0,
  q0 12 (.aload_n 0) 1,
  q1 13 (.iconst 0) 1 (vI 0),
  q3 14 (.putfield 15) 3 (vI 0) 3 1,
  q0 17 (.aload_n 0) 1,
  q1 18 (.iconst 0) 1 (vI 0),
  q3 19 (.putfield 19) 3 (vI 0) 3 2,
  q0 22 (.aload_n 0) 1,
  q1 23 (.iconst 0) 1 (vI 0),
  q3 24 (.putfield 22) 3 (vI 0) 3 3,
  q0 27 (.aload_n 0) 1,
  q1 28 (.iconst 0) 1 (vI 0),
  q3 29 (.putfield 25) 3 (vI 0) 3 4,
  q0 32 (.aload_n 0) 1,
  q1 33 (.bipush 6) 2 (vI 6),
  q0 35 (.newarray .int) 2,
  q3 37 (.putfield 28) 3 (vI 2) 3 5,
  q0 40 .return_ 1]
def iX3_add : List IE := [
  q0 0 (.aload_n 0) 1,
  q3 1 (.getfield 15) 3 (vI 0) 3 1,
  q0 4 (.aload_n 0) 1,
  q3 5 (.getfield 9) 3 (vI 2) 3 0,
  q0 8 .arraylength 1,
  q2 9 (.if_icmp .ge 23) 3 32,
  q0 12 (.aload_n 0) 1,
  q3 13 (.getfield 9) 3 (vI 2) 3 0,
  q0 16 (.aload_n 0) 1,
  q3 17 (.getfield 15) 3 (vI 0) 3 1,
  q0 20 (.iload_n 1) 1,
  q0 21 .iastore 1,
  q0 22 (.aload_n 0) 1,
  q0 23 .dup 1,
  q3 24 (.getfield 15) 3 (vI 0) 3 1,
  q1 27 (.iconst 1) 1 (vI 1),
  q0 28 .iadd 1,
  q3 29 (.putfield 15) 3 (vI 0) 3 1,
  q0 32 .return_ 1]
def iX3_checkForm : List IE := [
  q0 0 (.aload_n 0) 1,
  q1 1 (.iconst 0) 1 (vI 0),
  q3 2 (.putfield 19) 3 (vI 0) 3 2,
  q1 5 (.iconst 1) 1 (vI 1),
  q0 6 (.istore_n 1) 1,
  q0 7 (.iload_n 1) 1,
  q0 8 (.aload_n 0) 1,
  q3 9 (.getfield 15) 3 (vI 0) 3 1,
  q2 12 (.if_icmp .gt 38) 3 50,
  q0 15 (.aload_n 0) 1,
  q5 16 (.invokevirtual 31) 3 3 1 yX3_readStatement,
  q2 19 (.ifCond .ne 12) 3 31,
  q1 22 (.sipush (-1000)) 3 (vI (-1000)),
  q0 25 (.aload_n 0) 1,
  q3 26 (.getfield 19) 3 (vI 0) 3 2,
  q0 29 .isub 1,
  q0 30 .ireturn 1,
  q0 31 (.aload_n 0) 1,
  q3 32 (.getfield 19) 3 (vI 0) 3 2,
  q0 35 (.aload_n 0) 1,
  q3 36 (.getfield 15) 3 (vI 0) 3 1,
  q2 39 (.if_icmp .lt 5) 3 44,
  q0 42 (.iload_n 1) 1,
  q0 43 .ireturn 1,
  q1 44 (.iinc 1 1) 3 (vI 1),
  q2 47 (.goto (-40)) 3 7,
  q1 50 (.sipush (-1000)) 3 (vI (-1000)),
  q0 53 (.aload_n 0) 1,
  q3 54 (.getfield 19) 3 (vI 0) 3 2,
  q0 57 .isub 1,
  q0 58 .ireturn 1]
def iX3_readStatement : List IE := [
  q0 0 (.aload_n 0) 1,
  q0 1 (.aload_n 0) 1,
  q5 2 (.invokevirtual 35) 3 3 1 yX3_peek,
  q3 5 (.putfield 22) 3 (vI 0) 3 3,
  q0 8 (.aload_n 0) 1,
  q3 9 (.getfield 22) 3 (vI 0) 3 3,
  q1 12 (.bipush 113) 2 (vI 113),
  q2 14 (.if_icmp .ne 35) 3 49,
  q0 17 (.aload_n 0) 1,
  q0 18 .dup 1,
  q3 19 (.getfield 19) 3 (vI 0) 3 2,
  q1 22 (.iconst 1) 1 (vI 1),
  q0 23 .iadd 1,
  q3 24 (.putfield 19) 3 (vI 0) 3 2,
  q0 27 (.aload_n 0) 1,
  q5 28 (.invokevirtual 39) 3 3 1 yX3_readFault,
  q2 31 (.ifCond .eq 16) 3 47,
  q0 34 (.aload_n 0) 1,
  q1 35 (.bipush 59) 2 (vI 59),
  q5 37 (.invokevirtual 42) 3 3 2 yX3_skip,
  q2 40 (.ifCond .eq 7) 3 47,
  q1 43 (.iconst 1) 1 (vI 1),
  q2 44 (.goto 4) 3 48,
  q1 47 (.iconst 0) 1 (vI 0),
  q0 48 .ireturn 1,
  q0 49 (.aload_n 0) 1,
  q3 50 (.getfield 22) 3 (vI 0) 3 3,
  q1 53 (.bipush 102) 2 (vI 102),
  q2 55 (.if_icmp .eq 23) 3 78,
  q0 58 (.aload_n 0) 1,
  q3 59 (.getfield 22) 3 (vI 0) 3 3,
  q1 62 (.bipush 107) 2 (vI 107),
  q2 64 (.if_icmp .eq 14) 3 78,
  q0 67 (.aload_n 0) 1,
  q3 68 (.getfield 22) 3 (vI 0) 3 3,
  q1 71 (.bipush 114) 2 (vI 114),
  q2 73 (.if_icmp .eq 5) 3 78,
  q1 76 (.iconst 0) 1 (vI 0),
  q0 77 .ireturn 1,
  q0 78 (.aload_n 0) 1,
  q0 79 .dup 1,
  q3 80 (.getfield 19) 3 (vI 0) 3 2,
  q1 83 (.iconst 1) 1 (vI 1),
  q0 84 .iadd 1,
  q3 85 (.putfield 19) 3 (vI 0) 3 2,
  q0 88 (.aload_n 0) 1,
  q1 89 (.iconst 0) 1 (vI 0),
  q1 90 (.iconst 1) 1 (vI 1),
  q1 91 (.iconst 3) 1 (vI 3),
  q5 92 (.invokevirtual 46) 3 3 4 yX3_readNumber,
  q2 95 (.ifCond .eq 16) 3 111,
  q0 98 (.aload_n 0) 1,
  q1 99 (.bipush 59) 2 (vI 59),
  q5 101 (.invokevirtual 42) 3 3 2 yX3_skip,
  q2 104 (.ifCond .eq 7) 3 111,
  q1 107 (.iconst 1) 1 (vI 1),
  q2 108 (.goto 4) 3 112,
  q1 111 (.iconst 0) 1 (vI 0),
  q0 112 .ireturn 1]
def iX3_readFault : List IE := [
  q0 0 (.aload_n 0) 1,
  q0 1 (.aload_n 0) 1,
  q5 2 (.invokevirtual 35) 3 3 1 yX3_peek,
  q5 5 (.invokestatic 50) 3 0 1 yX3_kindOf,
  q3 8 (.putfield 25) 3 (vI 0) 3 4,
  q0 11 (.aload_n 0) 1,
  q3 12 (.getfield 25) 3 (vI 0) 3 4,
  q2 15 (.ifCond .ge 5) 3 20,
  q1 18 (.iconst 0) 1 (vI 0),
  q0 19 .ireturn 1,
  q0 20 (.aload_n 0) 1,
  q0 21 .dup 1,
  q3 22 (.getfield 19) 3 (vI 0) 3 2,
  q1 25 (.iconst 1) 1 (vI 1),
  q0 26 .iadd 1,
  q3 27 (.putfield 19) 3 (vI 0) 3 2,
  q0 30 (.aload_n 0) 1,
  q1 31 (.iconst 0) 1 (vI 0),
  q1 32 (.iconst 2) 1 (vI 2),
  q1 33 (.iconst 2) 1 (vI 2),
  q5 34 (.invokevirtual 46) 3 3 4 yX3_readNumber,
  q2 37 (.ifCond .eq 79) 3 116,
  q0 40 (.aload_n 0) 1,
  q1 41 (.bipush 44) 2 (vI 44),
  q5 43 (.invokevirtual 42) 3 3 2 yX3_skip,
  q2 46 (.ifCond .eq 70) 3 116,
  q0 49 (.aload_n 0) 1,
  q1 50 (.iconst 1) 1 (vI 1),
  q1 51 (.iconst 1) 1 (vI 1),
  q1 52 (.iconst 1) 1 (vI 1),
  q5 53 (.invokevirtual 46) 3 3 4 yX3_readNumber,
  q2 56 (.ifCond .eq 60) 3 116,
  q0 59 (.aload_n 0) 1,
  q1 60 (.bipush 44) 2 (vI 44),
  q5 62 (.invokevirtual 42) 3 3 2 yX3_skip,
  q2 65 (.ifCond .eq 51) 3 116,
  q0 68 (.aload_n 0) 1,
  q1 69 (.iconst 2) 1 (vI 2),
  q1 70 (.iconst 1) 1 (vI 1),
  q1 71 (.iconst 2) 1 (vI 2),
  q5 72 (.invokevirtual 46) 3 3 4 yX3_readNumber,
  q2 75 (.ifCond .eq 41) 3 116,
  q0 78 (.aload_n 0) 1,
  q1 79 (.bipush 44) 2 (vI 44),
  q5 81 (.invokevirtual 42) 3 3 2 yX3_skip,
  q2 84 (.ifCond .eq 32) 3 116,
  q0 87 (.aload_n 0) 1,
  q1 88 (.iconst 3) 1 (vI 3),
  q1 89 (.iconst 1) 1 (vI 1),
  q1 90 (.iconst 2) 1 (vI 2),
  q5 91 (.invokevirtual 46) 3 3 4 yX3_readNumber,
  q2 94 (.ifCond .eq 22) 3 116,
  q0 97 (.aload_n 0) 1,
  q3 98 (.getfield 25) 3 (vI 0) 3 4,
  q1 101 (.iconst 1) 1 (vI 1),
  q2 102 (.if_icmp .ne 10) 3 112,
  q0 105 (.aload_n 0) 1,
  q5 106 (.invokevirtual 54) 3 3 1 yX3_readBall,
  q2 109 (.ifCond .eq 7) 3 116,
  q1 112 (.iconst 1) 1 (vI 1),
  q2 113 (.goto 4) 3 117,
  q1 116 (.iconst 0) 1 (vI 0),
  q0 117 .ireturn 1]
def iX3_readBall : List IE := [
  q0 0 (.aload_n 0) 1,
  q1 1 (.bipush 44) 2 (vI 44),
  q5 3 (.invokevirtual 42) 3 3 2 yX3_skip,
  q2 6 (.ifCond .eq 36) 3 42,
  q0 9 (.aload_n 0) 1,
  q1 10 (.iconst 4) 1 (vI 4),
  q1 11 (.iconst 1) 1 (vI 1),
  q1 12 (.iconst 2) 1 (vI 2),
  q5 13 (.invokevirtual 46) 3 3 4 yX3_readNumber,
  q2 16 (.ifCond .eq 26) 3 42,
  q0 19 (.aload_n 0) 1,
  q1 20 (.bipush 47) 2 (vI 47),
  q5 22 (.invokevirtual 42) 3 3 2 yX3_skip,
  q2 25 (.ifCond .eq 17) 3 42,
  q0 28 (.aload_n 0) 1,
  q1 29 (.iconst 5) 1 (vI 5),
  q1 30 (.iconst 1) 1 (vI 1),
  q1 31 (.iconst 2) 1 (vI 2),
  q5 32 (.invokevirtual 46) 3 3 4 yX3_readNumber,
  q2 35 (.ifCond .eq 7) 3 42,
  q1 38 (.iconst 1) 1 (vI 1),
  q2 39 (.goto 4) 3 43,
  q1 42 (.iconst 0) 1 (vI 0),
  q0 43 .ireturn 1]
def iX3_readNumber : List IE := [
  q1 0 (.iconst 0) 1 (vI 0),
  q0 1 (.istore 4) 2,
  q1 3 (.iconst 0) 1 (vI 0),
  q0 4 (.istore 5) 2,
  q0 6 (.iload 5) 2,
  q0 8 (.iload_n 3) 1,
  q2 9 (.if_icmp .ge 52) 3 61,
  q0 12 (.aload_n 0) 1,
  q5 13 (.invokevirtual 35) 3 3 1 yX3_peek,
  q1 16 (.bipush 48) 2 (vI 48),
  q2 18 (.if_icmp .lt 43) 3 61,
  q0 21 (.aload_n 0) 1,
  q5 22 (.invokevirtual 35) 3 3 1 yX3_peek,
  q1 25 (.bipush 57) 2 (vI 57),
  q2 27 (.if_icmp .gt 34) 3 61,
  q0 30 (.iload 4) 2,
  q1 32 (.bipush 10) 2 (vI 10),
  q0 34 .imul 1,
  q0 35 (.aload_n 0) 1,
  q5 36 (.invokevirtual 35) 3 3 1 yX3_peek,
  q0 39 .iadd 1,
  q1 40 (.bipush 48) 2 (vI 48),
  q0 42 .isub 1,
  q0 43 (.istore 4) 2,
  q0 45 (.aload_n 0) 1,
  q0 46 .dup 1,
  q3 47 (.getfield 19) 3 (vI 0) 3 2,
  q1 50 (.iconst 1) 1 (vI 1),
  q0 51 .iadd 1,
  q3 52 (.putfield 19) 3 (vI 0) 3 2,
  q1 55 (.iinc 5 1) 3 (vI 1),
  q2 58 (.goto (-52)) 3 6,
  q0 61 (.aload_n 0) 1,
  q3 62 (.getfield 28) 3 (vI 2) 3 5,
  q0 65 (.iload_n 1) 1,
  q0 66 (.iload 4) 2,
  q0 68 .iastore 1,
  q0 69 (.iload 5) 2,
  q0 71 (.iload_n 2) 1,
  q2 72 (.if_icmp .lt 7) 3 79,
  q1 75 (.iconst 1) 1 (vI 1),
  q2 76 (.goto 4) 3 80,
  q1 79 (.iconst 0) 1 (vI 0),
  q0 80 .ireturn 1]
def iX3_skip : List IE := [
  q0 0 (.aload_n 0) 1,
  q5 1 (.invokevirtual 35) 3 3 1 yX3_peek,
  q0 4 (.iload_n 1) 1,
  q2 5 (.if_icmp .eq 5) 3 10,
  q1 8 (.iconst 0) 1 (vI 0),
  q0 9 .ireturn 1,
  q0 10 (.aload_n 0) 1,
  q0 11 .dup 1,
  q3 12 (.getfield 19) 3 (vI 0) 3 2,
  q1 15 (.iconst 1) 1 (vI 1),
  q0 16 .iadd 1,
  q3 17 (.putfield 19) 3 (vI 0) 3 2,
  q1 20 (.iconst 1) 1 (vI 1),
  q0 21 .ireturn 1]
def iX3_peek : List IE := [
  q0 0 (.aload_n 0) 1,
  q3 1 (.getfield 19) 3 (vI 0) 3 2,
  q2 4 (.ifCond .lt 38) 3 42,
  q0 7 (.aload_n 0) 1,
  q3 8 (.getfield 19) 3 (vI 0) 3 2,
  q0 11 (.aload_n 0) 1,
  q3 12 (.getfield 15) 3 (vI 0) 3 1,
  q2 15 (.if_icmp .ge 27) 3 42,
  q0 18 (.aload_n 0) 1,
  q3 19 (.getfield 15) 3 (vI 0) 3 1,
  q0 22 (.aload_n 0) 1,
  q3 23 (.getfield 9) 3 (vI 2) 3 0,
  q0 26 .arraylength 1,
  q2 27 (.if_icmp .gt 15) 3 42,
  q0 30 (.aload_n 0) 1,
  q3 31 (.getfield 9) 3 (vI 2) 3 0,
  q0 34 (.aload_n 0) 1,
  q3 35 (.getfield 19) 3 (vI 0) 3 2,
  q0 38 .iaload 1,
  q2 39 (.goto 4) 3 43,
  q1 42 (.iconst (-1)) 1 (vI (-1)),
  q0 43 .ireturn 1]
def iX3_kindOf : List IE := [
  q0 0 (.iload_n 0) 1,
  q4 1 (.tableswitch 109 98 116 #[93, 103, 101, 109, 109, 109, 109, 109, 109, 109, 95, 109, 109, 99, 91, 109, 109, 106, 97]) 91 110 [(98, 94), (99, 104), (100, 102), (101, 110), (102, 110), (103, 110), (104, 110), (105, 110), (106, 110), (107, 110), (108, 96), (109, 110), (110, 110), (111, 100), (112, 92), (113, 110), (114, 110), (115, 107), (116, 98)],
  q1 92 (.iconst 0) 1 (vI 0),
  q0 93 .ireturn 1,
  q1 94 (.iconst 1) 1 (vI 1),
  q0 95 .ireturn 1,
  q1 96 (.iconst 2) 1 (vI 2),
  q0 97 .ireturn 1,
  q1 98 (.iconst 3) 1 (vI 3),
  q0 99 .ireturn 1,
  q1 100 (.iconst 4) 1 (vI 4),
  q0 101 .ireturn 1,
  q1 102 (.iconst 5) 1 (vI 5),
  q0 103 .ireturn 1,
  q1 104 (.bipush 6) 2 (vI 6),
  q0 106 .ireturn 1,
  q1 107 (.bipush 7) 2 (vI 7),
  q0 109 .ireturn 1,
  q1 110 (.iconst (-1)) 1 (vI (-1)),
  q0 111 .ireturn 1]
def iX4_init : List IE := [
  q0 0 (.aload_n 0) 1,
  q5 1 (.invokespecial 1) 3 6 0 yz,
  q0 4 (.aload_n 0) 1,
  q3 5 (.new 7) 3 none 3 6,
  q0 8 .dup 1,
  q5 9 (.invokespecial 9) 3 0 1 yX3_init,
  q3 12 (.putfield 10) 3 (vI 2) 4 0,
  q0 15 (.aload_n 0) 1,
  q3 16 (.new 16) 3 none 0 13,
  q0 19 .dup 1,
  q5 20 (.invokespecial 18) 3 0 1 yX0_init,
  q3 23 (.putfield 19) 3 (vI 2) 4 1,
  q0 26 (.aload_n 0) 1,
  q3 27 (.new 16) 3 none 0 13,
  q0 30 .dup 1,
  q5 31 (.invokespecial 18) 3 0 1 yX0_init,
  q3 34 (.putfield 23) 3 (vI 2) 4 2,
  q0 37 (.aload_n 0) 1,
  q3 38 (.new 16) 3 none 0 13,
  q0 41 .dup 1,
  q5 42 (.invokespecial 18) 3 0 1 yX0_init,
  q3 45 (.putfield 26) 3 (vI 2) 4 3,
  q0 48 (.aload_n 0) 1,
  q1 49 (.iconst 0) 1 (vI 0),
  q3 50 (.putfield 29) 3 (vI 1) 4 4,
  q0 53 (.aload_n 0) 1,
  q3 54 (.new 33) 3 none 2 8,
  q0 57 .dup 1,
  q0 58 (.aload_n 0) 1,
  q3 59 (.getfield 19) 3 (vI 2) 4 1,
  q5 62 (.invokespecial 35) 3 0 2 yX2_init,
  q3 65 (.putfield 38) 3 (vI 2) 4 5,
  q0 68 (.aload_n 0) 1,
  q3 69 (.new 33) 3 none 2 8,
  q0 72 .dup 1,
  q0 73 (.aload_n 0) 1,
  q3 74 (.getfield 19) 3 (vI 2) 4 1,
  q5 77 (.invokespecial 35) 3 0 2 yX2_init,
  q3 80 (.putfield 42) 3 (vI 2) 4 6,
  q0 83 (.aload_n 0) 1,
  q1 84 (.bipush 8) 2 (vI 8),
  q0 86 (.newarray .int) 2,
  q3 88 (.putfield 45) 3 (vI 2) 4 7,
  q0 91 (.aload_n 0) 1,
  q1 92 (.bipush 8) 2 (vI 8),
  q0 94 (.newarray .int) 2,
  q3 96 (.putfield 49) 3 (vI 2) 4 8,
  q0 99 (.aload_n 0) 1,
  q1 100 (.bipush 8) 2 (vI 8),
  q0 102 (.newarray .int) 2,
  q3 104 (.putfield 52) 3 (vI 2) 4 9,
  q0 107 (.aload_n 0) 1,
  q1 108 (.iconst 0) 1 (vI 0),
  q3 109 (.putfield 55) 3 (vI 0) 4 10,
  q0 112 (.aload_n 0) 1,
  q1 113 (.bipush 7) 2 (vI 7),
  q0 115 (.newarray .int) 2,
  q3 117 (.putfield 59) 3 (vI 2) 4 11,
  q0 120 .return_ 1]
def iX4_feed : List IE := [
  q0 0 (.iload_n 1) 1,
  q1 1 (.iconst 1) 1 (vI 1),
  q2 2 (.if_icmp .ge 10) 3 12,
  q0 5 (.aload_n 0) 1,
  q1 6 (.bipush (-4)) 2 (vI (-4)),
  q5 8 (.invokevirtual 62) 3 4 2 yX4_refuse,
  q0 11 .ireturn 1,
  q0 12 (.iload_n 1) 1,
  q1 13 (.bipush 8) 2 (vI 8),
  q2 15 (.if_icmp .gt 17) 3 32,
  q0 18 (.aload_n 0) 1,
  q3 19 (.getfield 10) 3 (vI 2) 4 0,
  q3 22 (.getfield 66) 3 (vI 0) 3 1,
  q0 25 (.iload_n 1) 1,
  q0 26 .iadd 1,
  q1 27 (.bipush 64) 2 (vI 64),
  q2 29 (.if_icmp .le 10) 3 39,
  q0 32 (.aload_n 0) 1,
  q1 33 (.bipush (-6)) 2 (vI (-6)),
  q5 35 (.invokevirtual 62) 3 4 2 yX4_refuse,
  q0 38 .ireturn 1,
  q1 39 (.iconst 0) 1 (vI 0),
  q0 40 (.istore 4) 2,
  q0 42 (.iload 4) 2,
  q0 44 (.iload_n 1) 1,
  q2 45 (.if_icmp .ge 28) 3 73,
  q0 48 (.aload_n 0) 1,
  q3 49 (.getfield 10) 3 (vI 2) 4 0,
  q0 52 (.lload_n 2) 1,
  q1 53 (.bipush 8) 2 (vI 8),
  q0 55 (.iload 4) 2,
  q0 57 .imul 1,
  q0 58 .lushr 1,
  q0 59 .l2i 1,
  q1 60 (.sipush 255) 3 (vI 255),
  q0 63 .iand 1,
  q5 64 (.invokevirtual 69) 3 3 2 yX3_add,
  q1 67 (.iinc 4 1) 3 (vI 1),
  q2 70 (.goto (-28)) 3 42,
  q0 73 (.aload_n 0) 1,
  q3 74 (.getfield 10) 3 (vI 2) 4 0,
  q3 77 (.getfield 66) 3 (vI 0) 3 1,
  q0 80 .ireturn 1]
def iX4_bicycle : List IE := [
  q0 0 (.aload_n 0) 1,
  q3 1 (.getfield 10) 3 (vI 2) 4 0,
  q5 4 (.invokevirtual 73) 3 3 1 yX3_checkForm,
  q0 7 (.istore_n 1) 1,
  q0 8 (.iload_n 1) 1,
  q2 9 (.ifCond .lt 9) 3 18,
  q0 12 (.aload_n 0) 1,
  q0 13 (.iload_n 1) 1,
  q5 14 (.invokevirtual 77) 3 4 2 yX4_takeStatements,
  q0 17 (.istore_n 1) 1,
  q0 18 (.aload_n 0) 1,
  q3 19 (.getfield 10) 3 (vI 2) 4 0,
  q1 22 (.iconst 0) 1 (vI 0),
  q3 23 (.putfield 66) 3 (vI 0) 3 1,
  q0 26 (.iload_n 1) 1,
  q0 27 .ireturn 1]
def iX4_part : List IE := [
  q0 0 (.iload_n 1) 1,
  q2 1 (.ifCond .ne 11) 3 12,
  q0 4 (.aload_n 0) 1,
  q3 5 (.getfield 19) 3 (vI 2) 4 1,
  q3 8 (.getfield 80) 3 (vI 0) 0 0,
  q0 11 .ireturn 1,
  q0 12 (.iload_n 1) 1,
  q1 13 (.iconst 1) 1 (vI 1),
  q2 14 (.if_icmp .ne 11) 3 25,
  q0 17 (.aload_n 0) 1,
  q3 18 (.getfield 19) 3 (vI 2) 4 1,
  q3 21 (.getfield 83) 3 (vI 0) 0 1,
  q0 24 .ireturn 1,
  q0 25 (.iload_n 1) 1,
  q1 26 (.bipush 10) 2 (vI 10),
  q2 28 (.if_icmp .ge 10) 3 38,
  q0 31 (.aload_n 0) 1,
  q1 32 (.bipush (-2)) 2 (vI (-2)),
  q5 34 (.invokevirtual 62) 3 4 2 yX4_refuse,
  q0 37 .ireturn 1,
  q0 38 (.iload_n 1) 1,
  q1 39 (.bipush 10) 2 (vI 10),
  q0 41 .isub 1,
  q0 42 (.istore_n 2) 1,
  q0 43 (.aload_n 0) 1,
  q0 44 (.iload_n 2) 1,
  q5 45 (.invokevirtual 86) 3 4 2 yX4_isGear,
  q2 48 (.ifCond .eq 15) 3 63,
  q0 51 (.aload_n 0) 1,
  q3 52 (.getfield 19) 3 (vI 2) 4 1,
  q3 55 (.getfield 90) 3 (vI 2) 0 2,
  q0 58 (.iload_n 2) 1,
  q0 59 .iaload 1,
  q2 60 (.goto 8) 3 68,
  q0 63 (.aload_n 0) 1,
  q1 64 (.iconst (-1)) 1 (vI (-1)),
  q5 65 (.invokevirtual 62) 3 4 2 yX4_refuse,
  q0 68 .ireturn 1]
def iX4_fault : List IE := [
  q0 0 (.aload_n 0) 1,
  q0 1 (.iload_n 1) 1,
  q5 2 (.invokevirtual 93) 3 4 2 yX4_isFault,
  q2 5 (.ifCond .ne 9) 3 14,
  q0 8 (.aload_n 0) 1,
  q1 9 (.iconst (-1)) 1 (vI (-1)),
  q5 10 (.invokevirtual 62) 3 4 2 yX4_refuse,
  q0 13 .ireturn 1,
  q0 14 (.aload_n 0) 1,
  q3 15 (.getfield 19) 3 (vI 2) 4 1,
  q3 18 (.getfield 96) 3 (vI 2) 0 4,
  q0 21 (.iload_n 1) 1,
  q0 22 .aaload 1,
  q0 23 (.astore_n 3) 1,
  q0 24 (.iload_n 2) 1,
  q4 25 (.tableswitch 85 0 6 #[43, 48, 53, 58, 63, 68, 73]) 43 110 [(0, 68), (1, 73), (2, 78), (3, 83), (4, 88), (5, 93), (6, 98)],
  q0 68 (.aload_n 3) 1,
  q3 69 (.getfield 100) 3 (vI 0) 1 0,
  q0 72 .ireturn 1,
  q0 73 (.aload_n 3) 1,
  q3 74 (.getfield 105) 3 (vI 0) 1 1,
  q0 77 .ireturn 1,
  q0 78 (.aload_n 3) 1,
  q3 79 (.getfield 108) 3 (vI 0) 1 2,
  q0 82 .ireturn 1,
  q0 83 (.aload_n 3) 1,
  q3 84 (.getfield 111) 3 (vI 0) 1 3,
  q0 87 .ireturn 1,
  q0 88 (.aload_n 3) 1,
  q3 89 (.getfield 114) 3 (vI 0) 1 4,
  q0 92 .ireturn 1,
  q0 93 (.aload_n 3) 1,
  q3 94 (.getfield 117) 3 (vI 0) 1 7,
  q0 97 .ireturn 1,
  q0 98 (.aload_n 3) 1,
  q0 99 (.aload_n 0) 1,
  q3 100 (.getfield 19) 3 (vI 2) 4 1,
  q3 103 (.getfield 120) 3 (vI 0) 0 7,
  q5 106 (.invokevirtual 123) 3 1 2 yX1_limitAfter,
  q0 109 .ireturn 1,
  q0 110 (.aload_n 0) 1,
  q1 111 (.bipush (-2)) 2 (vI (-2)),
  q5 113 (.invokevirtual 62) 3 4 2 yX4_refuse,
  q0 116 .ireturn 1]
def iX4_rounds : List IE := [
  q0 0 (.aload_n 0) 1,
  q0 1 (.iload_n 1) 1,
  q5 2 (.invokevirtual 93) 3 4 2 yX4_isFault,
  q2 5 (.ifCond .eq 11) 3 16,
  q0 8 (.aload_n 0) 1,
  q0 9 (.iload_n 2) 1,
  q5 10 (.invokevirtual 86) 3 4 2 yX4_isGear,
  q2 13 (.ifCond .ne 9) 3 22,
  q0 16 (.aload_n 0) 1,
  q1 17 (.iconst (-1)) 1 (vI (-1)),
  q5 18 (.invokevirtual 62) 3 4 2 yX4_refuse,
  q0 21 .ireturn 1,
  q0 22 (.iload_n 3) 1,
  q2 23 (.ifCond .eq 15) 3 38,
  q0 26 (.iload_n 3) 1,
  q1 27 (.iconst 1) 1 (vI 1),
  q2 28 (.if_icmp .eq 10) 3 38,
  q0 31 (.aload_n 0) 1,
  q1 32 (.bipush (-2)) 2 (vI (-2)),
  q5 34 (.invokevirtual 62) 3 4 2 yX4_refuse,
  q0 37 .ireturn 1,
  q0 38 (.aload_n 0) 1,
  q3 39 (.getfield 19) 3 (vI 2) 4 1,
  q3 42 (.getfield 96) 3 (vI 2) 0 4,
  q0 45 (.iload_n 1) 1,
  q0 46 .aaload 1,
  q0 47 (.astore 4) 2,
  q0 49 (.iload_n 3) 1,
  q2 50 (.ifCond .ne 15) 3 65,
  q0 53 (.aload_n 0) 1,
  q3 54 (.getfield 19) 3 (vI 2) 4 1,
  q0 57 (.aload 4) 2,
  q5 59 (.invokevirtual 126) 3 0 2 yX0_upOf,
  q2 62 (.goto 13) 3 75,
  q0 65 (.aload_n 0) 1,
  q3 66 (.getfield 19) 3 (vI 2) 4 1,
  q0 69 (.aload 4) 2,
  q0 71 (.iload_n 2) 1,
  q5 72 (.invokevirtual 130) 3 0 3 yX0_downOf,
  q0 75 .ireturn 1]
def iX4_load : List IE := [
  q0 0 (.iload_n 1) 1,
  q5 1 (.invokestatic 134) 3 0 1 yX4_isAct,
  q2 4 (.ifCond .ne 9) 3 13,
  q0 7 (.aload_n 0) 1,
  q1 8 (.iconst (-1)) 1 (vI (-1)),
  q5 9 (.invokevirtual 62) 3 4 2 yX4_refuse,
  q0 12 .ireturn 1,
  q0 13 (.iload_n 2) 1,
  q2 14 (.ifCond .ge 10) 3 24,
  q0 17 (.aload_n 0) 1,
  q1 18 (.bipush (-4)) 2 (vI (-4)),
  q5 20 (.invokevirtual 62) 3 4 2 yX4_refuse,
  q0 23 .ireturn 1,
  q0 24 (.iload_n 2) 1,
  q1 25 (.bipush 100) 2 (vI 100),
  q2 27 (.if_icmp .lt 10) 3 37,
  q0 30 (.aload_n 0) 1,
  q1 31 (.bipush (-6)) 2 (vI (-6)),
  q5 33 (.invokevirtual 62) 3 4 2 yX4_refuse,
  q0 36 .ireturn 1,
  q0 37 (.aload_n 0) 1,
  q3 38 (.getfield 19) 3 (vI 2) 4 1,
  q0 41 (.iload_n 1) 1,
  q0 42 (.iload_n 2) 1,
  q5 43 (.invokevirtual 137) 3 0 3 yX0_loadIn,
  q0 46 .ireturn 1]
def iX4_set : List IE := [
  q0 0 (.iload_n 1) 1,
  q2 1 (.ifCond .lt 8) 3 9,
  q0 4 (.iload_n 1) 1,
  q1 5 (.iconst 4) 1 (vI 4),
  q2 6 (.if_icmp .lt 10) 3 16,
  q0 9 (.aload_n 0) 1,
  q1 10 (.bipush (-2)) 2 (vI (-2)),
  q5 12 (.invokevirtual 62) 3 4 2 yX4_refuse,
  q0 15 .ireturn 1,
  q0 16 (.iload_n 2) 1,
  q2 17 (.ifCond .ge 10) 3 27,
  q0 20 (.aload_n 0) 1,
  q1 21 (.bipush (-4)) 2 (vI (-4)),
  q5 23 (.invokevirtual 62) 3 4 2 yX4_refuse,
  q0 26 .ireturn 1,
  q0 27 (.iload_n 2) 1,
  q0 28 (.getstatic 141) 3,
  q0 31 (.iload_n 1) 1,
  q0 32 .iaload 1,
  q2 33 (.if_icmp .le 10) 3 43,
  q0 36 (.aload_n 0) 1,
  q1 37 (.bipush (-6)) 2 (vI (-6)),
  q5 39 (.invokevirtual 62) 3 4 2 yX4_refuse,
  q0 42 .ireturn 1,
  q0 43 (.aload_n 0) 1,
  q3 44 (.getfield 19) 3 (vI 2) 4 1,
  q3 47 (.getfield 144) 3 (vI 2) 0 6,
  q0 50 (.iload_n 1) 1,
  q0 51 .iaload 1,
  q0 52 (.istore_n 3) 1,
  q0 53 (.aload_n 0) 1,
  q3 54 (.getfield 19) 3 (vI 2) 4 1,
  q3 57 (.getfield 144) 3 (vI 2) 0 6,
  q0 60 (.iload_n 1) 1,
  q0 61 (.iload_n 2) 1,
  q0 62 .iastore 1,
  q0 63 (.iload_n 3) 1,
  q0 64 .ireturn 1]
def iX4_oil : List IE := [
  q0 0 (.aload_n 0) 1,
  q3 1 (.getfield 19) 3 (vI 2) 4 1,
  q0 4 (.aload_n 0) 1,
  q3 5 (.getfield 19) 3 (vI 2) 4 1,
  q3 8 (.getfield 120) 3 (vI 0) 0 7,
  q3 11 (.putfield 147) 3 (vI 0) 0 8,
  q1 14 (.iconst 0) 1 (vI 0),
  q0 15 (.istore_n 1) 1,
  q1 16 (.iconst 0) 1 (vI 0),
  q0 17 (.istore_n 2) 1,
  q0 18 (.iload_n 2) 1,
  q0 19 (.aload_n 0) 1,
  q3 20 (.getfield 19) 3 (vI 2) 4 1,
  q3 23 (.getfield 150) 3 (vI 0) 0 5,
  q2 26 (.if_icmp .ge 33) 3 59,
  q0 29 (.iload_n 1) 1,
  q0 30 (.aload_n 0) 1,
  q3 31 (.getfield 19) 3 (vI 2) 4 1,
  q3 34 (.getfield 96) 3 (vI 2) 0 4,
  q0 37 (.iload_n 2) 1,
  q0 38 .aaload 1,
  q3 39 (.getfield 100) 3 (vI 0) 1 0,
  q1 42 (.iconst 5) 1 (vI 5),
  q2 43 (.if_icmp .ne 7) 3 50,
  q1 46 (.iconst 1) 1 (vI 1),
  q2 47 (.goto 4) 3 51,
  q1 50 (.iconst 0) 1 (vI 0),
  q0 51 .iadd 1,
  q0 52 (.istore_n 1) 1,
  q1 53 (.iinc 2 1) 3 (vI 1),
  q2 56 (.goto (-38)) 3 18,
  q0 59 (.iload_n 1) 1,
  q0 60 .ireturn 1]
def iX4_stage : List IE := [
  q0 0 (.iload_n 1) 1,
  q5 1 (.invokestatic 134) 3 0 1 yX4_isAct,
  q2 4 (.ifCond .eq 11) 3 15,
  q0 7 (.aload_n 0) 1,
  q0 8 (.iload_n 2) 1,
  q5 9 (.invokevirtual 86) 3 4 2 yX4_isGear,
  q2 12 (.ifCond .ne 9) 3 21,
  q0 15 (.aload_n 0) 1,
  q1 16 (.iconst (-1)) 1 (vI (-1)),
  q5 17 (.invokevirtual 62) 3 4 2 yX4_refuse,
  q0 20 .ireturn 1,
  q0 21 (.iload_n 3) 1,
  q1 22 (.iconst 1) 1 (vI 1),
  q2 23 (.if_icmp .ge 10) 3 33,
  q0 26 (.aload_n 0) 1,
  q1 27 (.bipush (-4)) 2 (vI (-4)),
  q5 29 (.invokevirtual 62) 3 4 2 yX4_refuse,
  q0 32 .ireturn 1,
  q0 33 (.iload_n 3) 1,
  q1 34 (.bipush 60) 2 (vI 60),
  q2 36 (.if_icmp .gt 15) 3 51,
  q0 39 (.aload_n 0) 1,
  q3 40 (.getfield 19) 3 (vI 2) 4 1,
  q3 43 (.getfield 153) 3 (vI 0) 0 12,
  q1 46 (.bipush 8) 2 (vI 8),
  q2 48 (.if_icmp .lt 10) 3 58,
  q0 51 (.aload_n 0) 1,
  q1 52 (.bipush (-6)) 2 (vI (-6)),
  q5 54 (.invokevirtual 62) 3 4 2 yX4_refuse,
  q0 57 .ireturn 1,
  q0 58 (.aload_n 0) 1,
  q3 59 (.getfield 19) 3 (vI 2) 4 1,
  q0 62 (.iload_n 1) 1,
  q0 63 (.iload_n 2) 1,
  q0 64 (.iload_n 3) 1,
  q5 65 (.invokevirtual 156) 3 0 4 yX0_addStage,
  q0 68 (.aload_n 0) 1,
  q3 69 (.getfield 19) 3 (vI 2) 4 1,
  q3 72 (.getfield 153) 3 (vI 0) 0 12,
  q0 75 .ireturn 1]
def iX4_stageOf : List IE := [
  q0 0 (.iload_n 1) 1,
  q2 1 (.ifCond .lt 14) 3 15,
  q0 4 (.iload_n 1) 1,
  q0 5 (.aload_n 0) 1,
  q3 6 (.getfield 19) 3 (vI 2) 4 1,
  q3 9 (.getfield 153) 3 (vI 0) 0 12,
  q2 12 (.if_icmp .lt 9) 3 21,
  q0 15 (.aload_n 0) 1,
  q1 16 (.iconst (-1)) 1 (vI (-1)),
  q5 17 (.invokevirtual 62) 3 4 2 yX4_refuse,
  q0 20 .ireturn 1,
  q0 21 (.iload_n 2) 1,
  q4 22 (.tableswitch 56 0 2 #[26, 36, 46]) 26 78 [(0, 48), (1, 58), (2, 68)],
  q0 48 (.aload_n 0) 1,
  q3 49 (.getfield 19) 3 (vI 2) 4 1,
  q3 52 (.getfield 160) 3 (vI 2) 0 9,
  q0 55 (.iload_n 1) 1,
  q0 56 .iaload 1,
  q0 57 .ireturn 1,
  q0 58 (.aload_n 0) 1,
  q3 59 (.getfield 19) 3 (vI 2) 4 1,
  q3 62 (.getfield 163) 3 (vI 2) 0 10,
  q0 65 (.iload_n 1) 1,
  q0 66 .iaload 1,
  q0 67 .ireturn 1,
  q0 68 (.aload_n 0) 1,
  q3 69 (.getfield 19) 3 (vI 2) 4 1,
  q3 72 (.getfield 166) 3 (vI 2) 0 11,
  q0 75 (.iload_n 1) 1,
  q0 76 .iaload 1,
  q0 77 .ireturn 1,
  q0 78 (.aload_n 0) 1,
  q1 79 (.bipush (-2)) 2 (vI (-2)),
  q5 81 (.invokevirtual 62) 3 4 2 yX4_refuse,
  q0 84 .ireturn 1]
def iX4_drop : List IE := [
  q0 0 (.aload_n 0) 1,
  q3 1 (.getfield 19) 3 (vI 2) 4 1,
  q3 4 (.getfield 153) 3 (vI 0) 0 12,
  q0 7 (.istore_n 1) 1,
  q0 8 (.aload_n 0) 1,
  q3 9 (.getfield 19) 3 (vI 2) 4 1,
  q1 12 (.iconst 0) 1 (vI 0),
  q3 13 (.putfield 153) 3 (vI 0) 0 12,
  q0 16 (.iload_n 1) 1,
  q0 17 .ireturn 1]
def iX4_counts : List IE := [
  q0 0 (.aload_n 0) 1,
  q0 1 (.iload_n 1) 1,
  q5 2 (.invokevirtual 93) 3 4 2 yX4_isFault,
  q2 5 (.ifCond .ne 9) 3 14,
  q0 8 (.aload_n 0) 1,
  q1 9 (.iconst (-1)) 1 (vI (-1)),
  q5 10 (.invokevirtual 62) 3 4 2 yX4_refuse,
  q0 13 .ireturn 1,
  q0 14 (.aload_n 0) 1,
  q3 15 (.getfield 38) 3 (vI 2) 4 5,
  q0 18 (.aload_n 0) 1,
  q3 19 (.getfield 19) 3 (vI 2) 4 1,
  q3 22 (.getfield 96) 3 (vI 2) 0 4,
  q0 25 (.iload_n 1) 1,
  q0 26 .aaload 1,
  q1 27 (.bipush (-9)) 2 (vI (-9)),
  q5 29 (.invokevirtual 169) 3 2 3 yX2_passRide,
  q0 32 .ireturn 1]
def iX4_stageCounts : List IE := [
  q0 0 (.aload_n 0) 1,
  q0 1 (.iload_n 1) 1,
  q5 2 (.invokevirtual 93) 3 4 2 yX4_isFault,
  q2 5 (.ifCond .eq 18) 3 23,
  q0 8 (.iload_n 2) 1,
  q5 9 (.invokestatic 134) 3 0 1 yX4_isAct,
  q2 12 (.ifCond .eq 11) 3 23,
  q0 15 (.aload_n 0) 1,
  q0 16 (.iload_n 3) 1,
  q5 17 (.invokevirtual 86) 3 4 2 yX4_isGear,
  q2 20 (.ifCond .ne 9) 3 29,
  q0 23 (.aload_n 0) 1,
  q1 24 (.iconst (-1)) 1 (vI (-1)),
  q5 25 (.invokevirtual 62) 3 4 2 yX4_refuse,
  q0 28 .ireturn 1,
  q0 29 (.iload 4) 2,
  q1 31 (.iconst 1) 1 (vI 1),
  q2 32 (.if_icmp .ge 10) 3 42,
  q0 35 (.aload_n 0) 1,
  q1 36 (.bipush (-4)) 2 (vI (-4)),
  q5 38 (.invokevirtual 62) 3 4 2 yX4_refuse,
  q0 41 .ireturn 1,
  q0 42 (.iload 4) 2,
  q1 44 (.bipush 60) 2 (vI 60),
  q2 46 (.if_icmp .le 10) 3 56,
  q0 49 (.aload_n 0) 1,
  q1 50 (.bipush (-6)) 2 (vI (-6)),
  q5 52 (.invokevirtual 62) 3 4 2 yX4_refuse,
  q0 55 .ireturn 1,
  q0 56 (.aload_n 0) 1,
  q0 57 (.iload_n 1) 1,
  q0 58 (.iload_n 2) 1,
  q0 59 (.iload_n 3) 1,
  q0 60 (.iload 4) 2,
  q5 62 (.invokevirtual 172) 3 4 5 yX4_clicksInStage,
  q0 65 .ireturn 1]
def iX4_when : List IE := [
  q0 0 (.aload_n 0) 1,
  q0 1 (.iload_n 1) 1,
  q5 2 (.invokevirtual 93) 3 4 2 yX4_isFault,
  q2 5 (.ifCond .ne 9) 3 14,
  q0 8 (.aload_n 0) 1,
  q1 9 (.iconst (-1)) 1 (vI (-1)),
  q5 10 (.invokevirtual 62) 3 4 2 yX4_refuse,
  q0 13 .ireturn 1,
  q0 14 (.iload_n 2) 1,
  q2 15 (.ifCond .ge 10) 3 25,
  q0 18 (.aload_n 0) 1,
  q1 19 (.bipush (-4)) 2 (vI (-4)),
  q5 21 (.invokevirtual 62) 3 4 2 yX4_refuse,
  q0 24 .ireturn 1,
  q0 25 (.aload_n 0) 1,
  q3 26 (.getfield 38) 3 (vI 2) 4 5,
  q0 29 (.aload_n 0) 1,
  q3 30 (.getfield 19) 3 (vI 2) 4 1,
  q3 33 (.getfield 96) 3 (vI 2) 0 4,
  q0 36 (.iload_n 1) 1,
  q0 37 .aaload 1,
  q0 38 (.iload_n 2) 1,
  q5 39 (.invokevirtual 169) 3 2 3 yX2_passRide,
  q0 42 .pop 1,
  q0 43 (.aload_n 0) 1,
  q3 44 (.getfield 38) 3 (vI 2) 4 5,
  q3 47 (.getfield 176) 3 (vI 0) 2 7,
  q0 50 .ireturn 1]
def iX4_heard : List IE := [
  q0 0 (.aload_n 0) 1,
  q5 1 (.invokevirtual 179) 3 4 1 yX4_listenToRide,
  q1 4 (.iconst 0) 1 (vI 0),
  q0 5 (.istore_n 2) 1,
  q1 6 (.iconst 0) 1 (vI 0),
  q0 7 (.istore_n 3) 1,
  q0 8 (.iload_n 3) 1,
  q0 9 (.aload_n 0) 1,
  q3 10 (.getfield 19) 3 (vI 2) 4 1,
  q3 13 (.getfield 150) 3 (vI 0) 0 5,
  q2 16 (.if_icmp .ge 18) 3 34,
  q0 19 (.iload_n 2) 1,
  q0 20 (.aload_n 0) 1,
  q3 21 (.getfield 45) 3 (vI 2) 4 7,
  q0 24 (.iload_n 3) 1,
  q0 25 .iaload 1,
  q0 26 .iadd 1,
  q0 27 (.istore_n 2) 1,
  q1 28 (.iinc 3 1) 3 (vI 1),
  q2 31 (.goto (-23)) 3 8,
  q0 34 (.iload_n 1) 1,
  q0 35 (.istore_n 3) 1,
  q1 36 (.iconst 0) 1 (vI 0),
  q0 37 (.istore 4) 2,
  q1 39 (.iconst 0) 1 (vI 0),
  q0 40 (.istore 5) 2,
  q0 42 (.iload 5) 2,
  q0 44 (.iload_n 2) 1,
  q2 45 (.if_icmp .ge 54) 3 99,
  q0 48 (.iload_n 3) 1,
  q1 49 (.ldc 182) 2 (vI 1664525),
  q0 51 .imul 1,
  q1 52 (.ldc 183) 2 (vI 1013904223),
  q0 54 .iadd 1,
  q0 55 (.istore_n 3) 1,
  q0 56 (.iload_n 3) 1,
  q1 57 (.ldc 184) 2 (vI 2147483647),
  q0 59 .iand 1,
  q1 60 (.sipush 256) 3 (vI 256),
  q0 63 .idiv 1,
  q1 64 (.bipush 100) 2 (vI 100),
  q0 66 .irem 1,
  q0 67 (.istore 6) 2,
  q0 69 (.iload 4) 2,
  q0 71 (.iload 6) 2,
  q0 73 (.aload_n 0) 1,
  q3 74 (.getfield 19) 3 (vI 2) 4 1,
  q3 77 (.getfield 144) 3 (vI 2) 0 6,
  q1 80 (.iconst 2) 1 (vI 2),
  q0 81 .iaload 1,
  q2 82 (.if_icmp .ge 7) 3 89,
  q1 85 (.iconst 1) 1 (vI 1),
  q2 86 (.goto 4) 3 90,
  q1 89 (.iconst 0) 1 (vI 0),
  q0 90 .iadd 1,
  q0 91 (.istore 4) 2,
  q1 93 (.iinc 5 1) 3 (vI 1),
  q2 96 (.goto (-54)) 3 42,
  q0 99 (.iload_n 2) 1,
  q0 100 (.iload 4) 2,
  q0 102 .isub 1,
  q0 103 .ireturn 1]
def iX4_go : List IE := [
  q0 0 (.aload_n 0) 1,
  q3 1 (.getfield 19) 3 (vI 2) 4 1,
  q3 4 (.getfield 153) 3 (vI 0) 0 12,
  q2 7 (.ifCond .ne 10) 3 17,
  q0 10 (.aload_n 0) 1,
  q1 11 (.bipush (-3)) 2 (vI (-3)),
  q5 13 (.invokevirtual 62) 3 4 2 yX4_refuse,
  q0 16 .ireturn 1,
  q0 17 (.aload_n 0) 1,
  q3 18 (.getfield 19) 3 (vI 2) 4 1,
  q3 21 (.getfield 120) 3 (vI 0) 0 7,
  q0 24 (.aload_n 0) 1,
  q3 25 (.getfield 19) 3 (vI 2) 4 1,
  q5 28 (.invokevirtual 185) 3 0 1 yX0_turnsOfRide,
  q0 31 .iadd 1,
  q0 32 (.istore_n 1) 1,
  q0 33 (.iload_n 1) 1,
  q1 34 (.sipush 9999) 3 (vI 9999),
  q2 37 (.if_icmp .le 10) 3 47,
  q0 40 (.aload_n 0) 1,
  q1 41 (.bipush (-6)) 2 (vI (-6)),
  q5 43 (.invokevirtual 62) 3 4 2 yX4_refuse,
  q0 46 .ireturn 1,
  q1 47 (.iconst 0) 1 (vI 0),
  q0 48 (.istore_n 2) 1,
  q0 49 (.iload_n 2) 1,
  q0 50 (.aload_n 0) 1,
  q3 51 (.getfield 19) 3 (vI 2) 4 1,
  q3 54 (.getfield 150) 3 (vI 0) 0 5,
  q2 57 (.if_icmp .ge 47) 3 104,
  q0 60 (.aload_n 0) 1,
  q3 61 (.getfield 38) 3 (vI 2) 4 5,
  q0 64 (.aload_n 0) 1,
  q3 65 (.getfield 19) 3 (vI 2) 4 1,
  q3 68 (.getfield 96) 3 (vI 2) 0 4,
  q0 71 (.iload_n 2) 1,
  q0 72 .aaload 1,
  q1 73 (.bipush (-9)) 2 (vI (-9)),
  q5 75 (.invokevirtual 169) 3 2 3 yX2_passRide,
  q0 78 .pop 1,
  q0 79 (.aload_n 0) 1,
  q3 80 (.getfield 19) 3 (vI 2) 4 1,
  q3 83 (.getfield 96) 3 (vI 2) 0 4,
  q0 86 (.iload_n 2) 1,
  q0 87 .aaload 1,
  q0 88 (.aload_n 0) 1,
  q3 89 (.getfield 38) 3 (vI 2) 4 5,
  q3 92 (.getfield 188) 3 (vI 2) 2 1,
  q5 95 (.invokevirtual 192) 3 1 2 yX1_copyFrom,
  q1 98 (.iinc 2 1) 3 (vI 1),
  q2 101 (.goto (-52)) 3 49,
  q0 104 (.aload_n 0) 1,
  q3 105 (.getfield 19) 3 (vI 2) 4 1,
  q0 108 (.iload_n 1) 1,
  q3 109 (.putfield 120) 3 (vI 0) 0 7,
  q0 112 (.iload_n 1) 1,
  q0 113 .ireturn 1]
def iX4_fit : List IE := [
  q0 0 (.iload_n 1) 1,
  q2 1 (.ifCond .lt 7) 3 8,
  q0 4 (.iload_n 2) 1,
  q2 5 (.ifCond .ge 10) 3 15,
  q0 8 (.aload_n 0) 1,
  q1 9 (.bipush (-4)) 2 (vI (-4)),
  q5 11 (.invokevirtual 62) 3 4 2 yX4_refuse,
  q0 14 .ireturn 1,
  q0 15 (.iload_n 1) 1,
  q1 16 (.sipush 9999) 3 (vI 9999),
  q2 19 (.if_icmp .gt 10) 3 29,
  q0 22 (.iload_n 2) 1,
  q1 23 (.sipush 9999) 3 (vI 9999),
  q2 26 (.if_icmp .le 10) 3 36,
  q0 29 (.aload_n 0) 1,
  q1 30 (.bipush (-6)) 2 (vI (-6)),
  q5 32 (.invokevirtual 62) 3 4 2 yX4_refuse,
  q0 35 .ireturn 1,
  q0 36 (.aload_n 0) 1,
  q0 37 (.iload_n 1) 1,
  q0 38 (.iload_n 2) 1,
  q5 39 (.invokevirtual 196) 3 4 3 yX4_fittingBits,
  q0 42 .ireturn 1]
def iX4_odds : List IE := [
  q0 0 (.aload_n 0) 1,
  q0 1 (.iload_n 1) 1,
  q5 2 (.invokevirtual 93) 3 4 2 yX4_isFault,
  q2 5 (.ifCond .ne 9) 3 14,
  q0 8 (.aload_n 0) 1,
  q1 9 (.iconst (-1)) 1 (vI (-1)),
  q5 10 (.invokevirtual 62) 3 4 2 yX4_refuse,
  q0 13 .ireturn 1,
  q0 14 (.iload 4) 2,
  q2 16 (.ifCond .eq 16) 3 32,
  q0 19 (.iload 4) 2,
  q1 21 (.iconst 1) 1 (vI 1),
  q2 22 (.if_icmp .eq 10) 3 32,
  q0 25 (.aload_n 0) 1,
  q1 26 (.bipush (-2)) 2 (vI (-2)),
  q5 28 (.invokevirtual 62) 3 4 2 yX4_refuse,
  q0 31 .ireturn 1,
  q0 32 (.iload_n 2) 1,
  q2 33 (.ifCond .lt 7) 3 40,
  q0 36 (.iload_n 3) 1,
  q2 37 (.ifCond .ge 10) 3 47,
  q0 40 (.aload_n 0) 1,
  q1 41 (.bipush (-4)) 2 (vI (-4)),
  q5 43 (.invokevirtual 62) 3 4 2 yX4_refuse,
  q0 46 .ireturn 1,
  q0 47 (.iload_n 2) 1,
  q1 48 (.sipush 9999) 3 (vI 9999),
  q2 51 (.if_icmp .gt 10) 3 61,
  q0 54 (.iload_n 3) 1,
  q1 55 (.sipush 9999) 3 (vI 9999),
  q2 58 (.if_icmp .le 10) 3 68,
  q0 61 (.aload_n 0) 1,
  q1 62 (.bipush (-6)) 2 (vI (-6)),
  q5 64 (.invokevirtual 62) 3 4 2 yX4_refuse,
  q0 67 .ireturn 1,
  q0 68 (.aload_n 0) 1,
  q0 69 (.iload_n 2) 1,
  q0 70 (.iload_n 3) 1,
  q5 71 (.invokevirtual 196) 3 4 3 yX4_fittingBits,
  q0 74 (.istore 5) 2,
  q0 76 (.iload 5) 2,
  q0 78 (.iload_n 1) 1,
  q0 79 .ishr 1,
  q1 80 (.iconst 1) 1 (vI 1),
  q0 81 .iand 1,
  q2 82 (.ifCond .ne 10) 3 92,
  q0 85 (.aload_n 0) 1,
  q1 86 (.bipush (-3)) 2 (vI (-3)),
  q5 88 (.invokevirtual 62) 3 4 2 yX4_refuse,
  q0 91 .ireturn 1,
  q0 92 (.aload_n 0) 1,
  q3 93 (.getfield 19) 3 (vI 2) 4 1,
  q3 96 (.getfield 96) 3 (vI 2) 0 4,
  q0 99 (.iload_n 1) 1,
  q0 100 .aaload 1,
  q3 101 (.getfield 111) 3 (vI 0) 1 3,
  q0 104 (.aload_n 0) 1,
  q3 105 (.getfield 19) 3 (vI 2) 4 1,
  q0 108 (.iload 5) 2,
  q5 110 (.invokevirtual 199) 3 0 2 yX0_weightOf,
  q0 113 (.iload 4) 2,
  q5 115 (.invokestatic 202) 3 0 3 yX4_leastTerm,
  q0 118 .ireturn 1]
def iX4_twos : List IE := [
  q0 0 (.iload_n 1) 1,
  q2 1 (.ifCond .lt 12) 3 13,
  q0 4 (.iload_n 2) 1,
  q2 5 (.ifCond .lt 8) 3 13,
  q0 8 (.iload_n 3) 1,
  q1 9 (.iconst (-1)) 1 (vI (-1)),
  q2 10 (.if_icmp .ge 10) 3 20,
  q0 13 (.aload_n 0) 1,
  q1 14 (.bipush (-4)) 2 (vI (-4)),
  q5 16 (.invokevirtual 62) 3 4 2 yX4_refuse,
  q0 19 .ireturn 1,
  q0 20 (.iload_n 1) 1,
  q1 21 (.sipush 9999) 3 (vI 9999),
  q2 24 (.if_icmp .gt 10) 3 34,
  q0 27 (.iload_n 2) 1,
  q1 28 (.sipush 9999) 3 (vI 9999),
  q2 31 (.if_icmp .le 10) 3 41,
  q0 34 (.aload_n 0) 1,
  q1 35 (.bipush (-6)) 2 (vI (-6)),
  q5 37 (.invokevirtual 62) 3 4 2 yX4_refuse,
  q0 40 .ireturn 1,
  q0 41 (.aload_n 0) 1,
  q5 42 (.invokevirtual 179) 3 4 1 yX4_listenToRide,
  q1 45 (.iconst 0) 1 (vI 0),
  q0 46 (.istore 4) 2,
  q1 48 (.iconst 0) 1 (vI 0),
  q0 49 (.istore 5) 2,
  q0 51 (.iload 5) 2,
  q0 53 (.aload_n 0) 1,
  q3 54 (.getfield 19) 3 (vI 2) 4 1,
  q3 57 (.getfield 150) 3 (vI 0) 0 5,
  q2 60 (.if_icmp .ge 74) 3 134,
  q0 63 (.iload 5) 2,
  q1 65 (.iconst 1) 1 (vI 1),
  q0 66 .iadd 1,
  q0 67 (.istore 6) 2,
  q0 69 (.iload 6) 2,
  q0 71 (.aload_n 0) 1,
  q3 72 (.getfield 19) 3 (vI 2) 4 1,
  q3 75 (.getfield 150) 3 (vI 0) 0 5,
  q2 78 (.if_icmp .ge 50) 3 128,
  q0 81 (.aload_n 0) 1,
  q3 82 (.getfield 45) 3 (vI 2) 4 7,
  q0 85 (.iload 5) 2,
  q0 87 .iaload 1,
  q0 88 (.aload_n 0) 1,
  q3 89 (.getfield 45) 3 (vI 2) 4 7,
  q0 92 (.iload 6) 2,
  q0 94 .iaload 1,
  q0 95 .iadd 1,
  q0 96 (.iload_n 1) 1,
  q0 97 (.iload_n 2) 1,
  q5 98 (.invokestatic 206) 3 0 3 yX4_isWithin,
  q2 101 (.ifCond .eq 21) 3 122,
  q0 104 (.iload 4) 2,
  q0 106 (.iload_n 3) 1,
  q2 107 (.if_icmp .ne 12) 3 119,
  q1 110 (.bipush 10) 2 (vI 10),
  q0 112 (.iload 5) 2,
  q0 114 .imul 1,
  q0 115 (.iload 6) 2,
  q0 117 .iadd 1,
  q0 118 .ireturn 1,
  q1 119 (.iinc 4 1) 3 (vI 1),
  q1 122 (.iinc 6 1) 3 (vI 1),
  q2 125 (.goto (-56)) 3 69,
  q1 128 (.iinc 5 1) 3 (vI 1),
  q2 131 (.goto (-80)) 3 51,
  q0 134 (.iload_n 3) 1,
  q1 135 (.iconst (-1)) 1 (vI (-1)),
  q2 136 (.if_icmp .ne 8) 3 144,
  q0 139 (.iload 4) 2,
  q2 141 (.goto 5) 3 146,
  q1 144 (.bipush (-9)) 2 (vI (-9)),
  q0 146 .ireturn 1]
def iX4_apart : List IE := [
  q0 0 (.aload_n 0) 1,
  q0 1 (.iload_n 1) 1,
  q0 2 (.iload_n 2) 1,
  q5 3 (.invokevirtual 210) 3 4 3 yX4_areTwoFaults,
  q2 6 (.ifCond .ne 9) 3 15,
  q0 9 (.aload_n 0) 1,
  q1 10 (.iconst (-1)) 1 (vI (-1)),
  q5 11 (.invokevirtual 62) 3 4 2 yX4_refuse,
  q0 14 .ireturn 1,
  q1 15 (.iconst 0) 1 (vI 0),
  q0 16 (.istore_n 3) 1,
  q0 17 (.iload_n 3) 1,
  q1 18 (.iconst 4) 1 (vI 4),
  q2 19 (.if_icmp .ge 65) 3 84,
  q1 22 (.iconst 0) 1 (vI 0),
  q0 23 (.istore 4) 2,
  q0 25 (.iload 4) 2,
  q0 27 (.aload_n 0) 1,
  q3 28 (.getfield 19) 3 (vI 2) 4 1,
  q3 31 (.getfield 214) 3 (vI 0) 0 3,
  q2 34 (.if_icmp .ge 44) 3 78,
  q0 37 (.aload_n 0) 1,
  q0 38 (.iload_n 1) 1,
  q0 39 (.iload_n 3) 1,
  q0 40 (.iload 4) 2,
  q1 42 (.bipush 20) 2 (vI 20),
  q5 44 (.invokevirtual 172) 3 4 5 yX4_clicksInStage,
  q0 47 (.istore 5) 2,
  q0 49 (.iload 5) 2,
  q0 51 (.aload_n 0) 1,
  q0 52 (.iload_n 2) 1,
  q0 53 (.iload_n 3) 1,
  q0 54 (.iload 4) 2,
  q1 56 (.bipush 20) 2 (vI 20),
  q5 58 (.invokevirtual 172) 3 4 5 yX4_clicksInStage,
  q2 61 (.if_icmp .eq 11) 3 72,
  q1 64 (.bipush 10) 2 (vI 10),
  q0 66 (.iload_n 3) 1,
  q0 67 .imul 1,
  q0 68 (.iload 4) 2,
  q0 70 .iadd 1,
  q0 71 .ireturn 1,
  q1 72 (.iinc 4 1) 3 (vI 1),
  q2 75 (.goto (-50)) 3 25,
  q1 78 (.iinc 3 1) 3 (vI 1),
  q2 81 (.goto (-64)) 3 17,
  q1 84 (.bipush (-9)) 2 (vI (-9)),
  q0 86 .ireturn 1]
def iX4_tells : List IE := [
  q0 0 (.iload_n 2) 1,
  q2 1 (.ifCond .eq 15) 3 16,
  q0 4 (.iload_n 2) 1,
  q1 5 (.iconst 1) 1 (vI 1),
  q2 6 (.if_icmp .eq 10) 3 16,
  q0 9 (.aload_n 0) 1,
  q1 10 (.bipush (-2)) 2 (vI (-2)),
  q5 12 (.invokevirtual 62) 3 4 2 yX4_refuse,
  q0 15 .ireturn 1,
  q0 16 (.iload_n 1) 1,
  q1 17 (.iconst 1) 1 (vI 1),
  q2 18 (.if_icmp .ge 10) 3 28,
  q0 21 (.aload_n 0) 1,
  q1 22 (.bipush (-4)) 2 (vI (-4)),
  q5 24 (.invokevirtual 62) 3 4 2 yX4_refuse,
  q0 27 .ireturn 1,
  q0 28 (.iload_n 1) 1,
  q1 29 (.bipush 60) 2 (vI 60),
  q2 31 (.if_icmp .le 10) 3 41,
  q0 34 (.aload_n 0) 1,
  q1 35 (.bipush (-6)) 2 (vI (-6)),
  q5 37 (.invokevirtual 62) 3 4 2 yX4_refuse,
  q0 40 .ireturn 1,
  q0 41 (.aload_n 0) 1,
  q3 42 (.getfield 19) 3 (vI 2) 4 1,
  q3 45 (.getfield 214) 3 (vI 0) 0 3,
  q2 48 (.ifCond .eq 13) 3 61,
  q0 51 (.aload_n 0) 1,
  q3 52 (.getfield 19) 3 (vI 2) 4 1,
  q3 55 (.getfield 150) 3 (vI 0) 0 5,
  q2 58 (.ifCond .ne 10) 3 68,
  q0 61 (.aload_n 0) 1,
  q1 62 (.bipush (-3)) 2 (vI (-3)),
  q5 64 (.invokevirtual 62) 3 4 2 yX4_refuse,
  q0 67 .ireturn 1,
  q1 68 (.bipush (-9)) 2 (vI (-9)),
  q0 70 (.istore_n 3) 1,
  q1 71 (.iconst 0) 1 (vI 0),
  q0 72 (.istore 4) 2,
  q1 74 (.iconst 0) 1 (vI 0),
  q0 75 (.istore 5) 2,
  q0 77 (.iload 5) 2,
  q1 79 (.iconst 4) 1 (vI 4),
  q2 80 (.if_icmp .ge 61) 3 141,
  q1 83 (.iconst 0) 1 (vI 0),
  q0 84 (.istore 6) 2,
  q0 86 (.iload 6) 2,
  q0 88 (.aload_n 0) 1,
  q3 89 (.getfield 19) 3 (vI 2) 4 1,
  q3 92 (.getfield 214) 3 (vI 0) 0 3,
  q2 95 (.if_icmp .ge 40) 3 135,
  q0 98 (.aload_n 0) 1,
  q0 99 (.iload 5) 2,
  q0 101 (.iload 6) 2,
  q0 103 (.iload_n 1) 1,
  q5 104 (.invokevirtual 217) 3 4 4 yX4_unlikeCounts,
  q0 107 (.istore 7) 2,
  q0 109 (.iload 7) 2,
  q0 111 (.iload 4) 2,
  q2 113 (.if_icmp .le 16) 3 129,
  q0 116 (.iload 7) 2,
  q0 118 (.istore 4) 2,
  q1 120 (.bipush 10) 2 (vI 10),
  q0 122 (.iload 5) 2,
  q0 124 .imul 1,
  q0 125 (.iload 6) 2,
  q0 127 .iadd 1,
  q0 128 (.istore_n 3) 1,
  q1 129 (.iinc 6 1) 3 (vI 1),
  q2 132 (.goto (-46)) 3 86,
  q1 135 (.iinc 5 1) 3 (vI 1),
  q2 138 (.goto (-61)) 3 77,
  q0 141 (.iload_n 2) 1,
  q2 142 (.ifCond .ne 7) 3 149,
  q0 145 (.iload_n 3) 1,
  q2 146 (.goto 5) 3 151,
  q0 149 (.iload 4) 2,
  q0 151 .ireturn 1]
def iX4_length : List IE := [
  q0 0 (.aload_n 0) 1,
  q0 1 (.iload_n 1) 1,
  q0 2 (.iload_n 2) 1,
  q5 3 (.invokevirtual 210) 3 4 3 yX4_areTwoFaults,
  q2 6 (.ifCond .eq 19) 3 25,
  q0 9 (.iload_n 3) 1,
  q5 10 (.invokestatic 134) 3 0 1 yX4_isAct,
  q2 13 (.ifCond .eq 12) 3 25,
  q0 16 (.aload_n 0) 1,
  q0 17 (.iload 4) 2,
  q5 19 (.invokevirtual 86) 3 4 2 yX4_isGear,
  q2 22 (.ifCond .ne 9) 3 31,
  q0 25 (.aload_n 0) 1,
  q1 26 (.iconst (-1)) 1 (vI (-1)),
  q5 27 (.invokevirtual 62) 3 4 2 yX4_refuse,
  q0 30 .ireturn 1,
  q0 31 (.iload 5) 2,
  q1 33 (.iconst 1) 1 (vI 1),
  q2 34 (.if_icmp .ge 10) 3 44,
  q0 37 (.aload_n 0) 1,
  q1 38 (.bipush (-4)) 2 (vI (-4)),
  q5 40 (.invokevirtual 62) 3 4 2 yX4_refuse,
  q0 43 .ireturn 1,
  q0 44 (.iload 5) 2,
  q1 46 (.sipush 999) 3 (vI 999),
  q2 49 (.if_icmp .le 10) 3 59,
  q0 52 (.aload_n 0) 1,
  q1 53 (.bipush (-6)) 2 (vI (-6)),
  q5 55 (.invokevirtual 62) 3 4 2 yX4_refuse,
  q0 58 .ireturn 1,
  q0 59 (.aload_n 0) 1,
  q3 60 (.getfield 38) 3 (vI 2) 4 5,
  q0 63 (.aload_n 0) 1,
  q3 64 (.getfield 19) 3 (vI 2) 4 1,
  q3 67 (.getfield 96) 3 (vI 2) 0 4,
  q0 70 (.iload_n 1) 1,
  q0 71 .aaload 1,
  q1 72 (.bipush (-9)) 2 (vI (-9)),
  q5 74 (.invokevirtual 220) 3 2 3 yX2_begin,
  q0 77 (.aload_n 0) 1,
  q3 78 (.getfield 42) 3 (vI 2) 4 6,
  q0 81 (.aload_n 0) 1,
  q3 82 (.getfield 19) 3 (vI 2) 4 1,
  q3 85 (.getfield 96) 3 (vI 2) 0 4,
  q0 88 (.iload_n 2) 1,
  q0 89 .aaload 1,
  q1 90 (.bipush (-9)) 2 (vI (-9)),
  q5 92 (.invokevirtual 220) 3 2 3 yX2_begin,
  q1 95 (.iconst 1) 1 (vI 1),
  q0 96 (.istore 6) 2,
  q0 98 (.iload 6) 2,
  q1 100 (.bipush 60) 2 (vI 60),
  q2 102 (.if_icmp .gt 58) 3 160,
  q0 105 (.aload_n 0) 1,
  q3 106 (.getfield 38) 3 (vI 2) 4 5,
  q0 109 (.iload_n 3) 1,
  q0 110 (.iload 4) 2,
  q1 112 (.iconst 1) 1 (vI 1),
  q5 113 (.invokevirtual 224) 3 2 4 yX2_passStage,
  q0 116 (.aload_n 0) 1,
  q3 117 (.getfield 42) 3 (vI 2) 4 6,
  q0 120 (.iload_n 3) 1,
  q0 121 (.iload 4) 2,
  q1 123 (.iconst 1) 1 (vI 1),
  q5 124 (.invokevirtual 224) 3 2 4 yX2_passStage,
  q0 127 (.aload_n 0) 1,
  q3 128 (.getfield 38) 3 (vI 2) 4 5,
  q3 131 (.getfield 227) 3 (vI 0) 2 5,
  q0 134 (.aload_n 0) 1,
  q3 135 (.getfield 42) 3 (vI 2) 4 6,
  q3 138 (.getfield 227) 3 (vI 0) 2 5,
  q0 141 (.iload 5) 2,
  q1 143 (.iconst 1) 1 (vI 1),
  q0 144 .isub 1,
  q5 145 (.invokestatic 206) 3 0 3 yX4_isWithin,
  q2 148 (.ifCond .ne 6) 3 154,
  q0 151 (.iload 6) 2,
  q0 153 .ireturn 1,
  q1 154 (.iinc 6 1) 3 (vI 1),
  q2 157 (.goto (-59)) 3 98,
  q1 160 (.bipush (-9)) 2 (vI (-9)),
  q0 162 .ireturn 1]
def iX4_beat : List IE := [
  q0 0 (.aload_n 0) 1,
  q0 1 (.iload_n 1) 1,
  q0 2 (.iload_n 2) 1,
  q5 3 (.invokevirtual 210) 3 4 3 yX4_areTwoFaults,
  q2 6 (.ifCond .eq 11) 3 17,
  q0 9 (.aload_n 0) 1,
  q0 10 (.iload_n 3) 1,
  q5 11 (.invokevirtual 86) 3 4 2 yX4_isGear,
  q2 14 (.ifCond .ne 9) 3 23,
  q0 17 (.aload_n 0) 1,
  q1 18 (.iconst (-1)) 1 (vI (-1)),
  q5 19 (.invokevirtual 62) 3 4 2 yX4_refuse,
  q0 22 .ireturn 1,
  q0 23 (.aload_n 0) 1,
  q3 24 (.getfield 38) 3 (vI 2) 4 5,
  q0 27 (.aload_n 0) 1,
  q3 28 (.getfield 19) 3 (vI 2) 4 1,
  q3 31 (.getfield 96) 3 (vI 2) 0 4,
  q0 34 (.iload_n 1) 1,
  q0 35 .aaload 1,
  q1 36 (.bipush (-9)) 2 (vI (-9)),
  q5 38 (.invokevirtual 220) 3 2 3 yX2_begin,
  q0 41 (.aload_n 0) 1,
  q3 42 (.getfield 42) 3 (vI 2) 4 6,
  q0 45 (.aload_n 0) 1,
  q3 46 (.getfield 19) 3 (vI 2) 4 1,
  q3 49 (.getfield 96) 3 (vI 2) 0 4,
  q0 52 (.iload_n 2) 1,
  q0 53 .aaload 1,
  q1 54 (.bipush (-9)) 2 (vI (-9)),
  q5 56 (.invokevirtual 220) 3 2 3 yX2_begin,
  q0 59 (.aload_n 0) 1,
  q3 60 (.getfield 38) 3 (vI 2) 4 5,
  q0 63 (.iload_n 3) 1,
  q5 64 (.invokevirtual 229) 3 2 2 yX2_shiftTo,
  q0 67 (.aload_n 0) 1,
  q3 68 (.getfield 42) 3 (vI 2) 4 6,
  q0 71 (.iload_n 3) 1,
  q5 72 (.invokevirtual 229) 3 2 2 yX2_shiftTo,
  q1 75 (.iconst 0) 1 (vI 0),
  q0 76 (.istore 4) 2,
  q0 78 (.iload 4) 2,
  q1 80 (.sipush 2000) 3 (vI 2000),
  q2 83 (.if_icmp .ge 36) 3 119,
  q0 86 (.aload_n 0) 1,
  q3 87 (.getfield 38) 3 (vI 2) 4 5,
  q0 90 (.iload 4) 2,
  q5 92 (.invokevirtual 232) 3 2 2 yX2_comesByIn,
  q2 95 (.ifCond .eq 18) 3 113,
  q0 98 (.aload_n 0) 1,
  q3 99 (.getfield 42) 3 (vI 2) 4 6,
  q0 102 (.iload 4) 2,
  q5 104 (.invokevirtual 232) 3 2 2 yX2_comesByIn,
  q2 107 (.ifCond .eq 6) 3 113,
  q0 110 (.iload 4) 2,
  q0 112 .ireturn 1,
  q1 113 (.iinc 4 1) 3 (vI 1),
  q2 116 (.goto (-38)) 3 78,
  q1 119 (.bipush (-9)) 2 (vI (-9)),
  q0 121 .ireturn 1]
def iX4_away : List IE := [
  q0 0 (.iload_n 1) 1,
  q2 1 (.ifCond .eq 15) 3 16,
  q0 4 (.iload_n 1) 1,
  q1 5 (.iconst 1) 1 (vI 1),
  q2 6 (.if_icmp .eq 10) 3 16,
  q0 9 (.aload_n 0) 1,
  q1 10 (.bipush (-2)) 2 (vI (-2)),
  q5 12 (.invokevirtual 62) 3 4 2 yX4_refuse,
  q0 15 .ireturn 1,
  q0 16 (.aload_n 0) 1,
  q3 17 (.getfield 19) 3 (vI 2) 4 1,
  q3 20 (.getfield 150) 3 (vI 0) 0 5,
  q2 23 (.ifCond .ne 10) 3 33,
  q0 26 (.aload_n 0) 1,
  q1 27 (.bipush (-3)) 2 (vI (-3)),
  q5 29 (.invokevirtual 62) 3 4 2 yX4_refuse,
  q0 32 .ireturn 1,
  q1 33 (.iconst 0) 1 (vI 0),
  q0 34 (.istore_n 2) 1,
  q1 35 (.iconst 0) 1 (vI 0),
  q0 36 (.istore_n 3) 1,
  q0 37 (.iload_n 3) 1,
  q0 38 (.aload_n 0) 1,
  q3 39 (.getfield 19) 3 (vI 2) 4 1,
  q3 42 (.getfield 150) 3 (vI 0) 0 5,
  q2 45 (.if_icmp .ge 44) 3 89,
  q0 48 (.iload_n 2) 1,
  q0 49 (.aload_n 0) 1,
  q3 50 (.getfield 19) 3 (vI 2) 4 1,
  q3 53 (.getfield 96) 3 (vI 2) 0 4,
  q0 56 (.iload_n 3) 1,
  q0 57 .aaload 1,
  q3 58 (.getfield 100) 3 (vI 0) 1 0,
  q1 61 (.iconst 5) 1 (vI 5),
  q2 62 (.if_icmp .ne 18) 3 80,
  q0 65 (.aload_n 0) 1,
  q3 66 (.getfield 19) 3 (vI 2) 4 1,
  q3 69 (.getfield 96) 3 (vI 2) 0 4,
  q0 72 (.iload_n 3) 1,
  q0 73 .aaload 1,
  q3 74 (.getfield 111) 3 (vI 0) 1 3,
  q2 77 (.goto 4) 3 81,
  q1 80 (.iconst 0) 1 (vI 0),
  q0 81 .iadd 1,
  q0 82 (.istore_n 2) 1,
  q1 83 (.iinc 3 1) 3 (vI 1),
  q2 86 (.goto (-49)) 3 37,
  q0 89 (.iload_n 2) 1,
  q0 90 (.aload_n 0) 1,
  q3 91 (.getfield 19) 3 (vI 2) 4 1,
  q1 94 (.iconst (-1)) 1 (vI (-1)),
  q5 95 (.invokevirtual 199) 3 0 2 yX0_weightOf,
  q0 98 (.iload_n 1) 1,
  q5 99 (.invokestatic 202) 3 0 3 yX4_leastTerm,
  q0 102 .ireturn 1]
def iX4_danger : List IE := [
  q0 0 (.aload_n 0) 1,
  q0 1 (.iload_n 1) 1,
  q5 2 (.invokevirtual 93) 3 4 2 yX4_isFault,
  q2 5 (.ifCond .ne 9) 3 14,
  q0 8 (.aload_n 0) 1,
  q1 9 (.iconst (-1)) 1 (vI (-1)),
  q5 10 (.invokevirtual 62) 3 4 2 yX4_refuse,
  q0 13 .ireturn 1,
  q0 14 (.aload_n 0) 1,
  q3 15 (.getfield 19) 3 (vI 2) 4 1,
  q3 18 (.getfield 96) 3 (vI 2) 0 4,
  q0 21 (.iload_n 1) 1,
  q0 22 .aaload 1,
  q0 23 (.astore_n 2) 1,
  q0 24 (.aload_n 2) 1,
  q3 25 (.getfield 100) 3 (vI 0) 1 0,
  q1 28 (.bipush 6) 2 (vI 6),
  q2 30 (.if_icmp .eq 10) 3 40,
  q0 33 (.aload_n 0) 1,
  q1 34 (.bipush (-3)) 2 (vI (-3)),
  q5 36 (.invokevirtual 62) 3 4 2 yX4_refuse,
  q0 39 .ireturn 1,
  q1 40 (.iconst 0) 1 (vI 0),
  q0 41 (.aload_n 2) 1,
  q3 42 (.getfield 108) 3 (vI 0) 1 2,
  q1 45 (.bipush 20) 2 (vI 20),
  q0 47 .imul 1,
  q0 48 (.aload_n 0) 1,
  q3 49 (.getfield 19) 3 (vI 2) 4 1,
  q3 52 (.getfield 120) 3 (vI 0) 0 7,
  q0 55 .isub 1,
  q5 56 (.invokestatic 235) 3 2 0 yz,
  q0 59 .ireturn 1]
def iX4_least : List IE := [
  q0 0 (.iload_n 1) 1,
  q1 1 (.iconst (-1)) 1 (vI (-1)),
  q2 2 (.if_icmp .ge 10) 3 12,
  q0 5 (.aload_n 0) 1,
  q1 6 (.bipush (-4)) 2 (vI (-4)),
  q5 8 (.invokevirtual 62) 3 4 2 yX4_refuse,
  q0 11 .ireturn 1,
  q0 12 (.aload_n 0) 1,
  q3 13 (.getfield 19) 3 (vI 2) 4 1,
  q3 16 (.getfield 150) 3 (vI 0) 0 5,
  q1 19 (.bipush 6) 2 (vI 6),
  q2 21 (.if_icmp .le 10) 3 31,
  q0 24 (.aload_n 0) 1,
  q1 25 (.bipush (-6)) 2 (vI (-6)),
  q5 27 (.invokevirtual 62) 3 4 2 yX4_refuse,
  q0 30 .ireturn 1,
  q0 31 (.iload_n 1) 1,
  q0 32 (.aload_n 0) 1,
  q3 33 (.getfield 19) 3 (vI 2) 4 1,
  q3 36 (.getfield 150) 3 (vI 0) 0 5,
  q2 39 (.if_icmp .lt 6) 3 45,
  q1 42 (.bipush (-9)) 2 (vI (-9)),
  q0 44 .ireturn 1,
  q0 45 (.aload_n 0) 1,
  q5 46 (.invokevirtual 240) 3 4 1 yX4_findLeastOrder,
  q0 49 (.iload_n 1) 1,
  q1 50 (.iconst (-1)) 1 (vI (-1)),
  q2 51 (.if_icmp .ne 14) 3 65,
  q0 54 (.aload_n 0) 1,
  q0 55 (.aload_n 0) 1,
  q3 56 (.getfield 49) 3 (vI 2) 4 8,
  q5 59 (.invokevirtual 243) 3 4 2 yX4_sumOf,
  q2 62 (.goto 9) 3 71,
  q0 65 (.aload_n 0) 1,
  q3 66 (.getfield 49) 3 (vI 2) 4 8,
  q0 69 (.iload_n 1) 1,
  q0 70 .iaload 1,
  q0 71 .ireturn 1]
def iX4_row : List IE := [
  q0 0 (.iload_n 1) 1,
  q2 1 (.ifCond .ge 10) 3 11,
  q0 4 (.aload_n 0) 1,
  q1 5 (.bipush (-4)) 2 (vI (-4)),
  q5 7 (.invokevirtual 62) 3 4 2 yX4_refuse,
  q0 10 .ireturn 1,
  q0 11 (.iload_n 1) 1,
  q1 12 (.sipush 32767) 3 (vI 32767),
  q2 15 (.if_icmp .gt 12) 3 27,
  q0 18 (.aload_n 0) 1,
  q3 19 (.getfield 55) 3 (vI 0) 4 10,
  q1 22 (.bipush 8) 2 (vI 8),
  q2 24 (.if_icmp .lt 10) 3 34,
  q0 27 (.aload_n 0) 1,
  q1 28 (.bipush (-6)) 2 (vI (-6)),
  q5 30 (.invokevirtual 62) 3 4 2 yX4_refuse,
  q0 33 .ireturn 1,
  q0 34 (.aload_n 0) 1,
  q3 35 (.getfield 52) 3 (vI 2) 4 9,
  q0 38 (.aload_n 0) 1,
  q3 39 (.getfield 55) 3 (vI 0) 4 10,
  q0 42 (.iload_n 1) 1,
  q0 43 .iastore 1,
  q0 44 (.aload_n 0) 1,
  q0 45 .dup 1,
  q3 46 (.getfield 55) 3 (vI 0) 4 10,
  q1 49 (.iconst 1) 1 (vI 1),
  q0 50 .iadd 1,
  q3 51 (.putfield 55) 3 (vI 0) 4 10,
  q0 54 (.aload_n 0) 1,
  q3 55 (.getfield 55) 3 (vI 0) 4 10,
  q0 58 .ireturn 1]
def iX4_judge : List IE := [
  q0 0 (.aload_n 0) 1,
  q3 1 (.getfield 55) 3 (vI 0) 4 10,
  q0 4 (.istore_n 1) 1,
  q0 5 (.aload_n 0) 1,
  q1 6 (.iconst 0) 1 (vI 0),
  q3 7 (.putfield 55) 3 (vI 0) 4 10,
  q0 10 (.aload_n 0) 1,
  q5 11 (.invokevirtual 179) 3 4 1 yX4_listenToRide,
  q0 14 (.iload_n 1) 1,
  q0 15 (.aload_n 0) 1,
  q3 16 (.getfield 19) 3 (vI 2) 4 1,
  q3 19 (.getfield 150) 3 (vI 0) 0 5,
  q5 22 (.invokestatic 247) 3 3 0 yz,
  q0 25 (.istore_n 2) 1,
  q1 26 (.iconst 0) 1 (vI 0),
  q0 27 (.istore_n 3) 1,
  q0 28 (.iload_n 3) 1,
  q0 29 (.iload_n 2) 1,
  q2 30 (.if_icmp .ge 26) 3 56,
  q0 33 (.aload_n 0) 1,
  q3 34 (.getfield 52) 3 (vI 2) 4 9,
  q0 37 (.iload_n 3) 1,
  q0 38 .iaload 1,
  q0 39 (.aload_n 0) 1,
  q3 40 (.getfield 45) 3 (vI 2) 4 7,
  q0 43 (.iload_n 3) 1,
  q0 44 .iaload 1,
  q2 45 (.if_icmp .eq 5) 3 50,
  q0 48 (.iload_n 3) 1,
  q0 49 .ireturn 1,
  q1 50 (.iinc 3 1) 3 (vI 1),
  q2 53 (.goto (-25)) 3 28,
  q0 56 (.iload_n 1) 1,
  q0 57 (.aload_n 0) 1,
  q3 58 (.getfield 19) 3 (vI 2) 4 1,
  q3 61 (.getfield 150) 3 (vI 0) 0 5,
  q2 64 (.if_icmp .ne 8) 3 72,
  q1 67 (.bipush (-9)) 2 (vI (-9)),
  q2 69 (.goto 4) 3 73,
  q0 72 (.iload_n 2) 1,
  q0 73 .ireturn 1]
def iX4_held : List IE := [
  q0 0 (.aload_n 0) 1,
  q5 1 (.invokevirtual 250) 3 4 1 yX4_isToldEachFaultOnce,
  q2 4 (.ifCond .ne 10) 3 14,
  q0 7 (.aload_n 0) 1,
  q1 8 (.bipush (-3)) 2 (vI (-3)),
  q5 10 (.invokevirtual 62) 3 4 2 yX4_refuse,
  q0 13 .ireturn 1,
  q0 14 (.aload_n 0) 1,
  q3 15 (.getfield 19) 3 (vI 2) 4 1,
  q3 18 (.getfield 150) 3 (vI 0) 0 5,
  q1 21 (.bipush 6) 2 (vI 6),
  q2 23 (.if_icmp .le 10) 3 33,
  q0 26 (.aload_n 0) 1,
  q1 27 (.bipush (-6)) 2 (vI (-6)),
  q5 29 (.invokevirtual 62) 3 4 2 yX4_refuse,
  q0 32 .ireturn 1,
  q0 33 (.aload_n 0) 1,
  q5 34 (.invokevirtual 240) 3 4 1 yX4_findLeastOrder,
  q0 37 (.aload_n 0) 1,
  q1 38 (.iconst 0) 1 (vI 0),
  q3 39 (.putfield 55) 3 (vI 0) 4 10,
  q0 42 (.aload_n 0) 1,
  q0 43 (.aload_n 0) 1,
  q3 44 (.getfield 52) 3 (vI 2) 4 9,
  q5 47 (.invokevirtual 243) 3 4 2 yX4_sumOf,
  q0 50 (.aload_n 0) 1,
  q0 51 (.aload_n 0) 1,
  q3 52 (.getfield 49) 3 (vI 2) 4 8,
  q5 55 (.invokevirtual 243) 3 4 2 yX4_sumOf,
  q0 58 .isub 1,
  q0 59 .ireturn 1]
def iX4_image : List IE := [
  q0 0 (.aload_n 0) 1,
  q3 1 (.getfield 26) 3 (vI 2) 4 3,
  q0 4 (.aload_n 0) 1,
  q3 5 (.getfield 19) 3 (vI 2) 4 1,
  q5 8 (.invokevirtual 254) 3 0 2 yX0_copyFrom,
  q0 11 (.aload_n 0) 1,
  q1 12 (.iconst 1) 1 (vI 1),
  q3 13 (.putfield 29) 3 (vI 1) 4 4,
  q0 16 (.aload_n 0) 1,
  q3 17 (.getfield 26) 3 (vI 2) 4 3,
  q3 20 (.getfield 150) 3 (vI 0) 0 5,
  q0 23 .ireturn 1]
def iX4_on : List IE := [
  q0 0 (.aload_n 0) 1,
  q3 1 (.getfield 29) 3 (vI 1) 4 4,
  q2 4 (.ifCond .ne 10) 3 14,
  q0 7 (.aload_n 0) 1,
  q1 8 (.bipush (-3)) 2 (vI (-3)),
  q5 10 (.invokevirtual 62) 3 4 2 yX4_refuse,
  q0 13 .ireturn 1,
  q0 14 (.aload_n 0) 1,
  q3 15 (.getfield 19) 3 (vI 2) 4 1,
  q0 18 (.aload_n 0) 1,
  q3 19 (.getfield 26) 3 (vI 2) 4 3,
  q5 22 (.invokevirtual 254) 3 0 2 yX0_copyFrom,
  q0 25 (.aload_n 0) 1,
  q3 26 (.getfield 19) 3 (vI 2) 4 1,
  q3 29 (.getfield 150) 3 (vI 0) 0 5,
  q0 32 .ireturn 1]
def iX4_count : List IE := [
  q0 0 (.iload_n 1) 1,
  q1 1 (.bipush 11) 2 (vI 11),
  q2 3 (.if_icmp .lt 19) 3 22,
  q0 6 (.iload_n 1) 1,
  q1 7 (.bipush 16) 2 (vI 16),
  q2 9 (.if_icmp .gt 13) 3 22,
  q0 12 (.aload_n 0) 1,
  q3 13 (.getfield 59) 3 (vI 2) 4 11,
  q0 16 (.iload_n 1) 1,
  q1 17 (.bipush 10) 2 (vI 10),
  q0 19 .isub 1,
  q0 20 .iaload 1,
  q0 21 .ireturn 1,
  q0 22 (.iload_n 1) 1,
  q4 23 (.tableswitch 130 0 7 #[45, 53, 61, 69, 77, 108, 116, 121]) 45 153 [(0, 68), (1, 76), (2, 84), (3, 92), (4, 100), (5, 131), (6, 139), (7, 144)],
  q0 68 (.aload_n 0) 1,
  q3 69 (.getfield 19) 3 (vI 2) 4 1,
  q3 72 (.getfield 150) 3 (vI 0) 0 5,
  q0 75 .ireturn 1,
  q0 76 (.aload_n 0) 1,
  q3 77 (.getfield 19) 3 (vI 2) 4 1,
  q3 80 (.getfield 214) 3 (vI 0) 0 3,
  q0 83 .ireturn 1,
  q0 84 (.aload_n 0) 1,
  q3 85 (.getfield 19) 3 (vI 2) 4 1,
  q3 88 (.getfield 153) 3 (vI 0) 0 12,
  q0 91 .ireturn 1,
  q0 92 (.aload_n 0) 1,
  q3 93 (.getfield 19) 3 (vI 2) 4 1,
  q3 96 (.getfield 120) 3 (vI 0) 0 7,
  q0 99 .ireturn 1,
  q0 100 (.aload_n 0) 1,
  q3 101 (.getfield 19) 3 (vI 2) 4 1,
  q5 104 (.invokevirtual 256) 3 0 1 yX0_wasOiled,
  q2 107 (.ifCond .eq 21) 3 128,
  q0 110 (.aload_n 0) 1,
  q3 111 (.getfield 19) 3 (vI 2) 4 1,
  q3 114 (.getfield 120) 3 (vI 0) 0 7,
  q0 117 (.aload_n 0) 1,
  q3 118 (.getfield 19) 3 (vI 2) 4 1,
  q3 121 (.getfield 147) 3 (vI 0) 0 8,
  q0 124 .isub 1,
  q2 125 (.goto 5) 3 130,
  q1 128 (.bipush (-9)) 2 (vI (-9)),
  q0 130 .ireturn 1,
  q0 131 (.aload_n 0) 1,
  q3 132 (.getfield 10) 3 (vI 2) 4 0,
  q3 135 (.getfield 66) 3 (vI 0) 3 1,
  q0 138 .ireturn 1,
  q0 139 (.aload_n 0) 1,
  q3 140 (.getfield 55) 3 (vI 0) 4 10,
  q0 143 .ireturn 1,
  q0 144 (.aload_n 0) 1,
  q3 145 (.getfield 19) 3 (vI 2) 4 1,
  q1 148 (.iconst (-1)) 1 (vI (-1)),
  q5 149 (.invokevirtual 199) 3 0 2 yX0_weightOf,
  q0 152 .ireturn 1,
  q1 153 (.bipush (-9)) 2 (vI (-9)),
  q0 155 .ireturn 1]
def iX4_refuse : List IE := [
  q0 0 (.iload_n 1) 1,
  q0 1 .ineg 1,
  q0 2 (.istore_n 2) 1,
  q0 3 (.iload_n 2) 1,
  q2 4 (.ifCond .le 22) 3 26,
  q0 7 (.iload_n 2) 1,
  q0 8 (.aload_n 0) 1,
  q3 9 (.getfield 59) 3 (vI 2) 4 11,
  q0 12 .arraylength 1,
  q2 13 (.if_icmp .ge 13) 3 26,
  q0 16 (.aload_n 0) 1,
  q3 17 (.getfield 59) 3 (vI 2) 4 11,
  q0 20 (.iload_n 2) 1,
  q0 21 .dup2 1,
  q0 22 .iaload 1,
  q1 23 (.iconst 1) 1 (vI 1),
  q0 24 .iadd 1,
  q0 25 .iastore 1,
  q0 26 (.iload_n 1) 1,
  q0 27 .ireturn 1]
def iX4_isFault : List IE := [
  q0 0 (.iload_n 1) 1,
  q2 1 (.ifCond .lt 18) 3 19,
  q0 4 (.iload_n 1) 1,
  q0 5 (.aload_n 0) 1,
  q3 6 (.getfield 19) 3 (vI 2) 4 1,
  q3 9 (.getfield 150) 3 (vI 0) 0 5,
  q2 12 (.if_icmp .ge 7) 3 19,
  q1 15 (.iconst 1) 1 (vI 1),
  q2 16 (.goto 4) 3 20,
  q1 19 (.iconst 0) 1 (vI 0),
  q0 20 .ireturn 1]
def iX4_areTwoFaults : List IE := [
  q0 0 (.aload_n 0) 1,
  q0 1 (.iload_n 1) 1,
  q5 2 (.invokevirtual 93) 3 4 2 yX4_isFault,
  q2 5 (.ifCond .eq 20) 3 25,
  q0 8 (.aload_n 0) 1,
  q0 9 (.iload_n 2) 1,
  q5 10 (.invokevirtual 93) 3 4 2 yX4_isFault,
  q2 13 (.ifCond .eq 12) 3 25,
  q0 16 (.iload_n 1) 1,
  q0 17 (.iload_n 2) 1,
  q2 18 (.if_icmp .eq 7) 3 25,
  q1 21 (.iconst 1) 1 (vI 1),
  q2 22 (.goto 4) 3 26,
  q1 25 (.iconst 0) 1 (vI 0),
  q0 26 .ireturn 1]
def iX4_isGear : List IE := [
  q0 0 (.iload_n 1) 1,
  q2 1 (.ifCond .lt 18) 3 19,
  q0 4 (.iload_n 1) 1,
  q0 5 (.aload_n 0) 1,
  q3 6 (.getfield 19) 3 (vI 2) 4 1,
  q3 9 (.getfield 214) 3 (vI 0) 0 3,
  q2 12 (.if_icmp .ge 7) 3 19,
  q1 15 (.iconst 1) 1 (vI 1),
  q2 16 (.goto 4) 3 20,
  q1 19 (.iconst 0) 1 (vI 0),
  q0 20 .ireturn 1]
def iX4_isAct : List IE := [
  q0 0 (.iload_n 0) 1,
  q2 1 (.ifCond .lt 13) 3 14,
  q0 4 (.iload_n 0) 1,
  q1 5 (.bipush 6) 2 (vI 6),
  q2 7 (.if_icmp .ge 7) 3 14,
  q1 10 (.iconst 1) 1 (vI 1),
  q2 11 (.goto 4) 3 15,
  q1 14 (.iconst 0) 1 (vI 0),
  q0 15 .ireturn 1]
def iX4_isWithin : List IE := [
  q0 0 (.iload_n 0) 1,
  q0 1 (.iload_n 1) 1,
  q0 2 .isub 1,
  q5 3 (.invokestatic 259) 3 1 0 yz,
  q0 6 (.iload_n 2) 1,
  q2 7 (.if_icmp .gt 7) 3 14,
  q1 10 (.iconst 1) 1 (vI 1),
  q2 11 (.goto 4) 3 15,
  q1 14 (.iconst 0) 1 (vI 0),
  q0 15 .ireturn 1]
def iX4_takeStatements : List IE := [
  q0 0 (.aload_n 0) 1,
  q3 1 (.getfield 23) 3 (vI 2) 4 2,
  q0 4 (.aload_n 0) 1,
  q3 5 (.getfield 19) 3 (vI 2) 4 1,
  q5 8 (.invokevirtual 254) 3 0 2 yX0_copyFrom,
  q0 11 (.aload_n 0) 1,
  q3 12 (.getfield 10) 3 (vI 2) 4 0,
  q1 15 (.iconst 0) 1 (vI 0),
  q3 16 (.putfield 262) 3 (vI 0) 3 2,
  q1 19 (.iconst 0) 1 (vI 0),
  q0 20 (.istore_n 2) 1,
  q0 21 (.iload_n 2) 1,
  q0 22 (.iload_n 1) 1,
  q2 23 (.if_icmp .ge 47) 3 70,
  q0 26 (.aload_n 0) 1,
  q3 27 (.getfield 10) 3 (vI 2) 4 0,
  q3 30 (.getfield 262) 3 (vI 0) 3 2,
  q0 33 (.istore_n 3) 1,
  q0 34 (.aload_n 0) 1,
  q3 35 (.getfield 10) 3 (vI 2) 4 0,
  q5 38 (.invokevirtual 263) 3 3 1 yX3_readStatement,
  q2 41 (.ifCond .eq 17) 3 58,
  q0 44 (.aload_n 0) 1,
  q3 45 (.getfield 23) 3 (vI 2) 4 2,
  q0 48 (.aload_n 0) 1,
  q3 49 (.getfield 10) 3 (vI 2) 4 0,
  q5 52 (.invokevirtual 266) 3 0 2 yX0_takeStatement,
  q2 55 (.ifCond .ne 9) 3 64,
  q1 58 (.sipush (-2000)) 3 (vI (-2000)),
  q0 61 (.iload_n 3) 1,
  q0 62 .isub 1,
  q0 63 .ireturn 1,
  q1 64 (.iinc 2 1) 3 (vI 1),
  q2 67 (.goto (-46)) 3 21,
  q0 70 (.aload_n 0) 1,
  q3 71 (.getfield 19) 3 (vI 2) 4 1,
  q0 74 (.aload_n 0) 1,
  q3 75 (.getfield 23) 3 (vI 2) 4 2,
  q5 78 (.invokevirtual 254) 3 0 2 yX0_copyFrom,
  q0 81 (.iload_n 1) 1,
  q0 82 .ireturn 1]
def iX4_clicksInStage : List IE := [
  q0 0 (.aload_n 0) 1,
  q3 1 (.getfield 38) 3 (vI 2) 4 5,
  q0 4 (.aload_n 0) 1,
  q3 5 (.getfield 19) 3 (vI 2) 4 1,
  q3 8 (.getfield 96) 3 (vI 2) 0 4,
  q0 11 (.iload_n 1) 1,
  q0 12 .aaload 1,
  q1 13 (.bipush (-9)) 2 (vI (-9)),
  q5 15 (.invokevirtual 220) 3 2 3 yX2_begin,
  q0 18 (.aload_n 0) 1,
  q3 19 (.getfield 38) 3 (vI 2) 4 5,
  q0 22 (.iload_n 2) 1,
  q0 23 (.iload_n 3) 1,
  q0 24 (.iload 4) 2,
  q5 26 (.invokevirtual 224) 3 2 4 yX2_passStage,
  q0 29 (.aload_n 0) 1,
  q3 30 (.getfield 38) 3 (vI 2) 4 5,
  q3 33 (.getfield 227) 3 (vI 0) 2 5,
  q0 36 .ireturn 1]
def iX4_listenToRide : List IE := [
  q1 0 (.iconst 0) 1 (vI 0),
  q0 1 (.istore_n 1) 1,
  q0 2 (.iload_n 1) 1,
  q0 3 (.aload_n 0) 1,
  q3 4 (.getfield 19) 3 (vI 2) 4 1,
  q3 7 (.getfield 150) 3 (vI 0) 0 5,
  q2 10 (.if_icmp .ge 33) 3 43,
  q0 13 (.aload_n 0) 1,
  q3 14 (.getfield 45) 3 (vI 2) 4 7,
  q0 17 (.iload_n 1) 1,
  q0 18 (.aload_n 0) 1,
  q3 19 (.getfield 38) 3 (vI 2) 4 5,
  q0 22 (.aload_n 0) 1,
  q3 23 (.getfield 19) 3 (vI 2) 4 1,
  q3 26 (.getfield 96) 3 (vI 2) 0 4,
  q0 29 (.iload_n 1) 1,
  q0 30 .aaload 1,
  q1 31 (.bipush (-9)) 2 (vI (-9)),
  q5 33 (.invokevirtual 169) 3 2 3 yX2_passRide,
  q0 36 .iastore 1,
  q1 37 (.iinc 1 1) 3 (vI 1),
  q2 40 (.goto (-38)) 3 2,
  q0 43 .return_ 1]
def iX4_fittingBits : List IE := [
  q0 0 (.aload_n 0) 1,
  q5 1 (.invokevirtual 179) 3 4 1 yX4_listenToRide,
  q1 4 (.iconst 0) 1 (vI 0),
  q0 5 (.istore_n 3) 1,
  q1 6 (.iconst 0) 1 (vI 0),
  q0 7 (.istore 4) 2,
  q0 9 (.iload 4) 2,
  q0 11 (.aload_n 0) 1,
  q3 12 (.getfield 19) 3 (vI 2) 4 1,
  q3 15 (.getfield 150) 3 (vI 0) 0 5,
  q2 18 (.if_icmp .ge 31) 3 49,
  q0 21 (.aload_n 0) 1,
  q3 22 (.getfield 45) 3 (vI 2) 4 7,
  q0 25 (.iload 4) 2,
  q0 27 .iaload 1,
  q0 28 (.iload_n 1) 1,
  q0 29 (.iload_n 2) 1,
  q5 30 (.invokestatic 206) 3 0 3 yX4_isWithin,
  q2 33 (.ifCond .eq 10) 3 43,
  q0 36 (.iload_n 3) 1,
  q1 37 (.iconst 1) 1 (vI 1),
  q0 38 (.iload 4) 2,
  q0 40 .ishl 1,
  q0 41 .ior 1,
  q0 42 (.istore_n 3) 1,
  q1 43 (.iinc 4 1) 3 (vI 1),
  q2 46 (.goto (-37)) 3 9,
  q0 49 (.iload_n 3) 1,
  q0 50 .ireturn 1]
def iX4_unlikeCounts : List IE := [
  q1 0 (.iconst 0) 1 (vI 0),
  q0 1 (.istore 4) 2,
  q1 3 (.iconst 0) 1 (vI 0),
  q0 4 (.istore 5) 2,
  q0 6 (.iload 5) 2,
  q0 8 (.aload_n 0) 1,
  q3 9 (.getfield 19) 3 (vI 2) 4 1,
  q3 12 (.getfield 150) 3 (vI 0) 0 5,
  q2 15 (.if_icmp .ge 88) 3 103,
  q0 18 (.aload_n 0) 1,
  q3 19 (.getfield 45) 3 (vI 2) 4 7,
  q0 22 (.iload 5) 2,
  q0 24 (.aload_n 0) 1,
  q0 25 (.iload 5) 2,
  q0 27 (.iload_n 1) 1,
  q0 28 (.iload_n 2) 1,
  q0 29 (.iload_n 3) 1,
  q5 30 (.invokevirtual 172) 3 4 5 yX4_clicksInStage,
  q0 33 .iastore 1,
  q1 34 (.iconst 1) 1 (vI 1),
  q0 35 (.istore 6) 2,
  q1 37 (.iconst 0) 1 (vI 0),
  q0 38 (.istore 7) 2,
  q0 40 (.iload 7) 2,
  q0 42 (.iload 5) 2,
  q2 44 (.if_icmp .ge 38) 3 82,
  q0 47 (.iload 6) 2,
  q2 49 (.ifCond .eq 24) 3 73,
  q0 52 (.aload_n 0) 1,
  q3 53 (.getfield 45) 3 (vI 2) 4 7,
  q0 56 (.iload 7) 2,
  q0 58 .iaload 1,
  q0 59 (.aload_n 0) 1,
  q3 60 (.getfield 45) 3 (vI 2) 4 7,
  q0 63 (.iload 5) 2,
  q0 65 .iaload 1,
  q2 66 (.if_icmp .eq 7) 3 73,
  q1 69 (.iconst 1) 1 (vI 1),
  q2 70 (.goto 4) 3 74,
  q1 73 (.iconst 0) 1 (vI 0),
  q0 74 (.istore 6) 2,
  q1 76 (.iinc 7 1) 3 (vI 1),
  q2 79 (.goto (-39)) 3 40,
  q0 82 (.iload 4) 2,
  q0 84 (.iload 6) 2,
  q2 86 (.ifCond .eq 7) 3 93,
  q1 89 (.iconst 1) 1 (vI 1),
  q2 90 (.goto 4) 3 94,
  q1 93 (.iconst 0) 1 (vI 0),
  q0 94 .iadd 1,
  q0 95 (.istore 4) 2,
  q1 97 (.iinc 5 1) 3 (vI 1),
  q2 100 (.goto (-94)) 3 6,
  q0 103 (.iload 4) 2,
  q0 105 .ireturn 1]
def iX4_leastTerm : List IE := [
  q0 0 (.iload_n 2) 1,
  q2 1 (.ifCond .ne 7) 3 8,
  q0 4 (.iload_n 0) 1,
  q2 5 (.goto 4) 3 9,
  q0 8 (.iload_n 1) 1,
  q0 9 (.istore_n 3) 1,
  q0 10 (.iload_n 1) 1,
  q0 11 (.istore 4) 2,
  q0 13 (.iload 4) 2,
  q1 15 (.iconst 1) 1 (vI 1),
  q2 16 (.if_icmp .le 28) 3 44,
  q0 19 (.iload_n 0) 1,
  q0 20 (.iload 4) 2,
  q0 22 .irem 1,
  q2 23 (.ifCond .ne 15) 3 38,
  q0 26 (.iload_n 1) 1,
  q0 27 (.iload 4) 2,
  q0 29 .irem 1,
  q2 30 (.ifCond .ne 8) 3 38,
  q0 33 (.iload_n 3) 1,
  q0 34 (.iload 4) 2,
  q0 36 .idiv 1,
  q0 37 .ireturn 1,
  q1 38 (.iinc 4 (-1)) 3 (vI (-1)),
  q2 41 (.goto (-28)) 3 13,
  q0 44 (.iload_n 3) 1,
  q0 45 .ireturn 1]
def iX4_wrap : List IE := [
  q0 0 (.iload_n 1) 1,
  q1 1 (.iconst 1) 1 (vI 1),
  q2 2 (.if_icmp .ge 5) 3 7,
  q1 5 (.iconst 0) 1 (vI 0),
  q0 6 .ireturn 1,
  q0 7 (.iload_n 0) 1,
  q0 8 (.iload_n 1) 1,
  q0 9 .irem 1,
  q0 10 (.istore_n 2) 1,
  q0 11 (.iload_n 2) 1,
  q2 12 (.ifCond .ge 9) 3 21,
  q0 15 (.iload_n 2) 1,
  q0 16 (.iload_n 1) 1,
  q0 17 .iadd 1,
  q2 18 (.goto 4) 3 22,
  q0 21 (.iload_n 2) 1,
  q0 22 .ireturn 1]
def iX4_findLeastOrder : List IE := [
  q1 0 (.iconst 0) 1 (vI 0),
  q0 1 (.istore_n 1) 1,
  q0 2 (.iload_n 1) 1,
  q0 3 (.aload_n 0) 1,
  q3 4 (.getfield 19) 3 (vI 2) 4 1,
  q3 7 (.getfield 150) 3 (vI 0) 0 5,
  q2 10 (.if_icmp .ge 73) 3 83,
  q0 13 (.iload_n 1) 1,
  q0 14 (.istore_n 2) 1,
  q0 15 (.iload_n 2) 1,
  q2 16 (.ifCond .le 54) 3 70,
  q0 19 (.aload_n 0) 1,
  q3 20 (.getfield 19) 3 (vI 2) 4 1,
  q3 23 (.getfield 96) 3 (vI 2) 0 4,
  q0 26 (.iload_n 1) 1,
  q0 27 .aaload 1,
  q0 28 (.aload_n 0) 1,
  q3 29 (.getfield 19) 3 (vI 2) 4 1,
  q3 32 (.getfield 96) 3 (vI 2) 0 4,
  q0 35 (.aload_n 0) 1,
  q3 36 (.getfield 49) 3 (vI 2) 4 8,
  q0 39 (.iload_n 2) 1,
  q1 40 (.iconst 1) 1 (vI 1),
  q0 41 .isub 1,
  q0 42 .iaload 1,
  q0 43 .aaload 1,
  q5 44 (.invokevirtual 270) 3 1 2 yX1_goesAheadOf,
  q2 47 (.ifCond .eq 23) 3 70,
  q0 50 (.aload_n 0) 1,
  q3 51 (.getfield 49) 3 (vI 2) 4 8,
  q0 54 (.iload_n 2) 1,
  q0 55 (.aload_n 0) 1,
  q3 56 (.getfield 49) 3 (vI 2) 4 8,
  q0 59 (.iload_n 2) 1,
  q1 60 (.iconst 1) 1 (vI 1),
  q0 61 .isub 1,
  q0 62 .iaload 1,
  q0 63 .iastore 1,
  q1 64 (.iinc 2 (-1)) 3 (vI (-1)),
  q2 67 (.goto (-52)) 3 15,
  q0 70 (.aload_n 0) 1,
  q3 71 (.getfield 49) 3 (vI 2) 4 8,
  q0 74 (.iload_n 2) 1,
  q0 75 (.iload_n 1) 1,
  q0 76 .iastore 1,
  q1 77 (.iinc 1 1) 3 (vI 1),
  q2 80 (.goto (-78)) 3 2,
  q0 83 .return_ 1]
def iX4_sumOf : List IE := [
  q1 0 (.iconst 0) 1 (vI 0),
  q0 1 (.istore_n 2) 1,
  q1 2 (.iconst 0) 1 (vI 0),
  q0 3 (.istore_n 3) 1,
  q1 4 (.iconst 0) 1 (vI 0),
  q0 5 (.istore 4) 2,
  q0 7 (.iload 4) 2,
  q0 9 (.aload_n 0) 1,
  q3 10 (.getfield 19) 3 (vI 2) 4 1,
  q3 13 (.getfield 150) 3 (vI 0) 0 5,
  q2 16 (.if_icmp .ge 41) 3 57,
  q0 19 (.aload_n 0) 1,
  q3 20 (.getfield 19) 3 (vI 2) 4 1,
  q3 23 (.getfield 96) 3 (vI 2) 0 4,
  q0 26 (.aload_n 1) 1,
  q0 27 (.iload 4) 2,
  q0 29 .iaload 1,
  q0 30 .aaload 1,
  q0 31 (.astore 5) 2,
  q0 33 (.iload_n 3) 1,
  q0 34 (.aload 5) 2,
  q3 36 (.getfield 114) 3 (vI 0) 1 4,
  q0 39 .iadd 1,
  q0 40 (.istore_n 3) 1,
  q0 41 (.iload_n 2) 1,
  q0 42 (.aload 5) 2,
  q3 44 (.getfield 111) 3 (vI 0) 1 3,
  q0 47 (.iload_n 3) 1,
  q0 48 .imul 1,
  q0 49 .iadd 1,
  q0 50 (.istore_n 2) 1,
  q1 51 (.iinc 4 1) 3 (vI 1),
  q2 54 (.goto (-47)) 3 7,
  q0 57 (.iload_n 2) 1,
  q0 58 .ireturn 1]
def iX4_isToldEachFaultOnce : List IE := [
  q0 0 (.aload_n 0) 1,
  q3 1 (.getfield 55) 3 (vI 0) 4 10,
  q0 4 (.aload_n 0) 1,
  q3 5 (.getfield 19) 3 (vI 2) 4 1,
  q3 8 (.getfield 150) 3 (vI 0) 0 5,
  q2 11 (.if_icmp .eq 5) 3 16,
  q1 14 (.iconst 0) 1 (vI 0),
  q0 15 .ireturn 1,
  q1 16 (.iconst 0) 1 (vI 0),
  q0 17 (.istore_n 1) 1,
  q1 18 (.iconst 0) 1 (vI 0),
  q0 19 (.istore_n 2) 1,
  q0 20 (.iload_n 2) 1,
  q0 21 (.aload_n 0) 1,
  q3 22 (.getfield 55) 3 (vI 0) 4 10,
  q2 25 (.if_icmp .ge 48) 3 73,
  q0 28 (.aload_n 0) 1,
  q0 29 (.aload_n 0) 1,
  q3 30 (.getfield 52) 3 (vI 2) 4 9,
  q0 33 (.iload_n 2) 1,
  q0 34 .iaload 1,
  q5 35 (.invokevirtual 93) 3 4 2 yX4_isFault,
  q2 38 (.ifCond .eq 16) 3 54,
  q0 41 (.iload_n 1) 1,
  q0 42 (.aload_n 0) 1,
  q3 43 (.getfield 52) 3 (vI 2) 4 9,
  q0 46 (.iload_n 2) 1,
  q0 47 .iaload 1,
  q0 48 .ishr 1,
  q1 49 (.iconst 1) 1 (vI 1),
  q0 50 .iand 1,
  q2 51 (.ifCond .eq 5) 3 56,
  q1 54 (.iconst 0) 1 (vI 0),
  q0 55 .ireturn 1,
  q0 56 (.iload_n 1) 1,
  q1 57 (.iconst 1) 1 (vI 1),
  q0 58 (.aload_n 0) 1,
  q3 59 (.getfield 52) 3 (vI 2) 4 9,
  q0 62 (.iload_n 2) 1,
  q0 63 .iaload 1,
  q0 64 .ishl 1,
  q0 65 .ior 1,
  q0 66 (.istore_n 1) 1,
  q1 67 (.iinc 2 1) 3 (vI 1),
  q2 70 (.goto (-50)) 3 20,
  q1 73 (.iconst 1) 1 (vI 1),
  q0 74 .ireturn 1]
def iX5_init : List IE := [
  q0 0 (.aload_n 0) 1,
  q5 1 (.invokespecial 1) 3 6 0 yz,
  q0 4 (.aload_n 0) 1,
  q1 5 (.bipush 7) 2 (vI 7),
  q0 7 (.newarray .int) 2,
  q3 9 (.putfield 7) 3 (vI 2) 5 0,
  q0 12 (.aload_n 0) 1,
  q1 13 (.bipush 112) 2 (vI 112),
  q0 15 (.newarray .int) 2,
  q3 17 (.putfield 13) 3 (vI 2) 5 1,
  q0 20 (.aload_n 0) 1,
  q1 21 (.bipush 112) 2 (vI 112),
  q0 23 (.newarray .int) 2,
  q3 25 (.putfield 16) 3 (vI 2) 5 2,
  q0 28 (.aload_n 0) 1,
  q1 29 (.bipush 112) 2 (vI 112),
  q0 31 (.newarray .int) 2,
  q3 33 (.putfield 19) 3 (vI 2) 5 3,
  q0 36 (.aload_n 0) 1,
  q1 37 (.bipush 64) 2 (vI 64),
  q0 39 (.newarray .int) 2,
  q3 41 (.putfield 22) 3 (vI 2) 5 5,
  q0 44 (.aload_n 0) 1,
  q1 45 (.bipush 7) 2 (vI 7),
  q0 47 (.newarray .int) 2,
  q3 49 (.putfield 25) 3 (vI 2) 5 6,
  q0 52 (.aload_n 0) 1,
  q1 53 (.bipush 8) 2 (vI 8),
  q0 55 (.newarray .int) 2,
  q3 57 (.putfield 28) 3 (vI 2) 5 9,
  q0 60 (.aload_n 0) 1,
  q1 61 (.bipush 8) 2 (vI 8),
  q0 63 (.newarray .int) 2,
  q3 65 (.putfield 31) 3 (vI 2) 5 10,
  q0 68 (.aload_n 0) 1,
  q1 69 (.bipush 8) 2 (vI 8),
  q0 71 (.newarray .int) 2,
  q3 73 (.putfield 34) 3 (vI 2) 5 11,
  q0 76 (.aload_n 0) 1,
  q1 77 (.bipush 8) 2 (vI 8),
  q0 79 (.newarray .int) 2,
  q3 81 (.putfield 37) 3 (vI 2) 5 20,
  q0 84 (.aload_n 0) 1,
  q1 85 (.bipush 8) 2 (vI 8),
  q0 87 (.newarray .int) 2,
  q3 89 (.putfield 40) 3 (vI 2) 5 21,
  q0 92 (.aload_n 0) 1,
  q1 93 (.bipush 8) 2 (vI 8),
  q0 95 (.newarray .int) 2,
  q3 97 (.putfield 43) 3 (vI 2) 5 23,
  q0 100 (.aload_n 0) 1,
  q3 101 (.getfield 13) 3 (vI 2) 5 1,
  q1 104 (.iconst 0) 1 (vI 0),
  q1 105 (.bipush 44) 2 (vI 44),
  q0 107 .iastore 1,
  q0 108 (.aload_n 0) 1,
  q3 109 (.getfield 13) 3 (vI 2) 5 1,
  q1 112 (.iconst 1) 1 (vI 1),
  q1 113 (.bipush 108) 2 (vI 108),
  q0 115 .iastore 1,
  q0 116 (.aload_n 0) 1,
  q3 117 (.getfield 13) 3 (vI 2) 5 1,
  q1 120 (.bipush 6) 2 (vI 6),
  q1 122 (.bipush (-9)) 2 (vI (-9)),
  q0 124 .iastore 1,
  q0 125 (.aload_n 0) 1,
  q3 126 (.getfield 13) 3 (vI 2) 5 1,
  q1 129 (.bipush 10) 2 (vI 10),
  q1 131 (.bipush 30) 2 (vI 30),
  q0 133 .iastore 1,
  q0 134 .return_ 1]
def iX5_refuse : List IE := [
  q0 0 (.aload_n 0) 1,
  q3 1 (.getfield 7) 3 (vI 2) 5 0,
  q0 4 (.iload_n 1) 1,
  q0 5 .ineg 1,
  q0 6 .dup2 1,
  q0 7 .iaload 1,
  q1 8 (.iconst 1) 1 (vI 1),
  q0 9 .iadd 1,
  q0 10 .iastore 1,
  q0 11 (.iload_n 1) 1,
  q0 12 .ireturn 1]
def iX5_isIn : List IE := [
  q0 0 (.iload_n 0) 1,
  q2 1 (.ifCond .lt 12) 3 13,
  q0 4 (.iload_n 0) 1,
  q0 5 (.iload_n 1) 1,
  q2 6 (.if_icmp .ge 7) 3 13,
  q1 9 (.iconst 1) 1 (vI 1),
  q2 10 (.goto 4) 3 14,
  q1 13 (.iconst 0) 1 (vI 0),
  q0 14 .ireturn 1]
def iX5_within : List IE := [
  q0 0 (.iload_n 0) 1,
  q0 1 (.iload_n 1) 1,
  q2 2 (.if_icmp .ge 8) 3 10,
  q1 5 (.bipush (-4)) 2 (vI (-4)),
  q2 7 (.goto 14) 3 21,
  q0 10 (.iload_n 0) 1,
  q0 11 (.iload_n 2) 1,
  q2 12 (.if_icmp .le 8) 3 20,
  q1 15 (.bipush (-6)) 2 (vI (-6)),
  q2 17 (.goto 4) 3 21,
  q1 20 (.iconst 0) 1 (vI 0),
  q0 21 .ireturn 1]
def iX5_isFault : List IE := [
  q0 0 (.iload_n 1) 1,
  q0 1 (.aload_n 0) 1,
  q3 2 (.getfield 13) 3 (vI 2) 5 1,
  q1 5 (.iconst 3) 1 (vI 3),
  q0 6 .iaload 1,
  q5 7 (.invokestatic 46) 3 0 2 yX5_isIn,
  q0 10 .ireturn 1]
def iX5_isGear : List IE := [
  q0 0 (.iload_n 1) 1,
  q0 1 (.aload_n 0) 1,
  q3 2 (.getfield 13) 3 (vI 2) 5 1,
  q1 5 (.iconst 2) 1 (vI 2),
  q0 6 .iaload 1,
  q5 7 (.invokestatic 46) 3 0 2 yX5_isIn,
  q0 10 .ireturn 1]
def iX5_isAct : List IE := [
  q0 0 (.iload_n 0) 1,
  q1 1 (.bipush 6) 2 (vI 6),
  q5 3 (.invokestatic 46) 3 0 2 yX5_isIn,
  q0 6 .ireturn 1]
def iX5_get : List IE := [
  q0 0 (.aload_n 0) 1,
  q3 1 (.getfield 13) 3 (vI 2) 5 1,
  q1 4 (.bipush 16) 2 (vI 16),
  q1 6 (.bipush 9) 2 (vI 9),
  q0 8 (.iload_n 1) 1,
  q0 9 .imul 1,
  q0 10 .iadd 1,
  q0 11 (.iload_n 2) 1,
  q0 12 .iadd 1,
  q0 13 .iaload 1,
  q0 14 .ireturn 1]
def iX5_feed : List IE := [
  q0 0 (.iload_n 1) 1,
  q1 1 (.iconst 1) 1 (vI 1),
  q2 2 (.if_icmp .ge 10) 3 12,
  q0 5 (.aload_n 0) 1,
  q1 6 (.bipush (-4)) 2 (vI (-4)),
  q5 8 (.invokevirtual 50) 3 5 2 yX5_refuse,
  q0 11 .ireturn 1,
  q0 12 (.iload_n 1) 1,
  q1 13 (.bipush 8) 2 (vI 8),
  q2 15 (.if_icmp .gt 14) 3 29,
  q0 18 (.aload_n 0) 1,
  q3 19 (.getfield 54) 3 (vI 0) 5 7,
  q0 22 (.iload_n 1) 1,
  q0 23 .iadd 1,
  q1 24 (.bipush 64) 2 (vI 64),
  q2 26 (.if_icmp .le 10) 3 36,
  q0 29 (.aload_n 0) 1,
  q1 30 (.bipush (-6)) 2 (vI (-6)),
  q5 32 (.invokevirtual 50) 3 5 2 yX5_refuse,
  q0 35 .ireturn 1,
  q1 36 (.iconst 0) 1 (vI 0),
  q0 37 (.istore 4) 2,
  q0 39 (.iload 4) 2,
  q0 41 (.iload_n 1) 1,
  q2 42 (.if_icmp .ge 40) 3 82,
  q0 45 (.aload_n 0) 1,
  q3 46 (.getfield 22) 3 (vI 2) 5 5,
  q0 49 (.aload_n 0) 1,
  q3 50 (.getfield 54) 3 (vI 0) 5 7,
  q0 53 (.lload_n 2) 1,
  q1 54 (.bipush 8) 2 (vI 8),
  q0 56 (.iload 4) 2,
  q0 58 .imul 1,
  q0 59 .lshr 1,
  q1 60 (.ldc2_w 58) 3 (vL 255),
  q0 63 .land 1,
  q0 64 .l2i 1,
  q0 65 .iastore 1,
  q0 66 (.aload_n 0) 1,
  q0 67 .dup 1,
  q3 68 (.getfield 54) 3 (vI 0) 5 7,
  q1 71 (.iconst 1) 1 (vI 1),
  q0 72 .iadd 1,
  q3 73 (.putfield 54) 3 (vI 0) 5 7,
  q1 76 (.iinc 4 1) 3 (vI 1),
  q2 79 (.goto (-40)) 3 39,
  q0 82 (.aload_n 0) 1,
  q3 83 (.getfield 54) 3 (vI 0) 5 7,
  q0 86 .ireturn 1]
def iX5_sign : List IE := [
  q0 0 (.aload_n 0) 1,
  q3 1 (.getfield 60) 3 (vI 0) 5 8,
  q0 4 (.aload_n 0) 1,
  q3 5 (.getfield 54) 3 (vI 0) 5 7,
  q2 8 (.if_icmp .lt 7) 3 15,
  q1 11 (.iconst (-1)) 1 (vI (-1)),
  q2 12 (.goto 12) 3 24,
  q0 15 (.aload_n 0) 1,
  q3 16 (.getfield 22) 3 (vI 2) 5 5,
  q0 19 (.aload_n 0) 1,
  q3 20 (.getfield 60) 3 (vI 0) 5 8,
  q0 23 .iaload 1,
  q0 24 .ireturn 1]
def iX5_takes : List IE := [
  q0 0 (.aload_n 0) 1,
  q5 1 (.invokevirtual 63) 3 5 1 yX5_sign,
  q0 4 (.iload_n 1) 1,
  q2 5 (.if_icmp .eq 5) 3 10,
  q1 8 (.iconst 0) 1 (vI 0),
  q0 9 .ireturn 1,
  q0 10 (.aload_n 0) 1,
  q0 11 .dup 1,
  q3 12 (.getfield 60) 3 (vI 0) 5 8,
  q1 15 (.iconst 1) 1 (vI 1),
  q0 16 .iadd 1,
  q3 17 (.putfield 60) 3 (vI 0) 5 8,
  q1 20 (.iconst 1) 1 (vI 1),
  q0 21 .ireturn 1]
def iX5_readsNumber : List IE := [
  q0 0 (.aload_n 0) 1,
  q3 1 (.getfield 25) 3 (vI 2) 5 6,
  q0 4 (.iload_n 1) 1,
  q1 5 (.iconst 0) 1 (vI 0),
  q0 6 .iastore 1,
  q1 7 (.iconst 0) 1 (vI 0),
  q0 8 (.istore 4) 2,
  q0 10 (.iload 4) 2,
  q0 12 (.iload_n 3) 1,
  q2 13 (.if_icmp .ge 60) 3 73,
  q0 16 (.aload_n 0) 1,
  q5 17 (.invokevirtual 63) 3 5 1 yX5_sign,
  q1 20 (.bipush 48) 2 (vI 48),
  q2 22 (.if_icmp .lt 51) 3 73,
  q0 25 (.aload_n 0) 1,
  q5 26 (.invokevirtual 63) 3 5 1 yX5_sign,
  q1 29 (.bipush 57) 2 (vI 57),
  q2 31 (.if_icmp .gt 42) 3 73,
  q0 34 (.aload_n 0) 1,
  q3 35 (.getfield 25) 3 (vI 2) 5 6,
  q0 38 (.iload_n 1) 1,
  q1 39 (.bipush 10) 2 (vI 10),
  q0 41 (.aload_n 0) 1,
  q3 42 (.getfield 25) 3 (vI 2) 5 6,
  q0 45 (.iload_n 1) 1,
  q0 46 .iaload 1,
  q0 47 .imul 1,
  q0 48 (.aload_n 0) 1,
  q5 49 (.invokevirtual 63) 3 5 1 yX5_sign,
  q0 52 .iadd 1,
  q1 53 (.bipush 48) 2 (vI 48),
  q0 55 .isub 1,
  q0 56 .iastore 1,
  q0 57 (.aload_n 0) 1,
  q0 58 .dup 1,
  q3 59 (.getfield 60) 3 (vI 0) 5 8,
  q1 62 (.iconst 1) 1 (vI 1),
  q0 63 .iadd 1,
  q3 64 (.putfield 60) 3 (vI 0) 5 8,
  q1 67 (.iinc 4 1) 3 (vI 1),
  q2 70 (.goto (-60)) 3 10,
  q0 73 (.iload 4) 2,
  q0 75 (.iload_n 2) 1,
  q2 76 (.if_icmp .lt 7) 3 83,
  q1 79 (.iconst 1) 1 (vI 1),
  q2 80 (.goto 4) 3 84,
  q1 83 (.iconst 0) 1 (vI 0),
  q0 84 .ireturn 1]
def iX5_kindOf : List IE := [
  q0 0 (.iload_n 0) 1,
  q4 1 (.tableswitch 109 98 116 #[93, 103, 101, 109, 109, 109, 109, 109, 109, 109, 95, 109, 109, 99, 91, 109, 109, 106, 97]) 91 110 [(98, 94), (99, 104), (100, 102), (101, 110), (102, 110), (103, 110), (104, 110), (105, 110), (106, 110), (107, 110), (108, 96), (109, 110), (110, 110), (111, 100), (112, 92), (113, 110), (114, 110), (115, 107), (116, 98)],
  q1 92 (.iconst 0) 1 (vI 0),
  q0 93 .ireturn 1,
  q1 94 (.iconst 1) 1 (vI 1),
  q0 95 .ireturn 1,
  q1 96 (.iconst 2) 1 (vI 2),
  q0 97 .ireturn 1,
  q1 98 (.iconst 3) 1 (vI 3),
  q0 99 .ireturn 1,
  q1 100 (.iconst 4) 1 (vI 4),
  q0 101 .ireturn 1,
  q1 102 (.iconst 5) 1 (vI 5),
  q0 103 .ireturn 1,
  q1 104 (.bipush 6) 2 (vI 6),
  q0 106 .ireturn 1,
  q1 107 (.bipush 7) 2 (vI 7),
  q0 109 .ireturn 1,
  q1 110 (.bipush (-9)) 2 (vI (-9)),
  q0 112 .ireturn 1]
def iX5_readsStatement : List IE := [
  q0 0 (.aload_n 0) 1,
  q5 1 (.invokevirtual 63) 3 5 1 yX5_sign,
  q0 4 (.istore_n 1) 1,
  q0 5 (.iload_n 1) 1,
  q1 6 (.bipush 102) 2 (vI 102),
  q2 8 (.if_icmp .eq 23) 3 31,
  q0 11 (.iload_n 1) 1,
  q1 12 (.bipush 107) 2 (vI 107),
  q2 14 (.if_icmp .eq 17) 3 31,
  q0 17 (.iload_n 1) 1,
  q1 18 (.bipush 114) 2 (vI 114),
  q2 20 (.if_icmp .eq 11) 3 31,
  q0 23 (.iload_n 1) 1,
  q1 24 (.bipush 113) 2 (vI 113),
  q2 26 (.if_icmp .eq 5) 3 31,
  q1 29 (.iconst 0) 1 (vI 0),
  q0 30 .ireturn 1,
  q0 31 (.aload_n 0) 1,
  q0 32 .dup 1,
  q3 33 (.getfield 60) 3 (vI 0) 5 8,
  q1 36 (.iconst 1) 1 (vI 1),
  q0 37 .iadd 1,
  q3 38 (.putfield 60) 3 (vI 0) 5 8,
  q0 41 (.iload_n 1) 1,
  q1 42 (.bipush 113) 2 (vI 113),
  q2 44 (.if_icmp .eq 28) 3 72,
  q0 47 (.aload_n 0) 1,
  q1 48 (.iconst 0) 1 (vI 0),
  q1 49 (.iconst 1) 1 (vI 1),
  q1 50 (.iconst 3) 1 (vI 3),
  q5 51 (.invokevirtual 67) 3 5 4 yX5_readsNumber,
  q2 54 (.ifCond .eq 16) 3 70,
  q0 57 (.aload_n 0) 1,
  q1 58 (.bipush 59) 2 (vI 59),
  q5 60 (.invokevirtual 71) 3 5 2 yX5_takes,
  q2 63 (.ifCond .eq 7) 3 70,
  q1 66 (.iconst 1) 1 (vI 1),
  q2 67 (.goto 4) 3 71,
  q1 70 (.iconst 0) 1 (vI 0),
  q0 71 .ireturn 1,
  q0 72 (.aload_n 0) 1,
  q3 73 (.getfield 25) 3 (vI 2) 5 6,
  q1 76 (.iconst 0) 1 (vI 0),
  q0 77 (.aload_n 0) 1,
  q5 78 (.invokevirtual 63) 3 5 1 yX5_sign,
  q5 81 (.invokestatic 75) 3 0 1 yX5_kindOf,
  q0 84 .iastore 1,
  q0 85 (.aload_n 0) 1,
  q3 86 (.getfield 25) 3 (vI 2) 5 6,
  q1 89 (.iconst 0) 1 (vI 0),
  q0 90 .iaload 1,
  q2 91 (.ifCond .ge 5) 3 96,
  q1 94 (.iconst 0) 1 (vI 0),
  q0 95 .ireturn 1,
  q0 96 (.aload_n 0) 1,
  q0 97 .dup 1,
  q3 98 (.getfield 60) 3 (vI 0) 5 8,
  q1 101 (.iconst 1) 1 (vI 1),
  q0 102 .iadd 1,
  q3 103 (.putfield 60) 3 (vI 0) 5 8,
  q0 106 (.aload_n 0) 1,
  q1 107 (.iconst 1) 1 (vI 1),
  q1 108 (.iconst 2) 1 (vI 2),
  q1 109 (.iconst 2) 1 (vI 2),
  q5 110 (.invokevirtual 67) 3 5 4 yX5_readsNumber,
  q2 113 (.ifCond .eq 60) 3 173,
  q0 116 (.aload_n 0) 1,
  q1 117 (.bipush 44) 2 (vI 44),
  q5 119 (.invokevirtual 71) 3 5 2 yX5_takes,
  q2 122 (.ifCond .eq 51) 3 173,
  q0 125 (.aload_n 0) 1,
  q1 126 (.iconst 2) 1 (vI 2),
  q1 127 (.iconst 1) 1 (vI 1),
  q1 128 (.iconst 1) 1 (vI 1),
  q5 129 (.invokevirtual 67) 3 5 4 yX5_readsNumber,
  q2 132 (.ifCond .eq 41) 3 173,
  q0 135 (.aload_n 0) 1,
  q1 136 (.bipush 44) 2 (vI 44),
  q5 138 (.invokevirtual 71) 3 5 2 yX5_takes,
  q2 141 (.ifCond .eq 32) 3 173,
  q0 144 (.aload_n 0) 1,
  q1 145 (.iconst 3) 1 (vI 3),
  q1 146 (.iconst 1) 1 (vI 1),
  q1 147 (.iconst 2) 1 (vI 2),
  q5 148 (.invokevirtual 67) 3 5 4 yX5_readsNumber,
  q2 151 (.ifCond .eq 22) 3 173,
  q0 154 (.aload_n 0) 1,
  q1 155 (.bipush 44) 2 (vI 44),
  q5 157 (.invokevirtual 71) 3 5 2 yX5_takes,
  q2 160 (.ifCond .eq 13) 3 173,
  q0 163 (.aload_n 0) 1,
  q1 164 (.iconst 4) 1 (vI 4),
  q1 165 (.iconst 1) 1 (vI 1),
  q1 166 (.iconst 2) 1 (vI 2),
  q5 167 (.invokevirtual 67) 3 5 4 yX5_readsNumber,
  q2 170 (.ifCond .ne 5) 3 175,
  q1 173 (.iconst 0) 1 (vI 0),
  q0 174 .ireturn 1,
  q0 175 (.aload_n 0) 1,
  q3 176 (.getfield 25) 3 (vI 2) 5 6,
  q1 179 (.iconst 5) 1 (vI 5),
  q1 180 (.iconst 1) 1 (vI 1),
  q0 181 .iastore 1,
  q0 182 (.aload_n 0) 1,
  q3 183 (.getfield 25) 3 (vI 2) 5 6,
  q1 186 (.bipush 6) 2 (vI 6),
  q1 188 (.iconst 1) 1 (vI 1),
  q0 189 .iastore 1,
  q0 190 (.aload_n 0) 1,
  q3 191 (.getfield 25) 3 (vI 2) 5 6,
  q1 194 (.iconst 0) 1 (vI 0),
  q0 195 .iaload 1,
  q1 196 (.iconst 1) 1 (vI 1),
  q2 197 (.if_icmp .ne 44) 3 241,
  q0 200 (.aload_n 0) 1,
  q1 201 (.bipush 44) 2 (vI 44),
  q5 203 (.invokevirtual 71) 3 5 2 yX5_takes,
  q2 206 (.ifCond .eq 33) 3 239,
  q0 209 (.aload_n 0) 1,
  q1 210 (.iconst 5) 1 (vI 5),
  q1 211 (.iconst 1) 1 (vI 1),
  q1 212 (.iconst 2) 1 (vI 2),
  q5 213 (.invokevirtual 67) 3 5 4 yX5_readsNumber,
  q2 216 (.ifCond .eq 23) 3 239,
  q0 219 (.aload_n 0) 1,
  q1 220 (.bipush 47) 2 (vI 47),
  q5 222 (.invokevirtual 71) 3 5 2 yX5_takes,
  q2 225 (.ifCond .eq 14) 3 239,
  q0 228 (.aload_n 0) 1,
  q1 229 (.bipush 6) 2 (vI 6),
  q1 231 (.iconst 1) 1 (vI 1),
  q1 232 (.iconst 2) 1 (vI 2),
  q5 233 (.invokevirtual 67) 3 5 4 yX5_readsNumber,
  q2 236 (.ifCond .ne 5) 3 241,
  q1 239 (.iconst 0) 1 (vI 0),
  q0 240 .ireturn 1,
  q0 241 (.aload_n 0) 1,
  q1 242 (.bipush 59) 2 (vI 59),
  q5 244 (.invokevirtual 71) 3 5 2 yX5_takes,
  q0 247 .ireturn 1]
def iX5_between : List IE := [
  q0 0 (.iload_n 0) 1,
  q0 1 (.iload_n 1) 1,
  q2 2 (.if_icmp .lt 12) 3 14,
  q0 5 (.iload_n 0) 1,
  q0 6 (.iload_n 2) 1,
  q2 7 (.if_icmp .gt 7) 3 14,
  q1 10 (.iconst 1) 1 (vI 1),
  q2 11 (.goto 4) 3 15,
  q1 14 (.iconst 0) 1 (vI 0),
  q0 15 .ireturn 1]
def iX5_comes : List IE := [
  q0 0 (.aload_n 0) 1,
  q3 1 (.getfield 25) 3 (vI 2) 5 6,
  q1 4 (.iconst 0) 1 (vI 0),
  q0 5 .iaload 1,
  q0 6 (.istore_n 2) 1,
  q0 7 (.iload_n 1) 1,
  q4 8 (.lookupswitch 119 #[(102, 36), (107, 52), (114, 69)]) 36 127 [(102, 44), (107, 60), (114, 77)],
  q0 44 (.aload_n 0) 1,
  q3 45 (.getfield 19) 3 (vI 2) 5 3,
  q1 48 (.iconst 0) 1 (vI 0),
  q0 49 (.iload_n 2) 1,
  q0 50 .iastore 1,
  q0 51 (.iload_n 2) 1,
  q1 52 (.bipush 20) 2 (vI 20),
  q1 54 (.bipush 60) 2 (vI 60),
  q5 56 (.invokestatic 78) 3 0 3 yX5_between,
  q0 59 .ireturn 1,
  q0 60 (.aload_n 0) 1,
  q3 61 (.getfield 19) 3 (vI 2) 5 3,
  q1 64 (.iconst 1) 1 (vI 1),
  q0 65 (.iload_n 2) 1,
  q0 66 .iastore 1,
  q0 67 (.iload_n 2) 1,
  q1 68 (.bipush 60) 2 (vI 60),
  q1 70 (.sipush 140) 3 (vI 140),
  q5 73 (.invokestatic 78) 3 0 3 yX5_between,
  q0 76 .ireturn 1,
  q0 77 (.iload_n 2) 1,
  q1 78 (.bipush 10) 2 (vI 10),
  q1 80 (.bipush 40) 2 (vI 40),
  q5 82 (.invokestatic 78) 3 0 3 yX5_between,
  q2 85 (.ifCond .eq 13) 3 98,
  q0 88 (.aload_n 0) 1,
  q3 89 (.getfield 19) 3 (vI 2) 5 3,
  q1 92 (.iconst 2) 1 (vI 2),
  q0 93 .iaload 1,
  q1 94 (.iconst 5) 1 (vI 5),
  q2 95 (.if_icmp .ne 5) 3 100,
  q1 98 (.iconst 0) 1 (vI 0),
  q0 99 .ireturn 1,
  q0 100 (.aload_n 0) 1,
  q3 101 (.getfield 19) 3 (vI 2) 5 3,
  q1 104 (.bipush 11) 2 (vI 11),
  q0 106 (.aload_n 0) 1,
  q3 107 (.getfield 19) 3 (vI 2) 5 3,
  q1 110 (.iconst 2) 1 (vI 2),
  q0 111 .iaload 1,
  q0 112 .iadd 1,
  q0 113 (.iload_n 2) 1,
  q0 114 .iastore 1,
  q0 115 (.aload_n 0) 1,
  q3 116 (.getfield 19) 3 (vI 2) 5 3,
  q1 119 (.iconst 2) 1 (vI 2),
  q0 120 .dup2 1,
  q0 121 .iaload 1,
  q1 122 (.iconst 1) 1 (vI 1),
  q0 123 .iadd 1,
  q0 124 .iastore 1,
  q1 125 (.iconst 1) 1 (vI 1),
  q0 126 .ireturn 1,
  q0 127 (.aload_n 0) 1,
  q3 128 (.getfield 25) 3 (vI 2) 5 6,
  q1 131 (.iconst 3) 1 (vI 3),
  q0 132 .iaload 1,
  q1 133 (.iconst 1) 1 (vI 1),
  q2 134 (.if_icmp .lt 55) 3 189,
  q0 137 (.aload_n 0) 1,
  q3 138 (.getfield 25) 3 (vI 2) 5 6,
  q1 141 (.iconst 4) 1 (vI 4),
  q0 142 .iaload 1,
  q1 143 (.iconst 1) 1 (vI 1),
  q2 144 (.if_icmp .lt 45) 3 189,
  q0 147 (.aload_n 0) 1,
  q3 148 (.getfield 25) 3 (vI 2) 5 6,
  q1 151 (.iconst 5) 1 (vI 5),
  q0 152 .iaload 1,
  q1 153 (.iconst 1) 1 (vI 1),
  q1 154 (.bipush 20) 2 (vI 20),
  q5 156 (.invokestatic 78) 3 0 3 yX5_between,
  q2 159 (.ifCond .eq 30) 3 189,
  q0 162 (.aload_n 0) 1,
  q3 163 (.getfield 25) 3 (vI 2) 5 6,
  q1 166 (.bipush 6) 2 (vI 6),
  q0 168 .iaload 1,
  q1 169 (.iconst 1) 1 (vI 1),
  q1 170 (.bipush 20) 2 (vI 20),
  q5 172 (.invokestatic 78) 3 0 3 yX5_between,
  q2 175 (.ifCond .eq 14) 3 189,
  q0 178 (.aload_n 0) 1,
  q3 179 (.getfield 19) 3 (vI 2) 5 3,
  q1 182 (.iconst 3) 1 (vI 3),
  q0 183 .iaload 1,
  q1 184 (.bipush 8) 2 (vI 8),
  q2 186 (.if_icmp .ne 5) 3 191,
  q1 189 (.iconst 0) 1 (vI 0),
  q0 190 .ireturn 1,
  q1 191 (.bipush 16) 2 (vI 16),
  q1 193 (.bipush 9) 2 (vI 9),
  q0 195 (.aload_n 0) 1,
  q3 196 (.getfield 19) 3 (vI 2) 5 3,
  q1 199 (.iconst 3) 1 (vI 3),
  q0 200 .iaload 1,
  q0 201 .imul 1,
  q0 202 .iadd 1,
  q0 203 (.istore_n 3) 1,
  q1 204 (.iconst 0) 1 (vI 0),
  q0 205 (.istore 4) 2,
  q0 207 (.iload 4) 2,
  q1 209 (.bipush 7) 2 (vI 7),
  q2 211 (.if_icmp .ge 25) 3 236,
  q0 214 (.aload_n 0) 1,
  q3 215 (.getfield 19) 3 (vI 2) 5 3,
  q0 218 (.iload_n 3) 1,
  q0 219 (.iload 4) 2,
  q0 221 .iadd 1,
  q0 222 (.aload_n 0) 1,
  q3 223 (.getfield 25) 3 (vI 2) 5 6,
  q0 226 (.iload 4) 2,
  q0 228 .iaload 1,
  q0 229 .iastore 1,
  q1 230 (.iinc 4 1) 3 (vI 1),
  q2 233 (.goto (-26)) 3 207,
  q0 236 (.aload_n 0) 1,
  q3 237 (.getfield 19) 3 (vI 2) 5 3,
  q0 240 (.iload_n 3) 1,
  q1 241 (.bipush 7) 2 (vI 7),
  q0 243 .iadd 1,
  q1 244 (.iconst 0) 1 (vI 0),
  q0 245 .iastore 1,
  q0 246 (.aload_n 0) 1,
  q3 247 (.getfield 19) 3 (vI 2) 5 3,
  q0 250 (.iload_n 3) 1,
  q1 251 (.bipush 8) 2 (vI 8),
  q0 253 .iadd 1,
  q1 254 (.iconst 1) 1 (vI 1),
  q0 255 .iastore 1,
  q0 256 (.aload_n 0) 1,
  q3 257 (.getfield 19) 3 (vI 2) 5 3,
  q1 260 (.iconst 3) 1 (vI 3),
  q0 261 .dup2 1,
  q0 262 .iaload 1,
  q1 263 (.iconst 1) 1 (vI 1),
  q0 264 .iadd 1,
  q0 265 .iastore 1,
  q1 266 (.iconst 1) 1 (vI 1),
  q0 267 .ireturn 1]
def iX5_reads : List IE := [
  q0 0 (.aload_n 0) 1,
  q1 1 (.iconst 0) 1 (vI 0),
  q3 2 (.putfield 60) 3 (vI 0) 5 8,
  q1 5 (.iconst 0) 1 (vI 0),
  q0 6 (.istore_n 1) 1,
  q0 7 (.aload_n 0) 1,
  q5 8 (.invokevirtual 81) 3 5 1 yX5_readsStatement,
  q2 11 (.ifCond .ne 12) 3 23,
  q1 14 (.sipush (-1000)) 3 (vI (-1000)),
  q0 17 (.aload_n 0) 1,
  q3 18 (.getfield 60) 3 (vI 0) 5 8,
  q0 21 .isub 1,
  q0 22 .ireturn 1,
  q1 23 (.iinc 1 1) 3 (vI 1),
  q0 26 (.aload_n 0) 1,
  q3 27 (.getfield 60) 3 (vI 0) 5 8,
  q0 30 (.aload_n 0) 1,
  q3 31 (.getfield 54) 3 (vI 0) 5 7,
  q2 34 (.if_icmp .lt (-27)) 3 7,
  q1 37 (.iconst 0) 1 (vI 0),
  q0 38 (.istore_n 2) 1,
  q0 39 (.iload_n 2) 1,
  q1 40 (.bipush 112) 2 (vI 112),
  q2 42 (.if_icmp .ge 21) 3 63,
  q0 45 (.aload_n 0) 1,
  q3 46 (.getfield 19) 3 (vI 2) 5 3,
  q0 49 (.iload_n 2) 1,
  q0 50 (.aload_n 0) 1,
  q3 51 (.getfield 13) 3 (vI 2) 5 1,
  q0 54 (.iload_n 2) 1,
  q0 55 .iaload 1,
  q0 56 .iastore 1,
  q1 57 (.iinc 2 1) 3 (vI 1),
  q2 60 (.goto (-21)) 3 39,
  q0 63 (.aload_n 0) 1,
  q1 64 (.iconst 0) 1 (vI 0),
  q3 65 (.putfield 60) 3 (vI 0) 5 8,
  q0 68 (.aload_n 0) 1,
  q3 69 (.getfield 60) 3 (vI 0) 5 8,
  q0 72 (.aload_n 0) 1,
  q3 73 (.getfield 54) 3 (vI 0) 5 7,
  q2 76 (.if_icmp .ge 36) 3 112,
  q0 79 (.aload_n 0) 1,
  q3 80 (.getfield 60) 3 (vI 0) 5 8,
  q0 83 (.istore_n 2) 1,
  q0 84 (.aload_n 0) 1,
  q5 85 (.invokevirtual 63) 3 5 1 yX5_sign,
  q0 88 (.istore_n 3) 1,
  q0 89 (.aload_n 0) 1,
  q5 90 (.invokevirtual 81) 3 5 1 yX5_readsStatement,
  q0 93 (.istore 4) 2,
  q0 95 (.aload_n 0) 1,
  q0 96 (.iload_n 3) 1,
  q5 97 (.invokevirtual 85) 3 5 2 yX5_comes,
  q2 100 (.ifCond .ne 9) 3 109,
  q1 103 (.sipush (-2000)) 3 (vI (-2000)),
  q0 106 (.iload_n 2) 1,
  q0 107 .isub 1,
  q0 108 .ireturn 1,
  q2 109 (.goto (-41)) 3 68,
  q1 112 (.iconst 0) 1 (vI 0),
  q0 113 (.istore_n 2) 1,
  q0 114 (.iload_n 2) 1,
  q1 115 (.bipush 112) 2 (vI 112),
  q2 117 (.if_icmp .ge 21) 3 138,
  q0 120 (.aload_n 0) 1,
  q3 121 (.getfield 13) 3 (vI 2) 5 1,
  q0 124 (.iload_n 2) 1,
  q0 125 (.aload_n 0) 1,
  q3 126 (.getfield 19) 3 (vI 2) 5 3,
  q0 129 (.iload_n 2) 1,
  q0 130 .iaload 1,
  q0 131 .iastore 1,
  q1 132 (.iinc 2 1) 3 (vI 1),
  q2 135 (.goto (-21)) 3 114,
  q0 138 (.iload_n 1) 1,
  q0 139 .ireturn 1]
def iX5_bicycle : List IE := [
  q0 0 (.aload_n 0) 1,
  q5 1 (.invokevirtual 88) 3 5 1 yX5_reads,
  q0 4 (.istore_n 1) 1,
  q0 5 (.aload_n 0) 1,
  q1 6 (.iconst 0) 1 (vI 0),
  q3 7 (.putfield 54) 3 (vI 0) 5 7,
  q0 10 (.iload_n 1) 1,
  q0 11 .ireturn 1]
def iX5_part : List IE := [
  q0 0 (.iload_n 1) 1,
  q2 1 (.ifCond .eq 8) 3 9,
  q0 4 (.iload_n 1) 1,
  q1 5 (.iconst 1) 1 (vI 1),
  q2 6 (.if_icmp .ne 10) 3 16,
  q0 9 (.aload_n 0) 1,
  q3 10 (.getfield 13) 3 (vI 2) 5 1,
  q0 13 (.iload_n 1) 1,
  q0 14 .iaload 1,
  q0 15 .ireturn 1,
  q0 16 (.iload_n 1) 1,
  q1 17 (.bipush 10) 2 (vI 10),
  q2 19 (.if_icmp .ge 10) 3 29,
  q0 22 (.aload_n 0) 1,
  q1 23 (.bipush (-2)) 2 (vI (-2)),
  q5 25 (.invokevirtual 50) 3 5 2 yX5_refuse,
  q0 28 .ireturn 1,
  q0 29 (.aload_n 0) 1,
  q0 30 (.iload_n 1) 1,
  q1 31 (.bipush 10) 2 (vI 10),
  q0 33 .isub 1,
  q5 34 (.invokevirtual 91) 3 5 2 yX5_isGear,
  q2 37 (.ifCond .eq 18) 3 55,
  q0 40 (.aload_n 0) 1,
  q3 41 (.getfield 13) 3 (vI 2) 5 1,
  q1 44 (.bipush 11) 2 (vI 11),
  q0 46 (.iload_n 1) 1,
  q0 47 .iadd 1,
  q1 48 (.bipush 10) 2 (vI 10),
  q0 50 .isub 1,
  q0 51 .iaload 1,
  q2 52 (.goto 8) 3 60,
  q0 55 (.aload_n 0) 1,
  q1 56 (.iconst (-1)) 1 (vI (-1)),
  q5 57 (.invokevirtual 50) 3 5 2 yX5_refuse,
  q0 60 .ireturn 1]
def iX5_limitOf : List IE := [
  q0 0 (.aload_n 0) 1,
  q0 1 (.iload_n 1) 1,
  q1 2 (.iconst 2) 1 (vI 2),
  q5 3 (.invokevirtual 94) 3 5 3 yX5_get,
  q0 6 (.istore_n 3) 1,
  q0 7 (.aload_n 0) 1,
  q0 8 (.iload_n 1) 1,
  q1 9 (.iconst 0) 1 (vI 0),
  q5 10 (.invokevirtual 94) 3 5 3 yX5_get,
  q1 13 (.bipush 6) 2 (vI 6),
  q2 15 (.if_icmp .eq 5) 3 20,
  q0 18 (.iload_n 3) 1,
  q0 19 .ireturn 1,
  q0 20 (.iload_n 3) 1,
  q0 21 (.iload_n 2) 1,
  q1 22 (.bipush 20) 2 (vI 20),
  q0 24 .idiv 1,
  q0 25 .isub 1,
  q0 26 (.istore_n 3) 1,
  q0 27 (.iload_n 3) 1,
  q2 28 (.ifCond .ge 7) 3 35,
  q1 31 (.iconst 0) 1 (vI 0),
  q2 32 (.goto 4) 3 36,
  q0 35 (.iload_n 3) 1,
  q0 36 .ireturn 1]
def iX5_fault : List IE := [
  q0 0 (.aload_n 0) 1,
  q0 1 (.iload_n 1) 1,
  q5 2 (.invokevirtual 98) 3 5 2 yX5_isFault,
  q2 5 (.ifCond .ne 9) 3 14,
  q0 8 (.aload_n 0) 1,
  q1 9 (.iconst (-1)) 1 (vI (-1)),
  q5 10 (.invokevirtual 50) 3 5 2 yX5_refuse,
  q0 13 .ireturn 1,
  q0 14 (.iload_n 2) 1,
  q4 15 (.tableswitch 68 0 6 #[41, 41, 41, 41, 41, 48, 56]) 41 83 [(0, 56), (1, 56), (2, 56), (3, 56), (4, 56), (5, 63), (6, 71)],
  q0 56 (.aload_n 0) 1,
  q0 57 (.iload_n 1) 1,
  q0 58 (.iload_n 2) 1,
  q5 59 (.invokevirtual 94) 3 5 3 yX5_get,
  q0 62 .ireturn 1,
  q0 63 (.aload_n 0) 1,
  q0 64 (.iload_n 1) 1,
  q1 65 (.bipush 7) 2 (vI 7),
  q5 67 (.invokevirtual 94) 3 5 3 yX5_get,
  q0 70 .ireturn 1,
  q0 71 (.aload_n 0) 1,
  q0 72 (.iload_n 1) 1,
  q0 73 (.aload_n 0) 1,
  q3 74 (.getfield 13) 3 (vI 2) 5 1,
  q1 77 (.iconst 5) 1 (vI 5),
  q0 78 .iaload 1,
  q5 79 (.invokevirtual 101) 3 5 3 yX5_limitOf,
  q0 82 .ireturn 1,
  q0 83 (.aload_n 0) 1,
  q1 84 (.bipush (-2)) 2 (vI (-2)),
  q5 86 (.invokevirtual 50) 3 5 2 yX5_refuse,
  q0 89 .ireturn 1]
def iX5_upOf : List IE := [
  q0 0 (.aload_n 0) 1,
  q0 1 (.iload_n 1) 1,
  q1 2 (.iconst 0) 1 (vI 0),
  q5 3 (.invokevirtual 94) 3 5 3 yX5_get,
  q1 6 (.iconst 1) 1 (vI 1),
  q2 7 (.if_icmp .ne 12) 3 19,
  q0 10 (.aload_n 0) 1,
  q0 11 (.iload_n 1) 1,
  q1 12 (.iconst 5) 1 (vI 5),
  q5 13 (.invokevirtual 94) 3 5 3 yX5_get,
  q2 16 (.goto 33) 3 49,
  q0 19 (.aload_n 0) 1,
  q0 20 (.iload_n 1) 1,
  q1 21 (.iconst 0) 1 (vI 0),
  q5 22 (.invokevirtual 94) 3 5 3 yX5_get,
  q1 25 (.iconst 2) 1 (vI 2),
  q2 26 (.if_icmp .eq 13) 3 39,
  q0 29 (.aload_n 0) 1,
  q0 30 (.iload_n 1) 1,
  q1 31 (.iconst 0) 1 (vI 0),
  q5 32 (.invokevirtual 94) 3 5 3 yX5_get,
  q1 35 (.iconst 3) 1 (vI 3),
  q2 36 (.if_icmp .ne 12) 3 48,
  q0 39 (.aload_n 0) 1,
  q3 40 (.getfield 13) 3 (vI 2) 5 1,
  q1 43 (.iconst 0) 1 (vI 0),
  q0 44 .iaload 1,
  q2 45 (.goto 4) 3 49,
  q1 48 (.iconst 1) 1 (vI 1),
  q0 49 .ireturn 1]
def iX5_downOf : List IE := [
  q0 0 (.aload_n 0) 1,
  q0 1 (.iload_n 1) 1,
  q1 2 (.iconst 0) 1 (vI 0),
  q5 3 (.invokevirtual 94) 3 5 3 yX5_get,
  q1 6 (.iconst 1) 1 (vI 1),
  q2 7 (.if_icmp .ne 13) 3 20,
  q0 10 (.aload_n 0) 1,
  q0 11 (.iload_n 1) 1,
  q1 12 (.bipush 6) 2 (vI 6),
  q5 14 (.invokevirtual 94) 3 5 3 yX5_get,
  q2 17 (.goto 45) 3 62,
  q0 20 (.aload_n 0) 1,
  q0 21 (.iload_n 1) 1,
  q1 22 (.iconst 0) 1 (vI 0),
  q5 23 (.invokevirtual 94) 3 5 3 yX5_get,
  q1 26 (.iconst 2) 1 (vI 2),
  q2 27 (.if_icmp .ne 12) 3 39,
  q0 30 (.aload_n 0) 1,
  q3 31 (.getfield 13) 3 (vI 2) 5 1,
  q1 34 (.iconst 1) 1 (vI 1),
  q0 35 .iaload 1,
  q2 36 (.goto 26) 3 62,
  q0 39 (.aload_n 0) 1,
  q0 40 (.iload_n 1) 1,
  q1 41 (.iconst 0) 1 (vI 0),
  q5 42 (.invokevirtual 94) 3 5 3 yX5_get,
  q1 45 (.iconst 3) 1 (vI 3),
  q2 46 (.if_icmp .ne 15) 3 61,
  q0 49 (.aload_n 0) 1,
  q3 50 (.getfield 13) 3 (vI 2) 5 1,
  q1 53 (.bipush 11) 2 (vI 11),
  q0 55 (.iload_n 2) 1,
  q0 56 .iadd 1,
  q0 57 .iaload 1,
  q2 58 (.goto 4) 3 62,
  q1 61 (.iconst 1) 1 (vI 1),
  q0 62 .ireturn 1]
def iX5_rounds : List IE := [
  q0 0 (.aload_n 0) 1,
  q0 1 (.iload_n 1) 1,
  q5 2 (.invokevirtual 98) 3 5 2 yX5_isFault,
  q2 5 (.ifCond .eq 11) 3 16,
  q0 8 (.aload_n 0) 1,
  q0 9 (.iload_n 2) 1,
  q5 10 (.invokevirtual 91) 3 5 2 yX5_isGear,
  q2 13 (.ifCond .ne 11) 3 24,
  q0 16 (.aload_n 0) 1,
  q1 17 (.iconst (-1)) 1 (vI (-1)),
  q5 18 (.invokevirtual 50) 3 5 2 yX5_refuse,
  q2 21 (.goto 35) 3 56,
  q0 24 (.iload_n 3) 1,
  q2 25 (.ifCond .ne 11) 3 36,
  q0 28 (.aload_n 0) 1,
  q0 29 (.iload_n 1) 1,
  q5 30 (.invokevirtual 104) 3 5 2 yX5_upOf,
  q2 33 (.goto 23) 3 56,
  q0 36 (.iload_n 3) 1,
  q1 37 (.iconst 1) 1 (vI 1),
  q2 38 (.if_icmp .ne 12) 3 50,
  q0 41 (.aload_n 0) 1,
  q0 42 (.iload_n 1) 1,
  q0 43 (.iload_n 2) 1,
  q5 44 (.invokevirtual 107) 3 5 3 yX5_downOf,
  q2 47 (.goto 9) 3 56,
  q0 50 (.aload_n 0) 1,
  q1 51 (.bipush (-2)) 2 (vI (-2)),
  q5 53 (.invokevirtual 50) 3 5 2 yX5_refuse,
  q0 56 .ireturn 1]
def iX5_loadOf : List IE := [
  q0 0 (.iload_n 2) 1,
  q1 1 (.bipush 15) 2 (vI 15),
  q2 3 (.if_icmp .lt 13) 3 16,
  q0 6 (.iload_n 2) 1,
  q1 7 (.bipush 34) 2 (vI 34),
  q2 9 (.if_icmp .gt 7) 3 16,
  q1 12 (.iconst 1) 1 (vI 1),
  q2 13 (.goto 4) 3 17,
  q1 16 (.iconst 0) 1 (vI 0),
  q0 17 (.istore_n 3) 1,
  q0 18 (.iload_n 3) 1,
  q2 19 (.ifCond .ne 15) 3 34,
  q0 22 (.iload_n 2) 1,
  q1 23 (.bipush 65) 2 (vI 65),
  q2 25 (.if_icmp .lt 13) 3 38,
  q0 28 (.iload_n 2) 1,
  q1 29 (.bipush 84) 2 (vI 84),
  q2 31 (.if_icmp .gt 7) 3 38,
  q1 34 (.iconst 1) 1 (vI 1),
  q2 35 (.goto 4) 3 39,
  q1 38 (.iconst 0) 1 (vI 0),
  q0 39 (.istore 4) 2,
  q0 41 (.iload_n 1) 1,
  q4 42 (.tableswitch 108 0 3 #[30, 50, 70, 89]) 30 150 [(0, 72), (1, 92), (2, 112), (3, 131)],
  q0 72 (.iload 4) 2,
  q2 74 (.ifCond .eq 16) 3 90,
  q1 77 (.bipush 6) 2 (vI 6),
  q0 79 (.aload_n 0) 1,
  q3 80 (.getfield 13) 3 (vI 2) 5 1,
  q1 83 (.bipush 7) 2 (vI 7),
  q0 85 .iaload 1,
  q0 86 .iadd 1,
  q2 87 (.goto 4) 3 91,
  q1 90 (.iconst 2) 1 (vI 2),
  q0 91 .ireturn 1,
  q0 92 (.iload 4) 2,
  q2 94 (.ifCond .eq 16) 3 110,
  q1 97 (.bipush 8) 2 (vI 8),
  q0 99 (.aload_n 0) 1,
  q3 100 (.getfield 13) 3 (vI 2) 5 1,
  q1 103 (.bipush 7) 2 (vI 7),
  q0 105 .iaload 1,
  q0 106 .iadd 1,
  q2 107 (.goto 4) 3 111,
  q1 110 (.iconst 1) 1 (vI 1),
  q0 111 .ireturn 1,
  q0 112 (.iload 4) 2,
  q2 114 (.ifCond .eq 15) 3 129,
  q1 117 (.iconst 5) 1 (vI 5),
  q0 118 (.aload_n 0) 1,
  q3 119 (.getfield 13) 3 (vI 2) 5 1,
  q1 122 (.bipush 7) 2 (vI 7),
  q0 124 .iaload 1,
  q0 125 .iadd 1,
  q2 126 (.goto 4) 3 130,
  q1 129 (.iconst 1) 1 (vI 1),
  q0 130 .ireturn 1,
  q0 131 (.iload_n 3) 1,
  q2 132 (.ifCond .eq 16) 3 148,
  q1 135 (.bipush 6) 2 (vI 6),
  q0 137 (.aload_n 0) 1,
  q3 138 (.getfield 13) 3 (vI 2) 5 1,
  q1 141 (.bipush 7) 2 (vI 7),
  q0 143 .iaload 1,
  q0 144 .iadd 1,
  q2 145 (.goto 4) 3 149,
  q1 148 (.iconst 2) 1 (vI 2),
  q0 149 .ireturn 1,
  q1 150 (.iconst 0) 1 (vI 0),
  q0 151 .ireturn 1]
def iX5_load : List IE := [
  q0 0 (.iload_n 1) 1,
  q5 1 (.invokestatic 110) 3 0 1 yX5_isAct,
  q2 4 (.ifCond .eq 13) 3 17,
  q0 7 (.iload_n 2) 1,
  q1 8 (.iconst 0) 1 (vI 0),
  q1 9 (.bipush 99) 2 (vI 99),
  q5 11 (.invokestatic 113) 3 0 3 yX5_within,
  q2 14 (.goto 4) 3 18,
  q1 17 (.iconst (-1)) 1 (vI (-1)),
  q0 18 (.istore_n 3) 1,
  q0 19 (.iload_n 3) 1,
  q2 20 (.ifCond .eq 11) 3 31,
  q0 23 (.aload_n 0) 1,
  q0 24 (.iload_n 3) 1,
  q5 25 (.invokevirtual 50) 3 5 2 yX5_refuse,
  q2 28 (.goto 9) 3 37,
  q0 31 (.aload_n 0) 1,
  q0 32 (.iload_n 1) 1,
  q0 33 (.iload_n 2) 1,
  q5 34 (.invokevirtual 117) 3 5 3 yX5_loadOf,
  q0 37 .ireturn 1]
def iX5_most : List IE := [
  q0 0 (.iload_n 0) 1,
  q2 1 (.ifCond .ne 8) 3 9,
  q1 4 (.bipush 9) 2 (vI 9),
  q2 6 (.goto 24) 3 30,
  q0 9 (.iload_n 0) 1,
  q1 10 (.iconst 1) 1 (vI 1),
  q2 11 (.if_icmp .ne 7) 3 18,
  q1 14 (.iconst 1) 1 (vI 1),
  q2 15 (.goto 15) 3 30,
  q0 18 (.iload_n 0) 1,
  q1 19 (.iconst 2) 1 (vI 2),
  q2 20 (.if_icmp .ne 8) 3 28,
  q1 23 (.bipush 100) 2 (vI 100),
  q2 25 (.goto 5) 3 30,
  q1 28 (.bipush 99) 2 (vI 99),
  q0 30 .ireturn 1]
def iX5_set : List IE := [
  q0 0 (.iload_n 1) 1,
  q1 1 (.iconst 4) 1 (vI 4),
  q5 2 (.invokestatic 46) 3 0 2 yX5_isIn,
  q2 5 (.ifCond .ne 10) 3 15,
  q0 8 (.aload_n 0) 1,
  q1 9 (.bipush (-2)) 2 (vI (-2)),
  q5 11 (.invokevirtual 50) 3 5 2 yX5_refuse,
  q0 14 .ireturn 1,
  q0 15 (.iload_n 2) 1,
  q1 16 (.iconst 0) 1 (vI 0),
  q0 17 (.iload_n 1) 1,
  q5 18 (.invokestatic 120) 3 0 1 yX5_most,
  q5 21 (.invokestatic 113) 3 0 3 yX5_within,
  q0 24 (.istore_n 3) 1,
  q0 25 (.iload_n 3) 1,
  q2 26 (.ifCond .eq 9) 3 35,
  q0 29 (.aload_n 0) 1,
  q0 30 (.iload_n 3) 1,
  q5 31 (.invokevirtual 50) 3 5 2 yX5_refuse,
  q0 34 .ireturn 1,
  q0 35 (.aload_n 0) 1,
  q3 36 (.getfield 13) 3 (vI 2) 5 1,
  q1 39 (.bipush 7) 2 (vI 7),
  q0 41 (.iload_n 1) 1,
  q0 42 .iadd 1,
  q0 43 .iaload 1,
  q0 44 (.istore 4) 2,
  q0 46 (.aload_n 0) 1,
  q3 47 (.getfield 13) 3 (vI 2) 5 1,
  q1 50 (.bipush 7) 2 (vI 7),
  q0 52 (.iload_n 1) 1,
  q0 53 .iadd 1,
  q0 54 (.iload_n 2) 1,
  q0 55 .iastore 1,
  q0 56 (.iload 4) 2,
  q0 58 .ireturn 1]
def iX5_oil : List IE := [
  q0 0 (.aload_n 0) 1,
  q3 1 (.getfield 13) 3 (vI 2) 5 1,
  q1 4 (.bipush 6) 2 (vI 6),
  q0 6 (.aload_n 0) 1,
  q3 7 (.getfield 13) 3 (vI 2) 5 1,
  q1 10 (.iconst 5) 1 (vI 5),
  q0 11 .iaload 1,
  q0 12 .iastore 1,
  q1 13 (.iconst 0) 1 (vI 0),
  q0 14 (.istore_n 1) 1,
  q1 15 (.iconst 0) 1 (vI 0),
  q0 16 (.istore_n 2) 1,
  q0 17 (.iload_n 2) 1,
  q0 18 (.aload_n 0) 1,
  q3 19 (.getfield 13) 3 (vI 2) 5 1,
  q1 22 (.iconst 3) 1 (vI 3),
  q0 23 .iaload 1,
  q2 24 (.if_icmp .ge 27) 3 51,
  q0 27 (.iload_n 1) 1,
  q0 28 (.aload_n 0) 1,
  q0 29 (.iload_n 2) 1,
  q1 30 (.iconst 0) 1 (vI 0),
  q5 31 (.invokevirtual 94) 3 5 3 yX5_get,
  q1 34 (.iconst 5) 1 (vI 5),
  q2 35 (.if_icmp .ne 7) 3 42,
  q1 38 (.iconst 1) 1 (vI 1),
  q2 39 (.goto 4) 3 43,
  q1 42 (.iconst 0) 1 (vI 0),
  q0 43 .iadd 1,
  q0 44 (.istore_n 1) 1,
  q1 45 (.iinc 2 1) 3 (vI 1),
  q2 48 (.goto (-31)) 3 17,
  q0 51 (.iload_n 1) 1,
  q0 52 .ireturn 1]
def iX5_stage : List IE := [
  q0 0 (.iload_n 1) 1,
  q5 1 (.invokestatic 110) 3 0 1 yX5_isAct,
  q2 4 (.ifCond .eq 21) 3 25,
  q0 7 (.aload_n 0) 1,
  q0 8 (.iload_n 2) 1,
  q5 9 (.invokevirtual 91) 3 5 2 yX5_isGear,
  q2 12 (.ifCond .eq 13) 3 25,
  q0 15 (.iload_n 3) 1,
  q1 16 (.iconst 1) 1 (vI 1),
  q1 17 (.bipush 60) 2 (vI 60),
  q5 19 (.invokestatic 113) 3 0 3 yX5_within,
  q2 22 (.goto 4) 3 26,
  q1 25 (.iconst (-1)) 1 (vI (-1)),
  q0 26 (.istore 4) 2,
  q0 28 (.iload 4) 2,
  q2 30 (.ifCond .ne 18) 3 48,
  q0 33 (.aload_n 0) 1,
  q3 34 (.getfield 13) 3 (vI 2) 5 1,
  q1 37 (.iconst 4) 1 (vI 4),
  q0 38 .iaload 1,
  q1 39 (.bipush 8) 2 (vI 8),
  q2 41 (.if_icmp .ne 7) 3 48,
  q1 44 (.bipush (-6)) 2 (vI (-6)),
  q0 46 (.istore 4) 2,
  q0 48 (.iload 4) 2,
  q2 50 (.ifCond .eq 10) 3 60,
  q0 53 (.aload_n 0) 1,
  q0 54 (.iload 4) 2,
  q5 56 (.invokevirtual 50) 3 5 2 yX5_refuse,
  q0 59 .ireturn 1,
  q1 60 (.bipush 88) 2 (vI 88),
  q1 62 (.iconst 3) 1 (vI 3),
  q0 63 (.aload_n 0) 1,
  q3 64 (.getfield 13) 3 (vI 2) 5 1,
  q1 67 (.iconst 4) 1 (vI 4),
  q0 68 .iaload 1,
  q0 69 .imul 1,
  q0 70 .iadd 1,
  q0 71 (.istore 5) 2,
  q0 73 (.aload_n 0) 1,
  q3 74 (.getfield 13) 3 (vI 2) 5 1,
  q0 77 (.iload 5) 2,
  q0 79 (.iload_n 1) 1,
  q0 80 .iastore 1,
  q0 81 (.aload_n 0) 1,
  q3 82 (.getfield 13) 3 (vI 2) 5 1,
  q0 85 (.iload 5) 2,
  q1 87 (.iconst 1) 1 (vI 1),
  q0 88 .iadd 1,
  q0 89 (.iload_n 2) 1,
  q0 90 .iastore 1,
  q0 91 (.aload_n 0) 1,
  q3 92 (.getfield 13) 3 (vI 2) 5 1,
  q0 95 (.iload 5) 2,
  q1 97 (.iconst 2) 1 (vI 2),
  q0 98 .iadd 1,
  q0 99 (.iload_n 3) 1,
  q0 100 .iastore 1,
  q0 101 (.aload_n 0) 1,
  q3 102 (.getfield 13) 3 (vI 2) 5 1,
  q1 105 (.iconst 4) 1 (vI 4),
  q0 106 .dup2 1,
  q0 107 .iaload 1,
  q1 108 (.iconst 1) 1 (vI 1),
  q0 109 .iadd 1,
  q0 110 .iastore 1,
  q0 111 (.aload_n 0) 1,
  q3 112 (.getfield 13) 3 (vI 2) 5 1,
  q1 115 (.iconst 4) 1 (vI 4),
  q0 116 .iaload 1,
  q0 117 .ireturn 1]
def iX5_stageOf : List IE := [
  q0 0 (.iload_n 1) 1,
  q0 1 (.aload_n 0) 1,
  q3 2 (.getfield 13) 3 (vI 2) 5 1,
  q1 5 (.iconst 4) 1 (vI 4),
  q0 6 .iaload 1,
  q5 7 (.invokestatic 46) 3 0 2 yX5_isIn,
  q2 10 (.ifCond .ne 11) 3 21,
  q0 13 (.aload_n 0) 1,
  q1 14 (.iconst (-1)) 1 (vI (-1)),
  q5 15 (.invokevirtual 50) 3 5 2 yX5_refuse,
  q2 18 (.goto 33) 3 51,
  q0 21 (.iload_n 2) 1,
  q1 22 (.iconst 3) 1 (vI 3),
  q5 23 (.invokestatic 46) 3 0 2 yX5_isIn,
  q2 26 (.ifCond .eq 19) 3 45,
  q0 29 (.aload_n 0) 1,
  q3 30 (.getfield 13) 3 (vI 2) 5 1,
  q1 33 (.bipush 88) 2 (vI 88),
  q1 35 (.iconst 3) 1 (vI 3),
  q0 36 (.iload_n 1) 1,
  q0 37 .imul 1,
  q0 38 .iadd 1,
  q0 39 (.iload_n 2) 1,
  q0 40 .iadd 1,
  q0 41 .iaload 1,
  q2 42 (.goto 9) 3 51,
  q0 45 (.aload_n 0) 1,
  q1 46 (.bipush (-2)) 2 (vI (-2)),
  q5 48 (.invokevirtual 50) 3 5 2 yX5_refuse,
  q0 51 .ireturn 1]
def iX5_drop : List IE := [
  q0 0 (.aload_n 0) 1,
  q3 1 (.getfield 13) 3 (vI 2) 5 1,
  q1 4 (.iconst 4) 1 (vI 4),
  q0 5 .iaload 1,
  q0 6 (.istore_n 1) 1,
  q0 7 (.aload_n 0) 1,
  q3 8 (.getfield 13) 3 (vI 2) 5 1,
  q1 11 (.iconst 4) 1 (vI 4),
  q1 12 (.iconst 0) 1 (vI 0),
  q0 13 .iastore 1,
  q0 14 (.iload_n 1) 1,
  q0 15 .ireturn 1]
def iX5_begins : List IE := [
  q1 0 (.iconst 0) 1 (vI 0),
  q0 1 (.istore_n 1) 1,
  q0 2 (.iload_n 1) 1,
  q0 3 (.aload_n 0) 1,
  q3 4 (.getfield 13) 3 (vI 2) 5 1,
  q1 7 (.iconst 3) 1 (vI 3),
  q0 8 .iaload 1,
  q2 9 (.if_icmp .ge 42) 3 51,
  q0 12 (.aload_n 0) 1,
  q3 13 (.getfield 28) 3 (vI 2) 5 9,
  q0 16 (.iload_n 1) 1,
  q0 17 (.aload_n 0) 1,
  q0 18 (.iload_n 1) 1,
  q1 19 (.bipush 7) 2 (vI 7),
  q5 21 (.invokevirtual 94) 3 5 3 yX5_get,
  q0 24 .iastore 1,
  q0 25 (.aload_n 0) 1,
  q3 26 (.getfield 31) 3 (vI 2) 5 10,
  q0 29 (.iload_n 1) 1,
  q0 30 (.aload_n 0) 1,
  q0 31 (.iload_n 1) 1,
  q1 32 (.bipush 8) 2 (vI 8),
  q5 34 (.invokevirtual 94) 3 5 3 yX5_get,
  q0 37 .iastore 1,
  q0 38 (.aload_n 0) 1,
  q3 39 (.getfield 34) 3 (vI 2) 5 11,
  q0 42 (.iload_n 1) 1,
  q1 43 (.iconst 0) 1 (vI 0),
  q0 44 .iastore 1,
  q1 45 (.iinc 1 1) 3 (vI 1),
  q2 48 (.goto (-46)) 3 2,
  q0 51 (.aload_n 0) 1,
  q0 52 (.aload_n 0) 1,
  q3 53 (.getfield 13) 3 (vI 2) 5 1,
  q1 56 (.iconst 5) 1 (vI 5),
  q0 57 .iaload 1,
  q3 58 (.putfield 123) 3 (vI 0) 5 12,
  q0 61 (.aload_n 0) 1,
  q1 62 (.iconst 0) 1 (vI 0),
  q3 63 (.putfield 126) 3 (vI 0) 5 13,
  q0 66 (.aload_n 0) 1,
  q1 67 (.iconst 0) 1 (vI 0),
  q3 68 (.putfield 129) 3 (vI 0) 5 15,
  q0 71 (.aload_n 0) 1,
  q1 72 (.iconst 0) 1 (vI 0),
  q3 73 (.putfield 132) 3 (vI 1) 5 16,
  q0 76 (.aload_n 0) 1,
  q1 77 (.bipush (-9)) 2 (vI (-9)),
  q3 79 (.putfield 136) 3 (vI 0) 5 17,
  q0 82 (.aload_n 0) 1,
  q1 83 (.bipush (-9)) 2 (vI (-9)),
  q3 85 (.putfield 139) 3 (vI 0) 5 19,
  q0 88 .return_ 1]
def iX5_opensStage : List IE := [
  q1 0 (.iconst 0) 1 (vI 0),
  q0 1 (.istore_n 2) 1,
  q0 2 (.iload_n 2) 1,
  q0 3 (.aload_n 0) 1,
  q3 4 (.getfield 13) 3 (vI 2) 5 1,
  q1 7 (.iconst 3) 1 (vI 3),
  q0 8 .iaload 1,
  q2 9 (.if_icmp .ge 44) 3 53,
  q0 12 (.aload_n 0) 1,
  q0 13 (.iload_n 2) 1,
  q0 14 (.iload_n 1) 1,
  q5 15 (.invokevirtual 107) 3 5 3 yX5_downOf,
  q0 18 (.istore_n 3) 1,
  q0 19 (.aload_n 0) 1,
  q3 20 (.getfield 28) 3 (vI 2) 5 9,
  q0 23 (.iload_n 2) 1,
  q0 24 (.aload_n 0) 1,
  q3 25 (.getfield 28) 3 (vI 2) 5 9,
  q0 28 (.iload_n 2) 1,
  q0 29 .iaload 1,
  q0 30 (.iload_n 3) 1,
  q0 31 .imul 1,
  q0 32 (.aload_n 0) 1,
  q3 33 (.getfield 31) 3 (vI 2) 5 10,
  q0 36 (.iload_n 2) 1,
  q0 37 .iaload 1,
  q0 38 .idiv 1,
  q0 39 .iastore 1,
  q0 40 (.aload_n 0) 1,
  q3 41 (.getfield 31) 3 (vI 2) 5 10,
  q0 44 (.iload_n 2) 1,
  q0 45 (.iload_n 3) 1,
  q0 46 .iastore 1,
  q1 47 (.iinc 2 1) 3 (vI 1),
  q2 50 (.goto (-48)) 3 2,
  q0 53 .return_ 1]
def iX5_comesBy : List IE := [
  q0 0 (.iload_n 2) 1,
  q1 1 (.iconst 5) 1 (vI 5),
  q2 2 (.if_icmp .ne 5) 3 7,
  q1 5 (.iconst 0) 1 (vI 0),
  q0 6 .ireturn 1,
  q1 7 (.bipush 100) 2 (vI 100),
  q0 9 (.aload_n 0) 1,
  q3 10 (.getfield 31) 3 (vI 2) 5 10,
  q0 13 (.iload_n 1) 1,
  q0 14 .iaload 1,
  q0 15 .imul 1,
  q0 16 (.istore_n 3) 1,
  q0 17 (.aload_n 0) 1,
  q0 18 (.iload_n 1) 1,
  q1 19 (.iconst 0) 1 (vI 0),
  q5 20 (.invokevirtual 94) 3 5 3 yX5_get,
  q0 23 (.istore 4) 2,
  q0 25 (.iload_n 2) 1,
  q1 26 (.iconst 4) 1 (vI 4),
  q2 27 (.if_icmp .ne 52) 3 79,
  q0 30 (.iload 4) 2,
  q2 32 (.ifCond .eq 23) 3 55,
  q0 35 (.iload 4) 2,
  q1 37 (.iconst 5) 1 (vI 5),
  q2 38 (.if_icmp .eq 17) 3 55,
  q0 41 (.iload 4) 2,
  q1 43 (.bipush 6) 2 (vI 6),
  q2 45 (.if_icmp .eq 10) 3 55,
  q0 48 (.iload 4) 2,
  q1 50 (.bipush 7) 2 (vI 7),
  q2 52 (.if_icmp .ne 25) 3 77,
  q0 55 (.aload_n 0) 1,
  q3 56 (.getfield 28) 3 (vI 2) 5 9,
  q0 59 (.iload_n 1) 1,
  q0 60 (.aload_n 0) 1,
  q3 61 (.getfield 28) 3 (vI 2) 5 9,
  q0 64 (.iload_n 1) 1,
  q0 65 .iaload 1,
  q0 66 (.iload_n 3) 1,
  q0 67 .iadd 1,
  q0 68 (.aload_n 0) 1,
  q0 69 (.iload_n 1) 1,
  q5 70 (.invokevirtual 104) 3 5 2 yX5_upOf,
  q0 73 .isub 1,
  q0 74 (.iload_n 3) 1,
  q0 75 .irem 1,
  q0 76 .iastore 1,
  q1 77 (.iconst 0) 1 (vI 0),
  q0 78 .ireturn 1,
  q0 79 (.aload_n 0) 1,
  q0 80 (.iload_n 1) 1,
  q1 81 (.iconst 1) 1 (vI 1),
  q5 82 (.invokevirtual 94) 3 5 3 yX5_get,
  q0 85 (.aload_n 0) 1,
  q3 86 (.getfield 31) 3 (vI 2) 5 10,
  q0 89 (.iload_n 1) 1,
  q0 90 .iaload 1,
  q0 91 .imul 1,
  q0 92 (.aload_n 0) 1,
  q3 93 (.getfield 28) 3 (vI 2) 5 9,
  q0 96 (.iload_n 1) 1,
  q0 97 .iaload 1,
  q0 98 .isub 1,
  q0 99 (.iload_n 3) 1,
  q0 100 .iadd 1,
  q0 101 (.iload_n 3) 1,
  q0 102 .irem 1,
  q0 103 (.istore 5) 2,
  q0 105 (.iload 5) 2,
  q2 107 (.ifCond .ne 7) 3 114,
  q0 110 (.iload_n 3) 1,
  q2 111 (.goto 5) 3 116,
  q0 114 (.iload 5) 2,
  q0 116 (.istore 5) 2,
  q0 118 (.aload_n 0) 1,
  q3 119 (.getfield 28) 3 (vI 2) 5 9,
  q0 122 (.iload_n 1) 1,
  q0 123 (.aload_n 0) 1,
  q3 124 (.getfield 28) 3 (vI 2) 5 9,
  q0 127 (.iload_n 1) 1,
  q0 128 .iaload 1,
  q0 129 (.aload_n 0) 1,
  q0 130 (.iload_n 1) 1,
  q5 131 (.invokevirtual 104) 3 5 2 yX5_upOf,
  q0 134 .iadd 1,
  q0 135 (.iload_n 3) 1,
  q0 136 .irem 1,
  q0 137 .iastore 1,
  q0 138 (.iload 5) 2,
  q0 140 (.aload_n 0) 1,
  q0 141 (.iload_n 1) 1,
  q5 142 (.invokevirtual 104) 3 5 2 yX5_upOf,
  q2 145 (.if_icmp .gt 7) 3 152,
  q1 148 (.iconst 1) 1 (vI 1),
  q2 149 (.goto 4) 3 153,
  q1 152 (.iconst 0) 1 (vI 0),
  q0 153 .ireturn 1]
def iX5_isSilent : List IE := [
  q0 0 (.aload_n 0) 1,
  q0 1 (.iload_n 1) 1,
  q1 2 (.iconst 0) 1 (vI 0),
  q5 3 (.invokevirtual 94) 3 5 3 yX5_get,
  q1 6 (.iconst 5) 1 (vI 5),
  q2 7 (.if_icmp .ne 41) 3 48,
  q0 10 (.aload_n 0) 1,
  q3 11 (.getfield 13) 3 (vI 2) 5 1,
  q1 14 (.bipush 6) 2 (vI 6),
  q0 16 .iaload 1,
  q2 17 (.ifCond .lt 29) 3 46,
  q0 20 (.aload_n 0) 1,
  q3 21 (.getfield 123) 3 (vI 0) 5 12,
  q0 24 (.aload_n 0) 1,
  q3 25 (.getfield 13) 3 (vI 2) 5 1,
  q1 28 (.bipush 6) 2 (vI 6),
  q0 30 .iaload 1,
  q0 31 .isub 1,
  q0 32 (.aload_n 0) 1,
  q3 33 (.getfield 13) 3 (vI 2) 5 1,
  q1 36 (.bipush 10) 2 (vI 10),
  q0 38 .iaload 1,
  q2 39 (.if_icmp .ge 7) 3 46,
  q1 42 (.iconst 1) 1 (vI 1),
  q2 43 (.goto 4) 3 47,
  q1 46 (.iconst 0) 1 (vI 0),
  q0 47 .ireturn 1,
  q0 48 (.aload_n 0) 1,
  q0 49 (.iload_n 1) 1,
  q1 50 (.iconst 0) 1 (vI 0),
  q5 51 (.invokevirtual 94) 3 5 3 yX5_get,
  q1 54 (.bipush 7) 2 (vI 7),
  q2 56 (.if_icmp .ne 18) 3 74,
  q0 59 (.aload_n 0) 1,
  q3 60 (.getfield 13) 3 (vI 2) 5 1,
  q1 63 (.bipush 8) 2 (vI 8),
  q0 65 .iaload 1,
  q1 66 (.iconst 1) 1 (vI 1),
  q2 67 (.if_icmp .ne 7) 3 74,
  q1 70 (.iconst 1) 1 (vI 1),
  q2 71 (.goto 4) 3 75,
  q1 74 (.iconst 0) 1 (vI 0),
  q0 75 .ireturn 1]
def iX5_clicks : List IE := [
  q0 0 (.iload_n 1) 1,
  q0 1 (.aload_n 0) 1,
  q3 2 (.getfield 136) 3 (vI 0) 5 17,
  q2 5 (.if_icmp .ne 24) 3 29,
  q0 8 (.aload_n 0) 1,
  q3 9 (.getfield 34) 3 (vI 2) 5 11,
  q0 12 (.iload_n 1) 1,
  q0 13 .iaload 1,
  q0 14 (.aload_n 0) 1,
  q3 15 (.getfield 142) 3 (vI 0) 5 18,
  q2 18 (.if_icmp .ne 11) 3 29,
  q0 21 (.aload_n 0) 1,
  q0 22 (.aload_n 0) 1,
  q3 23 (.getfield 126) 3 (vI 0) 5 13,
  q3 26 (.putfield 139) 3 (vI 0) 5 19,
  q0 29 (.aload_n 0) 1,
  q3 30 (.getfield 34) 3 (vI 2) 5 11,
  q0 33 (.iload_n 1) 1,
  q0 34 .dup2 1,
  q0 35 .iaload 1,
  q1 36 (.iconst 1) 1 (vI 1),
  q0 37 .iadd 1,
  q0 38 .iastore 1,
  q0 39 (.aload_n 0) 1,
  q3 40 (.getfield 132) 3 (vI 1) 5 16,
  q2 43 (.ifCond .ne 4) 3 47,
  q0 46 .return_ 1,
  q0 47 (.aload_n 0) 1,
  q0 48 (.aload_n 0) 1,
  q3 49 (.getfield 145) 3 (vI 0) 5 14,
  q1 52 (.ldc 148) 2 (vI 1664525),
  q0 54 .imul 1,
  q1 55 (.ldc 149) 2 (vI 1013904223),
  q0 57 .iadd 1,
  q3 58 (.putfield 145) 3 (vI 0) 5 14,
  q0 61 (.aload_n 0) 1,
  q0 62 .dup 1,
  q3 63 (.getfield 129) 3 (vI 0) 5 15,
  q0 66 (.aload_n 0) 1,
  q3 67 (.getfield 145) 3 (vI 0) 5 14,
  q1 70 (.ldc 150) 2 (vI 2147483647),
  q0 72 .iand 1,
  q1 73 (.sipush 256) 3 (vI 256),
  q0 76 .idiv 1,
  q1 77 (.bipush 100) 2 (vI 100),
  q0 79 .irem 1,
  q0 80 (.aload_n 0) 1,
  q3 81 (.getfield 13) 3 (vI 2) 5 1,
  q1 84 (.bipush 9) 2 (vI 9),
  q0 86 .iaload 1,
  q2 87 (.if_icmp .ge 7) 3 94,
  q1 90 (.iconst 1) 1 (vI 1),
  q2 91 (.goto 4) 3 95,
  q1 94 (.iconst 0) 1 (vI 0),
  q0 95 .iadd 1,
  q3 96 (.putfield 129) 3 (vI 0) 5 15,
  q0 99 .return_ 1]
def iX5_goesStep : List IE := [
  q0 0 (.aload_n 0) 1,
  q0 1 (.iload_n 1) 1,
  q0 2 (.iload_n 2) 1,
  q5 3 (.invokevirtual 117) 3 5 3 yX5_loadOf,
  q0 6 (.istore_n 3) 1,
  q1 7 (.iconst 0) 1 (vI 0),
  q0 8 (.istore 4) 2,
  q0 10 (.iload 4) 2,
  q0 12 (.aload_n 0) 1,
  q3 13 (.getfield 13) 3 (vI 2) 5 1,
  q1 16 (.iconst 3) 1 (vI 3),
  q0 17 .iaload 1,
  q2 18 (.if_icmp .ge 87) 3 105,
  q0 21 (.aload_n 0) 1,
  q0 22 (.iload 4) 2,
  q0 24 (.iload_n 1) 1,
  q5 25 (.invokevirtual 151) 3 5 3 yX5_comesBy,
  q0 28 (.istore 5) 2,
  q0 30 (.aload_n 0) 1,
  q0 31 (.iload 4) 2,
  q1 33 (.iconst 0) 1 (vI 0),
  q5 34 (.invokevirtual 94) 3 5 3 yX5_get,
  q1 37 (.iconst 4) 1 (vI 4),
  q2 38 (.if_icmp .ne 23) 3 61,
  q0 41 (.iload_n 2) 1,
  q1 42 (.bipush 25) 2 (vI 25),
  q2 44 (.if_icmp .eq 9) 3 53,
  q0 47 (.iload_n 2) 1,
  q1 48 (.bipush 75) 2 (vI 75),
  q2 50 (.if_icmp .ne 7) 3 57,
  q1 53 (.iconst 1) 1 (vI 1),
  q2 54 (.goto 9) 3 63,
  q1 57 (.iconst 0) 1 (vI 0),
  q2 58 (.goto 5) 3 63,
  q0 61 (.iload 5) 2,
  q0 63 (.istore 6) 2,
  q0 65 (.iload 6) 2,
  q2 67 (.ifCond .eq 32) 3 99,
  q0 70 (.iload_n 3) 1,
  q0 71 (.aload_n 0) 1,
  q0 72 (.iload 4) 2,
  q0 74 (.aload_n 0) 1,
  q3 75 (.getfield 123) 3 (vI 0) 5 12,
  q5 78 (.invokevirtual 101) 3 5 3 yX5_limitOf,
  q2 81 (.if_icmp .lt 18) 3 99,
  q0 84 (.aload_n 0) 1,
  q0 85 (.iload 4) 2,
  q5 87 (.invokevirtual 154) 3 5 2 yX5_isSilent,
  q2 90 (.ifCond .ne 9) 3 99,
  q0 93 (.aload_n 0) 1,
  q0 94 (.iload 4) 2,
  q5 96 (.invokevirtual 157) 3 5 2 yX5_clicks,
  q1 99 (.iinc 4 1) 3 (vI 1),
  q2 102 (.goto (-92)) 3 10,
  q0 105 (.aload_n 0) 1,
  q0 106 .dup 1,
  q3 107 (.getfield 126) 3 (vI 0) 5 13,
  q1 110 (.iconst 1) 1 (vI 1),
  q0 111 .iadd 1,
  q3 112 (.putfield 126) 3 (vI 0) 5 13,
  q0 115 .return_ 1]
def iX5_goesStage : List IE := [
  q0 0 (.aload_n 0) 1,
  q0 1 (.iload_n 2) 1,
  q5 2 (.invokevirtual 161) 3 5 2 yX5_opensStage,
  q1 5 (.iconst 0) 1 (vI 0),
  q0 6 (.istore 4) 2,
  q0 8 (.iload 4) 2,
  q0 10 (.iload_n 3) 1,
  q2 11 (.if_icmp .ge 42) 3 53,
  q1 14 (.iconst 0) 1 (vI 0),
  q0 15 (.istore 5) 2,
  q0 17 (.iload 5) 2,
  q1 19 (.bipush 100) 2 (vI 100),
  q2 21 (.if_icmp .ge 16) 3 37,
  q0 24 (.aload_n 0) 1,
  q0 25 (.iload_n 1) 1,
  q0 26 (.iload 5) 2,
  q5 28 (.invokevirtual 164) 3 5 3 yX5_goesStep,
  q1 31 (.iinc 5 1) 3 (vI 1),
  q2 34 (.goto (-17)) 3 17,
  q0 37 (.aload_n 0) 1,
  q0 38 .dup 1,
  q3 39 (.getfield 123) 3 (vI 0) 5 12,
  q1 42 (.iconst 1) 1 (vI 1),
  q0 43 .iadd 1,
  q3 44 (.putfield 123) 3 (vI 0) 5 12,
  q1 47 (.iinc 4 1) 3 (vI 1),
  q2 50 (.goto (-42)) 3 8,
  q0 53 .return_ 1]
def iX5_rides : List IE := [
  q1 0 (.iconst 0) 1 (vI 0),
  q0 1 (.istore_n 1) 1,
  q0 2 (.iload_n 1) 1,
  q0 3 (.aload_n 0) 1,
  q3 4 (.getfield 13) 3 (vI 2) 5 1,
  q1 7 (.iconst 4) 1 (vI 4),
  q0 8 .iaload 1,
  q2 9 (.if_icmp .ge 50) 3 59,
  q0 12 (.aload_n 0) 1,
  q0 13 (.aload_n 0) 1,
  q3 14 (.getfield 13) 3 (vI 2) 5 1,
  q1 17 (.bipush 88) 2 (vI 88),
  q1 19 (.iconst 3) 1 (vI 3),
  q0 20 (.iload_n 1) 1,
  q0 21 .imul 1,
  q0 22 .iadd 1,
  q0 23 .iaload 1,
  q0 24 (.aload_n 0) 1,
  q3 25 (.getfield 13) 3 (vI 2) 5 1,
  q1 28 (.bipush 88) 2 (vI 88),
  q1 30 (.iconst 3) 1 (vI 3),
  q0 31 (.iload_n 1) 1,
  q0 32 .imul 1,
  q0 33 .iadd 1,
  q1 34 (.iconst 1) 1 (vI 1),
  q0 35 .iadd 1,
  q0 36 .iaload 1,
  q0 37 (.aload_n 0) 1,
  q3 38 (.getfield 13) 3 (vI 2) 5 1,
  q1 41 (.bipush 88) 2 (vI 88),
  q1 43 (.iconst 3) 1 (vI 3),
  q0 44 (.iload_n 1) 1,
  q0 45 .imul 1,
  q0 46 .iadd 1,
  q1 47 (.iconst 2) 1 (vI 2),
  q0 48 .iadd 1,
  q0 49 .iaload 1,
  q5 50 (.invokevirtual 168) 3 5 4 yX5_goesStage,
  q1 53 (.iinc 1 1) 3 (vI 1),
  q2 56 (.goto (-54)) 3 2,
  q0 59 .return_ 1]
def iX5_counted : List IE := [
  q0 0 (.aload_n 0) 1,
  q5 1 (.invokevirtual 172) 3 5 1 yX5_begins,
  q0 4 (.aload_n 0) 1,
  q5 5 (.invokevirtual 175) 3 5 1 yX5_rides,
  q0 8 .return_ 1]
def iX5_counts : List IE := [
  q0 0 (.aload_n 0) 1,
  q0 1 (.iload_n 1) 1,
  q5 2 (.invokevirtual 98) 3 5 2 yX5_isFault,
  q2 5 (.ifCond .ne 9) 3 14,
  q0 8 (.aload_n 0) 1,
  q1 9 (.iconst (-1)) 1 (vI (-1)),
  q5 10 (.invokevirtual 50) 3 5 2 yX5_refuse,
  q0 13 .ireturn 1,
  q0 14 (.aload_n 0) 1,
  q5 15 (.invokevirtual 178) 3 5 1 yX5_counted,
  q0 18 (.aload_n 0) 1,
  q3 19 (.getfield 34) 3 (vI 2) 5 11,
  q0 22 (.iload_n 1) 1,
  q0 23 .iaload 1,
  q0 24 .ireturn 1]
def iX5_stageAlone : List IE := [
  q0 0 (.aload_n 0) 1,
  q5 1 (.invokevirtual 172) 3 5 1 yX5_begins,
  q0 4 (.aload_n 0) 1,
  q0 5 (.iload_n 1) 1,
  q0 6 (.iload_n 2) 1,
  q0 7 (.iload_n 3) 1,
  q5 8 (.invokevirtual 168) 3 5 4 yX5_goesStage,
  q0 11 .return_ 1]
def iX5_stageCounts : List IE := [
  q0 0 (.aload_n 0) 1,
  q0 1 (.iload_n 1) 1,
  q5 2 (.invokevirtual 98) 3 5 2 yX5_isFault,
  q2 5 (.ifCond .eq 29) 3 34,
  q0 8 (.iload_n 2) 1,
  q5 9 (.invokestatic 110) 3 0 1 yX5_isAct,
  q2 12 (.ifCond .eq 22) 3 34,
  q0 15 (.aload_n 0) 1,
  q0 16 (.iload_n 3) 1,
  q5 17 (.invokevirtual 91) 3 5 2 yX5_isGear,
  q2 20 (.ifCond .eq 14) 3 34,
  q0 23 (.iload 4) 2,
  q1 25 (.iconst 1) 1 (vI 1),
  q1 26 (.bipush 60) 2 (vI 60),
  q5 28 (.invokestatic 113) 3 0 3 yX5_within,
  q2 31 (.goto 4) 3 35,
  q1 34 (.iconst (-1)) 1 (vI (-1)),
  q0 35 (.istore 5) 2,
  q0 37 (.iload 5) 2,
  q2 39 (.ifCond .eq 10) 3 49,
  q0 42 (.aload_n 0) 1,
  q0 43 (.iload 5) 2,
  q5 45 (.invokevirtual 50) 3 5 2 yX5_refuse,
  q0 48 .ireturn 1,
  q0 49 (.aload_n 0) 1,
  q0 50 (.iload_n 2) 1,
  q0 51 (.iload_n 3) 1,
  q0 52 (.iload 4) 2,
  q5 54 (.invokevirtual 181) 3 5 4 yX5_stageAlone,
  q0 57 (.aload_n 0) 1,
  q3 58 (.getfield 34) 3 (vI 2) 5 11,
  q0 61 (.iload_n 1) 1,
  q0 62 .iaload 1,
  q0 63 .ireturn 1]
def iX5_when : List IE := [
  q0 0 (.aload_n 0) 1,
  q0 1 (.iload_n 1) 1,
  q5 2 (.invokevirtual 98) 3 5 2 yX5_isFault,
  q2 5 (.ifCond .ne 9) 3 14,
  q0 8 (.aload_n 0) 1,
  q1 9 (.iconst (-1)) 1 (vI (-1)),
  q5 10 (.invokevirtual 50) 3 5 2 yX5_refuse,
  q0 13 .ireturn 1,
  q0 14 (.iload_n 2) 1,
  q2 15 (.ifCond .ge 10) 3 25,
  q0 18 (.aload_n 0) 1,
  q1 19 (.bipush (-4)) 2 (vI (-4)),
  q5 21 (.invokevirtual 50) 3 5 2 yX5_refuse,
  q0 24 .ireturn 1,
  q0 25 (.aload_n 0) 1,
  q5 26 (.invokevirtual 172) 3 5 1 yX5_begins,
  q0 29 (.aload_n 0) 1,
  q0 30 (.iload_n 1) 1,
  q3 31 (.putfield 136) 3 (vI 0) 5 17,
  q0 34 (.aload_n 0) 1,
  q0 35 (.iload_n 2) 1,
  q3 36 (.putfield 142) 3 (vI 0) 5 18,
  q0 39 (.aload_n 0) 1,
  q5 40 (.invokevirtual 175) 3 5 1 yX5_rides,
  q0 43 (.aload_n 0) 1,
  q3 44 (.getfield 139) 3 (vI 0) 5 19,
  q0 47 .ireturn 1]
def iX5_heard : List IE := [
  q0 0 (.aload_n 0) 1,
  q5 1 (.invokevirtual 172) 3 5 1 yX5_begins,
  q0 4 (.aload_n 0) 1,
  q1 5 (.iconst 1) 1 (vI 1),
  q3 6 (.putfield 132) 3 (vI 1) 5 16,
  q0 9 (.aload_n 0) 1,
  q0 10 (.iload_n 1) 1,
  q3 11 (.putfield 145) 3 (vI 0) 5 14,
  q0 14 (.aload_n 0) 1,
  q5 15 (.invokevirtual 175) 3 5 1 yX5_rides,
  q1 18 (.iconst 0) 1 (vI 0),
  q0 19 (.istore_n 2) 1,
  q1 20 (.iconst 0) 1 (vI 0),
  q0 21 (.istore_n 3) 1,
  q0 22 (.iload_n 3) 1,
  q0 23 (.aload_n 0) 1,
  q3 24 (.getfield 13) 3 (vI 2) 5 1,
  q1 27 (.iconst 3) 1 (vI 3),
  q0 28 .iaload 1,
  q2 29 (.if_icmp .ge 18) 3 47,
  q0 32 (.iload_n 2) 1,
  q0 33 (.aload_n 0) 1,
  q3 34 (.getfield 34) 3 (vI 2) 5 11,
  q0 37 (.iload_n 3) 1,
  q0 38 .iaload 1,
  q0 39 .iadd 1,
  q0 40 (.istore_n 2) 1,
  q1 41 (.iinc 3 1) 3 (vI 1),
  q2 44 (.goto (-22)) 3 22,
  q0 47 (.iload_n 2) 1,
  q0 48 (.aload_n 0) 1,
  q3 49 (.getfield 129) 3 (vI 0) 5 15,
  q0 52 .isub 1,
  q0 53 .ireturn 1]
def iX5_go : List IE := [
  q1 0 (.iconst 0) 1 (vI 0),
  q0 1 (.istore_n 1) 1,
  q1 2 (.iconst 0) 1 (vI 0),
  q0 3 (.istore_n 2) 1,
  q0 4 (.iload_n 2) 1,
  q0 5 (.aload_n 0) 1,
  q3 6 (.getfield 13) 3 (vI 2) 5 1,
  q1 9 (.iconst 4) 1 (vI 4),
  q0 10 .iaload 1,
  q2 11 (.if_icmp .ge 25) 3 36,
  q0 14 (.iload_n 1) 1,
  q0 15 (.aload_n 0) 1,
  q3 16 (.getfield 13) 3 (vI 2) 5 1,
  q1 19 (.bipush 88) 2 (vI 88),
  q1 21 (.iconst 3) 1 (vI 3),
  q0 22 (.iload_n 2) 1,
  q0 23 .imul 1,
  q0 24 .iadd 1,
  q1 25 (.iconst 2) 1 (vI 2),
  q0 26 .iadd 1,
  q0 27 .iaload 1,
  q0 28 .iadd 1,
  q0 29 (.istore_n 1) 1,
  q1 30 (.iinc 2 1) 3 (vI 1),
  q2 33 (.goto (-29)) 3 4,
  q0 36 (.aload_n 0) 1,
  q3 37 (.getfield 13) 3 (vI 2) 5 1,
  q1 40 (.iconst 4) 1 (vI 4),
  q0 41 .iaload 1,
  q2 42 (.ifCond .ne 8) 3 50,
  q1 45 (.bipush (-3)) 2 (vI (-3)),
  q2 47 (.goto 23) 3 70,
  q0 50 (.aload_n 0) 1,
  q3 51 (.getfield 13) 3 (vI 2) 5 1,
  q1 54 (.iconst 5) 1 (vI 5),
  q0 55 .iaload 1,
  q0 56 (.iload_n 1) 1,
  q0 57 .iadd 1,
  q1 58 (.sipush 9999) 3 (vI 9999),
  q2 61 (.if_icmp .le 8) 3 69,
  q1 64 (.bipush (-6)) 2 (vI (-6)),
  q2 66 (.goto 4) 3 70,
  q1 69 (.iconst 0) 1 (vI 0),
  q0 70 (.istore_n 2) 1,
  q0 71 (.iload_n 2) 1,
  q2 72 (.ifCond .eq 9) 3 81,
  q0 75 (.aload_n 0) 1,
  q0 76 (.iload_n 2) 1,
  q5 77 (.invokevirtual 50) 3 5 2 yX5_refuse,
  q0 80 .ireturn 1,
  q0 81 (.aload_n 0) 1,
  q5 82 (.invokevirtual 178) 3 5 1 yX5_counted,
  q1 85 (.iconst 0) 1 (vI 0),
  q0 86 (.istore_n 3) 1,
  q0 87 (.iload_n 3) 1,
  q0 88 (.aload_n 0) 1,
  q3 89 (.getfield 13) 3 (vI 2) 5 1,
  q1 92 (.iconst 3) 1 (vI 3),
  q0 93 .iaload 1,
  q2 94 (.if_icmp .ge 51) 3 145,
  q0 97 (.aload_n 0) 1,
  q3 98 (.getfield 13) 3 (vI 2) 5 1,
  q1 101 (.bipush 16) 2 (vI 16),
  q1 103 (.bipush 9) 2 (vI 9),
  q0 105 (.iload_n 3) 1,
  q0 106 .imul 1,
  q0 107 .iadd 1,
  q1 108 (.bipush 7) 2 (vI 7),
  q0 110 .iadd 1,
  q0 111 (.aload_n 0) 1,
  q3 112 (.getfield 28) 3 (vI 2) 5 9,
  q0 115 (.iload_n 3) 1,
  q0 116 .iaload 1,
  q0 117 .iastore 1,
  q0 118 (.aload_n 0) 1,
  q3 119 (.getfield 13) 3 (vI 2) 5 1,
  q1 122 (.bipush 16) 2 (vI 16),
  q1 124 (.bipush 9) 2 (vI 9),
  q0 126 (.iload_n 3) 1,
  q0 127 .imul 1,
  q0 128 .iadd 1,
  q1 129 (.bipush 8) 2 (vI 8),
  q0 131 .iadd 1,
  q0 132 (.aload_n 0) 1,
  q3 133 (.getfield 31) 3 (vI 2) 5 10,
  q0 136 (.iload_n 3) 1,
  q0 137 .iaload 1,
  q0 138 .iastore 1,
  q1 139 (.iinc 3 1) 3 (vI 1),
  q2 142 (.goto (-55)) 3 87,
  q0 145 (.aload_n 0) 1,
  q3 146 (.getfield 13) 3 (vI 2) 5 1,
  q1 149 (.iconst 5) 1 (vI 5),
  q0 150 (.aload_n 0) 1,
  q3 151 (.getfield 123) 3 (vI 0) 5 12,
  q0 154 .iastore 1,
  q0 155 (.aload_n 0) 1,
  q3 156 (.getfield 13) 3 (vI 2) 5 1,
  q1 159 (.iconst 5) 1 (vI 5),
  q0 160 .iaload 1,
  q0 161 .ireturn 1]
def iX5_wrongCount : List IE := [
  q0 0 (.iload_n 0) 1,
  q2 1 (.ifCond .lt 7) 3 8,
  q0 4 (.iload_n 1) 1,
  q2 5 (.ifCond .ge 8) 3 13,
  q1 8 (.bipush (-4)) 2 (vI (-4)),
  q2 10 (.goto 23) 3 33,
  q0 13 (.iload_n 0) 1,
  q1 14 (.sipush 9999) 3 (vI 9999),
  q2 17 (.if_icmp .gt 10) 3 27,
  q0 20 (.iload_n 1) 1,
  q1 21 (.sipush 9999) 3 (vI 9999),
  q2 24 (.if_icmp .le 8) 3 32,
  q1 27 (.bipush (-6)) 2 (vI (-6)),
  q2 29 (.goto 4) 3 33,
  q1 32 (.iconst 0) 1 (vI 0),
  q0 33 .ireturn 1]
def iX5_amount : List IE := [
  q0 0 (.iload_n 0) 1,
  q2 1 (.ifCond .ge 8) 3 9,
  q0 4 (.iload_n 0) 1,
  q0 5 .ineg 1,
  q2 6 (.goto 4) 3 10,
  q0 9 (.iload_n 0) 1,
  q0 10 .ireturn 1]
def iX5_fitOf : List IE := [
  q0 0 (.aload_n 0) 1,
  q5 1 (.invokevirtual 178) 3 5 1 yX5_counted,
  q1 4 (.iconst 0) 1 (vI 0),
  q0 5 (.istore_n 3) 1,
  q1 6 (.iconst 0) 1 (vI 0),
  q0 7 (.istore 4) 2,
  q0 9 (.iload 4) 2,
  q0 11 (.aload_n 0) 1,
  q3 12 (.getfield 13) 3 (vI 2) 5 1,
  q1 15 (.iconst 3) 1 (vI 3),
  q0 16 .iaload 1,
  q2 17 (.if_icmp .ge 36) 3 53,
  q0 20 (.iload_n 3) 1,
  q0 21 (.aload_n 0) 1,
  q3 22 (.getfield 34) 3 (vI 2) 5 11,
  q0 25 (.iload 4) 2,
  q0 27 .iaload 1,
  q0 28 (.iload_n 1) 1,
  q0 29 .isub 1,
  q5 30 (.invokestatic 184) 3 0 1 yX5_amount,
  q0 33 (.iload_n 2) 1,
  q2 34 (.if_icmp .gt 10) 3 44,
  q1 37 (.iconst 1) 1 (vI 1),
  q0 38 (.iload 4) 2,
  q0 40 .ishl 1,
  q2 41 (.goto 4) 3 45,
  q1 44 (.iconst 0) 1 (vI 0),
  q0 45 .ior 1,
  q0 46 (.istore_n 3) 1,
  q1 47 (.iinc 4 1) 3 (vI 1),
  q2 50 (.goto (-41)) 3 9,
  q0 53 (.iload_n 3) 1,
  q0 54 .ireturn 1]
def iX5_fit : List IE := [
  q0 0 (.iload_n 1) 1,
  q0 1 (.iload_n 2) 1,
  q5 2 (.invokestatic 187) 3 0 2 yX5_wrongCount,
  q0 5 (.istore_n 3) 1,
  q0 6 (.iload_n 3) 1,
  q2 7 (.ifCond .eq 11) 3 18,
  q0 10 (.aload_n 0) 1,
  q0 11 (.iload_n 3) 1,
  q5 12 (.invokevirtual 50) 3 5 2 yX5_refuse,
  q2 15 (.goto 9) 3 24,
  q0 18 (.aload_n 0) 1,
  q0 19 (.iload_n 1) 1,
  q0 20 (.iload_n 2) 1,
  q5 21 (.invokevirtual 190) 3 5 3 yX5_fitOf,
  q0 24 .ireturn 1]
def iX5_common : List IE := [
  q0 0 (.iload_n 1) 1,
  q2 1 (.ifCond .ne 7) 3 8,
  q0 4 (.iload_n 0) 1,
  q2 5 (.goto 10) 3 15,
  q0 8 (.iload_n 1) 1,
  q0 9 (.iload_n 0) 1,
  q0 10 (.iload_n 1) 1,
  q0 11 .irem 1,
  q5 12 (.invokestatic 193) 3 0 2 yX5_common,
  q0 15 .ireturn 1]
def iX5_partOf : List IE := [
  q0 0 (.iload_n 2) 1,
  q0 1 (.iload_n 1) 1,
  q5 2 (.invokestatic 193) 3 0 2 yX5_common,
  q0 5 (.istore 4) 2,
  q0 7 (.iload_n 3) 1,
  q2 8 (.ifCond .ne 10) 3 18,
  q0 11 (.iload_n 1) 1,
  q0 12 (.iload 4) 2,
  q0 14 .idiv 1,
  q2 15 (.goto 7) 3 22,
  q0 18 (.iload_n 2) 1,
  q0 19 (.iload 4) 2,
  q0 21 .idiv 1,
  q0 22 .ireturn 1]
def iX5_odds : List IE := [
  q0 0 (.aload_n 0) 1,
  q0 1 (.iload_n 1) 1,
  q5 2 (.invokevirtual 98) 3 5 2 yX5_isFault,
  q2 5 (.ifCond .ne 9) 3 14,
  q0 8 (.aload_n 0) 1,
  q1 9 (.iconst (-1)) 1 (vI (-1)),
  q5 10 (.invokevirtual 50) 3 5 2 yX5_refuse,
  q0 13 .ireturn 1,
  q0 14 (.iload 4) 2,
  q1 16 (.iconst 2) 1 (vI 2),
  q5 17 (.invokestatic 46) 3 0 2 yX5_isIn,
  q2 20 (.ifCond .ne 10) 3 30,
  q0 23 (.aload_n 0) 1,
  q1 24 (.bipush (-2)) 2 (vI (-2)),
  q5 26 (.invokevirtual 50) 3 5 2 yX5_refuse,
  q0 29 .ireturn 1,
  q0 30 (.iload_n 2) 1,
  q0 31 (.iload_n 3) 1,
  q5 32 (.invokestatic 187) 3 0 2 yX5_wrongCount,
  q0 35 (.istore 5) 2,
  q0 37 (.iload 5) 2,
  q2 39 (.ifCond .eq 10) 3 49,
  q0 42 (.aload_n 0) 1,
  q0 43 (.iload 5) 2,
  q5 45 (.invokevirtual 50) 3 5 2 yX5_refuse,
  q0 48 .ireturn 1,
  q0 49 (.aload_n 0) 1,
  q0 50 (.iload_n 2) 1,
  q0 51 (.iload_n 3) 1,
  q5 52 (.invokevirtual 190) 3 5 3 yX5_fitOf,
  q0 55 (.istore 6) 2,
  q0 57 (.iload 6) 2,
  q0 59 (.iload_n 1) 1,
  q0 60 .ishr 1,
  q1 61 (.iconst 1) 1 (vI 1),
  q0 62 .iand 1,
  q2 63 (.ifCond .ne 10) 3 73,
  q0 66 (.aload_n 0) 1,
  q1 67 (.bipush (-3)) 2 (vI (-3)),
  q5 69 (.invokevirtual 50) 3 5 2 yX5_refuse,
  q0 72 .ireturn 1,
  q1 73 (.iconst 0) 1 (vI 0),
  q0 74 (.istore 7) 2,
  q1 76 (.iconst 0) 1 (vI 0),
  q0 77 (.istore 8) 2,
  q0 79 (.iload 8) 2,
  q0 81 (.aload_n 0) 1,
  q3 82 (.getfield 13) 3 (vI 2) 5 1,
  q1 85 (.iconst 3) 1 (vI 3),
  q0 86 .iaload 1,
  q2 87 (.if_icmp .ge 36) 3 123,
  q0 90 (.iload 7) 2,
  q0 92 (.iload 6) 2,
  q0 94 (.iload 8) 2,
  q0 96 .ishr 1,
  q1 97 (.iconst 1) 1 (vI 1),
  q0 98 .iand 1,
  q1 99 (.iconst 1) 1 (vI 1),
  q2 100 (.if_icmp .ne 13) 3 113,
  q0 103 (.aload_n 0) 1,
  q0 104 (.iload 8) 2,
  q1 106 (.iconst 3) 1 (vI 3),
  q5 107 (.invokevirtual 94) 3 5 3 yX5_get,
  q2 110 (.goto 4) 3 114,
  q1 113 (.iconst 0) 1 (vI 0),
  q0 114 .iadd 1,
  q0 115 (.istore 7) 2,
  q1 117 (.iinc 8 1) 3 (vI 1),
  q2 120 (.goto (-41)) 3 79,
  q0 123 (.aload_n 0) 1,
  q0 124 (.aload_n 0) 1,
  q0 125 (.iload_n 1) 1,
  q1 126 (.iconst 3) 1 (vI 3),
  q5 127 (.invokevirtual 94) 3 5 3 yX5_get,
  q0 130 (.iload 7) 2,
  q0 132 (.iload 4) 2,
  q5 134 (.invokevirtual 196) 3 5 4 yX5_partOf,
  q0 137 .ireturn 1]
def iX5_twos : List IE := [
  q0 0 (.iload_n 1) 1,
  q0 1 (.iload_n 2) 1,
  q5 2 (.invokestatic 187) 3 0 2 yX5_wrongCount,
  q0 5 (.istore 4) 2,
  q0 7 (.iload_n 3) 1,
  q1 8 (.iconst (-1)) 1 (vI (-1)),
  q2 9 (.if_icmp .ge 7) 3 16,
  q1 12 (.bipush (-4)) 2 (vI (-4)),
  q0 14 (.istore 4) 2,
  q0 16 (.iload 4) 2,
  q2 18 (.ifCond .eq 10) 3 28,
  q0 21 (.aload_n 0) 1,
  q0 22 (.iload 4) 2,
  q5 24 (.invokevirtual 50) 3 5 2 yX5_refuse,
  q0 27 .ireturn 1,
  q0 28 (.aload_n 0) 1,
  q5 29 (.invokevirtual 178) 3 5 1 yX5_counted,
  q1 32 (.iconst 0) 1 (vI 0),
  q0 33 (.istore 5) 2,
  q1 35 (.iconst 0) 1 (vI 0),
  q0 36 (.istore 6) 2,
  q0 38 (.iload 6) 2,
  q0 40 (.aload_n 0) 1,
  q3 41 (.getfield 13) 3 (vI 2) 5 1,
  q1 44 (.iconst 3) 1 (vI 3),
  q0 45 .iaload 1,
  q2 46 (.if_icmp .ge 77) 3 123,
  q0 49 (.iload 6) 2,
  q1 51 (.iconst 1) 1 (vI 1),
  q0 52 .iadd 1,
  q0 53 (.istore 7) 2,
  q0 55 (.iload 7) 2,
  q0 57 (.aload_n 0) 1,
  q3 58 (.getfield 13) 3 (vI 2) 5 1,
  q1 61 (.iconst 3) 1 (vI 3),
  q0 62 .iaload 1,
  q2 63 (.if_icmp .ge 54) 3 117,
  q0 66 (.aload_n 0) 1,
  q3 67 (.getfield 34) 3 (vI 2) 5 11,
  q0 70 (.iload 6) 2,
  q0 72 .iaload 1,
  q0 73 (.aload_n 0) 1,
  q3 74 (.getfield 34) 3 (vI 2) 5 11,
  q0 77 (.iload 7) 2,
  q0 79 .iaload 1,
  q0 80 .iadd 1,
  q0 81 (.iload_n 1) 1,
  q0 82 .isub 1,
  q5 83 (.invokestatic 184) 3 0 1 yX5_amount,
  q0 86 (.iload_n 2) 1,
  q2 87 (.if_icmp .le 6) 3 93,
  q2 90 (.goto 21) 3 111,
  q0 93 (.iload 5) 2,
  q0 95 (.iload_n 3) 1,
  q2 96 (.if_icmp .ne 12) 3 108,
  q1 99 (.bipush 10) 2 (vI 10),
  q0 101 (.iload 6) 2,
  q0 103 .imul 1,
  q0 104 (.iload 7) 2,
  q0 106 .iadd 1,
  q0 107 .ireturn 1,
  q1 108 (.iinc 5 1) 3 (vI 1),
  q1 111 (.iinc 7 1) 3 (vI 1),
  q2 114 (.goto (-59)) 3 55,
  q1 117 (.iinc 6 1) 3 (vI 1),
  q2 120 (.goto (-82)) 3 38,
  q0 123 (.iload_n 3) 1,
  q2 124 (.ifCond .ge 8) 3 132,
  q0 127 (.iload 5) 2,
  q2 129 (.goto 5) 3 134,
  q1 132 (.bipush (-9)) 2 (vI (-9)),
  q0 134 .ireturn 1]
def iX5_areTwo : List IE := [
  q0 0 (.aload_n 0) 1,
  q0 1 (.iload_n 1) 1,
  q5 2 (.invokevirtual 98) 3 5 2 yX5_isFault,
  q2 5 (.ifCond .eq 20) 3 25,
  q0 8 (.aload_n 0) 1,
  q0 9 (.iload_n 2) 1,
  q5 10 (.invokevirtual 98) 3 5 2 yX5_isFault,
  q2 13 (.ifCond .eq 12) 3 25,
  q0 16 (.iload_n 1) 1,
  q0 17 (.iload_n 2) 1,
  q2 18 (.if_icmp .eq 7) 3 25,
  q1 21 (.iconst 1) 1 (vI 1),
  q2 22 (.goto 4) 3 26,
  q1 25 (.iconst 0) 1 (vI 0),
  q0 26 .ireturn 1]
def iX5_apart : List IE := [
  q0 0 (.aload_n 0) 1,
  q0 1 (.iload_n 1) 1,
  q0 2 (.iload_n 2) 1,
  q5 3 (.invokevirtual 199) 3 5 3 yX5_areTwo,
  q2 6 (.ifCond .ne 9) 3 15,
  q0 9 (.aload_n 0) 1,
  q1 10 (.iconst (-1)) 1 (vI (-1)),
  q5 11 (.invokevirtual 50) 3 5 2 yX5_refuse,
  q0 14 .ireturn 1,
  q1 15 (.iconst 0) 1 (vI 0),
  q0 16 (.istore_n 3) 1,
  q0 17 (.iload_n 3) 1,
  q1 18 (.iconst 4) 1 (vI 4),
  q2 19 (.if_icmp .ge 61) 3 80,
  q1 22 (.iconst 0) 1 (vI 0),
  q0 23 (.istore 4) 2,
  q0 25 (.iload 4) 2,
  q0 27 (.aload_n 0) 1,
  q3 28 (.getfield 13) 3 (vI 2) 5 1,
  q1 31 (.iconst 2) 1 (vI 2),
  q0 32 .iaload 1,
  q2 33 (.if_icmp .ge 41) 3 74,
  q0 36 (.aload_n 0) 1,
  q0 37 (.iload_n 3) 1,
  q0 38 (.iload 4) 2,
  q1 40 (.bipush 20) 2 (vI 20),
  q5 42 (.invokevirtual 181) 3 5 4 yX5_stageAlone,
  q0 45 (.aload_n 0) 1,
  q3 46 (.getfield 34) 3 (vI 2) 5 11,
  q0 49 (.iload_n 1) 1,
  q0 50 .iaload 1,
  q0 51 (.aload_n 0) 1,
  q3 52 (.getfield 34) 3 (vI 2) 5 11,
  q0 55 (.iload_n 2) 1,
  q0 56 .iaload 1,
  q2 57 (.if_icmp .eq 11) 3 68,
  q1 60 (.bipush 10) 2 (vI 10),
  q0 62 (.iload_n 3) 1,
  q0 63 .imul 1,
  q0 64 (.iload 4) 2,
  q0 66 .iadd 1,
  q0 67 .ireturn 1,
  q1 68 (.iinc 4 1) 3 (vI 1),
  q2 71 (.goto (-46)) 3 25,
  q1 74 (.iinc 3 1) 3 (vI 1),
  q2 77 (.goto (-60)) 3 17,
  q1 80 (.bipush (-9)) 2 (vI (-9)),
  q0 82 .ireturn 1]
def iX5_unlike : List IE := [
  q1 0 (.iconst 0) 1 (vI 0),
  q0 1 (.istore_n 1) 1,
  q1 2 (.iconst 0) 1 (vI 0),
  q0 3 (.istore_n 2) 1,
  q0 4 (.iload_n 2) 1,
  q0 5 (.aload_n 0) 1,
  q3 6 (.getfield 13) 3 (vI 2) 5 1,
  q1 9 (.iconst 3) 1 (vI 3),
  q0 10 .iaload 1,
  q2 11 (.if_icmp .ge 64) 3 75,
  q1 14 (.iconst 1) 1 (vI 1),
  q0 15 (.istore_n 3) 1,
  q1 16 (.iconst 0) 1 (vI 0),
  q0 17 (.istore 4) 2,
  q0 19 (.iload 4) 2,
  q0 21 (.iload_n 2) 1,
  q2 22 (.if_icmp .ge 35) 3 57,
  q0 25 (.iload_n 3) 1,
  q2 26 (.ifCond .eq 23) 3 49,
  q0 29 (.aload_n 0) 1,
  q3 30 (.getfield 34) 3 (vI 2) 5 11,
  q0 33 (.iload 4) 2,
  q0 35 .iaload 1,
  q0 36 (.aload_n 0) 1,
  q3 37 (.getfield 34) 3 (vI 2) 5 11,
  q0 40 (.iload_n 2) 1,
  q0 41 .iaload 1,
  q2 42 (.if_icmp .eq 7) 3 49,
  q1 45 (.iconst 1) 1 (vI 1),
  q2 46 (.goto 4) 3 50,
  q1 49 (.iconst 0) 1 (vI 0),
  q0 50 (.istore_n 3) 1,
  q1 51 (.iinc 4 1) 3 (vI 1),
  q2 54 (.goto (-35)) 3 19,
  q0 57 (.iload_n 1) 1,
  q0 58 (.iload_n 3) 1,
  q2 59 (.ifCond .eq 7) 3 66,
  q1 62 (.iconst 1) 1 (vI 1),
  q2 63 (.goto 4) 3 67,
  q1 66 (.iconst 0) 1 (vI 0),
  q0 67 .iadd 1,
  q0 68 (.istore_n 1) 1,
  q1 69 (.iinc 2 1) 3 (vI 1),
  q2 72 (.goto (-68)) 3 4,
  q0 75 (.iload_n 1) 1,
  q0 76 .ireturn 1]
def iX5_tells : List IE := [
  q0 0 (.iload_n 2) 1,
  q1 1 (.iconst 2) 1 (vI 2),
  q5 2 (.invokestatic 46) 3 0 2 yX5_isIn,
  q2 5 (.ifCond .ne 10) 3 15,
  q0 8 (.aload_n 0) 1,
  q1 9 (.bipush (-2)) 2 (vI (-2)),
  q5 11 (.invokevirtual 50) 3 5 2 yX5_refuse,
  q0 14 .ireturn 1,
  q0 15 (.iload_n 1) 1,
  q1 16 (.iconst 1) 1 (vI 1),
  q1 17 (.bipush 60) 2 (vI 60),
  q5 19 (.invokestatic 113) 3 0 3 yX5_within,
  q0 22 (.istore_n 3) 1,
  q0 23 (.iload_n 3) 1,
  q2 24 (.ifCond .ne 24) 3 48,
  q0 27 (.aload_n 0) 1,
  q3 28 (.getfield 13) 3 (vI 2) 5 1,
  q1 31 (.iconst 2) 1 (vI 2),
  q0 32 .iaload 1,
  q2 33 (.ifCond .eq 12) 3 45,
  q0 36 (.aload_n 0) 1,
  q3 37 (.getfield 13) 3 (vI 2) 5 1,
  q1 40 (.iconst 3) 1 (vI 3),
  q0 41 .iaload 1,
  q2 42 (.ifCond .ne 6) 3 48,
  q1 45 (.bipush (-3)) 2 (vI (-3)),
  q0 47 (.istore_n 3) 1,
  q0 48 (.iload_n 3) 1,
  q2 49 (.ifCond .eq 9) 3 58,
  q0 52 (.aload_n 0) 1,
  q0 53 (.iload_n 3) 1,
  q5 54 (.invokevirtual 50) 3 5 2 yX5_refuse,
  q0 57 .ireturn 1,
  q1 58 (.bipush (-9)) 2 (vI (-9)),
  q0 60 (.istore 4) 2,
  q1 62 (.iconst 0) 1 (vI 0),
  q0 63 (.istore 5) 2,
  q1 65 (.iconst 0) 1 (vI 0),
  q0 66 (.istore 6) 2,
  q0 68 (.iload 6) 2,
  q1 70 (.iconst 4) 1 (vI 4),
  q2 71 (.if_icmp .ge 66) 3 137,
  q1 74 (.iconst 0) 1 (vI 0),
  q0 75 (.istore 7) 2,
  q0 77 (.iload 7) 2,
  q0 79 (.aload_n 0) 1,
  q3 80 (.getfield 13) 3 (vI 2) 5 1,
  q1 83 (.iconst 2) 1 (vI 2),
  q0 84 .iaload 1,
  q2 85 (.if_icmp .ge 46) 3 131,
  q0 88 (.aload_n 0) 1,
  q0 89 (.iload 6) 2,
  q0 91 (.iload 7) 2,
  q0 93 (.iload_n 1) 1,
  q5 94 (.invokevirtual 181) 3 5 4 yX5_stageAlone,
  q0 97 (.aload_n 0) 1,
  q5 98 (.invokevirtual 202) 3 5 1 yX5_unlike,
  q0 101 (.iload 5) 2,
  q2 103 (.if_icmp .gt 6) 3 109,
  q2 106 (.goto 19) 3 125,
  q1 109 (.bipush 10) 2 (vI 10),
  q0 111 (.iload 6) 2,
  q0 113 .imul 1,
  q0 114 (.iload 7) 2,
  q0 116 .iadd 1,
  q0 117 (.istore 4) 2,
  q0 119 (.aload_n 0) 1,
  q5 120 (.invokevirtual 202) 3 5 1 yX5_unlike,
  q0 123 (.istore 5) 2,
  q1 125 (.iinc 7 1) 3 (vI 1),
  q2 128 (.goto (-51)) 3 77,
  q1 131 (.iinc 6 1) 3 (vI 1),
  q2 134 (.goto (-66)) 3 68,
  q0 137 (.iload_n 2) 1,
  q2 138 (.ifCond .ne 8) 3 146,
  q0 141 (.iload 4) 2,
  q2 143 (.goto 5) 3 148,
  q0 146 (.iload 5) 2,
  q0 148 .ireturn 1]
def iX5_length : List IE := [
  q0 0 (.aload_n 0) 1,
  q0 1 (.iload_n 1) 1,
  q0 2 (.iload_n 2) 1,
  q5 3 (.invokevirtual 199) 3 5 3 yX5_areTwo,
  q2 6 (.ifCond .eq 31) 3 37,
  q0 9 (.iload_n 3) 1,
  q5 10 (.invokestatic 110) 3 0 1 yX5_isAct,
  q2 13 (.ifCond .eq 24) 3 37,
  q0 16 (.aload_n 0) 1,
  q0 17 (.iload 4) 2,
  q5 19 (.invokevirtual 91) 3 5 2 yX5_isGear,
  q2 22 (.ifCond .eq 15) 3 37,
  q0 25 (.iload 5) 2,
  q1 27 (.iconst 1) 1 (vI 1),
  q1 28 (.sipush 999) 3 (vI 999),
  q5 31 (.invokestatic 113) 3 0 3 yX5_within,
  q2 34 (.goto 4) 3 38,
  q1 37 (.iconst (-1)) 1 (vI (-1)),
  q0 38 (.istore 6) 2,
  q0 40 (.iload 6) 2,
  q2 42 (.ifCond .eq 10) 3 52,
  q0 45 (.aload_n 0) 1,
  q0 46 (.iload 6) 2,
  q5 48 (.invokevirtual 50) 3 5 2 yX5_refuse,
  q0 51 .ireturn 1,
  q0 52 (.aload_n 0) 1,
  q5 53 (.invokevirtual 172) 3 5 1 yX5_begins,
  q0 56 (.aload_n 0) 1,
  q0 57 (.iload 4) 2,
  q5 59 (.invokevirtual 161) 3 5 2 yX5_opensStage,
  q1 62 (.iconst 1) 1 (vI 1),
  q0 63 (.istore 7) 2,
  q0 65 (.iload 7) 2,
  q1 67 (.bipush 60) 2 (vI 60),
  q2 69 (.if_icmp .gt 66) 3 135,
  q1 72 (.iconst 0) 1 (vI 0),
  q0 73 (.istore 8) 2,
  q0 75 (.iload 8) 2,
  q1 77 (.bipush 100) 2 (vI 100),
  q2 79 (.if_icmp .ge 16) 3 95,
  q0 82 (.aload_n 0) 1,
  q0 83 (.iload_n 3) 1,
  q0 84 (.iload 8) 2,
  q5 86 (.invokevirtual 164) 3 5 3 yX5_goesStep,
  q1 89 (.iinc 8 1) 3 (vI 1),
  q2 92 (.goto (-17)) 3 75,
  q0 95 (.aload_n 0) 1,
  q0 96 .dup 1,
  q3 97 (.getfield 123) 3 (vI 0) 5 12,
  q1 100 (.iconst 1) 1 (vI 1),
  q0 101 .iadd 1,
  q3 102 (.putfield 123) 3 (vI 0) 5 12,
  q0 105 (.aload_n 0) 1,
  q3 106 (.getfield 34) 3 (vI 2) 5 11,
  q0 109 (.iload_n 1) 1,
  q0 110 .iaload 1,
  q0 111 (.aload_n 0) 1,
  q3 112 (.getfield 34) 3 (vI 2) 5 11,
  q0 115 (.iload_n 2) 1,
  q0 116 .iaload 1,
  q0 117 .isub 1,
  q5 118 (.invokestatic 184) 3 0 1 yX5_amount,
  q0 121 (.iload 5) 2,
  q2 123 (.if_icmp .lt 6) 3 129,
  q0 126 (.iload 7) 2,
  q0 128 .ireturn 1,
  q1 129 (.iinc 7 1) 3 (vI 1),
  q2 132 (.goto (-67)) 3 65,
  q1 135 (.bipush (-9)) 2 (vI (-9)),
  q0 137 .ireturn 1]
def iX5_beat : List IE := [
  q0 0 (.aload_n 0) 1,
  q0 1 (.iload_n 1) 1,
  q0 2 (.iload_n 2) 1,
  q5 3 (.invokevirtual 199) 3 5 3 yX5_areTwo,
  q2 6 (.ifCond .eq 11) 3 17,
  q0 9 (.aload_n 0) 1,
  q0 10 (.iload_n 3) 1,
  q5 11 (.invokevirtual 91) 3 5 2 yX5_isGear,
  q2 14 (.ifCond .ne 9) 3 23,
  q0 17 (.aload_n 0) 1,
  q1 18 (.iconst (-1)) 1 (vI (-1)),
  q5 19 (.invokevirtual 50) 3 5 2 yX5_refuse,
  q0 22 .ireturn 1,
  q0 23 (.aload_n 0) 1,
  q5 24 (.invokevirtual 172) 3 5 1 yX5_begins,
  q0 27 (.aload_n 0) 1,
  q0 28 (.iload_n 3) 1,
  q5 29 (.invokevirtual 161) 3 5 2 yX5_opensStage,
  q1 32 (.iconst 0) 1 (vI 0),
  q0 33 (.istore 4) 2,
  q0 35 (.iload 4) 2,
  q1 37 (.sipush 2000) 3 (vI 2000),
  q2 40 (.if_icmp .ge 38) 3 78,
  q0 43 (.aload_n 0) 1,
  q0 44 (.iload_n 1) 1,
  q1 45 (.iconst 0) 1 (vI 0),
  q5 46 (.invokevirtual 151) 3 5 3 yX5_comesBy,
  q0 49 (.istore 5) 2,
  q0 51 (.aload_n 0) 1,
  q0 52 (.iload_n 2) 1,
  q1 53 (.iconst 0) 1 (vI 0),
  q5 54 (.invokevirtual 151) 3 5 3 yX5_comesBy,
  q0 57 (.istore 6) 2,
  q0 59 (.iload 5) 2,
  q2 61 (.ifCond .eq 11) 3 72,
  q0 64 (.iload 6) 2,
  q2 66 (.ifCond .eq 6) 3 72,
  q0 69 (.iload 4) 2,
  q0 71 .ireturn 1,
  q1 72 (.iinc 4 1) 3 (vI 1),
  q2 75 (.goto (-40)) 3 35,
  q1 78 (.bipush (-9)) 2 (vI (-9)),
  q0 80 .ireturn 1]
def iX5_weights : List IE := [
  q1 0 (.iconst 0) 1 (vI 0),
  q0 1 (.istore_n 1) 1,
  q1 2 (.iconst 0) 1 (vI 0),
  q0 3 (.istore_n 2) 1,
  q0 4 (.iload_n 2) 1,
  q0 5 (.aload_n 0) 1,
  q3 6 (.getfield 13) 3 (vI 2) 5 1,
  q1 9 (.iconst 3) 1 (vI 3),
  q0 10 .iaload 1,
  q2 11 (.if_icmp .ge 18) 3 29,
  q0 14 (.iload_n 1) 1,
  q0 15 (.aload_n 0) 1,
  q0 16 (.iload_n 2) 1,
  q1 17 (.iconst 3) 1 (vI 3),
  q5 18 (.invokevirtual 94) 3 5 3 yX5_get,
  q0 21 .iadd 1,
  q0 22 (.istore_n 1) 1,
  q1 23 (.iinc 2 1) 3 (vI 1),
  q2 26 (.goto (-22)) 3 4,
  q0 29 (.iload_n 1) 1,
  q0 30 .ireturn 1]
def iX5_away : List IE := [
  q0 0 (.iload_n 1) 1,
  q1 1 (.iconst 2) 1 (vI 2),
  q5 2 (.invokestatic 46) 3 0 2 yX5_isIn,
  q2 5 (.ifCond .ne 10) 3 15,
  q0 8 (.aload_n 0) 1,
  q1 9 (.bipush (-2)) 2 (vI (-2)),
  q5 11 (.invokevirtual 50) 3 5 2 yX5_refuse,
  q0 14 .ireturn 1,
  q0 15 (.aload_n 0) 1,
  q3 16 (.getfield 13) 3 (vI 2) 5 1,
  q1 19 (.iconst 3) 1 (vI 3),
  q0 20 .iaload 1,
  q2 21 (.ifCond .ne 10) 3 31,
  q0 24 (.aload_n 0) 1,
  q1 25 (.bipush (-3)) 2 (vI (-3)),
  q5 27 (.invokevirtual 50) 3 5 2 yX5_refuse,
  q0 30 .ireturn 1,
  q1 31 (.iconst 0) 1 (vI 0),
  q0 32 (.istore_n 2) 1,
  q1 33 (.iconst 0) 1 (vI 0),
  q0 34 (.istore_n 3) 1,
  q0 35 (.iload_n 3) 1,
  q0 36 (.aload_n 0) 1,
  q3 37 (.getfield 13) 3 (vI 2) 5 1,
  q1 40 (.iconst 3) 1 (vI 3),
  q0 41 .iaload 1,
  q2 42 (.if_icmp .ge 32) 3 74,
  q0 45 (.iload_n 2) 1,
  q0 46 (.aload_n 0) 1,
  q0 47 (.iload_n 3) 1,
  q1 48 (.iconst 0) 1 (vI 0),
  q5 49 (.invokevirtual 94) 3 5 3 yX5_get,
  q1 52 (.iconst 5) 1 (vI 5),
  q2 53 (.if_icmp .ne 12) 3 65,
  q0 56 (.aload_n 0) 1,
  q0 57 (.iload_n 3) 1,
  q1 58 (.iconst 3) 1 (vI 3),
  q5 59 (.invokevirtual 94) 3 5 3 yX5_get,
  q2 62 (.goto 4) 3 66,
  q1 65 (.iconst 0) 1 (vI 0),
  q0 66 .iadd 1,
  q0 67 (.istore_n 2) 1,
  q1 68 (.iinc 3 1) 3 (vI 1),
  q2 71 (.goto (-36)) 3 35,
  q0 74 (.aload_n 0) 1,
  q0 75 (.iload_n 2) 1,
  q0 76 (.aload_n 0) 1,
  q5 77 (.invokevirtual 205) 3 5 1 yX5_weights,
  q0 80 (.iload_n 1) 1,
  q5 81 (.invokevirtual 196) 3 5 4 yX5_partOf,
  q0 84 .ireturn 1]
def iX5_danger : List IE := [
  q0 0 (.aload_n 0) 1,
  q0 1 (.iload_n 1) 1,
  q5 2 (.invokevirtual 98) 3 5 2 yX5_isFault,
  q2 5 (.ifCond .ne 9) 3 14,
  q0 8 (.aload_n 0) 1,
  q1 9 (.iconst (-1)) 1 (vI (-1)),
  q5 10 (.invokevirtual 50) 3 5 2 yX5_refuse,
  q0 13 .ireturn 1,
  q0 14 (.aload_n 0) 1,
  q0 15 (.iload_n 1) 1,
  q1 16 (.iconst 0) 1 (vI 0),
  q5 17 (.invokevirtual 94) 3 5 3 yX5_get,
  q1 20 (.bipush 6) 2 (vI 6),
  q2 22 (.if_icmp .eq 10) 3 32,
  q0 25 (.aload_n 0) 1,
  q1 26 (.bipush (-3)) 2 (vI (-3)),
  q5 28 (.invokevirtual 50) 3 5 2 yX5_refuse,
  q0 31 .ireturn 1,
  q1 32 (.bipush 20) 2 (vI 20),
  q0 34 (.aload_n 0) 1,
  q0 35 (.iload_n 1) 1,
  q1 36 (.iconst 2) 1 (vI 2),
  q5 37 (.invokevirtual 94) 3 5 3 yX5_get,
  q0 40 .imul 1,
  q0 41 (.aload_n 0) 1,
  q3 42 (.getfield 13) 3 (vI 2) 5 1,
  q1 45 (.iconst 5) 1 (vI 5),
  q0 46 .iaload 1,
  q0 47 .isub 1,
  q0 48 (.istore_n 2) 1,
  q0 49 (.iload_n 2) 1,
  q2 50 (.ifCond .ge 7) 3 57,
  q1 53 (.iconst 0) 1 (vI 0),
  q2 54 (.goto 4) 3 58,
  q0 57 (.iload_n 2) 1,
  q0 58 .ireturn 1]
def iX5_sumOf : List IE := [
  q1 0 (.iconst 0) 1 (vI 0),
  q0 1 (.istore_n 2) 1,
  q1 2 (.iconst 0) 1 (vI 0),
  q0 3 (.istore_n 3) 1,
  q1 4 (.iconst 0) 1 (vI 0),
  q0 5 (.istore 4) 2,
  q0 7 (.iload 4) 2,
  q0 9 (.iload_n 1) 1,
  q2 10 (.if_icmp .ge 41) 3 51,
  q0 13 (.iload_n 3) 1,
  q0 14 (.aload_n 0) 1,
  q0 15 (.aload_n 0) 1,
  q3 16 (.getfield 37) 3 (vI 2) 5 20,
  q0 19 (.iload 4) 2,
  q0 21 .iaload 1,
  q1 22 (.iconst 4) 1 (vI 4),
  q5 23 (.invokevirtual 94) 3 5 3 yX5_get,
  q0 26 .iadd 1,
  q0 27 (.istore_n 3) 1,
  q0 28 (.iload_n 2) 1,
  q0 29 (.iload_n 3) 1,
  q0 30 (.aload_n 0) 1,
  q0 31 (.aload_n 0) 1,
  q3 32 (.getfield 37) 3 (vI 2) 5 20,
  q0 35 (.iload 4) 2,
  q0 37 .iaload 1,
  q1 38 (.iconst 3) 1 (vI 3),
  q5 39 (.invokevirtual 94) 3 5 3 yX5_get,
  q0 42 .imul 1,
  q0 43 .iadd 1,
  q0 44 (.istore_n 2) 1,
  q1 45 (.iinc 4 1) 3 (vI 1),
  q2 48 (.goto (-41)) 3 7,
  q0 51 (.iload_n 2) 1,
  q0 52 .ireturn 1]
def iX5_orders : List IE := [
  q0 0 (.iload_n 1) 1,
  q0 1 (.aload_n 0) 1,
  q3 2 (.getfield 13) 3 (vI 2) 5 1,
  q1 5 (.iconst 3) 1 (vI 3),
  q0 6 .iaload 1,
  q2 7 (.if_icmp .ne 60) 3 67,
  q0 10 (.aload_n 0) 1,
  q0 11 (.iload_n 1) 1,
  q5 12 (.invokevirtual 208) 3 5 2 yX5_sumOf,
  q0 15 (.istore_n 3) 1,
  q0 16 (.aload_n 0) 1,
  q3 17 (.getfield 211) 3 (vI 0) 5 22,
  q2 20 (.ifCond .lt 12) 3 32,
  q0 23 (.iload_n 3) 1,
  q0 24 (.aload_n 0) 1,
  q3 25 (.getfield 211) 3 (vI 0) 5 22,
  q2 28 (.if_icmp .lt 4) 3 32,
  q0 31 .return_ 1,
  q0 32 (.aload_n 0) 1,
  q0 33 (.iload_n 3) 1,
  q3 34 (.putfield 211) 3 (vI 0) 5 22,
  q1 37 (.iconst 0) 1 (vI 0),
  q0 38 (.istore 4) 2,
  q0 40 (.iload 4) 2,
  q0 42 (.iload_n 1) 1,
  q2 43 (.if_icmp .ge 23) 3 66,
  q0 46 (.aload_n 0) 1,
  q3 47 (.getfield 40) 3 (vI 2) 5 21,
  q0 50 (.iload 4) 2,
  q0 52 (.aload_n 0) 1,
  q3 53 (.getfield 37) 3 (vI 2) 5 20,
  q0 56 (.iload 4) 2,
  q0 58 .iaload 1,
  q0 59 .iastore 1,
  q1 60 (.iinc 4 1) 3 (vI 1),
  q2 63 (.goto (-23)) 3 40,
  q0 66 .return_ 1,
  q1 67 (.iconst 0) 1 (vI 0),
  q0 68 (.istore_n 3) 1,
  q0 69 (.iload_n 3) 1,
  q0 70 (.aload_n 0) 1,
  q3 71 (.getfield 13) 3 (vI 2) 5 1,
  q1 74 (.iconst 3) 1 (vI 3),
  q0 75 .iaload 1,
  q2 76 (.if_icmp .ge 40) 3 116,
  q0 79 (.iload_n 2) 1,
  q0 80 (.iload_n 3) 1,
  q0 81 .ishr 1,
  q1 82 (.iconst 1) 1 (vI 1),
  q0 83 .iand 1,
  q1 84 (.iconst 1) 1 (vI 1),
  q2 85 (.if_icmp .ne 6) 3 91,
  q2 88 (.goto 22) 3 110,
  q0 91 (.aload_n 0) 1,
  q3 92 (.getfield 37) 3 (vI 2) 5 20,
  q0 95 (.iload_n 1) 1,
  q0 96 (.iload_n 3) 1,
  q0 97 .iastore 1,
  q0 98 (.aload_n 0) 1,
  q0 99 (.iload_n 1) 1,
  q1 100 (.iconst 1) 1 (vI 1),
  q0 101 .iadd 1,
  q0 102 (.iload_n 2) 1,
  q1 103 (.iconst 1) 1 (vI 1),
  q0 104 (.iload_n 3) 1,
  q0 105 .ishl 1,
  q0 106 .ior 1,
  q5 107 (.invokevirtual 214) 3 5 3 yX5_orders,
  q1 110 (.iinc 3 1) 3 (vI 1),
  q2 113 (.goto (-44)) 3 69,
  q0 116 .return_ 1]
def iX5_findLeast : List IE := [
  q0 0 (.aload_n 0) 1,
  q1 1 (.bipush (-9)) 2 (vI (-9)),
  q3 3 (.putfield 211) 3 (vI 0) 5 22,
  q0 6 (.aload_n 0) 1,
  q1 7 (.iconst 0) 1 (vI 0),
  q1 8 (.iconst 0) 1 (vI 0),
  q5 9 (.invokevirtual 214) 3 5 3 yX5_orders,
  q0 12 .return_ 1]
def iX5_least : List IE := [
  q0 0 (.iload_n 1) 1,
  q1 1 (.iconst (-1)) 1 (vI (-1)),
  q2 2 (.if_icmp .ge 8) 3 10,
  q1 5 (.bipush (-4)) 2 (vI (-4)),
  q2 7 (.goto 20) 3 27,
  q0 10 (.aload_n 0) 1,
  q3 11 (.getfield 13) 3 (vI 2) 5 1,
  q1 14 (.iconst 3) 1 (vI 3),
  q0 15 .iaload 1,
  q1 16 (.bipush 6) 2 (vI 6),
  q2 18 (.if_icmp .le 8) 3 26,
  q1 21 (.bipush (-6)) 2 (vI (-6)),
  q2 23 (.goto 4) 3 27,
  q1 26 (.iconst 0) 1 (vI 0),
  q0 27 (.istore_n 2) 1,
  q0 28 (.iload_n 2) 1,
  q2 29 (.ifCond .eq 9) 3 38,
  q0 32 (.aload_n 0) 1,
  q0 33 (.iload_n 2) 1,
  q5 34 (.invokevirtual 50) 3 5 2 yX5_refuse,
  q0 37 .ireturn 1,
  q0 38 (.aload_n 0) 1,
  q5 39 (.invokevirtual 217) 3 5 1 yX5_findLeast,
  q0 42 (.iload_n 1) 1,
  q2 43 (.ifCond .ge 10) 3 53,
  q0 46 (.aload_n 0) 1,
  q3 47 (.getfield 211) 3 (vI 0) 5 22,
  q2 50 (.goto 24) 3 74,
  q0 53 (.iload_n 1) 1,
  q0 54 (.aload_n 0) 1,
  q3 55 (.getfield 13) 3 (vI 2) 5 1,
  q1 58 (.iconst 3) 1 (vI 3),
  q0 59 .iaload 1,
  q2 60 (.if_icmp .ge 12) 3 72,
  q0 63 (.aload_n 0) 1,
  q3 64 (.getfield 40) 3 (vI 2) 5 21,
  q0 67 (.iload_n 1) 1,
  q0 68 .iaload 1,
  q2 69 (.goto 5) 3 74,
  q1 72 (.bipush (-9)) 2 (vI (-9)),
  q0 74 .ireturn 1]
def iX5_row : List IE := [
  q0 0 (.iload_n 1) 1,
  q1 1 (.iconst 0) 1 (vI 0),
  q1 2 (.sipush 32767) 3 (vI 32767),
  q5 5 (.invokestatic 113) 3 0 3 yX5_within,
  q0 8 (.istore_n 2) 1,
  q0 9 (.iload_n 2) 1,
  q2 10 (.ifCond .ne 15) 3 25,
  q0 13 (.aload_n 0) 1,
  q3 14 (.getfield 220) 3 (vI 0) 5 24,
  q1 17 (.bipush 8) 2 (vI 8),
  q2 19 (.if_icmp .ne 6) 3 25,
  q1 22 (.bipush (-6)) 2 (vI (-6)),
  q0 24 (.istore_n 2) 1,
  q0 25 (.iload_n 2) 1,
  q2 26 (.ifCond .eq 9) 3 35,
  q0 29 (.aload_n 0) 1,
  q0 30 (.iload_n 2) 1,
  q5 31 (.invokevirtual 50) 3 5 2 yX5_refuse,
  q0 34 .ireturn 1,
  q0 35 (.aload_n 0) 1,
  q3 36 (.getfield 43) 3 (vI 2) 5 23,
  q0 39 (.aload_n 0) 1,
  q3 40 (.getfield 220) 3 (vI 0) 5 24,
  q0 43 (.iload_n 1) 1,
  q0 44 .iastore 1,
  q0 45 (.aload_n 0) 1,
  q0 46 .dup 1,
  q3 47 (.getfield 220) 3 (vI 0) 5 24,
  q1 50 (.iconst 1) 1 (vI 1),
  q0 51 .iadd 1,
  q3 52 (.putfield 220) 3 (vI 0) 5 24,
  q0 55 (.aload_n 0) 1,
  q3 56 (.getfield 220) 3 (vI 0) 5 24,
  q0 59 .ireturn 1]
def iX5_judge : List IE := [
  q0 0 (.aload_n 0) 1,
  q3 1 (.getfield 220) 3 (vI 0) 5 24,
  q0 4 (.istore_n 1) 1,
  q0 5 (.aload_n 0) 1,
  q1 6 (.iconst 0) 1 (vI 0),
  q3 7 (.putfield 220) 3 (vI 0) 5 24,
  q0 10 (.aload_n 0) 1,
  q5 11 (.invokevirtual 178) 3 5 1 yX5_counted,
  q1 14 (.iconst 0) 1 (vI 0),
  q0 15 (.istore_n 2) 1,
  q0 16 (.iload_n 2) 1,
  q0 17 (.aload_n 0) 1,
  q3 18 (.getfield 13) 3 (vI 2) 5 1,
  q1 21 (.iconst 3) 1 (vI 3),
  q0 22 .iaload 1,
  q2 23 (.if_icmp .ge 33) 3 56,
  q0 26 (.iload_n 2) 1,
  q0 27 (.iload_n 1) 1,
  q2 28 (.if_icmp .ne 5) 3 33,
  q0 31 (.iload_n 1) 1,
  q0 32 .ireturn 1,
  q0 33 (.aload_n 0) 1,
  q3 34 (.getfield 43) 3 (vI 2) 5 23,
  q0 37 (.iload_n 2) 1,
  q0 38 .iaload 1,
  q0 39 (.aload_n 0) 1,
  q3 40 (.getfield 34) 3 (vI 2) 5 11,
  q0 43 (.iload_n 2) 1,
  q0 44 .iaload 1,
  q2 45 (.if_icmp .eq 5) 3 50,
  q0 48 (.iload_n 2) 1,
  q0 49 .ireturn 1,
  q1 50 (.iinc 2 1) 3 (vI 1),
  q2 53 (.goto (-37)) 3 16,
  q0 56 (.iload_n 1) 1,
  q0 57 (.aload_n 0) 1,
  q3 58 (.getfield 13) 3 (vI 2) 5 1,
  q1 61 (.iconst 3) 1 (vI 3),
  q0 62 .iaload 1,
  q2 63 (.if_icmp .le 12) 3 75,
  q0 66 (.aload_n 0) 1,
  q3 67 (.getfield 13) 3 (vI 2) 5 1,
  q1 70 (.iconst 3) 1 (vI 3),
  q0 71 .iaload 1,
  q2 72 (.goto 5) 3 77,
  q1 75 (.bipush (-9)) 2 (vI (-9)),
  q0 77 .ireturn 1]
def iX5_held : List IE := [
  q1 0 (.iconst 0) 1 (vI 0),
  q0 1 (.istore_n 1) 1,
  q0 2 (.aload_n 0) 1,
  q3 3 (.getfield 220) 3 (vI 0) 5 24,
  q0 6 (.aload_n 0) 1,
  q3 7 (.getfield 13) 3 (vI 2) 5 1,
  q1 10 (.iconst 3) 1 (vI 3),
  q0 11 .iaload 1,
  q2 12 (.if_icmp .ne 7) 3 19,
  q1 15 (.iconst 1) 1 (vI 1),
  q2 16 (.goto 4) 3 20,
  q1 19 (.iconst 0) 1 (vI 0),
  q0 20 (.istore_n 2) 1,
  q1 21 (.iconst 0) 1 (vI 0),
  q0 22 (.istore_n 3) 1,
  q0 23 (.iload_n 3) 1,
  q0 24 (.aload_n 0) 1,
  q3 25 (.getfield 220) 3 (vI 0) 5 24,
  q2 28 (.if_icmp .ge 60) 3 88,
  q0 31 (.iload_n 2) 1,
  q2 32 (.ifCond .eq 56) 3 88,
  q0 35 (.aload_n 0) 1,
  q0 36 (.aload_n 0) 1,
  q3 37 (.getfield 43) 3 (vI 2) 5 23,
  q0 40 (.iload_n 3) 1,
  q0 41 .iaload 1,
  q5 42 (.invokevirtual 98) 3 5 2 yX5_isFault,
  q2 45 (.ifCond .eq 20) 3 65,
  q0 48 (.iload_n 1) 1,
  q0 49 (.aload_n 0) 1,
  q3 50 (.getfield 43) 3 (vI 2) 5 23,
  q0 53 (.iload_n 3) 1,
  q0 54 .iaload 1,
  q0 55 .ishr 1,
  q1 56 (.iconst 1) 1 (vI 1),
  q0 57 .iand 1,
  q2 58 (.ifCond .ne 7) 3 65,
  q1 61 (.iconst 1) 1 (vI 1),
  q2 62 (.goto 4) 3 66,
  q1 65 (.iconst 0) 1 (vI 0),
  q0 66 (.istore_n 2) 1,
  q0 67 (.iload_n 2) 1,
  q2 68 (.ifCond .eq 14) 3 82,
  q0 71 (.iload_n 1) 1,
  q1 72 (.iconst 1) 1 (vI 1),
  q0 73 (.aload_n 0) 1,
  q3 74 (.getfield 43) 3 (vI 2) 5 23,
  q0 77 (.iload_n 3) 1,
  q0 78 .iaload 1,
  q0 79 .ishl 1,
  q0 80 .ior 1,
  q0 81 (.istore_n 1) 1,
  q1 82 (.iinc 3 1) 3 (vI 1),
  q2 85 (.goto (-62)) 3 23,
  q0 88 (.iload_n 2) 1,
  q2 89 (.ifCond .ne 8) 3 97,
  q1 92 (.bipush (-3)) 2 (vI (-3)),
  q2 94 (.goto 20) 3 114,
  q0 97 (.aload_n 0) 1,
  q3 98 (.getfield 13) 3 (vI 2) 5 1,
  q1 101 (.iconst 3) 1 (vI 3),
  q0 102 .iaload 1,
  q1 103 (.bipush 6) 2 (vI 6),
  q2 105 (.if_icmp .le 8) 3 113,
  q1 108 (.bipush (-6)) 2 (vI (-6)),
  q2 110 (.goto 4) 3 114,
  q1 113 (.iconst 0) 1 (vI 0),
  q0 114 (.istore_n 3) 1,
  q0 115 (.iload_n 3) 1,
  q2 116 (.ifCond .eq 9) 3 125,
  q0 119 (.aload_n 0) 1,
  q0 120 (.iload_n 3) 1,
  q5 121 (.invokevirtual 50) 3 5 2 yX5_refuse,
  q0 124 .ireturn 1,
  q0 125 (.aload_n 0) 1,
  q5 126 (.invokevirtual 217) 3 5 1 yX5_findLeast,
  q1 129 (.iconst 0) 1 (vI 0),
  q0 130 (.istore 4) 2,
  q0 132 (.iload 4) 2,
  q0 134 (.aload_n 0) 1,
  q3 135 (.getfield 220) 3 (vI 0) 5 24,
  q2 138 (.if_icmp .ge 23) 3 161,
  q0 141 (.aload_n 0) 1,
  q3 142 (.getfield 37) 3 (vI 2) 5 20,
  q0 145 (.iload 4) 2,
  q0 147 (.aload_n 0) 1,
  q3 148 (.getfield 43) 3 (vI 2) 5 23,
  q0 151 (.iload 4) 2,
  q0 153 .iaload 1,
  q0 154 .iastore 1,
  q1 155 (.iinc 4 1) 3 (vI 1),
  q2 158 (.goto (-26)) 3 132,
  q0 161 (.aload_n 0) 1,
  q1 162 (.iconst 0) 1 (vI 0),
  q3 163 (.putfield 220) 3 (vI 0) 5 24,
  q0 166 (.aload_n 0) 1,
  q0 167 (.aload_n 0) 1,
  q3 168 (.getfield 13) 3 (vI 2) 5 1,
  q1 171 (.iconst 3) 1 (vI 3),
  q0 172 .iaload 1,
  q5 173 (.invokevirtual 208) 3 5 2 yX5_sumOf,
  q0 176 (.aload_n 0) 1,
  q3 177 (.getfield 211) 3 (vI 0) 5 22,
  q0 180 .isub 1,
  q0 181 .ireturn 1]
def iX5_image : List IE := [
  q1 0 (.iconst 0) 1 (vI 0),
  q0 1 (.istore_n 1) 1,
  q0 2 (.iload_n 1) 1,
  q1 3 (.bipush 112) 2 (vI 112),
  q2 5 (.if_icmp .ge 21) 3 26,
  q0 8 (.aload_n 0) 1,
  q3 9 (.getfield 16) 3 (vI 2) 5 2,
  q0 12 (.iload_n 1) 1,
  q0 13 (.aload_n 0) 1,
  q3 14 (.getfield 13) 3 (vI 2) 5 1,
  q0 17 (.iload_n 1) 1,
  q0 18 .iaload 1,
  q0 19 .iastore 1,
  q1 20 (.iinc 1 1) 3 (vI 1),
  q2 23 (.goto (-21)) 3 2,
  q0 26 (.aload_n 0) 1,
  q1 27 (.iconst 1) 1 (vI 1),
  q3 28 (.putfield 223) 3 (vI 1) 5 4,
  q0 31 (.aload_n 0) 1,
  q3 32 (.getfield 13) 3 (vI 2) 5 1,
  q1 35 (.iconst 3) 1 (vI 3),
  q0 36 .iaload 1,
  q0 37 .ireturn 1]
def iX5_on : List IE := [
  q0 0 (.aload_n 0) 1,
  q3 1 (.getfield 223) 3 (vI 1) 5 4,
  q2 4 (.ifCond .ne 10) 3 14,
  q0 7 (.aload_n 0) 1,
  q1 8 (.bipush (-3)) 2 (vI (-3)),
  q5 10 (.invokevirtual 50) 3 5 2 yX5_refuse,
  q0 13 .ireturn 1,
  q1 14 (.iconst 0) 1 (vI 0),
  q0 15 (.istore_n 1) 1,
  q0 16 (.iload_n 1) 1,
  q1 17 (.bipush 112) 2 (vI 112),
  q2 19 (.if_icmp .ge 21) 3 40,
  q0 22 (.aload_n 0) 1,
  q3 23 (.getfield 13) 3 (vI 2) 5 1,
  q0 26 (.iload_n 1) 1,
  q0 27 (.aload_n 0) 1,
  q3 28 (.getfield 16) 3 (vI 2) 5 2,
  q0 31 (.iload_n 1) 1,
  q0 32 .iaload 1,
  q0 33 .iastore 1,
  q1 34 (.iinc 1 1) 3 (vI 1),
  q2 37 (.goto (-21)) 3 16,
  q0 40 (.aload_n 0) 1,
  q3 41 (.getfield 13) 3 (vI 2) 5 1,
  q1 44 (.iconst 3) 1 (vI 3),
  q0 45 .iaload 1,
  q0 46 .ireturn 1]
def iX5_count : List IE := [
  q0 0 (.iload_n 1) 1,
  q1 1 (.bipush 10) 2 (vI 10),
  q2 3 (.if_icmp .le 19) 3 22,
  q0 6 (.iload_n 1) 1,
  q1 7 (.bipush 17) 2 (vI 17),
  q2 9 (.if_icmp .ge 13) 3 22,
  q0 12 (.aload_n 0) 1,
  q3 13 (.getfield 7) 3 (vI 2) 5 0,
  q0 16 (.iload_n 1) 1,
  q1 17 (.bipush 10) 2 (vI 10),
  q0 19 .isub 1,
  q0 20 .iaload 1,
  q0 21 .ireturn 1,
  q0 22 (.iload_n 1) 1,
  q4 23 (.tableswitch 118 0 7 #[45, 52, 59, 66, 73, 103, 108, 113]) 45 141 [(0, 68), (1, 75), (2, 82), (3, 89), (4, 96), (5, 126), (6, 131), (7, 136)],
  q0 68 (.aload_n 0) 1,
  q3 69 (.getfield 13) 3 (vI 2) 5 1,
  q1 72 (.iconst 3) 1 (vI 3),
  q0 73 .iaload 1,
  q0 74 .ireturn 1,
  q0 75 (.aload_n 0) 1,
  q3 76 (.getfield 13) 3 (vI 2) 5 1,
  q1 79 (.iconst 2) 1 (vI 2),
  q0 80 .iaload 1,
  q0 81 .ireturn 1,
  q0 82 (.aload_n 0) 1,
  q3 83 (.getfield 13) 3 (vI 2) 5 1,
  q1 86 (.iconst 4) 1 (vI 4),
  q0 87 .iaload 1,
  q0 88 .ireturn 1,
  q0 89 (.aload_n 0) 1,
  q3 90 (.getfield 13) 3 (vI 2) 5 1,
  q1 93 (.iconst 5) 1 (vI 5),
  q0 94 .iaload 1,
  q0 95 .ireturn 1,
  q0 96 (.aload_n 0) 1,
  q3 97 (.getfield 13) 3 (vI 2) 5 1,
  q1 100 (.bipush 6) 2 (vI 6),
  q0 102 .iaload 1,
  q2 103 (.ifCond .ge 8) 3 111,
  q1 106 (.bipush (-9)) 2 (vI (-9)),
  q2 108 (.goto 17) 3 125,
  q0 111 (.aload_n 0) 1,
  q3 112 (.getfield 13) 3 (vI 2) 5 1,
  q1 115 (.iconst 5) 1 (vI 5),
  q0 116 .iaload 1,
  q0 117 (.aload_n 0) 1,
  q3 118 (.getfield 13) 3 (vI 2) 5 1,
  q1 121 (.bipush 6) 2 (vI 6),
  q0 123 .iaload 1,
  q0 124 .isub 1,
  q0 125 .ireturn 1,
  q0 126 (.aload_n 0) 1,
  q3 127 (.getfield 54) 3 (vI 0) 5 7,
  q0 130 .ireturn 1,
  q0 131 (.aload_n 0) 1,
  q3 132 (.getfield 220) 3 (vI 0) 5 24,
  q0 135 .ireturn 1,
  q0 136 (.aload_n 0) 1,
  q5 137 (.invokevirtual 205) 3 5 1 yX5_weights,
  q0 140 .ireturn 1,
  q1 141 (.bipush (-9)) 2 (vI (-9)),
  q0 143 .ireturn 1]
def iL_law : List IE := [
  q3 0 (.new 7) 3 none 4 12,
  q0 3 .dup 1,
  q5 4 (.invokespecial 9) 3 0 1 yX4_init,
  q0 7 (.astore_n 1) 1,
  q3 8 (.new 10) 3 none 5 25,
  q0 11 .dup 1,
  q5 12 (.invokespecial 12) 3 0 1 yX5_init,
  q0 15 (.astore_n 2) 1,
  q1 16 (.iconst 0) 1 (vI 0),
  q0 17 (.istore_n 3) 1,
  q0 18 (.iload_n 3) 1,
  q0 19 (.aload_n 0) 1,
  q0 20 .arraylength 1,
  q1 21 (.bipush 6) 2 (vI 6),
  q0 23 .isub 1,
  q2 24 (.if_icmp .gt 1114) 3 1138,
  q0 27 (.aload_n 0) 1,
  q0 28 (.iload_n 3) 1,
  q0 29 .iaload 1,
  q1 30 (.bipush 31) 2 (vI 31),
  q0 32 .iand 1,
  q4 33 (.tableswitch 1099 0 31 #[143, 206, 219, 242, 275, 318, 351, 384, 397, 440, 473, 486, 509, 562, 595, 618, 631, 664, 717, 760, 793, 826, 889, 932, 955, 978, 1001, 1024, 1037, 1050, 1063, 1076]) 143 1132 [(0, 176), (1, 239), (2, 252), (3, 275), (4, 308), (5, 351), (6, 384), (7, 417), (8, 430), (9, 473), (10, 506), (11, 519), (12, 542), (13, 595), (14, 628), (15, 651), (16, 664), (17, 697), (18, 750), (19, 793), (20, 826), (21, 859), (22, 922), (23, 965), (24, 988), (25, 1011), (26, 1034), (27, 1057), (28, 1070), (29, 1083), (30, 1096), (31, 1109)],
  q0 176 (.aload_n 1) 1,
  q0 177 (.aload_n 0) 1,
  q0 178 (.iload_n 3) 1,
  q1 179 (.iconst 1) 1 (vI 1),
  q0 180 .iadd 1,
  q0 181 .iaload 1,
  q0 182 (.aload_n 0) 1,
  q0 183 (.iload_n 3) 1,
  q1 184 (.iconst 2) 1 (vI 2),
  q0 185 .iadd 1,
  q0 186 .iaload 1,
  q0 187 .i2l 1,
  q1 188 (.bipush 32) 2 (vI 32),
  q0 190 .lshl 1,
  q0 191 (.aload_n 0) 1,
  q0 192 (.iload_n 3) 1,
  q1 193 (.iconst 3) 1 (vI 3),
  q0 194 .iadd 1,
  q0 195 .iaload 1,
  q0 196 .i2l 1,
  q1 197 (.ldc2_w 13) 3 (vL 4294967295),
  q0 200 .land 1,
  q0 201 .lor 1,
  q5 202 (.invokevirtual 15) 3 4 3 yX4_feed,
  q0 205 (.aload_n 2) 1,
  q0 206 (.aload_n 0) 1,
  q0 207 (.iload_n 3) 1,
  q1 208 (.iconst 1) 1 (vI 1),
  q0 209 .iadd 1,
  q0 210 .iaload 1,
  q0 211 (.aload_n 0) 1,
  q0 212 (.iload_n 3) 1,
  q1 213 (.iconst 2) 1 (vI 2),
  q0 214 .iadd 1,
  q0 215 .iaload 1,
  q0 216 .i2l 1,
  q1 217 (.bipush 32) 2 (vI 32),
  q0 219 .lshl 1,
  q0 220 (.aload_n 0) 1,
  q0 221 (.iload_n 3) 1,
  q1 222 (.iconst 3) 1 (vI 3),
  q0 223 .iadd 1,
  q0 224 .iaload 1,
  q0 225 .i2l 1,
  q1 226 (.ldc2_w 13) 3 (vL 4294967295),
  q0 229 .land 1,
  q0 230 .lor 1,
  q5 231 (.invokevirtual 19) 3 5 3 yX5_feed,
  q2 234 (.if_icmp .eq 898) 3 1132,
  q1 237 (.iconst 0) 1 (vI 0),
  q0 238 .ireturn 1,
  q0 239 (.aload_n 1) 1,
  q5 240 (.invokevirtual 20) 3 4 1 yX4_bicycle,
  q0 243 (.aload_n 2) 1,
  q5 244 (.invokevirtual 24) 3 5 1 yX5_bicycle,
  q2 247 (.if_icmp .eq 885) 3 1132,
  q1 250 (.iconst 0) 1 (vI 0),
  q0 251 .ireturn 1,
  q0 252 (.aload_n 1) 1,
  q0 253 (.aload_n 0) 1,
  q0 254 (.iload_n 3) 1,
  q1 255 (.iconst 1) 1 (vI 1),
  q0 256 .iadd 1,
  q0 257 .iaload 1,
  q5 258 (.invokevirtual 25) 3 4 2 yX4_part,
  q0 261 (.aload_n 2) 1,
  q0 262 (.aload_n 0) 1,
  q0 263 (.iload_n 3) 1,
  q1 264 (.iconst 1) 1 (vI 1),
  q0 265 .iadd 1,
  q0 266 .iaload 1,
  q5 267 (.invokevirtual 29) 3 5 2 yX5_part,
  q2 270 (.if_icmp .eq 862) 3 1132,
  q1 273 (.iconst 0) 1 (vI 0),
  q0 274 .ireturn 1,
  q0 275 (.aload_n 1) 1,
  q0 276 (.aload_n 0) 1,
  q0 277 (.iload_n 3) 1,
  q1 278 (.iconst 1) 1 (vI 1),
  q0 279 .iadd 1,
  q0 280 .iaload 1,
  q0 281 (.aload_n 0) 1,
  q0 282 (.iload_n 3) 1,
  q1 283 (.iconst 2) 1 (vI 2),
  q0 284 .iadd 1,
  q0 285 .iaload 1,
  q5 286 (.invokevirtual 30) 3 4 3 yX4_fault,
  q0 289 (.aload_n 2) 1,
  q0 290 (.aload_n 0) 1,
  q0 291 (.iload_n 3) 1,
  q1 292 (.iconst 1) 1 (vI 1),
  q0 293 .iadd 1,
  q0 294 .iaload 1,
  q0 295 (.aload_n 0) 1,
  q0 296 (.iload_n 3) 1,
  q1 297 (.iconst 2) 1 (vI 2),
  q0 298 .iadd 1,
  q0 299 .iaload 1,
  q5 300 (.invokevirtual 34) 3 5 3 yX5_fault,
  q2 303 (.if_icmp .eq 829) 3 1132,
  q1 306 (.iconst 0) 1 (vI 0),
  q0 307 .ireturn 1,
  q0 308 (.aload_n 1) 1,
  q0 309 (.aload_n 0) 1,
  q0 310 (.iload_n 3) 1,
  q1 311 (.iconst 1) 1 (vI 1),
  q0 312 .iadd 1,
  q0 313 .iaload 1,
  q0 314 (.aload_n 0) 1,
  q0 315 (.iload_n 3) 1,
  q1 316 (.iconst 2) 1 (vI 2),
  q0 317 .iadd 1,
  q0 318 .iaload 1,
  q0 319 (.aload_n 0) 1,
  q0 320 (.iload_n 3) 1,
  q1 321 (.iconst 3) 1 (vI 3),
  q0 322 .iadd 1,
  q0 323 .iaload 1,
  q5 324 (.invokevirtual 35) 3 4 4 yX4_rounds,
  q0 327 (.aload_n 2) 1,
  q0 328 (.aload_n 0) 1,
  q0 329 (.iload_n 3) 1,
  q1 330 (.iconst 1) 1 (vI 1),
  q0 331 .iadd 1,
  q0 332 .iaload 1,
  q0 333 (.aload_n 0) 1,
  q0 334 (.iload_n 3) 1,
  q1 335 (.iconst 2) 1 (vI 2),
  q0 336 .iadd 1,
  q0 337 .iaload 1,
  q0 338 (.aload_n 0) 1,
  q0 339 (.iload_n 3) 1,
  q1 340 (.iconst 3) 1 (vI 3),
  q0 341 .iadd 1,
  q0 342 .iaload 1,
  q5 343 (.invokevirtual 39) 3 5 4 yX5_rounds,
  q2 346 (.if_icmp .eq 786) 3 1132,
  q1 349 (.iconst 0) 1 (vI 0),
  q0 350 .ireturn 1,
  q0 351 (.aload_n 1) 1,
  q0 352 (.aload_n 0) 1,
  q0 353 (.iload_n 3) 1,
  q1 354 (.iconst 1) 1 (vI 1),
  q0 355 .iadd 1,
  q0 356 .iaload 1,
  q0 357 (.aload_n 0) 1,
  q0 358 (.iload_n 3) 1,
  q1 359 (.iconst 2) 1 (vI 2),
  q0 360 .iadd 1,
  q0 361 .iaload 1,
  q5 362 (.invokevirtual 40) 3 4 3 yX4_load,
  q0 365 (.aload_n 2) 1,
  q0 366 (.aload_n 0) 1,
  q0 367 (.iload_n 3) 1,
  q1 368 (.iconst 1) 1 (vI 1),
  q0 369 .iadd 1,
  q0 370 .iaload 1,
  q0 371 (.aload_n 0) 1,
  q0 372 (.iload_n 3) 1,
  q1 373 (.iconst 2) 1 (vI 2),
  q0 374 .iadd 1,
  q0 375 .iaload 1,
  q5 376 (.invokevirtual 43) 3 5 3 yX5_load,
  q2 379 (.if_icmp .eq 753) 3 1132,
  q1 382 (.iconst 0) 1 (vI 0),
  q0 383 .ireturn 1,
  q0 384 (.aload_n 1) 1,
  q0 385 (.aload_n 0) 1,
  q0 386 (.iload_n 3) 1,
  q1 387 (.iconst 1) 1 (vI 1),
  q0 388 .iadd 1,
  q0 389 .iaload 1,
  q0 390 (.aload_n 0) 1,
  q0 391 (.iload_n 3) 1,
  q1 392 (.iconst 2) 1 (vI 2),
  q0 393 .iadd 1,
  q0 394 .iaload 1,
  q5 395 (.invokevirtual 44) 3 4 3 yX4_set,
  q0 398 (.aload_n 2) 1,
  q0 399 (.aload_n 0) 1,
  q0 400 (.iload_n 3) 1,
  q1 401 (.iconst 1) 1 (vI 1),
  q0 402 .iadd 1,
  q0 403 .iaload 1,
  q0 404 (.aload_n 0) 1,
  q0 405 (.iload_n 3) 1,
  q1 406 (.iconst 2) 1 (vI 2),
  q0 407 .iadd 1,
  q0 408 .iaload 1,
  q5 409 (.invokevirtual 47) 3 5 3 yX5_set,
  q2 412 (.if_icmp .eq 720) 3 1132,
  q1 415 (.iconst 0) 1 (vI 0),
  q0 416 .ireturn 1,
  q0 417 (.aload_n 1) 1,
  q5 418 (.invokevirtual 48) 3 4 1 yX4_oil,
  q0 421 (.aload_n 2) 1,
  q5 422 (.invokevirtual 51) 3 5 1 yX5_oil,
  q2 425 (.if_icmp .eq 707) 3 1132,
  q1 428 (.iconst 0) 1 (vI 0),
  q0 429 .ireturn 1,
  q0 430 (.aload_n 1) 1,
  q0 431 (.aload_n 0) 1,
  q0 432 (.iload_n 3) 1,
  q1 433 (.iconst 1) 1 (vI 1),
  q0 434 .iadd 1,
  q0 435 .iaload 1,
  q0 436 (.aload_n 0) 1,
  q0 437 (.iload_n 3) 1,
  q1 438 (.iconst 2) 1 (vI 2),
  q0 439 .iadd 1,
  q0 440 .iaload 1,
  q0 441 (.aload_n 0) 1,
  q0 442 (.iload_n 3) 1,
  q1 443 (.iconst 3) 1 (vI 3),
  q0 444 .iadd 1,
  q0 445 .iaload 1,
  q5 446 (.invokevirtual 52) 3 4 4 yX4_stage,
  q0 449 (.aload_n 2) 1,
  q0 450 (.aload_n 0) 1,
  q0 451 (.iload_n 3) 1,
  q1 452 (.iconst 1) 1 (vI 1),
  q0 453 .iadd 1,
  q0 454 .iaload 1,
  q0 455 (.aload_n 0) 1,
  q0 456 (.iload_n 3) 1,
  q1 457 (.iconst 2) 1 (vI 2),
  q0 458 .iadd 1,
  q0 459 .iaload 1,
  q0 460 (.aload_n 0) 1,
  q0 461 (.iload_n 3) 1,
  q1 462 (.iconst 3) 1 (vI 3),
  q0 463 .iadd 1,
  q0 464 .iaload 1,
  q5 465 (.invokevirtual 55) 3 5 4 yX5_stage,
  q2 468 (.if_icmp .eq 664) 3 1132,
  q1 471 (.iconst 0) 1 (vI 0),
  q0 472 .ireturn 1,
  q0 473 (.aload_n 1) 1,
  q0 474 (.aload_n 0) 1,
  q0 475 (.iload_n 3) 1,
  q1 476 (.iconst 1) 1 (vI 1),
  q0 477 .iadd 1,
  q0 478 .iaload 1,
  q0 479 (.aload_n 0) 1,
  q0 480 (.iload_n 3) 1,
  q1 481 (.iconst 2) 1 (vI 2),
  q0 482 .iadd 1,
  q0 483 .iaload 1,
  q5 484 (.invokevirtual 56) 3 4 3 yX4_stageOf,
  q0 487 (.aload_n 2) 1,
  q0 488 (.aload_n 0) 1,
  q0 489 (.iload_n 3) 1,
  q1 490 (.iconst 1) 1 (vI 1),
  q0 491 .iadd 1,
  q0 492 .iaload 1,
  q0 493 (.aload_n 0) 1,
  q0 494 (.iload_n 3) 1,
  q1 495 (.iconst 2) 1 (vI 2),
  q0 496 .iadd 1,
  q0 497 .iaload 1,
  q5 498 (.invokevirtual 59) 3 5 3 yX5_stageOf,
  q2 501 (.if_icmp .eq 631) 3 1132,
  q1 504 (.iconst 0) 1 (vI 0),
  q0 505 .ireturn 1,
  q0 506 (.aload_n 1) 1,
  q5 507 (.invokevirtual 60) 3 4 1 yX4_drop,
  q0 510 (.aload_n 2) 1,
  q5 511 (.invokevirtual 63) 3 5 1 yX5_drop,
  q2 514 (.if_icmp .eq 618) 3 1132,
  q1 517 (.iconst 0) 1 (vI 0),
  q0 518 .ireturn 1,
  q0 519 (.aload_n 1) 1,
  q0 520 (.aload_n 0) 1,
  q0 521 (.iload_n 3) 1,
  q1 522 (.iconst 1) 1 (vI 1),
  q0 523 .iadd 1,
  q0 524 .iaload 1,
  q5 525 (.invokevirtual 64) 3 4 2 yX4_counts,
  q0 528 (.aload_n 2) 1,
  q0 529 (.aload_n 0) 1,
  q0 530 (.iload_n 3) 1,
  q1 531 (.iconst 1) 1 (vI 1),
  q0 532 .iadd 1,
  q0 533 .iaload 1,
  q5 534 (.invokevirtual 67) 3 5 2 yX5_counts,
  q2 537 (.if_icmp .eq 595) 3 1132,
  q1 540 (.iconst 0) 1 (vI 0),
  q0 541 .ireturn 1,
  q0 542 (.aload_n 1) 1,
  q0 543 (.aload_n 0) 1,
  q0 544 (.iload_n 3) 1,
  q1 545 (.iconst 1) 1 (vI 1),
  q0 546 .iadd 1,
  q0 547 .iaload 1,
  q0 548 (.aload_n 0) 1,
  q0 549 (.iload_n 3) 1,
  q1 550 (.iconst 2) 1 (vI 2),
  q0 551 .iadd 1,
  q0 552 .iaload 1,
  q0 553 (.aload_n 0) 1,
  q0 554 (.iload_n 3) 1,
  q1 555 (.iconst 3) 1 (vI 3),
  q0 556 .iadd 1,
  q0 557 .iaload 1,
  q0 558 (.aload_n 0) 1,
  q0 559 (.iload_n 3) 1,
  q1 560 (.iconst 4) 1 (vI 4),
  q0 561 .iadd 1,
  q0 562 .iaload 1,
  q5 563 (.invokevirtual 68) 3 4 5 yX4_stageCounts,
  q0 566 (.aload_n 2) 1,
  q0 567 (.aload_n 0) 1,
  q0 568 (.iload_n 3) 1,
  q1 569 (.iconst 1) 1 (vI 1),
  q0 570 .iadd 1,
  q0 571 .iaload 1,
  q0 572 (.aload_n 0) 1,
  q0 573 (.iload_n 3) 1,
  q1 574 (.iconst 2) 1 (vI 2),
  q0 575 .iadd 1,
  q0 576 .iaload 1,
  q0 577 (.aload_n 0) 1,
  q0 578 (.iload_n 3) 1,
  q1 579 (.iconst 3) 1 (vI 3),
  q0 580 .iadd 1,
  q0 581 .iaload 1,
  q0 582 (.aload_n 0) 1,
  q0 583 (.iload_n 3) 1,
  q1 584 (.iconst 4) 1 (vI 4),
  q0 585 .iadd 1,
  q0 586 .iaload 1,
  q5 587 (.invokevirtual 72) 3 5 5 yX5_stageCounts,
  q2 590 (.if_icmp .eq 542) 3 1132,
  q1 593 (.iconst 0) 1 (vI 0),
  q0 594 .ireturn 1,
  q0 595 (.aload_n 1) 1,
  q0 596 (.aload_n 0) 1,
  q0 597 (.iload_n 3) 1,
  q1 598 (.iconst 1) 1 (vI 1),
  q0 599 .iadd 1,
  q0 600 .iaload 1,
  q0 601 (.aload_n 0) 1,
  q0 602 (.iload_n 3) 1,
  q1 603 (.iconst 2) 1 (vI 2),
  q0 604 .iadd 1,
  q0 605 .iaload 1,
  q5 606 (.invokevirtual 73) 3 4 3 yX4_when,
  q0 609 (.aload_n 2) 1,
  q0 610 (.aload_n 0) 1,
  q0 611 (.iload_n 3) 1,
  q1 612 (.iconst 1) 1 (vI 1),
  q0 613 .iadd 1,
  q0 614 .iaload 1,
  q0 615 (.aload_n 0) 1,
  q0 616 (.iload_n 3) 1,
  q1 617 (.iconst 2) 1 (vI 2),
  q0 618 .iadd 1,
  q0 619 .iaload 1,
  q5 620 (.invokevirtual 76) 3 5 3 yX5_when,
  q2 623 (.if_icmp .eq 509) 3 1132,
  q1 626 (.iconst 0) 1 (vI 0),
  q0 627 .ireturn 1,
  q0 628 (.aload_n 1) 1,
  q0 629 (.aload_n 0) 1,
  q0 630 (.iload_n 3) 1,
  q1 631 (.iconst 1) 1 (vI 1),
  q0 632 .iadd 1,
  q0 633 .iaload 1,
  q5 634 (.invokevirtual 77) 3 4 2 yX4_heard,
  q0 637 (.aload_n 2) 1,
  q0 638 (.aload_n 0) 1,
  q0 639 (.iload_n 3) 1,
  q1 640 (.iconst 1) 1 (vI 1),
  q0 641 .iadd 1,
  q0 642 .iaload 1,
  q5 643 (.invokevirtual 80) 3 5 2 yX5_heard,
  q2 646 (.if_icmp .eq 486) 3 1132,
  q1 649 (.iconst 0) 1 (vI 0),
  q0 650 .ireturn 1,
  q0 651 (.aload_n 1) 1,
  q5 652 (.invokevirtual 81) 3 4 1 yX4_go,
  q0 655 (.aload_n 2) 1,
  q5 656 (.invokevirtual 84) 3 5 1 yX5_go,
  q2 659 (.if_icmp .eq 473) 3 1132,
  q1 662 (.iconst 0) 1 (vI 0),
  q0 663 .ireturn 1,
  q0 664 (.aload_n 1) 1,
  q0 665 (.aload_n 0) 1,
  q0 666 (.iload_n 3) 1,
  q1 667 (.iconst 1) 1 (vI 1),
  q0 668 .iadd 1,
  q0 669 .iaload 1,
  q0 670 (.aload_n 0) 1,
  q0 671 (.iload_n 3) 1,
  q1 672 (.iconst 2) 1 (vI 2),
  q0 673 .iadd 1,
  q0 674 .iaload 1,
  q5 675 (.invokevirtual 85) 3 4 3 yX4_fit,
  q0 678 (.aload_n 2) 1,
  q0 679 (.aload_n 0) 1,
  q0 680 (.iload_n 3) 1,
  q1 681 (.iconst 1) 1 (vI 1),
  q0 682 .iadd 1,
  q0 683 .iaload 1,
  q0 684 (.aload_n 0) 1,
  q0 685 (.iload_n 3) 1,
  q1 686 (.iconst 2) 1 (vI 2),
  q0 687 .iadd 1,
  q0 688 .iaload 1,
  q5 689 (.invokevirtual 88) 3 5 3 yX5_fit,
  q2 692 (.if_icmp .eq 440) 3 1132,
  q1 695 (.iconst 0) 1 (vI 0),
  q0 696 .ireturn 1,
  q0 697 (.aload_n 1) 1,
  q0 698 (.aload_n 0) 1,
  q0 699 (.iload_n 3) 1,
  q1 700 (.iconst 1) 1 (vI 1),
  q0 701 .iadd 1,
  q0 702 .iaload 1,
  q0 703 (.aload_n 0) 1,
  q0 704 (.iload_n 3) 1,
  q1 705 (.iconst 2) 1 (vI 2),
  q0 706 .iadd 1,
  q0 707 .iaload 1,
  q0 708 (.aload_n 0) 1,
  q0 709 (.iload_n 3) 1,
  q1 710 (.iconst 3) 1 (vI 3),
  q0 711 .iadd 1,
  q0 712 .iaload 1,
  q0 713 (.aload_n 0) 1,
  q0 714 (.iload_n 3) 1,
  q1 715 (.iconst 4) 1 (vI 4),
  q0 716 .iadd 1,
  q0 717 .iaload 1,
  q5 718 (.invokevirtual 89) 3 4 5 yX4_odds,
  q0 721 (.aload_n 2) 1,
  q0 722 (.aload_n 0) 1,
  q0 723 (.iload_n 3) 1,
  q1 724 (.iconst 1) 1 (vI 1),
  q0 725 .iadd 1,
  q0 726 .iaload 1,
  q0 727 (.aload_n 0) 1,
  q0 728 (.iload_n 3) 1,
  q1 729 (.iconst 2) 1 (vI 2),
  q0 730 .iadd 1,
  q0 731 .iaload 1,
  q0 732 (.aload_n 0) 1,
  q0 733 (.iload_n 3) 1,
  q1 734 (.iconst 3) 1 (vI 3),
  q0 735 .iadd 1,
  q0 736 .iaload 1,
  q0 737 (.aload_n 0) 1,
  q0 738 (.iload_n 3) 1,
  q1 739 (.iconst 4) 1 (vI 4),
  q0 740 .iadd 1,
  q0 741 .iaload 1,
  q5 742 (.invokevirtual 92) 3 5 5 yX5_odds,
  q2 745 (.if_icmp .eq 387) 3 1132,
  q1 748 (.iconst 0) 1 (vI 0),
  q0 749 .ireturn 1,
  q0 750 (.aload_n 1) 1,
  q0 751 (.aload_n 0) 1,
  q0 752 (.iload_n 3) 1,
  q1 753 (.iconst 1) 1 (vI 1),
  q0 754 .iadd 1,
  q0 755 .iaload 1,
  q0 756 (.aload_n 0) 1,
  q0 757 (.iload_n 3) 1,
  q1 758 (.iconst 2) 1 (vI 2),
  q0 759 .iadd 1,
  q0 760 .iaload 1,
  q0 761 (.aload_n 0) 1,
  q0 762 (.iload_n 3) 1,
  q1 763 (.iconst 3) 1 (vI 3),
  q0 764 .iadd 1,
  q0 765 .iaload 1,
  q5 766 (.invokevirtual 93) 3 4 4 yX4_twos,
  q0 769 (.aload_n 2) 1,
  q0 770 (.aload_n 0) 1,
  q0 771 (.iload_n 3) 1,
  q1 772 (.iconst 1) 1 (vI 1),
  q0 773 .iadd 1,
  q0 774 .iaload 1,
  q0 775 (.aload_n 0) 1,
  q0 776 (.iload_n 3) 1,
  q1 777 (.iconst 2) 1 (vI 2),
  q0 778 .iadd 1,
  q0 779 .iaload 1,
  q0 780 (.aload_n 0) 1,
  q0 781 (.iload_n 3) 1,
  q1 782 (.iconst 3) 1 (vI 3),
  q0 783 .iadd 1,
  q0 784 .iaload 1,
  q5 785 (.invokevirtual 96) 3 5 4 yX5_twos,
  q2 788 (.if_icmp .eq 344) 3 1132,
  q1 791 (.iconst 0) 1 (vI 0),
  q0 792 .ireturn 1,
  q0 793 (.aload_n 1) 1,
  q0 794 (.aload_n 0) 1,
  q0 795 (.iload_n 3) 1,
  q1 796 (.iconst 1) 1 (vI 1),
  q0 797 .iadd 1,
  q0 798 .iaload 1,
  q0 799 (.aload_n 0) 1,
  q0 800 (.iload_n 3) 1,
  q1 801 (.iconst 2) 1 (vI 2),
  q0 802 .iadd 1,
  q0 803 .iaload 1,
  q5 804 (.invokevirtual 97) 3 4 3 yX4_apart,
  q0 807 (.aload_n 2) 1,
  q0 808 (.aload_n 0) 1,
  q0 809 (.iload_n 3) 1,
  q1 810 (.iconst 1) 1 (vI 1),
  q0 811 .iadd 1,
  q0 812 .iaload 1,
  q0 813 (.aload_n 0) 1,
  q0 814 (.iload_n 3) 1,
  q1 815 (.iconst 2) 1 (vI 2),
  q0 816 .iadd 1,
  q0 817 .iaload 1,
  q5 818 (.invokevirtual 100) 3 5 3 yX5_apart,
  q2 821 (.if_icmp .eq 311) 3 1132,
  q1 824 (.iconst 0) 1 (vI 0),
  q0 825 .ireturn 1,
  q0 826 (.aload_n 1) 1,
  q0 827 (.aload_n 0) 1,
  q0 828 (.iload_n 3) 1,
  q1 829 (.iconst 1) 1 (vI 1),
  q0 830 .iadd 1,
  q0 831 .iaload 1,
  q0 832 (.aload_n 0) 1,
  q0 833 (.iload_n 3) 1,
  q1 834 (.iconst 2) 1 (vI 2),
  q0 835 .iadd 1,
  q0 836 .iaload 1,
  q5 837 (.invokevirtual 101) 3 4 3 yX4_tells,
  q0 840 (.aload_n 2) 1,
  q0 841 (.aload_n 0) 1,
  q0 842 (.iload_n 3) 1,
  q1 843 (.iconst 1) 1 (vI 1),
  q0 844 .iadd 1,
  q0 845 .iaload 1,
  q0 846 (.aload_n 0) 1,
  q0 847 (.iload_n 3) 1,
  q1 848 (.iconst 2) 1 (vI 2),
  q0 849 .iadd 1,
  q0 850 .iaload 1,
  q5 851 (.invokevirtual 104) 3 5 3 yX5_tells,
  q2 854 (.if_icmp .eq 278) 3 1132,
  q1 857 (.iconst 0) 1 (vI 0),
  q0 858 .ireturn 1,
  q0 859 (.aload_n 1) 1,
  q0 860 (.aload_n 0) 1,
  q0 861 (.iload_n 3) 1,
  q1 862 (.iconst 1) 1 (vI 1),
  q0 863 .iadd 1,
  q0 864 .iaload 1,
  q0 865 (.aload_n 0) 1,
  q0 866 (.iload_n 3) 1,
  q1 867 (.iconst 2) 1 (vI 2),
  q0 868 .iadd 1,
  q0 869 .iaload 1,
  q0 870 (.aload_n 0) 1,
  q0 871 (.iload_n 3) 1,
  q1 872 (.iconst 3) 1 (vI 3),
  q0 873 .iadd 1,
  q0 874 .iaload 1,
  q0 875 (.aload_n 0) 1,
  q0 876 (.iload_n 3) 1,
  q1 877 (.iconst 4) 1 (vI 4),
  q0 878 .iadd 1,
  q0 879 .iaload 1,
  q0 880 (.aload_n 0) 1,
  q0 881 (.iload_n 3) 1,
  q1 882 (.iconst 5) 1 (vI 5),
  q0 883 .iadd 1,
  q0 884 .iaload 1,
  q5 885 (.invokevirtual 105) 3 4 6 yX4_length,
  q0 888 (.aload_n 2) 1,
  q0 889 (.aload_n 0) 1,
  q0 890 (.iload_n 3) 1,
  q1 891 (.iconst 1) 1 (vI 1),
  q0 892 .iadd 1,
  q0 893 .iaload 1,
  q0 894 (.aload_n 0) 1,
  q0 895 (.iload_n 3) 1,
  q1 896 (.iconst 2) 1 (vI 2),
  q0 897 .iadd 1,
  q0 898 .iaload 1,
  q0 899 (.aload_n 0) 1,
  q0 900 (.iload_n 3) 1,
  q1 901 (.iconst 3) 1 (vI 3),
  q0 902 .iadd 1,
  q0 903 .iaload 1,
  q0 904 (.aload_n 0) 1,
  q0 905 (.iload_n 3) 1,
  q1 906 (.iconst 4) 1 (vI 4),
  q0 907 .iadd 1,
  q0 908 .iaload 1,
  q0 909 (.aload_n 0) 1,
  q0 910 (.iload_n 3) 1,
  q1 911 (.iconst 5) 1 (vI 5),
  q0 912 .iadd 1,
  q0 913 .iaload 1,
  q5 914 (.invokevirtual 109) 3 5 6 yX5_length,
  q2 917 (.if_icmp .eq 215) 3 1132,
  q1 920 (.iconst 0) 1 (vI 0),
  q0 921 .ireturn 1,
  q0 922 (.aload_n 1) 1,
  q0 923 (.aload_n 0) 1,
  q0 924 (.iload_n 3) 1,
  q1 925 (.iconst 1) 1 (vI 1),
  q0 926 .iadd 1,
  q0 927 .iaload 1,
  q0 928 (.aload_n 0) 1,
  q0 929 (.iload_n 3) 1,
  q1 930 (.iconst 2) 1 (vI 2),
  q0 931 .iadd 1,
  q0 932 .iaload 1,
  q0 933 (.aload_n 0) 1,
  q0 934 (.iload_n 3) 1,
  q1 935 (.iconst 3) 1 (vI 3),
  q0 936 .iadd 1,
  q0 937 .iaload 1,
  q5 938 (.invokevirtual 110) 3 4 4 yX4_beat,
  q0 941 (.aload_n 2) 1,
  q0 942 (.aload_n 0) 1,
  q0 943 (.iload_n 3) 1,
  q1 944 (.iconst 1) 1 (vI 1),
  q0 945 .iadd 1,
  q0 946 .iaload 1,
  q0 947 (.aload_n 0) 1,
  q0 948 (.iload_n 3) 1,
  q1 949 (.iconst 2) 1 (vI 2),
  q0 950 .iadd 1,
  q0 951 .iaload 1,
  q0 952 (.aload_n 0) 1,
  q0 953 (.iload_n 3) 1,
  q1 954 (.iconst 3) 1 (vI 3),
  q0 955 .iadd 1,
  q0 956 .iaload 1,
  q5 957 (.invokevirtual 113) 3 5 4 yX5_beat,
  q2 960 (.if_icmp .eq 172) 3 1132,
  q1 963 (.iconst 0) 1 (vI 0),
  q0 964 .ireturn 1,
  q0 965 (.aload_n 1) 1,
  q0 966 (.aload_n 0) 1,
  q0 967 (.iload_n 3) 1,
  q1 968 (.iconst 1) 1 (vI 1),
  q0 969 .iadd 1,
  q0 970 .iaload 1,
  q5 971 (.invokevirtual 114) 3 4 2 yX4_away,
  q0 974 (.aload_n 2) 1,
  q0 975 (.aload_n 0) 1,
  q0 976 (.iload_n 3) 1,
  q1 977 (.iconst 1) 1 (vI 1),
  q0 978 .iadd 1,
  q0 979 .iaload 1,
  q5 980 (.invokevirtual 117) 3 5 2 yX5_away,
  q2 983 (.if_icmp .eq 149) 3 1132,
  q1 986 (.iconst 0) 1 (vI 0),
  q0 987 .ireturn 1,
  q0 988 (.aload_n 1) 1,
  q0 989 (.aload_n 0) 1,
  q0 990 (.iload_n 3) 1,
  q1 991 (.iconst 1) 1 (vI 1),
  q0 992 .iadd 1,
  q0 993 .iaload 1,
  q5 994 (.invokevirtual 118) 3 4 2 yX4_danger,
  q0 997 (.aload_n 2) 1,
  q0 998 (.aload_n 0) 1,
  q0 999 (.iload_n 3) 1,
  q1 1000 (.iconst 1) 1 (vI 1),
  q0 1001 .iadd 1,
  q0 1002 .iaload 1,
  q5 1003 (.invokevirtual 121) 3 5 2 yX5_danger,
  q2 1006 (.if_icmp .eq 126) 3 1132,
  q1 1009 (.iconst 0) 1 (vI 0),
  q0 1010 .ireturn 1,
  q0 1011 (.aload_n 1) 1,
  q0 1012 (.aload_n 0) 1,
  q0 1013 (.iload_n 3) 1,
  q1 1014 (.iconst 1) 1 (vI 1),
  q0 1015 .iadd 1,
  q0 1016 .iaload 1,
  q5 1017 (.invokevirtual 122) 3 4 2 yX4_least,
  q0 1020 (.aload_n 2) 1,
  q0 1021 (.aload_n 0) 1,
  q0 1022 (.iload_n 3) 1,
  q1 1023 (.iconst 1) 1 (vI 1),
  q0 1024 .iadd 1,
  q0 1025 .iaload 1,
  q5 1026 (.invokevirtual 125) 3 5 2 yX5_least,
  q2 1029 (.if_icmp .eq 103) 3 1132,
  q1 1032 (.iconst 0) 1 (vI 0),
  q0 1033 .ireturn 1,
  q0 1034 (.aload_n 1) 1,
  q0 1035 (.aload_n 0) 1,
  q0 1036 (.iload_n 3) 1,
  q1 1037 (.iconst 1) 1 (vI 1),
  q0 1038 .iadd 1,
  q0 1039 .iaload 1,
  q5 1040 (.invokevirtual 126) 3 4 2 yX4_row,
  q0 1043 (.aload_n 2) 1,
  q0 1044 (.aload_n 0) 1,
  q0 1045 (.iload_n 3) 1,
  q1 1046 (.iconst 1) 1 (vI 1),
  q0 1047 .iadd 1,
  q0 1048 .iaload 1,
  q5 1049 (.invokevirtual 129) 3 5 2 yX5_row,
  q2 1052 (.if_icmp .eq 80) 3 1132,
  q1 1055 (.iconst 0) 1 (vI 0),
  q0 1056 .ireturn 1,
  q0 1057 (.aload_n 1) 1,
  q5 1058 (.invokevirtual 130) 3 4 1 yX4_judge,
  q0 1061 (.aload_n 2) 1,
  q5 1062 (.invokevirtual 133) 3 5 1 yX5_judge,
  q2 1065 (.if_icmp .eq 67) 3 1132,
  q1 1068 (.iconst 0) 1 (vI 0),
  q0 1069 .ireturn 1,
  q0 1070 (.aload_n 1) 1,
  q5 1071 (.invokevirtual 134) 3 4 1 yX4_held,
  q0 1074 (.aload_n 2) 1,
  q5 1075 (.invokevirtual 137) 3 5 1 yX5_held,
  q2 1078 (.if_icmp .eq 54) 3 1132,
  q1 1081 (.iconst 0) 1 (vI 0),
  q0 1082 .ireturn 1,
  q0 1083 (.aload_n 1) 1,
  q5 1084 (.invokevirtual 138) 3 4 1 yX4_image,
  q0 1087 (.aload_n 2) 1,
  q5 1088 (.invokevirtual 141) 3 5 1 yX5_image,
  q2 1091 (.if_icmp .eq 41) 3 1132,
  q1 1094 (.iconst 0) 1 (vI 0),
  q0 1095 .ireturn 1,
  q0 1096 (.aload_n 1) 1,
  q5 1097 (.invokevirtual 142) 3 4 1 yX4_on,
  q0 1100 (.aload_n 2) 1,
  q5 1101 (.invokevirtual 145) 3 5 1 yX5_on,
  q2 1104 (.if_icmp .eq 28) 3 1132,
  q1 1107 (.iconst 0) 1 (vI 0),
  q0 1108 .ireturn 1,
  q0 1109 (.aload_n 1) 1,
  q0 1110 (.aload_n 0) 1,
  q0 1111 (.iload_n 3) 1,
  q1 1112 (.iconst 1) 1 (vI 1),
  q0 1113 .iadd 1,
  q0 1114 .iaload 1,
  q5 1115 (.invokevirtual 146) 3 4 2 yX4_count,
  q0 1118 (.aload_n 2) 1,
  q0 1119 (.aload_n 0) 1,
  q0 1120 (.iload_n 3) 1,
  q1 1121 (.iconst 1) 1 (vI 1),
  q0 1122 .iadd 1,
  q0 1123 .iaload 1,
  q5 1124 (.invokevirtual 149) 3 5 2 yX5_count,
  q2 1127 (.if_icmp .eq 5) 3 1132,
  q1 1130 (.iconst 0) 1 (vI 0),
  q0 1131 .ireturn 1,
  q1 1132 (.iinc 3 6) 3 (vI 6),
  q2 1135 (.goto (-1117)) 3 18,
  q1 1138 (.iconst 1) 1 (vI 1),
  q0 1139 .ireturn 1]
def ab_fl : List (Nat × Nat × Nat × Nat × Nat) := [(3, 9, 3, 0, 76), (3, 15, 3, 1, 77), (4, 66, 3, 1, 78), (3, 19, 3, 2, 79), (4, 262, 3, 2, 80), (3, 22, 3, 3, 81), (0, 71, 3, 3, 82), (3, 25, 3, 4, 83), (1, 39, 3, 4, 84), (3, 28, 3, 5, 85), (0, 66, 3, 5, 86), (1, 42, 3, 5, 87), (1, 21, 1, 0, 115), (2, 79, 1, 0, 116), (4, 100, 1, 0, 117), (0, 85, 1, 0, 118), (1, 24, 1, 1, 119), (4, 105, 1, 1, 120), (1, 27, 1, 2, 121), (4, 108, 1, 2, 122), (1, 30, 1, 3, 123), (4, 111, 1, 3, 124), (0, 94, 1, 3, 125), (1, 33, 1, 4, 126), (4, 114, 1, 4, 127), (1, 9, 1, 5, 128), (0, 88, 1, 5, 129), (1, 15, 1, 6, 130), (0, 91, 1, 6, 131), (1, 36, 1, 7, 132), (4, 117, 1, 7, 133), (1, 18, 1, 8, 134), (2, 90, 1, 8, 135), (0, 9, 0, 0, 155), (4, 80, 0, 0, 156), (0, 15, 0, 1, 157), (4, 83, 0, 1, 158), (0, 18, 0, 2, 159), (4, 90, 0, 2, 160), (0, 50, 0, 3, 161), (4, 214, 0, 3, 162), (0, 24, 0, 4, 163), (4, 96, 0, 4, 164), (0, 57, 0, 5, 165), (4, 150, 0, 5, 166), (0, 29, 0, 6, 167), (4, 144, 0, 6, 168), (2, 36, 0, 7, 169), (0, 60, 0, 7, 170), (4, 120, 0, 7, 171), (0, 32, 0, 8, 172), (4, 147, 0, 8, 173), (0, 35, 0, 9, 174), (2, 61, 0, 9, 175), (4, 160, 0, 9, 176), (0, 38, 0, 10, 177), (2, 65, 0, 10, 178), (4, 163, 0, 10, 179), (0, 41, 0, 11, 180), (2, 68, 0, 11, 181), (4, 166, 0, 11, 182), (0, 63, 0, 12, 183), (2, 58, 0, 12, 184), (4, 153, 0, 12, 185), (2, 9, 2, 0, 221), (2, 18, 2, 1, 222), (4, 188, 2, 1, 223), (2, 32, 2, 2, 224), (2, 39, 2, 3, 225), (2, 42, 2, 4, 226), (2, 45, 2, 5, 227), (4, 227, 2, 5, 228), (2, 48, 2, 6, 229), (2, 51, 2, 7, 230), (4, 176, 2, 7, 231), (4, 10, 4, 0, 249), (4, 19, 4, 1, 250), (4, 23, 4, 2, 251), (4, 26, 4, 3, 252), (4, 29, 4, 4, 253), (4, 38, 4, 5, 254), (4, 42, 4, 6, 255), (4, 45, 4, 7, 256), (4, 49, 4, 8, 257), (4, 52, 4, 9, 258), (4, 55, 4, 10, 259), (4, 59, 4, 11, 260), (5, 7, 5, 0, 651), (5, 13, 5, 1, 652), (5, 16, 5, 2, 653), (5, 19, 5, 3, 654), (5, 223, 5, 4, 655), (5, 22, 5, 5, 656), (5, 25, 5, 6, 657), (5, 54, 5, 7, 658), (5, 60, 5, 8, 659), (5, 28, 5, 9, 660), (5, 31, 5, 10, 661), (5, 34, 5, 11, 662), (5, 123, 5, 12, 663), (5, 126, 5, 13, 664), (5, 145, 5, 14, 665), (5, 129, 5, 15, 666), (5, 132, 5, 16, 667), (5, 136, 5, 17, 668), (5, 142, 5, 18, 669), (5, 139, 5, 19, 670), (5, 37, 5, 20, 671), (5, 40, 5, 21, 672), (5, 211, 5, 22, 673), (5, 43, 5, 23, 674), (5, 220, 5, 24, 675)]
def ab_ml : List (Nat × Nat × MethodName × Nat) := [(6, 9, yX4_init, 64), (4, 9, yX3_init, 72), (4, 18, yX0_init, 104), (0, 28, yX1_init, 111), (4, 35, yX2_init, 215), (2, 17, yX1_init, 220), (6, 15, yX4_feed, 286), (4, 62, yX4_refuse, 290), (4, 69, yX3_add, 294), (6, 20, yX4_bicycle, 298), (4, 73, yX3_checkForm, 302), (3, 31, yX3_readStatement, 306), (3, 35, yX3_peek, 310), (3, 39, yX3_readFault, 314), (3, 50, yX3_kindOf, 318), (3, 46, yX3_readNumber, 321), (3, 42, yX3_skip, 325), (3, 54, yX3_readBall, 329), (4, 77, yX4_takeStatements, 333), (4, 254, yX0_copyFrom, 337), (0, 53, yX1_copyFrom, 344), (4, 263, yX3_readStatement, 348), (4, 266, yX0_takeStatement, 349), (0, 74, yX0_addCog, 353), (0, 78, yX0_addFault, 357), (0, 82, yX1_become, 361), (6, 25, yX4_part, 365), (4, 86, yX4_isGear, 369), (6, 30, yX4_fault, 373), (4, 93, yX4_isFault, 377), (4, 123, yX1_limitAfter, 381), (6, 35, yX4_rounds, 385), (4, 126, yX0_upOf, 389), (4, 130, yX0_downOf, 393), (6, 40, yX4_load, 397), (4, 134, yX4_isAct, 401), (4, 137, yX0_loadIn, 404), (6, 44, yX4_set, 408), (6, 48, yX4_oil, 414), (6, 52, yX4_stage, 418), (4, 156, yX0_addStage, 422), (6, 56, yX4_stageOf, 426), (6, 60, yX4_drop, 430), (6, 64, yX4_counts, 434), (4, 169, yX2_passRide, 438), (2, 54, yX2_begin, 442), (2, 22, yX1_copyFrom, 446), (2, 26, yX0_upOf, 447), (2, 71, yX2_passStage, 448), (2, 75, yX2_shiftTo, 452), (2, 100, yX0_downOf, 456), (2, 104, yX1_scaleTo, 457), (2, 82, yX2_listen, 461), (2, 115, yX0_isSilent, 465), (2, 119, yX0_loadIn, 469), (2, 122, yX1_limitAfter, 470), (2, 86, yX1_partsToClick, 471), (2, 93, yX2_partsInStep, 478), (2, 111, yX1_goesBack, 482), (2, 97, yX1_move, 486), (6, 68, yX4_stageCounts, 490), (4, 172, yX4_clicksInStage, 494), (4, 220, yX2_begin, 498), (4, 224, yX2_passStage, 499), (6, 73, yX4_when, 500), (6, 77, yX4_heard, 504), (4, 179, yX4_listenToRide, 508), (6, 81, yX4_go, 515), (4, 185, yX0_turnsOfRide, 519), (4, 192, yX1_copyFrom, 523), (6, 85, yX4_fit, 524), (4, 196, yX4_fittingBits, 528), (4, 206, yX4_isWithin, 532), (6, 89, yX4_odds, 538), (4, 199, yX0_weightOf, 542), (4, 202, yX4_leastTerm, 546), (6, 93, yX4_twos, 549), (6, 97, yX4_apart, 553), (4, 210, yX4_areTwoFaults, 557), (6, 101, yX4_tells, 561), (4, 217, yX4_unlikeCounts, 565), (6, 105, yX4_length, 569), (6, 110, yX4_beat, 573), (4, 229, yX2_shiftTo, 577), (4, 232, yX2_comesByIn, 578), (6, 114, yX4_away, 583), (6, 118, yX4_danger, 587), (6, 122, yX4_least, 594), (4, 240, yX4_findLeastOrder, 598), (4, 270, yX1_goesAheadOf, 602), (4, 243, yX4_sumOf, 606), (6, 126, yX4_row, 610), (6, 130, yX4_judge, 614), (6, 134, yX4_held, 621), (4, 250, yX4_isToldEachFaultOnce, 625), (6, 138, yX4_image, 629), (6, 142, yX4_on, 633), (6, 146, yX4_count, 637), (4, 256, yX0_wasOiled, 641), (6, 12, yX5_init, 647), (6, 19, yX5_feed, 727), (5, 50, yX5_refuse, 731), (6, 24, yX5_bicycle, 736), (5, 88, yX5_reads, 740), (5, 81, yX5_readsStatement, 744), (5, 63, yX5_sign, 748), (5, 67, yX5_readsNumber, 752), (5, 71, yX5_takes, 756), (5, 75, yX5_kindOf, 760), (5, 85, yX5_comes, 763), (5, 78, yX5_between, 767), (6, 29, yX5_part, 770), (5, 91, yX5_isGear, 774), (5, 46, yX5_isIn, 778), (6, 34, yX5_fault, 781), (5, 98, yX5_isFault, 785), (5, 94, yX5_get, 789), (5, 101, yX5_limitOf, 793), (6, 39, yX5_rounds, 797), (5, 104, yX5_upOf, 801), (5, 107, yX5_downOf, 805), (6, 43, yX5_load, 809), (5, 110, yX5_isAct, 813), (5, 113, yX5_within, 816), (5, 117, yX5_loadOf, 819), (6, 47, yX5_set, 823), (5, 120, yX5_most, 827), (6, 51, yX5_oil, 830), (6, 55, yX5_stage, 834), (6, 59, yX5_stageOf, 838), (6, 63, yX5_drop, 842), (6, 67, yX5_counts, 846), (5, 178, yX5_counted, 850), (5, 172, yX5_begins, 854), (5, 175, yX5_rides, 858), (5, 168, yX5_goesStage, 862), (5, 161, yX5_opensStage, 866), (5, 164, yX5_goesStep, 870), (5, 151, yX5_comesBy, 874), (5, 154, yX5_isSilent, 878), (5, 157, yX5_clicks, 882), (6, 72, yX5_stageCounts, 889), (5, 181, yX5_stageAlone, 893), (6, 76, yX5_when, 897), (6, 80, yX5_heard, 901), (6, 84, yX5_go, 905), (6, 88, yX5_fit, 909), (5, 187, yX5_wrongCount, 913), (5, 190, yX5_fitOf, 916), (5, 184, yX5_amount, 920), (6, 92, yX5_odds, 923), (5, 196, yX5_partOf, 927), (5, 193, yX5_common, 931), (6, 96, yX5_twos, 934), (6, 100, yX5_apart, 938), (5, 199, yX5_areTwo, 942), (6, 104, yX5_tells, 946), (5, 202, yX5_unlike, 950), (6, 109, yX5_length, 954), (6, 113, yX5_beat, 958), (6, 117, yX5_away, 962), (5, 205, yX5_weights, 966), (6, 121, yX5_danger, 970), (6, 125, yX5_least, 974), (5, 217, yX5_findLeast, 978), (5, 214, yX5_orders, 982), (5, 208, yX5_sumOf, 986), (6, 129, yX5_row, 990), (6, 133, yX5_judge, 994), (6, 137, yX5_held, 998), (6, 141, yX5_image, 1002), (6, 145, yX5_on, 1006), (6, 149, yX5_count, 1010)]
def ab_nest : List (Nat × Nat × MethodName × Nat) := [(1, 46, yX4_wrap, 475), (2, 107, yX4_wrap, 582)]
def ab_oi : List (Nat × Nat × Nat) := [(4, 1, 67), (3, 3, 75), (0, 3, 107), (1, 3, 114), (2, 3, 218), (5, 1, 650)]
def ab_ck : List (Nat × Nat × Nat × Nat) := [(6, 7, 4, 62), (4, 7, 3, 70), (4, 16, 0, 102), (0, 22, 1, 108), (4, 33, 2, 213), (2, 15, 1, 219), (6, 10, 5, 645)]
def ab_kI : List (Nat × Nat × Int32 × Nat) := [(4, 182, 1664525, 512), (4, 183, 1013904223, 513), (4, 184, 2147483647, 514), (5, 148, 1664525, 886), (5, 149, 1013904223, 887), (5, 150, 2147483647, 888)]
def ab_kL : List (Nat × Nat × Int64 × Nat) := [(5, 58, 255, 735), (6, 13, 4294967295, 1014)]
def ab_mabs : List (Nat × Nat × Nat) := [(4, 259, 535)]
def ab_mmax : List (Nat × Nat × Nat) := [(4, 235, 591)]
def ab_mmin : List (Nat × Nat × Nat) := [(4, 247, 618)]
def ab_ac : List (Nat × Nat × Nat) := [(0, 44, 341)]
def ab_gs : List (Nat × Nat × Nat) := [(4, 141, 412)]
def ab_ini : List (Nat × Nat × Nat × Nat) := [(0, 13, 103, 56), (1, 9, 110, 57), (2, 8, 214, 58), (3, 6, 71, 55), (4, 12, 63, 54), (5, 25, 646, 59)]
def ab_TT (k : Nat) : u_T := match k with
  | 0 => TX0
  | 1 => TX1
  | 2 => TX2
  | 3 => TX3
  | 4 => TX4
  | _ => TX5
def ab_ty (k : Nat) : Nat → FieldType := match k with
  | 0 => tyX0
  | 1 => tyX1
  | 2 => tyX2
  | 3 => tyX3
  | 4 => tyX4
  | _ => tyX5
def ab_NN (k : Nat) : Nat := match k with
  | 0 => 13
  | 1 => 9
  | 2 => 8
  | 3 => 6
  | 4 => 12
  | _ => 25
def ab_T : List Cond := lw_tbl.filter goodWord
theorem ab_T_good : GoodIn ab_T ab_T := fun w hw => ⟨hw, good_of_word (List.mem_filter.mp hw).2⟩
theorem ab_T_of {w : Cond} (i : Nat) (h : lw_tbl[i]? = some w) (hg : goodWord w = true) : w ∈ ab_T := List.mem_filter.mpr ⟨List.mem_of_getElem? h, hg⟩
theorem ab_fl_at : ∀ q ∈ ab_fl, q.2.2.1 < 6 ∧ q.2.2.2.1 < ab_NN q.2.2.1 ∧ lw_tbl[q.2.2.2.2]? = some (Cond.fieldLink (ab_cn q.1) q.2.1 (ab_TT q.2.2.1 q.2.2.2.1).1 (ab_TT q.2.2.1 q.2.2.2.1).2.1 (ab_TT q.2.2.1 q.2.2.2.1).2.2.1) := by decide +kernel
theorem ab_ml_at : ∀ q ∈ ab_ml, lw_tbl[q.2.2.2]? = some (Cond.methodLink (ab_cn q.1) q.2.1 q.2.2.1) := by decide +kernel
theorem ab_nest_at : ∀ q ∈ ab_nest, lw_tbl[q.2.2.2]? = some (Cond.methodLinkNest (ab_cn q.1) q.2.1 q.2.2.1 RX4) := by decide +kernel
theorem ab_oi_at : ∀ q ∈ ab_oi, lw_tbl[q.2.2]? = some (Cond.methodLink (ab_cn q.1) q.2.1 objectInit) := by decide +kernel
theorem ab_ck_at : ∀ q ∈ ab_ck, lw_tbl[q.2.2.2]? = some (Cond.classLink (ab_cn q.1) q.2.1 (ab_cn q.2.2.1)) := by decide +kernel
theorem ab_kI_at : ∀ q ∈ ab_kI, lw_tbl[q.2.2.2]? = some (Cond.constant (ab_cn q.1) q.2.1 q.2.2.1) := by decide +kernel
theorem ab_kL_at : ∀ q ∈ ab_kL, lw_tbl[q.2.2.2]? = some (Cond.constantLong (ab_cn q.1) q.2.1 q.2.2.1) := by decide +kernel
theorem ab_abs_at : ∀ q ∈ ab_mabs, lw_tbl[q.2.2]? = some (Cond.methodLink (ab_cn q.1) q.2.1 Lib.Math.abs.name) := by decide +kernel
theorem ab_max_at : ∀ q ∈ ab_mmax, lw_tbl[q.2.2]? = some (Cond.methodLink (ab_cn q.1) q.2.1 Lib.Math.max.name) := by decide +kernel
theorem ab_min_at : ∀ q ∈ ab_mmin, lw_tbl[q.2.2]? = some (Cond.methodLink (ab_cn q.1) q.2.1 Lib.Math.min.name) := by decide +kernel
theorem ab_ac_at : ∀ q ∈ ab_ac, lw_tbl[q.2.2]? = some (Cond.methodLink (ab_cn q.1) q.2.1 arraycopyName) := by decide +kernel
theorem ab_gs_at : ∀ q ∈ ab_gs, lw_tbl[q.2.2]? = some (Cond.fieldLink (ab_cn q.1) q.2.1 RX4 "MOST_SETTING" "[I") := by decide +kernel
theorem ab_ini_at : ∀ q ∈ ab_ini, lw_tbl[q.2.2.1]? = some (Cond.instantiable (ab_cn q.1) q.2.1) ∧ lw_tbl[q.2.2.2]? = some (Cond.initialized (ab_cn q.1)) := by decide +kernel
theorem ab_w_oii : Cond.instanceMethod objectInit ∈ ab_T := ab_T_of 68 (by decide +kernel) (by decide +kernel)
theorem ab_w_oic : Cond.code objectInit ⟨#[0xb1]⟩ 1 none ∈ ab_T := ab_T_of 69 (by decide +kernel) (by decide +kernel)
theorem ab_w_abss : Cond.static Lib.Math.abs.name ∈ ab_T := ab_T_of 536 (by decide +kernel) (by decide +kernel)
theorem ab_w_absc : Cond.code Lib.Math.abs.name Lib.Math.abs.code 1 (some .int) ∈ ab_T := ab_T_of 537 (by decide +kernel) (by decide +kernel)
theorem ab_w_maxs : Cond.static Lib.Math.max.name ∈ ab_T := ab_T_of 592 (by decide +kernel) (by decide +kernel)
theorem ab_w_maxc : Cond.code Lib.Math.max.name Lib.Math.max.code 2 (some .int) ∈ ab_T := ab_T_of 593 (by decide +kernel) (by decide +kernel)
theorem ab_w_mins : Cond.static Lib.Math.min.name ∈ ab_T := ab_T_of 619 (by decide +kernel) (by decide +kernel)
theorem ab_w_minc : Cond.code Lib.Math.min.name Lib.Math.min.code 2 (some .int) ∈ ab_T := ab_T_of 620 (by decide +kernel) (by decide +kernel)
theorem ab_w_acs : Cond.static arraycopyName ∈ ab_T := ab_T_of 342 (by decide +kernel) (by decide +kernel)
theorem ab_w_acn : Cond.native arraycopyName ∈ ab_T := ab_T_of 343 (by decide +kernel) (by decide +kernel)
theorem ab_w_im : Cond.initialized "java/lang/Math" ∈ ab_T := ab_T_of 61 (by decide +kernel) (by decide +kernel)
theorem ab_w_is : Cond.initialized "java/lang/System" ∈ ab_T := ab_T_of 60 (by decide +kernel) (by decide +kernel)
theorem ab_w_ai : Cond.arrayClass .int ∈ ab_T := ab_T_of 101 (by decide +kernel) (by decide +kernel)
theorem ab_w_ao : Cond.arrayOver (.object RX1) ∈ lw_tbl := List.mem_of_getElem? (i := 109) (by decide +kernel)
theorem ab_w_ls : Cond.laysStatic RX4 "MOST_SETTING" "[I" ∈ lw_tbl := List.mem_of_getElem? (i := 413) (by decide +kernel)
theorem ab_hin : ∀ k, k < 6 → ∀ w ∈ u_ws (ab_cn k) (ab_TT k) (ab_NN k), w ∈ lw_tbl ∧ goodWord w = true := by decide +kernel
theorem ab_tyok : ∀ k, k < 6 → ∀ i, i < ab_NN k → parseFieldDescriptor (ab_TT k i).2.2.1 = some (ab_ty k i) := by decide +kernel
theorem ab_nmok : ∀ k, k < 6 → ∀ a, a < ab_NN k → ∀ b, b < ab_NN k → a ≠ b → (ab_TT k a).2.1 ≠ (ab_TT k b).2.1 := by decide +kernel
theorem ab_vwok : ∀ k, k < 6 → vwCl[k]?.map (fun q => (q.1, q.2.2)) = some (ab_cn k, ab_NN k) := by decide +kernel
end
section
-- THE ABSTRACT HEAP: blocks of cells; a reference is (block, place in it)
abbrev AC : Type := (Nat × List AV) ⊕ ((Nat × (Nat → Int32)) ⊕ (Nat × (Nat → AV)))
abbrev AB : Type := Nat → AC
abbrev AH : Type := Nat × List AB
abbrev Lv : Type := List (Nat × AV)
abbrev AG : Type := Nat × Nat × Nat
-- blocks: (first cell's number, how many cells)
def ab_bl : List (Nat × Nat) := [(57, 1), (58, 1), (59, 1), (60, 1), (61, 1), (62, 1), (63, 1), (64, 1), (65, 1), (66, 1), (67, 1), (68, 1), (69, 1),
  (0, 1), (1, 1), (2, 1), (3, 1),
  (4, 1), (5, 1), (6, 1), (7, 8), (15, 1), (16, 1), (17, 1), (18, 1),
  (19, 1), (20, 1), (21, 1), (22, 8), (30, 1), (31, 1), (32, 1), (33, 1),
  (34, 1), (35, 1), (36, 1), (37, 8), (45, 1), (46, 1), (47, 1), (48, 1),
  (49, 1), (50, 1), (51, 1), (52, 1), (53, 1), (54, 1), (55, 1), (56, 1)]
-- cells by their number: (block, place, slots)
def ab_ly : List (Nat × Nat × Nat) := [(13, 0, 12), (14, 0, 6), (15, 0, 64), (16, 0, 6),
  (17, 0, 13), (18, 0, 5), (19, 0, 8), (20, 0, 9), (20, 1, 9), (20, 2, 9), (20, 3, 9), (20, 4, 9), (20, 5, 9), (20, 6, 9), (20, 7, 9), (21, 0, 4), (22, 0, 8), (23, 0, 8), (24, 0, 8),
  (25, 0, 13), (26, 0, 5), (27, 0, 8), (28, 0, 9), (28, 1, 9), (28, 2, 9), (28, 3, 9), (28, 4, 9), (28, 5, 9), (28, 6, 9), (28, 7, 9), (29, 0, 4), (30, 0, 8), (31, 0, 8), (32, 0, 8),
  (33, 0, 13), (34, 0, 5), (35, 0, 8), (36, 0, 9), (36, 1, 9), (36, 2, 9), (36, 3, 9), (36, 4, 9), (36, 5, 9), (36, 6, 9), (36, 7, 9), (37, 0, 4), (38, 0, 8), (39, 0, 8), (40, 0, 8),
  (41, 0, 8), (42, 0, 9), (43, 0, 8), (44, 0, 9), (45, 0, 8), (46, 0, 8), (47, 0, 8), (48, 0, 7),
  (0, 0, 25), (1, 0, 7), (2, 0, 112), (3, 0, 112), (4, 0, 112), (5, 0, 64), (6, 0, 7), (7, 0, 8), (8, 0, 8), (9, 0, 8), (10, 0, 8), (11, 0, 8), (12, 0, 8)]
def ab_st (b : Nat) : Nat := (ab_bl.getD b (0, 0)).1
def ab_ct (b : Nat) : Nat := (ab_bl.getD b (0, 0)).2
def ab_bk (k : Nat) : Nat := (ab_ly.getD k (0, 0, 0)).1
def ab_of (k : Nat) : Nat := (ab_ly.getD k (0, 0, 0)).2.1
def ab_sz (k : Nat) : Nat := (ab_ly.getD k (0, 0, 0)).2.2
def ab_sl : Nat → Nat
  | 0 => 0
  | k + 1 => ab_sl k + ab_sz k
def ab_nil : AB := fun _ => .inl (0, [])
def ab_get (h : AH) (b o : Nat) : AC := (h.2.getD b ab_nil) o
def ab_upd (n : Nat) (f : AB) (o : Nat) (c : AC) : AB := match n with
  | 1 => fun _ => c
  | _ => fun j => if j = o then c else f j
def ab_set (h : AH) (b o : Nat) (c : AC) : AH := (h.1, h.2.set b (ab_upd (ab_ct b) (h.2.getD b ab_nil) o c))
-- a cell more: its place is the next one's
def ab_push (h : AH) (c : AC) : AH := (h.1 + 1, h.2.set (ab_bk h.1) (ab_upd (ab_ct (ab_bk h.1)) (h.2.getD (ab_bk h.1) ab_nil) (ab_of h.1) c))
-- what it is in the machine
def ab_ad (G : AG) (b o : Nat) : Nat := match Nat.beq b 1000 with
  | true => G.2.1
  | false => match Nat.beq b 1001 with
    | true => G.2.2
    | false => G.1 + (ab_st b + o)
def ab_v (G : AG) (v : AV) : Value := match v with
  | none => .null
  | some (.inl x) => .int x
  | some (.inr (.inl x)) => .long x
  | some (.inr (.inr r)) => .ref (ab_ad G r.1 r.2)
def ab_rf (G : AG) (v : AV) : Option Nat := match v with
  | some (.inr (.inr r)) => some (ab_ad G r.1 r.2)
  | _ => none
def ab_c (G : AG) (cI cF : ClassId) (c : AC) : va_E := match c with
  | .inl o => .inr (o.1, o.2.map (ab_v G))
  | .inr (.inl a) => .inl (cI, a.1, .inl a.2)
  | .inr (.inr a) => .inl (cF, a.1, .inr (.inr (.inr (.inr (fun j => ab_rf G (a.2 j))))))
def ab_wk (G : AG) (cI cF : ClassId) (h : AH) (k : Nat) : Nat × va_E := (G.1 + k, ab_c G cI cF (ab_get h (ab_bk k) (ab_of k)))
def ab_ws (G : AG) (cI cF : ClassId) (h : AH) : va_W := (List.range h.1).map (ab_wk G cI cF h)
def ab_vs (G : AG) (l : List AV) : List Value := l.map (ab_v G)
def ab_lv (G : AG) (l : Lv) : List (Nat × Value) := l.map (fun q => (q.1, ab_v G q.2))
def ab_A (G : AG) : Nat → Prop := fun q => G.1 ≤ q
def ab_ok (h : AH) (b o : Nat) : Prop := b < 49 ∧ o < ab_ct b ∧ ab_st b + o < h.1
def ab_R (G : AG) (D : va_G) (cI cF : ClassId) (h : AH) (H : Heap) : Prop := va_P D vwCl (ab_ws G cI cF h) H ∧ H.size = G.1 + h.1 ∧ h.2.length = 49 ∧ h.1 ≤ 70
-- facts of the layout
theorem ab_lay1 : ∀ k, k < 70 → ab_bk k < 49 ∧ ab_of k < ab_ct (ab_bk k) ∧ ab_st (ab_bk k) + ab_of k = k := by decide +kernel
theorem ab_lay2 : ∀ b, b < 49 → ∀ o, o < ab_ct b → ab_bk (ab_st b + o) = b ∧ ab_of (ab_st b + o) = o ∧ ab_st b + o < 70 := by decide +kernel
theorem ab_beq {a b : Nat} (h : a ≠ b) : Nat.beq a b = false := by
  cases e : Nat.beq a b
  · rfl
  · exact absurd (Nat.eq_of_beq_eq_true e) h
theorem ab_ad_in (G : AG) {b : Nat} (o : Nat) (hb : b < 49) : ab_ad G b o = G.1 + (ab_st b + o) := by
  unfold ab_ad
  rw [show Nat.beq b 1000 = false from ab_beq (by omega), show Nat.beq b 1001 = false from ab_beq (by omega)]
theorem ab_ws_at {G : AG} {cI cF : ClassId} {h : AH} {b o : Nat} (hk : ab_ok h b o) : (ab_ws G cI cF h)[ab_st b + o]? = some (ab_ad G b o, ab_c G cI cF (ab_get h b o)) := by
  obtain ⟨h1, h2, h3⟩ := hk
  obtain ⟨e1, e2, -⟩ := ab_lay2 b h1 o h2
  unfold ab_ws
  rw [List.getElem?_map, List.getElem?_range h3]
  simp only [Option.map_some, ab_wk, e1, e2]
  rw [ab_ad_in G o h1]
theorem ab_ws_len {G : AG} {cI cF : ClassId} {h : AH} : (ab_ws G cI cF h).length = h.1 := by simp [ab_ws]
theorem ab_ws_D {G : AG} {cI cF : ClassId} {h : AH} : va_D (ab_A G) (ab_ws G cI cF h) := by
  have key : ∀ (i : Nat) (q : Nat × va_E), (ab_ws G cI cF h)[i]? = some q → q.1 = G.1 + i := by
    intro i q hi
    unfold ab_ws at hi
    rw [List.getElem?_map] at hi
    cases hr : (List.range h.1)[i]? with
    | none => rw [hr] at hi; cases hi
    | some k =>
      rw [hr] at hi
      have hk := List.getElem?_eq_some_iff.mp hr
      obtain ⟨hl, he⟩ := hk
      rw [List.getElem_range] at he
      subst he
      cases hi
      rfl
  refine ⟨fun i j p q hi hj e => ?_, fun k q hk => ?_⟩
  · rw [key i p hi, key j q hj] at e
    omega
  · rw [key k q hk]
    exact Nat.le_add_right _ _
theorem ab_get_set {h : AH} {b o : Nat} (c : AC) (hl : h.2.length = 49) (hb : b < 49) (ho : o < ab_ct b) {b' o' : Nat} (ho' : o' < ab_ct b') : ab_get (ab_set h b o c) b' o' = if b' = b ∧ o' = o then c else ab_get h b' o' := by
  unfold ab_get ab_set
  by_cases hbb : b' = b
  · subst hbb
    simp only [List.getD_eq_getElem?_getD]
    rw [List.getElem?_set_self (by omega)]
    simp only [Option.getD_some]
    by_cases hn : ab_ct b' = 1
    · have e1 : o = 0 := by omega
      have e2 : o' = 0 := by omega
      subst e1; subst e2
      simp [ab_upd, hn]
    · have e : ∀ (n : Nat) (f : AB), n ≠ 1 → ab_upd n f o c = fun j => if j = o then c else f j := by
        intro n f h1
        unfold ab_upd
        split
        · exact absurd rfl h1
        · rfl
      rw [e _ _ hn]
      by_cases hoo : o' = o <;> simp [hoo]
  · simp only [List.getD_eq_getElem?_getD]
    rw [List.getElem?_set_ne (Ne.symm hbb)]
    simp [hbb]
theorem ab_ws_set {G : AG} {cI cF : ClassId} {h : AH} {b o : Nat} (c : AC) (hl : h.2.length = 49) (h70 : h.1 ≤ 70) (hk : ab_ok h b o) : (ab_ws G cI cF h).set (ab_st b + o) (ab_ad G b o, ab_c G cI cF c) = ab_ws G cI cF (ab_set h b o c) := by
  obtain ⟨h1, h2, h3⟩ := hk
  refine List.ext_getElem? (fun k => ?_)
  by_cases hkk : k = ab_st b + o
  · subst hkk
    rw [List.getElem?_set_self (by rw [ab_ws_len]; exact h3)]
    have := ab_ws_at (G := G) (cI := cI) (cF := cF) (h := ab_set h b o c) (b := b) (o := o) ⟨h1, h2, h3⟩
    rw [this, ab_get_set c hl h1 h2 h2]
    simp
  · rw [List.getElem?_set_ne (Ne.symm hkk)]
    by_cases hlt : k < h.1
    · obtain ⟨l1, l2, l3⟩ := ab_lay1 k (by omega)
      unfold ab_ws
      rw [List.getElem?_map, List.getElem?_map, List.getElem?_range hlt, List.getElem?_range (show k < (ab_set h b o c).1 from hlt)]
      simp only [Option.map_some, ab_wk]
      rw [ab_get_set c hl h1 h2 l2]
      rw [if_neg]
      rintro ⟨e1, e2⟩
      rw [e1, e2] at l3
      exact hkk l3.symm
    · rw [List.getElem?_eq_none (by rw [ab_ws_len]; omega), List.getElem?_eq_none (by rw [ab_ws_len]; show h.1 ≤ k; omega)]
theorem ab_get_push {h : AH} (c : AC) (hl : h.2.length = 49) (h70 : h.1 < 70) {b' o' : Nat} (ho' : o' < ab_ct b') : ab_get (ab_push h c) b' o' = if b' = ab_bk h.1 ∧ o' = ab_of h.1 then c else ab_get h b' o' := by
  obtain ⟨l1, l2, -⟩ := ab_lay1 h.1 h70
  have := ab_get_set (h := h) (b := ab_bk h.1) (o := ab_of h.1) c hl l1 l2 ho'
  exact this
theorem ab_ws_push {G : AG} {cI cF : ClassId} {h : AH} (c : AC) (hl : h.2.length = 49) (h70 : h.1 < 70) : ab_ws G cI cF (ab_push h c) = ab_ws G cI cF h ++ [(G.1 + h.1, ab_c G cI cF c)] := by
  obtain ⟨l1, l2, l3⟩ := ab_lay1 h.1 h70
  unfold ab_ws
  rw [show (ab_push h c).1 = h.1 + 1 from rfl, List.range_succ, List.map_append]
  congr 1
  · refine List.map_congr_left (fun k hk => ?_)
    have hlt := List.mem_range.mp hk
    obtain ⟨m1, m2, m3⟩ := ab_lay1 k (by omega)
    unfold ab_wk
    rw [ab_get_push c hl h70 m2, if_neg]
    rintro ⟨e1, e2⟩
    rw [e1, e2, l3] at m3
    omega
  · simp only [List.map_cons, List.map_nil, ab_wk]
    rw [ab_get_push c hl h70 l2]
    simp
end
section
-- ONE STEP, as a condition on what follows
def ab_ld (lv : Lv) (i : Nat) : AV := match lv with
  | [] => none
  | q :: r => match Nat.beq q.1 i with
    | true => q.2
    | false => ab_ld r i
def ab_c2 (v : AV) : Bool := match v with
  | some (.inr (.inl _)) => true
  | _ => false
def ab_rm (lv : Lv) (i : Nat) : Lv := lv.filter (fun q => !(q.1 == i) && !(q.1 + 1 == i && ab_c2 q.2))
def ab_nrm {α : Type} (l : List α) (k : List α → Prop) : Prop := match l with
  | [] => k []
  | a :: r => ab_nrm r (fun r' => k (a :: r'))
theorem ab_nrm_eq {α : Type} (l : List α) (k : List α → Prop) : ab_nrm l k = k l := by
  induction l generalizing k with
  | nil => rfl
  | cons a r ih => exact ih _
def ab_lset (b : Nat) (f : AB → AB) (l : List AB) (k : List AB → Prop) : Prop := match b, l with
  | _, [] => k []
  | 0, a :: r => k (f a :: r)
  | b + 1, a :: r => ab_lset b f r (fun r' => k (a :: r'))
theorem ab_lset_eq : ∀ (b : Nat) (f : AB → AB) (l : List AB) (k : List AB → Prop), ab_lset b f l k = k (l.set b (f (l.getD b ab_nil)))
  | 0, f, [], k => rfl
  | b + 1, f, [], k => rfl
  | 0, f, a :: r, k => rfl
  | b + 1, f, a :: r, k => by
    unfold ab_lset
    rw [ab_lset_eq b f r]
    rfl
def ab_go (I : List IE) (t : Nat) (k : List IE → Prop) : Prop := match I with
  | [] => False
  | e :: r => match Nat.beq e.1 t with
    | true => k (e :: r)
    | false => ab_go r t k
def ab_chk (h : AH) (b o : Nat) (P : Prop) : Prop := match ab_bl.getD b (0, 0) with
  | (_, 0) => False
  | (s, 1) => match Nat.beq o 0 with
    | true => match Nat.blt s h.1 with
      | true => P
      | false => False
    | false => False
  | (s, n) => (o < n ∧ s + o < h.1) ∧ P
def ab_sw (x : Int32) (l : List (Int32 × Nat)) (d : Nat) (k : Nat → Prop) : Prop := match l with
  | [] => k d
  | q :: r => (x = q.1 → k q.2) ∧ (¬ x = q.1 → ab_sw x r d k)
def ab_rem (x y : Int32) : Int32 := x - x / y * y
def ab_ms (j : Nat) : Int32 := match j with
  | 0 => 9
  | 1 => 1
  | 2 => 100
  | _ => 99
def ab_rd (E : Nat × (Nat → Int32)) (h : AH) (b o : Nat) (k : Nat → (Nat → Int32) → Prop) : Prop := match Nat.blt b 49 with
  | true => ab_chk h b o (match ab_get h b o with
    | .inr (.inl a) => k a.1 a.2
    | _ => False)
  | false => match Nat.beq b 1000 with
    | true => k E.1 E.2
    | false => match Nat.beq b 1001 with
      | true => k 4 ab_ms
      | false => False
def ab_wr (h : AH) (b o : Nat) (c : AC) (k : AH → Prop) : Prop := ab_lset b (fun q => ab_upd (ab_ct b) q o c) h.2 (fun l => k (h.1, l))
def ab_cat (l : List AV) : Nat := match l with
  | [] => 0
  | v :: r => (match ab_c2 v with | true => 2 | false => 1) + ab_cat r
abbrev MI : Type := Nat × ByteArray × Nat × Option FieldType × Bool × List IE
def ab_ifc (c : ClassFile.Cond) (x y : Int32) (P Q : Prop) : Prop := match c with
  | .eq => (x = y → P) ∧ (¬ x = y → Q)
  | .ne => (¬ x = y → P) ∧ (x = y → Q)
  | .lt => (x < y → P) ∧ (¬ x < y → Q)
  | .ge => (y ≤ x → P) ∧ (¬ y ≤ x → Q)
  | .gt => (y < x → P) ∧ (¬ y < x → Q)
  | .le => (x ≤ y → P) ∧ (¬ x ≤ y → Q)
def ab_call (C : Nat → MethodName → List AV → AH → Option AV → AH → Prop) (cap : Nat) (K : List AV → AH → Prop) (kd : Nat) (y : MethodName) (u : Nat) (st : List AV) (h : AH) : Prop :=
  match Nat.ble u st.length with
  | true => match Nat.ble (ab_cat (st.drop u)) 8 with
    | true => ab_nrm (st.take u).reverse (fun as => ∃ (v : Option AV) (h' : AH), C kd y as h v h' ∧ h'.1 ≤ cap ∧ K (v.toList ++ st.drop u) h')
    | false => False
  | false => False
def ab_rcv (h : AH) (st : List AV) (u ci : Nat) (P : Prop) : Prop := match st.getD (u - 1) none with
  | some (.inr (.inr r)) => ab_chk h r.1 r.2 (match ab_get h r.1 r.2 with
    | .inl c => match Nat.beq c.1 ci with
      | true => P
      | false => False
    | _ => False)
  | _ => False
def ab_dfl (k : Nat) : List AV := match k with
  | 0 => [vI 0, vI 0, none, vI 0, none, vI 0, none, vI 0, vI 0, none, none, none, vI 0]
  | 1 => [vI 0, vI 0, vI 0, vI 0, vI 0, vI 0, vI 0, vI 0, vI 0]
  | 2 => [none, none, vI 0, vI 0, vI 0, vI 0, vI 0, vI 0]
  | 3 => [none, vI 0, vI 0, vI 0, vI 0, none]
  | 4 => [none, none, none, none, vI 0, none, none, none, none, none, vI 0, none]
  | _ => [none, none, none, none, vI 0, none, none, vI 0, vI 0, none, none, none, vI 0, vI 0, vI 0, vI 0, vI 0, vI 0, vI 0, vI 0, none, none, vI 0, none, vI 0]
def ab_new (cap : Nat) (h : AH) (n : Nat) (c : AC) (k : AV → AH → Prop) : Prop := match Nat.blt h.1 cap with
  | true => match Nat.beq (ab_sz h.1) n with
    | true => ab_lset (ab_bk h.1) (fun q => ab_upd (ab_ct (ab_bk h.1)) q (ab_of h.1) c) h.2 (fun l => k (vR (ab_bk h.1) (ab_of h.1)) (h.1 + 1, l))
    | false => False
  | false => False
def ab_step (C : Nat → MethodName → List AV → AH → Option AV → AH → Prop) (E : Nat × (Nat → Int32)) (j : MI) (cap : Nat) (Q : Option AV → AH → Prop) (K : List IE → Lv → List AV → AH → Prop) (e : IE) (tl : List IE) (lv : Lv) (st : List AV) (h : AH) : Prop :=
  match e with
  | (_, ins, _, k, t, u, sw, y) => match ins with
    | .iconst _ => K tl lv (k :: st) h
    | .bipush _ => K tl lv (k :: st) h
    | .sipush _ => K tl lv (k :: st) h
    | .ldc _ => K tl lv (k :: st) h
    | .ldc2_w _ => K tl lv (k :: st) h
    | .iload i => match ab_ld lv i with
      | some (.inl x) => K tl lv (vI x :: st) h
      | _ => False
    | .iload_n i => match ab_ld lv i.val with
      | some (.inl x) => K tl lv (vI x :: st) h
      | _ => False
    | .aload i => match ab_ld lv i with
      | some (.inr (.inr r)) => K tl lv (vR r.1 r.2 :: st) h
      | _ => False
    | .aload_n i => match ab_ld lv i.val with
      | some (.inr (.inr r)) => K tl lv (vR r.1 r.2 :: st) h
      | _ => False
    | .lload i => match ab_ld lv i with
      | some (.inr (.inl x)) => K tl lv (vL x :: st) h
      | _ => False
    | .lload_n i => match ab_ld lv i.val with
      | some (.inr (.inl x)) => K tl lv (vL x :: st) h
      | _ => False
    | .istore i => match st with
      | some (.inl x) :: s => ab_nrm (ab_rm lv i) (fun l => K tl ((i, vI x) :: l) s h)
      | _ => False
    | .istore_n i => match st with
      | some (.inl x) :: s => ab_nrm (ab_rm lv i.val) (fun l => K tl ((i.val, vI x) :: l) s h)
      | _ => False
    | .astore i => match st with
      | some (.inr (.inr r)) :: s => ab_nrm (ab_rm lv i) (fun l => K tl ((i, vR r.1 r.2) :: l) s h)
      | _ => False
    | .astore_n i => match st with
      | some (.inr (.inr r)) :: s => ab_nrm (ab_rm lv i.val) (fun l => K tl ((i.val, vR r.1 r.2) :: l) s h)
      | _ => False
    | .iinc i _ => match ab_ld lv i with
      | some (.inl x) => match k with
        | some (.inl n) => ab_nrm (ab_rm lv i) (fun l => K tl ((i, vI (x + n)) :: l) st h)
        | _ => False
      | _ => False
    | .iadd => match st with
      | some (.inl z) :: some (.inl x) :: s => K tl lv (vI (x + z) :: s) h
      | _ => False
    | .isub => match st with
      | some (.inl z) :: some (.inl x) :: s => K tl lv (vI (x - z) :: s) h
      | _ => False
    | .imul => match st with
      | some (.inl z) :: some (.inl x) :: s => K tl lv (vI (x * z) :: s) h
      | _ => False
    | .idiv => match st with
      | some (.inl z) :: some (.inl x) :: s => ¬ z = 0 ∧ K tl lv (vI (x / z) :: s) h
      | _ => False
    | .irem => match st with
      | some (.inl z) :: some (.inl x) :: s => ¬ z = 0 ∧ K tl lv (vI (ab_rem x z) :: s) h
      | _ => False
    | .ineg => match st with
      | some (.inl x) :: s => K tl lv (vI (-x) :: s) h
      | _ => False
    | .iand => match st with
      | some (.inl z) :: some (.inl x) :: s => K tl lv (vI (x &&& z) :: s) h
      | _ => False
    | .ior => match st with
      | some (.inl z) :: some (.inl x) :: s => K tl lv (vI (x ||| z) :: s) h
      | _ => False
    | .ishl => match st with
      | some (.inl z) :: some (.inl x) :: s => K tl lv (vI (x <<< (z &&& 31)) :: s) h
      | _ => False
    | .ishr => match st with
      | some (.inl z) :: some (.inl x) :: s => K tl lv (vI (x >>> (z &&& 31)) :: s) h
      | _ => False
    | .i2l => match st with
      | some (.inl x) :: s => K tl lv (vL x.toInt64 :: s) h
      | _ => False
    | .l2i => match st with
      | some (.inr (.inl x)) :: s => K tl lv (vI x.toInt32 :: s) h
      | _ => False
    | .land => match st with
      | some (.inr (.inl z)) :: some (.inr (.inl x)) :: s => K tl lv (vL (x &&& z) :: s) h
      | _ => False
    | .lor => match st with
      | some (.inr (.inl z)) :: some (.inr (.inl x)) :: s => K tl lv (vL (x ||| z) :: s) h
      | _ => False
    | .lshl => match st with
      | some (.inl z) :: some (.inr (.inl x)) :: s => K tl lv (vL (x <<< (z.toInt64 &&& 63)) :: s) h
      | _ => False
    | .lshr => match st with
      | some (.inl z) :: some (.inr (.inl x)) :: s => K tl lv (vL (x >>> (z.toInt64 &&& 63)) :: s) h
      | _ => False
    | .lushr => match st with
      | some (.inl z) :: some (.inr (.inl x)) :: s => K tl lv (vL ((x.toUInt64 >>> (z.toInt64.toUInt64 &&& Int64.toUInt64 63)).toInt64) :: s) h
      | _ => False
    | .dup => match st with
      | v :: s => match ab_c2 v with
        | true => False
        | false => K tl lv (v :: v :: s) h
      | _ => False
    | .dup2 => match st with
      | v :: w :: s => match ab_c2 v with
        | true => False
        | false => match ab_c2 w with
          | true => False
          | false => K tl lv (v :: w :: v :: w :: s) h
      | _ => False
    | .pop => match st with
      | v :: s => match ab_c2 v with
        | true => False
        | false => K tl lv s h
      | _ => False
    | .goto _ => ab_go j.2.2.2.2.2 t (fun cs => K cs lv st h)
    | .ifCond c _ => match st with
      | some (.inl x) :: s => ab_ifc c x 0 (ab_go j.2.2.2.2.2 t (fun cs => K cs lv s h)) (K tl lv s h)
      | _ => False
    | .if_icmp c _ => match st with
      | some (.inl z) :: some (.inl x) :: s => ab_ifc c x z (ab_go j.2.2.2.2.2 t (fun cs => K cs lv s h)) (K tl lv s h)
      | _ => False
    | .tableswitch _ _ _ _ => match st with
      | some (.inl x) :: s => ab_sw x sw t (fun q => ab_go j.2.2.2.2.2 q (fun cs => K cs lv s h))
      | _ => False
    | .lookupswitch _ _ => match st with
      | some (.inl x) :: s => ab_sw x sw t (fun q => ab_go j.2.2.2.2.2 q (fun cs => K cs lv s h))
      | _ => False
    | .getfield _ => match st with
      | some (.inr (.inr r)) :: s => ab_chk h r.1 r.2 (match ab_get h r.1 r.2 with
        | .inl c => match Nat.beq c.1 t with
          | true => match c.2[u]? with
            | some v => K tl lv (v :: s) h
            | none => False
          | false => False
        | _ => False)
      | _ => False
    | .putfield _ => match st with
      | v :: some (.inr (.inr r)) :: s => ab_chk h r.1 r.2 (match ab_get h r.1 r.2 with
        | .inl c => match Nat.beq c.1 t with
          | true => match Nat.blt u c.2.length with
            | true => match k, v with
              | some (.inl 0), some (.inl x) => ab_nrm (c.2.set u (vI x)) (fun fs => ab_wr h r.1 r.2 (.inl (c.1, fs)) (fun h' => K tl lv s h'))
              | some (.inl 1), some (.inl x) => (x = 0 ∨ x = 1) ∧ ab_nrm (c.2.set u (vI x)) (fun fs => ab_wr h r.1 r.2 (.inl (c.1, fs)) (fun h' => K tl lv s h'))
              | some (.inl 2), some (.inr (.inr q)) => match j.2.2.2.2.1 with
                | true => ab_nrm (c.2.set u (vR q.1 q.2)) (fun fs => ab_wr h r.1 r.2 (.inl (c.1, fs)) (fun h' => K tl lv s h'))
                | false => False
              | _, _ => False
            | false => False
          | false => False
        | _ => False)
      | _ => False
    | .getstatic _ => K tl lv (vR 1001 0 :: st) h
    | .iaload => match st with
      | some (.inl i) :: some (.inr (.inr r)) :: s => ab_rd E h r.1 r.2 (fun n f => vp_in i n ∧ K tl lv (vI (f i.toNatClampNeg) :: s) h)
      | _ => False
    | .iastore => match st with
      | some (.inl x) :: some (.inl i) :: some (.inr (.inr r)) :: s => ab_chk h r.1 r.2 (match ab_get h r.1 r.2 with
        | .inr (.inl a) => vp_in i a.1 ∧ ab_wr h r.1 r.2 (.inr (.inl (a.1, upd a.2 i.toNatClampNeg x))) (fun h' => K tl lv s h')
        | _ => False)
      | _ => False
    | .aaload => match st with
      | some (.inl i) :: some (.inr (.inr r)) :: s => ab_chk h r.1 r.2 (match ab_get h r.1 r.2 with
        | .inr (.inr a) => vp_in i a.1 ∧ ∃ q : Nat × Nat, a.2 i.toNatClampNeg = vR q.1 q.2 ∧ K tl lv (vR q.1 q.2 :: s) h
        | _ => False)
      | _ => False
    | .arraylength => match st with
      | some (.inr (.inr r)) :: s => ab_rd E h r.1 r.2 (fun n _ => K tl lv (vI (Int32.ofNat n) :: s) h)
      | _ => False
    | .invokevirtual _ => ab_rcv h st u t (ab_call C cap (fun s h' => K tl lv s h') 0 y u st h)
    | .invokestatic _ => match t with
      | 1 => match st with
        | some (.inl x) :: s => match Nat.ble (ab_cat s) 8 with
          | true => K tl lv (vI (if 0 ≤ x then x else 0 - x) :: s) h
          | false => False
        | _ => False
      | 2 => match st with
        | some (.inl z) :: some (.inl x) :: s => match Nat.ble (ab_cat s) 8 with
          | true => K tl lv (vI (if x < z then z else x) :: s) h
          | false => False
        | _ => False
      | 3 => match st with
        | some (.inl z) :: some (.inl x) :: s => match Nat.ble (ab_cat s) 8 with
          | true => K tl lv (vI (if z < x then z else x) :: s) h
          | false => False
        | _ => False
      | 4 => match st with
        | some (.inl n) :: some (.inl dp) :: some (.inr (.inr r)) :: some (.inl sp) :: some (.inr (.inr q)) :: s => match Nat.ble (ab_cat s) 8 with
          | true => ab_chk h q.1 q.2 (ab_chk h r.1 r.2 (match ab_get h q.1 q.2 with
            | .inr (.inl a) => match ab_get h r.1 r.2 with
              | .inr (.inl g) => (¬ sp < 0 ∧ ¬ dp < 0 ∧ ¬ n < 0 ∧ sp.toNatClampNeg + n.toNatClampNeg ≤ a.1 ∧ dp.toNatClampNeg + n.toNatClampNeg ≤ g.1) ∧
                ab_wr h r.1 r.2 (.inr (.inl (g.1, va_cpy a.2 g.2 sp.toNatClampNeg dp.toNatClampNeg n.toNatClampNeg))) (fun h' => K tl lv s h')
              | _ => False
            | _ => False))
          | false => False
        | _ => False
      | _ => ab_call C cap (fun s h' => K tl lv s h') 1 y u st h
    | .invokespecial _ => match t with
      | 6 => match st with
        | some (.inr (.inr _)) :: s => match Nat.ble (ab_cat s) 8 with
          | true => K tl lv s h
          | false => False
        | _ => False
      | _ => match st.getD (u - 1) none with
        | some (.inr (.inr _)) => ab_call C cap (fun s h' => K tl lv s h') 2 y u st h
        | _ => False
    | .new _ => ab_new cap h u (.inl (t, ab_dfl t)) (fun v h' => K tl lv (v :: st) h')
    | .newarray .int => match st with
      | some (.inl n) :: s => (¬ n < 0 ∧ n.toNatClampNeg = ab_sz h.1) ∧ ab_new cap h (ab_sz h.1) (.inr (.inl (ab_sz h.1, fun _ => 0))) (fun v h' => K tl lv (v :: s) h')
      | _ => False
    | .anewarray _ => match st with
      | some (.inl n) :: s => (¬ n < 0 ∧ n.toNatClampNeg = ab_sz h.1) ∧ ab_new cap h (ab_sz h.1) (.inr (.inr (ab_sz h.1, fun _ => none))) (fun v h' => K tl lv (v :: s) h')
      | _ => False
    | .aastore => match st with
      | some (.inr (.inr q)) :: some (.inl i) :: some (.inr (.inr r)) :: s => ab_chk h r.1 r.2 (ab_chk h q.1 q.2 (match ab_get h r.1 r.2 with
        | .inr (.inr a) => match ab_get h q.1 q.2 with
          | .inl c => match Nat.beq c.1 1 with
            | true => vp_in i a.1 ∧ ab_wr h r.1 r.2 (.inr (.inr (a.1, va_up a.2 i.toNatClampNeg (vR q.1 q.2)))) (fun h' => K tl lv s h')
            | false => False
          | _ => False
        | _ => False))
      | _ => False
    | .ireturn => match st with
      | [some (.inl x)] => match j.2.2.2.1 with
        | some .int => Q (some (vI x)) h
        | some .boolean => (x = 0 ∨ x = 1) ∧ Q (some (vI x)) h
        | _ => False
      | _ => False
    | .return_ => match st with
      | [] => match j.2.2.2.1 with
        | none => Q none h
        | _ => False
      | _ => False
    | _ => False
end
section
theorem ab_hin2 {k : Nat} (hk : k < 6) : ∀ w ∈ u_ws (ab_cn k) (ab_TT k) (ab_NN k), w ∈ ab_T := fun w hw => List.mem_filter.mpr (ab_hin k hk w hw)
theorem ab_vw {k : Nat} (hk : k < 6) : vwCl[k]? = some (ab_cn k, ab_TT k, ab_NN k) := by
  rcases (show k = 0 ∨ k = 1 ∨ k = 2 ∨ k = 3 ∨ k = 4 ∨ k = 5 by omega) with rfl | rfl | rfl | rfl | rfl | rfl <;> rfl
-- WHAT STAYS OUTSIDE
def ab_En (G : AG) (D : va_G) (cI cF : ClassId) (E : Nat × (Nat → Int32)) (U : State) : Prop :=
  va_K D vwCl [(cI, .int), (cF, .object RX1)] U ∧ (va_X G.2.1 E.1 E.2 U U.heap ∧ G.2.1 < G.1) ∧ G.1 ≤ U.heap.size ∧
  va_Z RX4 "MOST_SETTING" "[I" (.ref G.2.2) (ab_A G) U U.heap ∧ va_T .int G.2.2 4 (fun j => .int (ab_ms j)) (ab_A G) U U.heap ∧
  (∀ q ∈ ab_nest, va_Nw (.methodLinkNest (ab_cn q.1) q.2.1 q.2.2.1 RX4) U) ∧ va_AO RX1 U
theorem ab_En.call {G : AG} {D : va_G} {cI cF : ClassId} {E : Nat × (Nat → Int32)} {s U : State} (h : ab_En G D cI cF E s) (hW : s.WarmedH U.vm) (hq : ∀ a : Nat, a < s.heap.size → ¬ ab_A G a → U.heap[a]? = s.heap[a]?) (hz : G.1 ≤ U.heap.size) : ab_En G D cI cF E U := by
  obtain ⟨h1, ⟨h2, h3⟩, h4, h5, h6, h7, h8⟩ := h
  refine ⟨va_K.moved hW.alike h1, ⟨(h2.moved hW.alike).kept (hq _ (Nat.lt_of_lt_of_le h3 h4) (Nat.not_le.mpr h3)), h3⟩, hz, (h5.moved hW.alike).kept hq, (h6.moved hW.alike).kept hq, fun q hm => va_Nw.warmM hW (h7 q hm), h8.moved hW.alike⟩
theorem ab_En.blind {G : AG} {D : va_G} {cI cF : ClassId} {E : Nat × (Nat → Int32)} {U : State} {g : JFrame} {mk : MethodId} {a : Array Value} (h : ab_En G D cI cF E U) : ab_En G D cI cF E (U.calling g mk a) := by
  obtain ⟨h1, ⟨h2, h3⟩, h4, h5, h6, h7, h8⟩ := h
  have hv : U.vm.Alike (U.calling g mk a).vm := Vm.Alike.refl U.vm
  exact ⟨va_K.moved hv h1, ⟨h2.moved hv, h3⟩, h4, h5.moved hv, h6.moved hv, fun q hm => va_Nw.same rfl rfl (h7 q hm), h8.moved hv⟩
-- A METHOD'S CONTRACT
def ab_F (kd : Nat) (y : MethodName) (cc : ByteArray) (mL : Nat) (ret : Option FieldType) : Prop :=
  Cond.code y cc mL ret ∈ ab_T ∧ Cond.initialized y.cls ∈ ab_T ∧ (y.cls ≠ "java/lang/invoke/MethodHandle" ∧ y.cls ≠ "java/lang/invoke/VarHandle") ∧ mL ≤ 40 ∧
  (match kd with
  | 0 => Cond.instanceMethod y ∈ ab_T ∧ Cond.selects y.cls y y ∈ ab_T
  | 1 => Cond.static y ∈ ab_T
  | _ => Cond.instanceMethod y ∈ ab_T ∧ y.name = "<init>" ∧ ret = none)
def ab_rmm (d : Nat) (h h' : AH) : Room := { frames := d, cells := h'.1 - h.1, slots := ab_sl h'.1 - ab_sl h.1, locals := 64 * d }
def ab_Pc (G : AG) (D : va_G) (cI cF : ClassId) (E : Nat × (Nat → Int32)) (a : List AV) (h : AH) : Array Value → State → Prop := va_Pc (ab_vs G a) (fun U => ab_R G D cI cF h U.heap ∧ ab_En G D cI cF E U)
def ab_Qc (G : AG) (D : va_G) (cI cF : ClassId) (v : Option AV) (h' : AH) : Array Value → State → Outcome → State → Prop := fun _ st o t => o = .returned (v.map (ab_v G)) ∧ ab_R G D cI cF h' t.heap ∧ va_F (ab_A G) st t
def ab_Ex (d kd : Nat) (y : MethodName) (a : List AV) (h : AH) (v : Option AV) (h' : AH) : Prop :=
  ∃ (cc : ByteArray) (mL : Nat) (ret : Option FieldType), ab_F kd y cc mL ret ∧ h.1 ≤ h'.1 ∧
    ∀ (l : Launch) (G : AG) (D : va_G) (cI cF : ClassId) (E : Nat × (Nat → Int32)), Met l y (Cond.code y cc mL ret :: ab_T) (ab_rmm d h h') (ab_Pc G D cI cF E a h) (ab_Qc G D cI cF v h') (h'.1 - h.1) (ab_sl h'.1 - ab_sl h.1) (ab_A G)
theorem ab_Pc.blind {G : AG} {D : va_G} {cI cF : ClassId} {E : Nat × (Nat → Int32)} {a : List AV} {h : AH} : FrameBlind (ab_Pc G D cI cF E a h) := fun _ _ _ _ q => ⟨q.1, q.2.1, q.2.2.blind⟩
theorem ab_sl_le {a b : Nat} (h : a ≤ b) : ab_sl a ≤ ab_sl b := by
  induction b with
  | zero => rw [Nat.le_zero.mp h]; exact Nat.le_refl _
  | succ b ih =>
    rcases Nat.lt_or_ge a (b + 1) with q | q
    · exact Nat.le_trans (ih (Nat.le_of_lt_succ q)) (Nat.le_add_right _ _)
    · rw [Nat.le_antisymm h q]; exact Nat.le_refl _
-- THE CONTEXT OF A WALK, AND A STATE FROM WHICH IT ENDS WELL
def ab_X (j : MI) (d : Nat) (E : Nat × (Nat → Int32)) (h0 : AH) (cap : Nat) (Q : Option AV → AH → Prop) (p : Program) (l : Launch) (ev : Env) (R : Room) (s : State) (m : MethodId) (args : Array Value) (below : List Frame) (meth : Method) (c : Code) (G : AG) (D : va_G) (cI cF : ClassId) (Z : State → Prop) : Prop :=
  (p.tables.exec = Jvm.exec ∧ c.code = j.2.1 ∧ c.maxLocals = j.2.2.1 ∧ s.vm.findClass (ab_cn j.1) = some m.cls ∧ (∀ w ∈ ab_T, w.before args s = true) ∧ ab_En G D cI cF E s) ∧
  (d + 1 ≤ R.frames ∧ 64 * (d + 1) ≤ R.locals ∧ cap - h0.1 ≤ R.cells ∧ ab_sl cap - ab_sl h0.1 ≤ R.slots ∧ (j.2.2.2.2.1 = true → meth.name = "<init>")) ∧
  (∀ (h' : AH) (H' : Heap) (locs' : List Loc) (pc : Nat) (ls' : Array Slot), j.2.2.2.1 = none → Q none h' → ab_R G D cI cF h' H' → h0.1 ≤ h'.1 → h'.1 ≤ cap → va_S (ab_A G) s.heap H' locs' → decode j.2.1 pc = .ok (.return_, 1) → W p l ev R s m args below meth c H' locs' (h'.1 - h0.1) (ab_sl h'.1 - ab_sl h0.1) Z (F0 m pc ls' [])) ∧
  (∀ (x : Int32) (h' : AH) (H' : Heap) (locs' : List Loc) (pc : Nat) (ls' : Array Slot), (j.2.2.2.1 = some .int ∨ (j.2.2.2.1 = some .boolean ∧ (x = 0 ∨ x = 1))) → Q (some (vI x)) h' → ab_R G D cI cF h' H' → h0.1 ≤ h'.1 → h'.1 ≤ cap → va_S (ab_A G) s.heap H' locs' → decode j.2.1 pc = .ok (.ireturn, 1) → W p l ev R s m args below meth c H' locs' (h'.1 - h0.1) (ab_sl h'.1 - ab_sl h0.1) Z (F0 m pc ls' [.int x]))
def ab_W (j : MI) (d : Nat) (E : Nat × (Nat → Int32)) (h0 : AH) (cap : Nat) (Q : Option AV → AH → Prop) (cs : List IE) (lv : Lv) (st : List AV) (h : AH) : Prop :=
  ∀ (p : Program) (l : Launch) (ev : Env) (R : Room) (s : State) (m : MethodId) (args : Array Value) (below : List Frame) (meth : Method) (c : Code) (G : AG) (D : va_G) (cI cF : ClassId) (Z : State → Prop) (H : Heap) (locs : List Loc) (ls : Array Slot),
    ab_X j d E h0 cap Q p l ev R s m args below meth c G D cI cF Z → ab_R G D cI cF h H → h0.1 ≤ h.1 → h.1 ≤ cap → va_S (ab_A G) s.heap H locs → lv_has ls j.2.2.1 (ab_lv G lv) →
    ∃ (i : IE) (r : List IE), cs = i :: r ∧ W p l ev R s m args below meth c H locs (h.1 - h0.1) (ab_sl h.1 - ab_sl h0.1) Z (F0 m i.1 ls (ab_vs G st))
-- THE TABLE OF A METHOD AGREES WITH ITS BYTES
def ab_tg (pc : Nat) (off : Int) (t : Nat) : Bool := decide ((pc : Int) + off = (t : Int))
def ab_tsw (pc : Nat) (lo : Int) (os : List Int) (sw : List (Int32 × Nat)) : Bool := match os, sw with
  | [], [] => true
  | o :: os, q :: r => decide (q.1.toInt = lo) && ab_tg pc o q.2 && ab_tsw pc (lo + 1) os r
  | _, _ => false
def ab_lsw (pc : Nat) (ps : List (Int × Int)) (sw : List (Int32 × Nat)) : Bool := match ps, sw with
  | [], [] => true
  | o :: os, q :: r => decide (q.1.toInt = o.1) && ab_tg pc o.2 q.2 && ab_lsw pc os r
  | _, _ => false
def ab_fin (ci k : Nat) : AV := match (ab_TT ci k).2.2.2 with
  | true => vI 2
  | false => match ab_ty ci k with
    | .boolean => vI 1
    | _ => vI 0
def ab_res2 (oc mL : Nat) (e : IE) : Bool := match e with
  | (pc, ins, len, k, t, u, sw, y) => match ins with
    | .iconst n => decide (len = 1) && decide (k = vI (Int32.ofInt n))
    | .bipush n => decide (len = 2) && decide (k = vI (Int8.ofInt n).toInt32)
    | .sipush n => decide (len = 3) && decide (k = vI (Int16.ofInt n).toInt32)
    | .ldc i => decide (len = 2) && (match k with
      | some (.inl x) => ab_kI.any (fun q => decide (q.1 = oc ∧ q.2.1 = i ∧ q.2.2.1 = x))
      | _ => false)
    | .ldc2_w i => decide (len = 3) && (match k with
      | some (.inr (.inl x)) => ab_kL.any (fun q => decide (q.1 = oc ∧ q.2.1 = i ∧ q.2.2.1 = x))
      | _ => false)
    | .iload _ => decide (len = 2)
    | .iload_n _ => decide (len = 1)
    | .aload _ => decide (len = 2)
    | .aload_n _ => decide (len = 1)
    | .lload _ => decide (len = 2)
    | .lload_n _ => decide (len = 1)
    | .istore i => decide (len = 2 ∧ i < mL)
    | .istore_n i => decide (len = 1 ∧ i.val < mL)
    | .astore i => decide (len = 2 ∧ i < mL)
    | .astore_n i => decide (len = 1 ∧ i.val < mL)
    | .iinc i n => decide (len = 3 ∧ i < mL) && decide (k = vI (Int32.ofInt n))
    | .goto off => decide (len = 3) && ab_tg pc off t
    | .ifCond _ off => decide (len = 3) && ab_tg pc off t
    | .if_icmp _ off => decide (len = 3) && ab_tg pc off t
    | .tableswitch d lo hi offs => ab_tg pc d t && ab_tsw pc lo offs.toList sw && decide (hi = lo + offs.size - 1)
    | .lookupswitch d ps => ab_tg pc d t && ab_lsw pc ps.toList sw && (ps.toList.zip (ps.toList.drop 1)).all (fun (a, next) => a.1 < next.1)
    | .getfield i => decide (len = 3) && ab_fl.any (fun q => decide (q.1 = oc ∧ q.2.1 = i ∧ q.2.2.1 = t ∧ q.2.2.2.1 = u))
    | .putfield i => decide (len = 3) && ab_fl.any (fun q => decide (q.1 = oc ∧ q.2.1 = i ∧ q.2.2.1 = t ∧ q.2.2.2.1 = u)) && decide (k = ab_fin t u) && decide (k = vI 2 → t = oc)
    | .getstatic i => decide (len = 3) && ab_gs.any (fun q => decide (q.1 = oc ∧ q.2.1 = i))
    | .invokevirtual i => decide (len = 3 ∧ 0 < u) && ab_ml.any (fun q => decide (q.1 = oc ∧ q.2.1 = i ∧ q.2.2.1 = y)) && decide ((parseMethodDescriptor y.desc).map (fun d => d.parameters.length) = some (u - 1)) && decide (ab_cn t = y.cls ∧ t < 6)
    | .invokestatic i => decide (len = 3) && (match t with
      | 1 => ab_mabs.any (fun q => decide (q.1 = oc ∧ q.2.1 = i))
      | 2 => ab_mmax.any (fun q => decide (q.1 = oc ∧ q.2.1 = i))
      | 3 => ab_mmin.any (fun q => decide (q.1 = oc ∧ q.2.1 = i))
      | 4 => ab_ac.any (fun q => decide (q.1 = oc ∧ q.2.1 = i))
      | 5 => ab_nest.any (fun q => decide (q.1 = oc ∧ q.2.1 = i ∧ q.2.2.1 = y)) && decide ((parseMethodDescriptor y.desc).map (fun d => d.parameters.length) = some u)
      | _ => ab_ml.any (fun q => decide (q.1 = oc ∧ q.2.1 = i ∧ q.2.2.1 = y)) && decide ((parseMethodDescriptor y.desc).map (fun d => d.parameters.length) = some u))
    | .invokespecial i => decide (len = 3) && (match t with
      | 6 => ab_oi.any (fun q => decide (q.1 = oc ∧ q.2.1 = i))
      | _ => decide (0 < u) && ab_ml.any (fun q => decide (q.1 = oc ∧ q.2.1 = i ∧ q.2.2.1 = y)) && decide ((parseMethodDescriptor y.desc).map (fun d => d.parameters.length) = some (u - 1)))
    | .new i => decide (len = 3) && ab_ck.any (fun q => decide (q.1 = oc ∧ q.2.1 = i ∧ q.2.2.1 = t)) && ab_ini.any (fun q => decide (q.1 = t ∧ q.2.1 = u)) && decide (t < 6 ∧ ab_NN t = u)
    | .newarray _ => decide (len = 2)
    | .anewarray i => decide (len = 3) && ab_ck.any (fun q => decide (q.1 = oc ∧ q.2.1 = i ∧ q.2.2.1 = 1))
    | _ => decide (len = 1)
def ab_res (j : MI) (e : IE) : Bool := decide (decode j.2.1 e.1 = .ok (e.2.1, e.2.2.1)) && ab_res2 j.1 j.2.2.1 e
def ab_seq : List IE → Bool
  | [] => true
  | [_] => true
  | a :: b :: r => Nat.beq b.1 (a.1 + a.2.2.1) && ab_seq (b :: r)
def ab_tab (j : MI) : Bool := j.2.2.2.2.2.all (ab_res j) && ab_seq j.2.2.2.2.2 && (match j.2.2.2.2.2 with
  | e :: _ => Nat.beq e.1 0
  | [] => false)
end
section
theorem ab_seq_at : ∀ (pre : List IE) (a b : IE) (r : List IE), ab_seq (pre ++ a :: b :: r) = true → b.1 = a.1 + a.2.2.1
  | [], a, b, r, h => by
    simp only [List.nil_append, ab_seq, Bool.and_eq_true] at h
    exact Nat.eq_of_beq_eq_true h.1
  | [x], a, b, r, h => by
    simp only [List.cons_append, List.nil_append, ab_seq, Bool.and_eq_true] at h
    exact Nat.eq_of_beq_eq_true h.2.1
  | x :: z :: l, a, b, r, h => by
    simp only [List.cons_append, ab_seq, Bool.and_eq_true] at h
    exact ab_seq_at (z :: l) a b r h.2
theorem ab_suf {j : MI} (hg : ab_tab j = true) {e : IE} {tl : List IE} (hs : e :: tl <:+ j.2.2.2.2.2) : ab_res j e = true ∧ ∀ (i : IE) (r : List IE), tl = i :: r → i.1 = e.1 + e.2.2.1 := by
  obtain ⟨pre, hp⟩ := hs
  simp only [ab_tab, Bool.and_eq_true] at hg
  obtain ⟨⟨h1, h2⟩, -⟩ := hg
  refine ⟨List.all_eq_true.mp h1 e (by rw [← hp]; simp), fun i r ht => ?_⟩
  subst ht
  rw [← hp] at h2
  exact ab_seq_at pre e i r h2
theorem ab_go_spec {t : Nat} {k : List IE → Prop} : ∀ {I : List IE}, ab_go I t k → ∃ (e : IE) (r : List IE), e :: r <:+ I ∧ e.1 = t ∧ k (e :: r)
  | [], h => h.elim
  | e :: r, h => by
    unfold ab_go at h
    split at h
    · rename_i hb
      exact ⟨e, r, List.suffix_refl _, Nat.eq_of_beq_eq_true hb, h⟩
    · obtain ⟨i, q, h1, h2, h3⟩ := ab_go_spec h
      exact ⟨i, q, h1.trans (List.suffix_cons e r), h2, h3⟩
theorem ab_ld_mem {i : Nat} {w : Int32 ⊕ (Int64 ⊕ (Nat × Nat))} : ∀ {lv : Lv}, ab_ld lv i = some w → (i, some w) ∈ lv
  | [], h => by cases h
  | q :: r, h => by
    unfold ab_ld at h
    split at h
    · rename_i hb
      have e := Nat.eq_of_beq_eq_true hb
      rw [← h, ← e]
      exact List.mem_cons_self
    · exact List.mem_cons_of_mem _ (ab_ld_mem h)
theorem ab_ld_at {G : AG} {ls : Array Slot} {nL i : Nat} {lv : Lv} {w : Int32 ⊕ (Int64 ⊕ (Nat × Nat))} (hl : lv_has ls nL (ab_lv G lv)) (h : ab_ld lv i = some w) : ls[i]? = some (.val (ab_v G (some w))) :=
  hl.2.2 (i, ab_v G (some w)) (List.mem_map.mpr ⟨(i, some w), ab_ld_mem h, rfl⟩)
theorem ab_v_cat (G : AG) (v : AV) : (ab_v G v).category = if ab_c2 v then 2 else 1 := by
  rcases v with _ | x | x | x <;> rfl
theorem ab_rm_eq (G : AG) (lv : Lv) (i : Nat) : (ab_lv G lv).filter (fun q => !(q.1 == i) && !(q.1 + 1 == i && q.2.category == 2)) = ab_lv G (ab_rm lv i) := by
  unfold ab_lv ab_rm
  rw [List.filter_map]
  congr 1
  refine List.filter_congr (fun q _ => ?_)
  simp only [Function.comp]
  rw [ab_v_cat]
  cases ab_c2 q.2 <;> simp
theorem ab_cat_eq (G : AG) : ∀ l : List AV, ((ab_vs G l).map fun v => v.category).sum = ab_cat l
  | [] => rfl
  | v :: r => by
    have := ab_cat_eq G r
    simp only [ab_vs, List.map_cons, List.sum_cons, ab_cat] at this ⊢
    rw [this, ab_v_cat]
    cases ab_c2 v <;> simp
theorem ab_chk_spec {h : AH} {b o : Nat} {P : Prop} (hc : ab_chk h b o P) : ab_ok h b o ∧ P := by
  unfold ab_chk at hc
  have hb : b < 49 := by
    rcases Nat.lt_or_ge b 49 with q | q
    · exact q
    · rw [List.getD_eq_getElem?_getD, List.getElem?_eq_none (by simpa [ab_bl] using q)] at hc
      exact hc.elim
  unfold ab_ok ab_ct ab_st
  split at hc
  · exact hc.elim
  · rename_i s he
    rw [he]
    split at hc
    · rename_i ho
      split at hc
      · rename_i hh
        have e := Nat.eq_of_beq_eq_true ho
        have e2 := Nat.le_of_ble_eq_true hh
        exact ⟨⟨hb, by omega, by show s + o < h.1; omega⟩, hc⟩
      · exact hc.elim
    · exact hc.elim
  · rename_i s n h0 h1 he
    rw [he]
    exact ⟨⟨hb, hc.1⟩, hc.2⟩
theorem ab_rd_spec {E : Nat × (Nat → Int32)} {h : AH} {b o : Nat} {k : Nat → (Nat → Int32) → Prop} (hc : ab_rd E h b o k) : (ab_ok h b o ∧ ∃ a, ab_get h b o = .inr (.inl a) ∧ k a.1 a.2) ∨ (b = 1000 ∧ k E.1 E.2) ∨ (b = 1001 ∧ k 4 ab_ms) := by
  unfold ab_rd at hc
  split at hc
  · obtain ⟨h1, h2⟩ := ab_chk_spec hc
    split at h2
    · rename_i a he
      exact Or.inl ⟨h1, a, he, h2⟩
    · exact h2.elim
  · split at hc
    · rename_i hb
      exact Or.inr (Or.inl ⟨Nat.eq_of_beq_eq_true hb, hc⟩)
    · split at hc
      · rename_i hb
        exact Or.inr (Or.inr ⟨Nat.eq_of_beq_eq_true hb, hc⟩)
      · exact hc.elim
theorem ab_wr_spec {h : AH} {b o : Nat} {c : AC} {k : AH → Prop} (hc : ab_wr h b o c k) : k (ab_set h b o c) := by
  unfold ab_wr at hc
  rw [ab_lset_eq] at hc
  exact hc
theorem ab_call_spec {C : Nat → MethodName → List AV → AH → Option AV → AH → Prop} {cap : Nat} {K : List AV → AH → Prop} {kd : Nat} {y : MethodName} {u : Nat} {st : List AV} {h : AH} (hc : ab_call C cap K kd y u st h) : u ≤ st.length ∧ ab_cat (st.drop u) ≤ 8 ∧ ∃ (v : Option AV) (h' : AH), C kd y (st.take u).reverse h v h' ∧ h'.1 ≤ cap ∧ K (v.toList ++ st.drop u) h' := by
  unfold ab_call at hc
  split at hc
  · rename_i h1
    split at hc
    · rename_i h2
      rw [ab_nrm_eq] at hc
      exact ⟨Nat.le_of_ble_eq_true h1, Nat.le_of_ble_eq_true h2, hc⟩
    · exact hc.elim
  · exact hc.elim
theorem ab_rcv_spec {h : AH} {st : List AV} {u ci : Nat} {P : Prop} (hc : ab_rcv h st u ci P) : ∃ (b o : Nat) (fs : List AV), st.getD (u - 1) none = vR b o ∧ ab_ok h b o ∧ ab_get h b o = .inl (ci, fs) ∧ P := by
  unfold ab_rcv at hc
  split at hc
  · rename_i r he
    obtain ⟨h1, h2⟩ := ab_chk_spec hc
    split at h2
    · rename_i c hg
      split at h2
      · rename_i hb
        have e := Nat.eq_of_beq_eq_true hb
        exact ⟨r.1, r.2, c.2, he, h1, by rw [hg, ← e], h2⟩
      · exact h2.elim
    · exact h2.elim
  · exact hc.elim
theorem ab_split {st : List AV} {u : Nat} {w : AV} (h0 : 0 < u) (h1 : u ≤ st.length) (hw : st.getD (u - 1) none = w) : ∃ As : List AV, (st.take u).reverse = w :: As ∧ As.length = u - 1 ∧ st = As.reverse ++ w :: st.drop u := by
  refine ⟨(st.take (u - 1)).reverse, ?_, ?_, ?_⟩
  · have e : st.take u = st.take (u - 1) ++ [w] := by
      have h2 : u - 1 < st.length := by omega
      rw [show u = (u - 1) + 1 by omega, List.take_succ_eq_append_getElem h2]
      rw [List.getD_eq_getElem?_getD, List.getElem?_eq_getElem h2] at hw
      simp only [Option.getD_some] at hw
      rw [hw]
      simp
    rw [e]
    simp
  · simp
    omega
  · rw [List.reverse_reverse]
    have h2 : u - 1 < st.length := by omega
    have e : st.drop (u - 1) = w :: st.drop u := by
      rw [List.drop_eq_getElem_cons h2]
      rw [List.getD_eq_getElem?_getD, List.getElem?_eq_getElem h2] at hw
      simp only [Option.getD_some] at hw
      rw [hw, show u - 1 + 1 = u by omega]
    rw [← e]
    exact (List.take_append_drop (u - 1) st).symm
theorem ab_tsw_spec {pc : Nat} {x : Int32} {dt : Nat} {k : Nat → Prop} : ∀ {os : List Int} {lo : Int} {sw : List (Int32 × Nat)}, ab_tsw pc lo os sw = true → ab_sw x sw dt k → ((x.toInt < lo ∨ lo + os.length - 1 < x.toInt) → k dt) ∧ ∀ (i : Nat) (off : Int), os[i]? = some off → x.toInt = lo + i → ∃ t : Nat, (pc : Int) + off = (t : Int) ∧ k t
  | [], lo, [], _, h2 => ⟨fun _ => h2, fun i off h => by simp at h⟩
  | [], lo, q :: r, h1, _ => by simp [ab_tsw] at h1
  | o :: os, lo, [], h1, _ => by simp [ab_tsw] at h1
  | o :: os, lo, q :: r, h1, h2 => by
    simp only [ab_tsw, Bool.and_eq_true, decide_eq_true_eq, ab_tg] at h1
    obtain ⟨⟨e1, e2⟩, e3⟩ := h1
    obtain ⟨k1, k2⟩ := h2
    refine ⟨fun hx => ?_, fun i off hi hx => ?_⟩
    · have hne : ¬ x = q.1 := by
        intro e
        rw [e, e1] at hx
        simp only [List.length_cons] at hx
        omega
      refine (ab_tsw_spec e3 (k2 hne)).1 ?_
      simp only [List.length_cons] at hx
      omega
    · cases i with
      | zero =>
        simp only [List.getElem?_cons_zero, Option.some.injEq] at hi
        subst hi
        refine ⟨q.2, e2, k1 ?_⟩
        apply Int32.toInt_inj.mp
        rw [hx, e1]
        simp
      | succ i =>
        simp only [List.getElem?_cons_succ] at hi
        have hne : ¬ x = q.1 := by
          intro e
          rw [e, e1] at hx
          omega
        exact (ab_tsw_spec e3 (k2 hne)).2 i off hi (by rw [hx]; omega)
theorem ab_lsw_spec {pc : Nat} {x : Int32} {dt : Nat} {dflt : Int} {k : Nat → Prop} (hd : (pc : Int) + dflt = (dt : Int)) : ∀ {ps : List (Int × Int)} {sw : List (Int32 × Nat)}, ab_lsw pc ps sw = true → ab_sw x sw dt k → ∃ t : Nat, (pc : Int) + Op.lookupswitch.offset ps dflt x.toInt = (t : Int) ∧ k t
  | [], [], _, h2 => ⟨dt, hd, h2⟩
  | [], q :: r, h1, _ => by simp [ab_lsw] at h1
  | o :: os, [], h1, _ => by simp [ab_lsw] at h1
  | o :: os, q :: r, h1, h2 => by
    simp only [ab_lsw, Bool.and_eq_true, decide_eq_true_eq, ab_tg] at h1
    obtain ⟨⟨e1, e2⟩, e3⟩ := h1
    obtain ⟨k1, k2⟩ := h2
    obtain ⟨a, b⟩ := o
    rw [Op.lookupswitch.offset_cons]
    by_cases hx : a = x.toInt
    · rw [if_pos hx]
      exact ⟨q.2, e2, k1 (Int32.toInt_inj.mp (by rw [e1]; exact hx.symm))⟩
    · rw [if_neg hx]
      exact ab_lsw_spec hd e3 (k2 (fun e => hx (by rw [e, e1])))
theorem ab_ret {p : Program} {l : Launch} {ev : Env} {R : Room} {s : State} {m : MethodId} {args : Array Value} {below : List Frame} {meth : Method} {c : Code} {G : AG} {D : va_G} {cI cF : ClassId} {Z : State → Prop} {H : Heap} {locs : List Loc} {ls : Array Slot} {cells slots mc ms pc : Nat} {rest st0 : List Value} {v : Option AV} {h' : AH} {a : Array Value}
    (hr : va_Run p l ev R s m args below meth c H locs cells slots mc ms (F0 m pc ls st0) rest (ab_Qc G D cI cF v h' a) (ab_A G)) (hS : va_S (ab_A G) s.heap H locs)
    (kk : ∀ (H1 : Heap) (locs1 : List Loc), ab_R G D cI cF h' H1 → va_S (ab_A G) s.heap H1 locs1 → W p l ev R s m args below meth c H1 locs1 (cells + mc) (slots + ms) Z (F0 m (pc + 3) ls ((v.map (ab_v G)).toList ++ rest))) : W p l ev R s m args below meth c H locs cells slots Z (F0 m pc ls st0) := by
  intro T hT X
  obtain ⟨w, st₀, t, T', L, h0, X', hL, e1, e2, ⟨hv, hR, hz, hk⟩, st⟩ := hr T hT X
  cases hv
  rw [h0] at hz hk
  obtain ⟨t2, a1, b1⟩ := kk T'.heap (locs ++ L) (by rw [e1]; exact hR)
    ⟨Nat.le_trans hS.1 (by rw [e1]; exact hz), fun q h1 h2 => by rw [e1, hk q (Nat.lt_of_lt_of_le h1 hS.1) h2]; exact hS.2.1 q h1 h2, fun q hq => by
      rcases List.mem_append.mp hq with h | h
      · exact hS.2.2 q h
      · exact hL q h⟩ T' rfl X'
  exact ⟨t2, st t2 a1, b1⟩
end
section
theorem ab_any {α : Type} {l : List α} {f : α → Bool} (h : l.any f = true) : ∃ q ∈ l, f q = true := List.any_eq_true.mp h
section AbMain
variable {j : MI} {d : Nat} {E : Nat × (Nat → Int32)} {h0 : AH} {cap : Nat} {Q : Option AV → AH → Prop} {K : List IE → Lv → List AV → AH → Prop}
variable {p : Program} {l : Launch} {ev : Env} {R : Room} {s : State} {m : MethodId} {args : Array Value} {below : List Frame} {meth : Method} {c : Code} {G : AG} {D : va_G} {cI cF : ClassId} {Z : State → Prop} {H : Heap} {locs : List Loc} {ls : Array Slot}
variable {pc : Nat} {lv : Lv} {st : List AV} {h : AH} {tl : List IE}
/-- what follows: the next instruction's state, in any heap -/
abbrev ab_Nx (j : MI) (h0 : AH) (cap : Nat) (K : List IE → Lv → List AV → AH → Prop) (p : Program) (l : Launch) (ev : Env) (R : Room) (s : State) (m : MethodId) (args : Array Value) (below : List Frame) (meth : Method) (c : Code) (G : AG) (D : va_G) (cI cF : ClassId) (Z : State → Prop) (tl : List IE) (npc : Nat) : Prop :=
  ∀ (lv' : Lv) (st' : List AV) (h' : AH) (H' : Heap) (locs' : List Loc) (ls' : Array Slot), K tl lv' st' h' → ab_R G D cI cF h' H' → h0.1 ≤ h'.1 → h'.1 ≤ cap → va_S (ab_A G) s.heap H' locs' → lv_has ls' j.2.2.1 (ab_lv G lv') → W p l ev R s m args below meth c H' locs' (h'.1 - h0.1) (ab_sl h'.1 - ab_sl h0.1) Z (F0 m npc ls' (ab_vs G st'))
theorem ab_put_ok (hR : ab_R G D cI cF h H) {b o : Nat} (hk : ab_ok h b o) {ce : AC} {H1 : Heap} (hP : va_P D vwCl ((ab_ws G cI cF h).set (ab_st b + o) (ab_ad G b o, ab_c G cI cF ce)) H1) (hz : H1.size = H.size) : ab_R G D cI cF (ab_set h b o ce) H1 := by
  obtain ⟨r1, r2, r3, r4⟩ := hR
  rw [ab_ws_set ce r3 r4 hk] at hP
  exact ⟨hP, by rw [hz, r2]; rfl, by show (h.2.set _ _).length = 49; rw [List.length_set]; exact r3, r4⟩
theorem ab_s_get (X : ab_X j d E h0 cap Q p l ev R s m args below meth c G D cI cF Z) (hR : ab_R G D cI cF h H) {b o : Nat} (hk : ab_ok h b o) {ci k i : Nat} {fs : List AV} (hg : ab_get h b o = .inl (ci, fs)) {v : AV} (hv : fs[k]? = some v) {place : Nat} (hf : (j.1, i, ci, k, place) ∈ ab_fl) {rest : List Value} (hd : decode j.2.1 pc = .ok (.getfield i, 3))
    (kk : W p l ev R s m args below meth c H locs (h.1 - h0.1) (ab_sl h.1 - ab_sl h0.1) Z (F0 m (pc + 3) ls (ab_v G v :: rest))) : W p l ev R s m args below meth c H locs (h.1 - h0.1) (ab_sl h.1 - ab_sl h0.1) Z (F0 m pc ls (ab_v G (vR b o) :: rest)) := by
  obtain ⟨⟨hx, hb, hml, hown, hts, hE⟩, -⟩ := X
  obtain ⟨f1, f2, f3⟩ := ab_fl_at _ hf
  have he := ab_ws_at (G := G) (cI := cI) (cF := cF) hk
  rw [hg] at he
  exact va_get (D := D) (ci := ci) (C := ab_cn ci) (T := ab_TT ci) (N := ab_NN ci) hx hb hts (ab_hin2 f1) hown hE.1 hR.1 (ab_st b + o) he (ab_vw f1) k f2 (hts _ (ab_T_of _ f3 rfl)) (fun _ h9 => h9) (by show (fs.map (ab_v G))[k]? = _; rw [List.getElem?_map, hv]; rfl) hd kk
theorem ab_s_put (X : ab_X j d E h0 cap Q p l ev R s m args below meth c G D cI cF Z) (hR : ab_R G D cI cF h H) (hS : va_S (ab_A G) s.heap H locs) {b o : Nat} (hk : ab_ok h b o) {ci k i : Nat} {fs : List AV} (hg : ab_get h b o = .inl (ci, fs)) (hkl : k < fs.length) {v : AV} {place : Nat} (hf : (j.1, i, ci, k, place) ∈ ab_fl) (hv : (ab_TT ci k).2.2.2 = false) (hn : narrow (ab_ty ci k) (ab_v G v) = ab_v G v) (hfit : fits (ab_ty ci k) (ab_v G v) = true) {rest : List Value} (hd : decode j.2.1 pc = .ok (.putfield i, 3))
    (kk : ∀ (H1 : Heap) (locs1 : List Loc), ab_R G D cI cF (ab_set h b o (.inl (ci, fs.set k v))) H1 → va_S (ab_A G) s.heap H1 locs1 → W p l ev R s m args below meth c H1 locs1 (h.1 - h0.1) (ab_sl h.1 - ab_sl h0.1) Z (F0 m (pc + 3) ls rest)) : W p l ev R s m args below meth c H locs (h.1 - h0.1) (ab_sl h.1 - ab_sl h0.1) Z (F0 m pc ls (ab_v G v :: ab_v G (vR b o) :: rest)) := by
  obtain ⟨⟨hx, hb, hml, hown, hts, hE⟩, -⟩ := X
  obtain ⟨f1, f2, f3⟩ := ab_fl_at _ hf
  have he := ab_ws_at (G := G) (cI := cI) (cF := cF) hk
  rw [hg] at he
  have hap := va_apart (own := ab_cn j.1) hts (ab_hin2 f1) (ab_ty ci) (ab_tyok ci f1) (ab_nmok ci f1) hE.1 (ab_vw f1)
  obtain ⟨r, h1, cell, q1, q2, q3, q4⟩ := hR.1 _ _ he
  have hr : r = (ab_cn ci, ab_TT ci, ab_NN ci) := Option.some.inj (h1.symm.trans (ab_vw f1))
  subst hr
  obtain ⟨hSl, hfc, kC, hkC, hkind⟩ := hE.1.1 ci _ (ab_vw f1)
  obtain ⟨cf, kf, fi, f, hi, hsl⟩ := hSl k f2
  have hlay := hts _ (ab_hin2 f1 _ (u_in_lay f2))
  unfold u_lay at hlay
  rw [if_neg (by rw [hv]; decide)] at hlay
  have hst := (u_facts hfc hkC (u_lays hts (ab_hin2 f1) f2) hi).1
  have h6 := u_store hfc hkC hkind hlay hi (ab_tyok ci f1 k f2) hn hfit
  refine W.putK hx hb (f := f) ⟨hown, hts _ (ab_T_of _ f3 rfl), ⟨_, _, _, hi⟩, hst⟩ (by rw [q2]; exact h6) q1 q3 (by rw [hsl]; exact k2_hasslot (q4 k f2)) rfl rfl hd fun H' e1 e2 e3 => ?_
  rw [hsl] at e1 ⊢
  have hP := hR.1.set (e := ab_c G cI cF (.inl (ci, fs.set k v))) (H1 := H') ab_ws_D he (by
    refine ⟨_, ab_vw f1, t_OB.to (V := updV (vp_V (fs.map (ab_v G))) k (ab_v G v)) ⟨_, e1, q2, q3, t_set q4 hap f2 (ab_v G v)⟩ (fun j _ => ?_)⟩
    show _ = vp_V ((fs.set k v).map (ab_v G)) j
    rw [List.map_set]
    exact vp_updV_set (by rw [List.length_map]; exact hkl) (ab_v G v) j) e3
  refine kk H' _ (ab_put_ok hR hk hP e2) (hS.put e2 e3 ?_)
  rw [ab_ad_in G o hk.1]
  exact Nat.le_add_right _ _
theorem ab_s_putF (X : ab_X j d E h0 cap Q p l ev R s m args below meth c G D cI cF Z) (hR : ab_R G D cI cF h H) (hS : va_S (ab_A G) s.heap H locs) {b o : Nat} (hk : ab_ok h b o) {ci k i : Nat} {fs : List AV} (hg : ab_get h b o = .inl (ci, fs)) (hkl : k < fs.length) {v : AV} {place : Nat} (hf : (j.1, i, ci, k, place) ∈ ab_fl) (hv : (ab_TT ci k).2.2.2 = true) (hini : j.2.2.2.2.1 = true) (hdecl : (ab_TT ci k).1 = ab_cn j.1) (hn : narrow (ab_ty ci k) (ab_v G v) = ab_v G v) (hfit : fits (ab_ty ci k) (ab_v G v) = true) {rest : List Value} (hd : decode j.2.1 pc = .ok (.putfield i, 3))
    (kk : ∀ (H1 : Heap) (locs1 : List Loc), ab_R G D cI cF (ab_set h b o (.inl (ci, fs.set k v))) H1 → va_S (ab_A G) s.heap H1 locs1 → W p l ev R s m args below meth c H1 locs1 (h.1 - h0.1) (ab_sl h.1 - ab_sl h0.1) Z (F0 m (pc + 3) ls rest)) : W p l ev R s m args below meth c H locs (h.1 - h0.1) (ab_sl h.1 - ab_sl h0.1) Z (F0 m pc ls (ab_v G v :: ab_v G (vR b o) :: rest)) := by
  obtain ⟨⟨hx, hb, hml, hown, hts, hE⟩, ⟨-, -, -, -, hnm⟩, -⟩ := X
  obtain ⟨f1, f2, f3⟩ := ab_fl_at _ hf
  have he := ab_ws_at (G := G) (cI := cI) (cF := cF) hk
  rw [hg] at he
  have hap := va_apart (own := ab_cn j.1) hts (ab_hin2 f1) (ab_ty ci) (ab_tyok ci f1) (ab_nmok ci f1) hE.1 (ab_vw f1)
  obtain ⟨r, h1, cell, q1, q2, q3, q4⟩ := hR.1 _ _ he
  have hr : r = (ab_cn ci, ab_TT ci, ab_NN ci) := Option.some.inj (h1.symm.trans (ab_vw f1))
  subst hr
  obtain ⟨hSl, hfc, kC, hkC, hkind⟩ := hE.1.1 ci _ (ab_vw f1)
  obtain ⟨cf, kf, fi, f, hi, hsl⟩ := hSl k f2
  have hlay := hts _ (ab_hin2 f1 _ (u_in_lay f2))
  unfold u_lay at hlay
  rw [if_pos hv] at hlay
  have hst := (u_facts hfc hkC (u_lays hts (ab_hin2 f1) f2) hi).1
  have hcf : m.cls = cf := by
    obtain ⟨_, _, c', _, _, _, -, -, hf', -, -, -, hown2, -⟩ := Cond.laysFinal_spec hlay
    have e1 : c' = cf := by have := hi.symm.trans hf'; simp at this; exact this.1.symm
    rw [hdecl] at hown2
    rw [← e1]; exact Option.some.inj (hown.symm.trans hown2)
  have h6 := u_fits hfc hkC hkind (Or.inr hlay) hi (ab_tyok ci f1 k f2) hn hfit
  refine W.putFinK hx hb hown (hts _ (ab_T_of _ f3 rfl)) hi hst hcf (hnm hini) (by rw [q2]; exact h6) q1 q3 (by rw [hsl]; exact k2_hasslot (q4 k f2)) rfl rfl hd fun H' e1 e2 e3 => ?_
  rw [hsl] at e1 ⊢
  have hP := hR.1.set (e := ab_c G cI cF (.inl (ci, fs.set k v))) (H1 := H') ab_ws_D he (by
    refine ⟨_, ab_vw f1, t_OB.to (V := updV (vp_V (fs.map (ab_v G))) k (ab_v G v)) ⟨_, e1, q2, q3, t_set q4 hap f2 (ab_v G v)⟩ (fun j _ => ?_)⟩
    show _ = vp_V ((fs.set k v).map (ab_v G)) j
    rw [List.map_set]
    exact vp_updV_set (by rw [List.length_map]; exact hkl) (ab_v G v) j) e3
  refine kk H' _ (ab_put_ok hR hk hP e2) (hS.put e2 e3 ?_)
  rw [ab_ad_in G o hk.1]
  exact Nat.le_add_right _ _
theorem ab_s_iald (X : ab_X j d E h0 cap Q p l ev R s m args below meth c G D cI cF Z) (hR : ab_R G D cI cF h H) (hS : va_S (ab_A G) s.heap H locs) {b o : Nat} {i : Int32} {k : Nat → (Nat → Int32) → Prop} (hc : ab_rd E h b o k) (hi : ∀ n f, k n f → vp_in i n) {rest : List Value} (hd : decode j.2.1 pc = .ok (.iaload, 1))
    (kk : ∀ n f, k n f → W p l ev R s m args below meth c H locs (h.1 - h0.1) (ab_sl h.1 - ab_sl h0.1) Z (F0 m (pc + 1) ls (.int (f i.toNatClampNeg) :: rest))) : W p l ev R s m args below meth c H locs (h.1 - h0.1) (ab_sl h.1 - ab_sl h0.1) Z (F0 m pc ls (.int i :: ab_v G (vR b o) :: rest)) := by
  obtain ⟨⟨hx, hb, hml, hown, hts, hE⟩, -⟩ := X
  rcases ab_rd_spec hc with ⟨hk, a, hg, ha⟩ | ⟨rfl, ha⟩ | ⟨rfl, ha⟩
  · have he := ab_ws_at (G := G) (cI := cI) (cF := cF) hk
    rw [hg] at he
    exact va_iald hx hb hE.1 hR.1 (ab_st b + o) 0 he rfl (hi _ _ ha) hd (kk _ _ ha)
  · exact va_sld hx hb hE.2.1.1 (Nat.lt_of_lt_of_le hE.2.1.2 hE.2.2.1) (Nat.not_le.mpr hE.2.1.2) hS (hi _ _ ha) hd (kk _ _ ha)
  · obtain ⟨cell, t1, t2, t3, t4, t5, t6, t7⟩ := hE.2.2.2.2.1
    have hv := hi _ _ ha
    have hlt : i.toNatClampNeg < 4 := Nat.not_le.mp fun q => hv (Or.inr q)
    have hn0 : ¬ i < 0 := fun q => hv (Or.inl q)
    have hcell : H[G.2.2]? = some cell := by rw [hS.2.1 _ (Array.getElem?_eq_some_iff.mp t1).1 t7]; exact t1
    exact W.iald (v := .int (ab_ms i.toNatClampNeg)) hx hb hcell t2 t3 (fun q => q.elim hn0 (fun q => by omega)) (t6 _ hlt) rfl rfl hd (kk _ _ ha)
theorem ab_s_alen (X : ab_X j d E h0 cap Q p l ev R s m args below meth c G D cI cF Z) (hR : ab_R G D cI cF h H) (hS : va_S (ab_A G) s.heap H locs) {b o : Nat} {k : Nat → (Nat → Int32) → Prop} (hc : ab_rd E h b o k) {rest : List Value} (hd : decode j.2.1 pc = .ok (.arraylength, 1))
    (kk : ∀ n f, k n f → W p l ev R s m args below meth c H locs (h.1 - h0.1) (ab_sl h.1 - ab_sl h0.1) Z (F0 m (pc + 1) ls (.int (Int32.ofNat n) :: rest))) : W p l ev R s m args below meth c H locs (h.1 - h0.1) (ab_sl h.1 - ab_sl h0.1) Z (F0 m pc ls (ab_v G (vR b o) :: rest)) := by
  obtain ⟨⟨hx, hb, hml, hown, hts, hE⟩, -⟩ := X
  rcases ab_rd_spec hc with ⟨hk, a, hg, ha⟩ | ⟨rfl, ha⟩ | ⟨rfl, ha⟩
  · have he := ab_ws_at (G := G) (cI := cI) (cF := cF) hk
    rw [hg] at he
    exact va_alen hx hb hE.1 hR.1 (ab_st b + o) 0 he rfl rfl hd (kk _ _ ha)
  · exact va_slen hx hb hE.2.1.1 (Nat.lt_of_lt_of_le hE.2.1.2 hE.2.2.1) (Nat.not_le.mpr hE.2.1.2) hS hd (kk _ _ ha)
  · obtain ⟨cell, t1, t2, t3, t4, t5, t6, t7⟩ := hE.2.2.2.2.1
    have hcell : H[G.2.2]? = some cell := by rw [hS.2.1 _ (Array.getElem?_eq_some_iff.mp t1).1 t7]; exact t1
    exact W.alen (n := Int32.ofNat 4) hx hb hcell t2 t5 rfl rfl hd (kk _ _ ha)
theorem ab_hz (hS : va_S (ab_A G) s.heap H locs) : s.heap.size ≤ H.size := hS.1
theorem ab_s_iast (X : ab_X j d E h0 cap Q p l ev R s m args below meth c G D cI cF Z) (hR : ab_R G D cI cF h H) (hS : va_S (ab_A G) s.heap H locs) {b o : Nat} (hk : ab_ok h b o) {a : Nat × (Nat → Int32)} (hg : ab_get h b o = .inr (.inl a)) {i x : Int32} (hi : vp_in i a.1) {rest : List Value} (hd : decode j.2.1 pc = .ok (.iastore, 1))
    (kk : ∀ (H1 : Heap) (locs1 : List Loc), ab_R G D cI cF (ab_set h b o (.inr (.inl (a.1, upd a.2 i.toNatClampNeg x)))) H1 → va_S (ab_A G) s.heap H1 locs1 → W p l ev R s m args below meth c H1 locs1 (h.1 - h0.1) (ab_sl h.1 - ab_sl h0.1) Z (F0 m (pc + 1) ls rest)) : W p l ev R s m args below meth c H locs (h.1 - h0.1) (ab_sl h.1 - ab_sl h0.1) Z (F0 m pc ls (.int x :: .int i :: ab_v G (vR b o) :: rest)) := by
  obtain ⟨⟨hx, hb, hml, hown, hts, hE⟩, -⟩ := X
  have he := ab_ws_at (G := G) (cI := cI) (cF := cF) hk
  rw [hg] at he
  refine W.iast hx hb (hR.1 _ _ he) ((hE.1.2 0 _ rfl).1 a.1 (fun j => .int (a.2 j))) (fun q => by cases q) (by show ¬ (i < 0 ∨ (arrV _ _ _).slots.size ≤ _); rw [arrV_size]; exact hi) rfl rfl hd fun H1 e z oq => ?_
  have hP := hR.1.set (e := ab_c G cI cF (.inr (.inl (a.1, upd a.2 i.toNatClampNeg x)))) (H1 := H1) ab_ws_D he (by
    show H1[ab_ad G b o]? = some (vp_cell cI (a.1, .inl (upd a.2 i.toNatClampNeg x)))
    rw [e]
    show some ((vp_cell cI (a.1, .inl a.2)).setSlot _ _) = _
    rw [vp_cell_i, vp_cell_i, arrV_store]
    congr 2
    funext q
    by_cases hq : q = i.toNatClampNeg
    · subst hq
      simp [updV, upd]
    · simp [updV, upd, hq]) oq
  refine kk H1 _ (ab_put_ok hR hk hP z) (hS.put z oq ?_)
  rw [ab_ad_in G o hk.1]
  exact Nat.le_add_right _ _
end AbMain
end
section
section AbMore
variable {j : MI} {d : Nat} {E : Nat × (Nat → Int32)} {h0 : AH} {cap : Nat} {Q : Option AV → AH → Prop} {K : List IE → Lv → List AV → AH → Prop}
variable {p : Program} {l : Launch} {ev : Env} {R : Room} {s : State} {m : MethodId} {args : Array Value} {below : List Frame} {meth : Method} {c : Code} {G : AG} {D : va_G} {cI cF : ClassId} {Z : State → Prop} {H : Heap} {locs : List Loc} {ls : Array Slot}
variable {pc : Nat} {lv : Lv} {st : List AV} {h : AH} {tl : List IE}
theorem ab_in_A (G : AG) {b : Nat} (o : Nat) (hb : b < 49) : ab_A G (ab_ad G b o) := by
  rw [ab_ad_in G o hb]
  exact Nat.le_add_right _ _
theorem ab_nn {z : Int32} (hz : ¬ z < 0) : z.toInt = (z.toNatClampNeg : Int) := by
  have hz0 : (0 : Int) ≤ z.toInt := by
    have := Int32.not_lt.mp hz
    simpa using Int32.le_iff_toInt_le.mp this
  show z.toInt = ((z.toInt.toNat : Nat) : Int)
  omega
theorem ab_s_copy (X : ab_X j d E h0 cap Q p l ev R s m args below meth c G D cI cF Z) (hR : ab_R G D cI cF h H) (hS : va_S (ab_A G) s.heap H locs) (hml : c.maxLocals = ls.size) {b o b2 o2 : Nat} (hk : ab_ok h b o) (hk2 : ab_ok h b2 o2) {a g : Nat × (Nat → Int32)} (hg : ab_get h b o = .inr (.inl a)) (hg2 : ab_get h b2 o2 = .inr (.inl g)) {sp dp n : Int32} (h1 : ¬ sp < 0) (h2 : ¬ dp < 0) (h3 : ¬ n < 0) (h4 : sp.toNatClampNeg + n.toNatClampNeg ≤ a.1) (h5 : dp.toNatClampNeg + n.toNatClampNeg ≤ g.1) {i place : Nat} (hm : (j.1, i, place) ∈ ab_ac) {rest : List Value} (hrest : (rest.map fun v => v.category).sum ≤ 8) (hd : decode j.2.1 pc = .ok (.invokestatic i, 3))
    (kk : ∀ (H1 : Heap) (locs1 : List Loc), ab_R G D cI cF (ab_set h b2 o2 (.inr (.inl (g.1, va_cpy a.2 g.2 sp.toNatClampNeg dp.toNatClampNeg n.toNatClampNeg)))) H1 → va_S (ab_A G) s.heap H1 locs1 → W p l ev R s m args below meth c H1 locs1 (h.1 - h0.1) (ab_sl h.1 - ab_sl h0.1) Z (F0 m (pc + 3) ls rest)) : W p l ev R s m args below meth c H locs (h.1 - h0.1) (ab_sl h.1 - ab_sl h0.1) Z (F0 m pc ls (.int n :: .int dp :: ab_v G (vR b2 o2) :: .int sp :: ab_v G (vR b o) :: rest)) := by
  obtain ⟨⟨hx, hb, -, hown, hts, hE⟩, ⟨hfr, hlo, -⟩, -⟩ := X
  have he := ab_ws_at (G := G) (cI := cI) (cF := cF) hk
  have he2 := ab_ws_at (G := G) (cI := cI) (cF := cF) hk2
  rw [hg] at he
  rw [hg2] at he2
  intro T hT Y
  have hc0 : H[ab_ad G b o]? = some (vp_cell cI (a.1, .inl a.2)) := hR.1 _ _ he
  have hc1 : H[ab_ad G b2 o2]? = some (vp_cell cI (g.1, .inl g.2)) := hR.1 _ _ he2
  obtain ⟨-, k0, hk0, cm0, hkk0⟩ := (hE.1.2 0 _ rfl).1 a.1 (fun j => .int (a.2 j))
  obtain ⟨vm', Y', step⟩ := Y.arraycopy hx hown (hts _ (ab_T_of _ (ab_ac_at _ hm) rfl)) (hts _ ab_w_acn) (hts _ ab_w_acs) (hts _ ab_w_is) (src := ab_ad G b o) (dst := ab_ad G b2 o2) (cs := vp_cell cI (a.1, .inl a.2)) (cd := vp_cell cI (g.1, .inl g.2)) (srcPos := sp) (destPos := dp) (n := n) (by rw [hT]; exact hc0) (by rw [hT]; exact hc1)
    (fun _ h => by cases h) (fun _ h => by cases h) (fun h => by cases h) (fun h => by cases h) hk0 hk0 hkk0 hkk0 (by simp [refKind]) h1 h2 h3
    (by rw [ab_nn h1, ab_nn h3]; show ¬ _ > ((arrV cI a.1 (fun j => .int (a.2 j))).slots.size : Int); rw [arrV_size]; omega)
    (by rw [ab_nn h2, ab_nn h3]; show ¬ _ > ((arrV cI g.1 (fun j => .int (g.2 j))).slots.size : Int); rw [arrV_size]; omega)
    (fun vm₁ _ i hi => by
      have e : (vp_cell cI (a.1, .inl a.2)).slots.getD (sp.toNatClampNeg + i) .null = .int (a.2 (sp.toNatClampNeg + i)) := by
        show (arrV cI a.1 (fun j => .int (a.2 j))).slots.getD _ _ = _
        rw [Array.getD_eq_getD_getElem?, arrV_read _ _ (by omega)]
        rfl
      refine ⟨?_, ?_⟩
      · rw [e]
        rfl
      · rw [e]
        exact trivial)
    (g := F0 m pc ls (.int n :: .int dp :: ab_v G (vR b2 o2) :: .int sp :: ab_v G (vR b o) :: rest)) rfl (by rw [hml]) (rest := rest) rfl (by rw [hb]; exact hd) (by omega) (by
      have hnf : nativeFrameWords "java/lang/System" "arraycopy" 5 = 7 := by decide +kernel
      show 2 * 0 + _ + _ ≤ _
      rw [hnf]
      omega)
  have e1 : copied (vp_cell cI (a.1, .inl a.2)) (vp_cell cI (g.1, .inl g.2)) sp dp n = vp_cell cI (g.1, .inl (va_cpy a.2 g.2 sp.toNatClampNeg dp.toNatClampNeg n.toNatClampNeg)) := va_copied (fun z => .int z) cI cI a.2 g.2 h4
  rw [e1] at Y' step
  have hl : ab_ad G b2 o2 < H.size := (Array.getElem?_eq_some_iff.mp hc1).1
  generalize hce : vp_cell cI (g.1, .inl (va_cpy a.2 g.2 sp.toNatClampNeg dp.toNatClampNeg n.toNatClampNeg)) = ce at Y' step
  have hheap : ((T.setVm vm').setCell (ab_ad G b2 o2) ce).heap = H.setIfInBounds (ab_ad G b2 o2) ce := by rw [← hT]; rfl
  have oq : ∀ q : Nat, q ≠ ab_ad G b2 o2 → (H.setIfInBounds (ab_ad G b2 o2) ce)[q]? = H[q]? := fun q hq => by simp [Array.getElem?_setIfInBounds, Ne.symm hq]
  have hz : (H.setIfInBounds (ab_ad G b2 o2) ce).size = H.size := by simp
  have hP := hR.1.set (e := ab_c G cI cF (.inr (.inl (g.1, va_cpy a.2 g.2 sp.toNatClampNeg dp.toNatClampNeg n.toNatClampNeg)))) (H1 := H.setIfInBounds (ab_ad G b2 o2) ce) ab_ws_D he2 (by
    show (H.setIfInBounds (ab_ad G b2 o2) ce)[ab_ad G b2 o2]? = some (vp_cell _ _)
    rw [← hce]
    simp [Array.getElem?_setIfInBounds, hl]) oq
  obtain ⟨t, a1, b1⟩ := kk _ _ (ab_put_ok hR hk2 hP hz) ⟨by rw [hz]; exact hS.1, fun q g1 g2 => by
      rw [oq q (fun e => g2 (by rw [e]; exact ab_in_A G o2 hk2.1))]
      exact hS.2.1 q g1 g2, fun q hq => by
      rcases List.mem_append.mp hq with h | h
      · exact hS.2.2 q h
      · obtain ⟨z, -, hz⟩ := List.mem_map.mp h
        rw [← hz]
        exact ab_in_A G o2 hk2.1⟩ _ hheap Y'
  exact ⟨t, step t a1, b1⟩
theorem ab_s_aald (X : ab_X j d E h0 cap Q p l ev R s m args below meth c G D cI cF Z) (hR : ab_R G D cI cF h H) {b o : Nat} (hk : ab_ok h b o) {a : Nat × (Nat → AV)} (hg : ab_get h b o = .inr (.inr a)) {i : Int32} (hi : vp_in i a.1) {q : Nat × Nat} (hq : a.2 i.toNatClampNeg = vR q.1 q.2) {rest : List Value} (hd : decode j.2.1 pc = .ok (.aaload, 1))
    (kk : W p l ev R s m args below meth c H locs (h.1 - h0.1) (ab_sl h.1 - ab_sl h0.1) Z (F0 m (pc + 1) ls (ab_v G (vR q.1 q.2) :: rest))) : W p l ev R s m args below meth c H locs (h.1 - h0.1) (ab_sl h.1 - ab_sl h0.1) Z (F0 m pc ls (.int i :: ab_v G (vR b o) :: rest)) := by
  obtain ⟨⟨hx, hb, hml, hown, hts, hE⟩, -⟩ := X
  have he := ab_ws_at (G := G) (cI := cI) (cF := cF) hk
  rw [hg] at he
  refine va_aldq hx hb hE.1 hR.1 (ab_st b + o) 1 he rfl hi hd ?_
  have e : va_rf (ab_rf G (a.2 i.toNatClampNeg)) = ab_v G (vR q.1 q.2) := by rw [hq]; rfl
  show W p l ev R s m args below meth c H locs (h.1 - h0.1) (ab_sl h.1 - ab_sl h0.1) Z (F0 m (pc + 1) ls (va_rf (ab_rf G (a.2 i.toNatClampNeg)) :: rest))
  rw [e]
  exact kk
theorem ab_s_aast (X : ab_X j d E h0 cap Q p l ev R s m args below meth c G D cI cF Z) (hR : ab_R G D cI cF h H) (hS : va_S (ab_A G) s.heap H locs) {b o b2 o2 : Nat} (hk : ab_ok h b o) (hk2 : ab_ok h b2 o2) {a : Nat × (Nat → AV)} {fs : List AV} (hg : ab_get h b o = .inr (.inr a)) (hg2 : ab_get h b2 o2 = .inl (1, fs)) {i : Int32} (hi : vp_in i a.1) {rest : List Value} (hd : decode j.2.1 pc = .ok (.aastore, 1))
    (kk : ∀ (H1 : Heap) (locs1 : List Loc), ab_R G D cI cF (ab_set h b o (.inr (.inr (a.1, va_up a.2 i.toNatClampNeg (vR b2 o2))))) H1 → va_S (ab_A G) s.heap H1 locs1 → W p l ev R s m args below meth c H1 locs1 (h.1 - h0.1) (ab_sl h.1 - ab_sl h0.1) Z (F0 m (pc + 1) ls rest)) : W p l ev R s m args below meth c H locs (h.1 - h0.1) (ab_sl h.1 - ab_sl h0.1) Z (F0 m pc ls (ab_v G (vR b2 o2) :: .int i :: ab_v G (vR b o) :: rest)) := by
  obtain ⟨⟨hx, hb, hml, hown, hts, hE⟩, -⟩ := X
  have he := ab_ws_at (G := G) (cI := cI) (cF := cF) hk
  have he2 := ab_ws_at (G := G) (cI := cI) (cF := cF) hk2
  rw [hg] at he
  rw [hg2] at he2
  have hlt : i.toNatClampNeg < a.1 := Nat.not_le.mp fun q => hi (Or.inr q)
  have hi0 : ¬ i < 0 := fun q => hi (Or.inl q)
  obtain ⟨r', hr', cellV, g1, g2, g3, -⟩ := hR.1 _ _ he2
  have hcls := (hE.1.1 1 _ (ab_vw (k := 1) (by decide))).2
  obtain ⟨kA, comp, k1, k2, k3, -⟩ := (hE.1.2 1 _ rfl).2
  have hcomp : comp = D.1 1 := Option.some.inj (k3.symm.trans hcls.1)
  subst hcomp
  obtain ⟨kC, hkC, -⟩ := hcls.2
  refine W.aast hx hb (hR.1 _ _ he) (fun q h => by cases h) (fun h => by cases h) k1 k2 rfl hkC ⟨hi0, by show _ < (arrV _ _ _).slots.size; rw [arrV_size]; exact hlt⟩ g1 (fun q h => by rw [g3] at h; cases h) (by rw [g2]; exact hkC) (by rw [g2]; exact va_assign hcls) rfl rfl hd fun H1 e z oq => ?_
  have hP := hR.1.set (e := ab_c G cI cF (.inr (.inr (a.1, va_up a.2 i.toNatClampNeg (vR b2 o2))))) (H1 := H1) ab_ws_D he (by
    show H1[ab_ad G b o]? = some (vp_cell cF (a.1, .inr (.inr (.inr (.inr (fun q => ab_rf G (va_up a.2 i.toNatClampNeg (vR b2 o2) q)))))))
    rw [e]
    show some ((vp_cell cF (a.1, .inr (.inr (.inr (.inr (fun q => ab_rf G (a.2 q))))))).setSlot _ _) = _
    rw [vp_cell_q, vp_cell_q, arrV_store]
    congr 2
    funext q
    by_cases hq : q = i.toNatClampNeg
    · subst hq
      simp [updV, va_up, ab_rf, va_rf]
    · simp [updV, va_up, hq]) oq
  exact kk H1 _ (ab_put_ok hR hk hP z) (hS.put z oq (ab_in_A G o hk.1))
theorem ab_push_ok (hR : ab_R G D cI cF h H) (h70 : h.1 < 70) {ce : AC} {H1 : Heap} (hz : H1.size = H.size + 1) (o1 : ∀ q : Nat, q < H.size → H1[q]? = H[q]?) (e1 : va_at D vwCl (H.size, ab_c G cI cF ce) H1) : ab_R G D cI cF (ab_push h ce) H1 := by
  obtain ⟨r1, r2, r3, r4⟩ := hR
  refine ⟨?_, by rw [hz, r2]; show _ = G.1 + (h.1 + 1); omega, by show (h.2.set _ _).length = 49; rw [List.length_set]; exact r3, h70⟩
  rw [ab_ws_push ce r3 h70]
  refine (r1.kept (fun k q hq => o1 q.1 ((r1 k q hq).lt))).app (fun k q hk => ?_)
  have hz2 : k < 1 := (List.getElem?_eq_some_iff.mp hk).1
  rw [show k = 0 by omega] at hk
  cases hk
  rw [← r2]
  exact e1
theorem ab_S_push (hS : va_S (ab_A G) s.heap H locs) {H1 : Heap} (hz : H1.size = H.size + 1) (o1 : ∀ q : Nat, q < H.size → H1[q]? = H[q]?) : va_S (ab_A G) s.heap H1 locs :=
  ⟨Nat.le_trans hS.1 (by omega), fun x h1 h2 => (o1 x (Nat.lt_of_lt_of_le h1 hS.1)).trans (hS.2.1 x h1 h2), hS.2.2⟩
theorem ab_next_ad (G : AG) (hR : ab_R G D cI cF h H) (h70 : h.1 < 70) : ab_ad G (ab_bk h.1) (ab_of h.1) = H.size := by
  obtain ⟨l1, l2, l3⟩ := ab_lay1 h.1 h70
  rw [ab_ad_in G _ l1, l3, hR.2.1]
theorem ab_dfl_ok : ∀ k, k < 6 → ∀ i, i < ab_NN k → defaultValue (ab_ty k i) = vp_V ((ab_dfl k).map (ab_v (0, 0, 0))) i := by decide +kernel
theorem ab_dfl_G (G : AG) : ∀ k, k < 6 → (ab_dfl k).map (ab_v G) = (ab_dfl k).map (ab_v (0, 0, 0)) := by
  intro k hk
  rcases (show k = 0 ∨ k = 1 ∨ k = 2 ∨ k = 3 ∨ k = 4 ∨ k = 5 by omega) with rfl | rfl | rfl | rfl | rfl | rfl <;> rfl
theorem ab_s_new (X : ab_X j d E h0 cap Q p l ev R s m args below meth c G D cI cF Z) (hR : ab_R G D cI cF h H) (hS : va_S (ab_A G) s.heap H locs) (hb1 : h0.1 ≤ h.1) (hcap : h.1 < cap) (h70 : h.1 < 70) {t i pl : Nat} (ht : t < 6) (hck : (j.1, i, t, pl) ∈ ab_ck) {p1 p2 : Nat} (hini : (t, ab_NN t, p1, p2) ∈ ab_ini) (hsz : ab_sz h.1 = ab_NN t) {rest : List Value} (hd : decode j.2.1 pc = .ok (.new i, 3))
    (kk : ∀ (H1 : Heap) (locs1 : List Loc), ab_R G D cI cF (ab_push h (.inl (t, ab_dfl t))) H1 → va_S (ab_A G) s.heap H1 locs1 → W p l ev R s m args below meth c H1 locs1 (h.1 + 1 - h0.1) (ab_sl (h.1 + 1) - ab_sl h0.1) Z (F0 m (pc + 3) ls (ab_v G (vR (ab_bk h.1) (ab_of h.1)) :: rest))) : W p l ev R s m args below meth c H locs (h.1 - h0.1) (ab_sl h.1 - ab_sl h0.1) Z (F0 m pc ls rest) := by
  obtain ⟨⟨hx, hb, hml, hown, hts, hE⟩, ⟨hfr, hlo, hcl, hsl, -⟩, -⟩ := X
  have hKn := hE.1.1 t _ (ab_vw ht)
  have m1 := ab_sl_le hb1
  have m2 := ab_sl_le (show h.1 + 1 ≤ cap from hcap)
  have m3 : ab_sl (h.1 + 1) = ab_sl h.1 + ab_sz h.1 := rfl
  have i1 := ab_ini_at _ hini
  refine W.newcK hx hb hown (hts _ (ab_T_of _ (ab_ck_at _ hck) rfl)) (hts _ (ab_T_of _ i1.1 rfl)) (hts _ (ab_T_of _ i1.2 rfl)) rfl hd (by omega) (by show _ + ab_NN t ≤ _; omega) hKn.2.1 rfl fun H1 kC hkC e1 z1 o1 => ?_
  refine W.cs (cells' := h.1 + 1 - h0.1) (slots' := ab_sl (h.1 + 1) - ab_sl h0.1) (by omega) (by show _ + ab_NN t = _; omega) ?_
  have hb2 : u_Kn s (ab_cn t) (ab_TT t) (ab_NN t) (D.1 t) (D.2 t) := hKn
  have hborn := (u_born (ab_ty t) hts (ab_hin2 ht) hKn hkC e1 (ab_tyok t ht)).to (V' := vp_V ((ab_dfl t).map (ab_v G))) (by
    intro i hi
    rw [ab_dfl_G G t ht]
    exact ab_dfl_ok t ht i hi)
  have := kk H1 locs (ab_push_ok hR h70 z1 o1 ⟨_, ab_vw ht, hborn⟩) (ab_S_push hS z1 o1)
  rw [show ab_v G (vR (ab_bk h.1) (ab_of h.1)) = .ref H.size from congrArg Value.ref (ab_next_ad G hR h70)] at this
  exact this
theorem ab_s_newa (X : ab_X j d E h0 cap Q p l ev R s m args below meth c G D cI cF Z) (hR : ab_R G D cI cF h H) (hS : va_S (ab_A G) s.heap H locs) (hb1 : h0.1 ≤ h.1) (hcap : h.1 < cap) (h70 : h.1 < 70) {n : Int32} (hn : ¬ n < 0) (hN : n.toNatClampNeg = ab_sz h.1) {rest : List Value} (hd : decode j.2.1 pc = .ok (.newarray .int, 2))
    (kk : ∀ (H1 : Heap) (locs1 : List Loc), ab_R G D cI cF (ab_push h (.inr (.inl (ab_sz h.1, fun _ => 0)))) H1 → va_S (ab_A G) s.heap H1 locs1 → W p l ev R s m args below meth c H1 locs1 (h.1 + 1 - h0.1) (ab_sl (h.1 + 1) - ab_sl h0.1) Z (F0 m (pc + 2) ls (ab_v G (vR (ab_bk h.1) (ab_of h.1)) :: rest))) : W p l ev R s m args below meth c H locs (h.1 - h0.1) (ab_sl h.1 - ab_sl h0.1) Z (F0 m pc ls (.int n :: rest)) := by
  obtain ⟨⟨hx, hb, hml, hown, hts, hE⟩, ⟨hfr, hlo, hcl, hsl, -⟩, -⟩ := X
  have m1 := ab_sl_le hb1
  have m2 := ab_sl_le (show h.1 + 1 ≤ cap from hcap)
  have m3 : ab_sl (h.1 + 1) = ab_sl h.1 + ab_sz h.1 := rfl
  have hsm : ∀ k, k < 70 → ab_sz k ≤ 112 := by decide +kernel
  have hs112 := hsm h.1 h70
  refine va_newaK (atype := .int) hx hb (hts _ ab_w_ai) rfl hd rfl hn hN (show ab_sz h.1 * 4 ≤ 536870912 by omega) (by omega) (by omega) rfl fun H1 cA e1 z1 o1 hAr hNm => ?_
  refine W.cs (cells' := h.1 + 1 - h0.1) (slots' := ab_sl (h.1 + 1) - ab_sl h0.1) (by omega) (by omega) ?_
  have hcA : cA = cI := Option.some.inj (hNm.symm.trans (hE.1.2 0 _ rfl).2)
  subst hcA
  have := kk H1 locs (ab_push_ok hR h70 z1 o1 (by
    show H1[H.size]? = some (vp_cell cA (ab_sz h.1, .inl (fun _ => 0)))
    rw [e1]; rfl)) (ab_S_push hS z1 o1)
  rw [show ab_v G (vR (ab_bk h.1) (ab_of h.1)) = .ref H.size from congrArg Value.ref (ab_next_ad G hR h70)] at this
  exact this
theorem ab_s_anew (X : ab_X j d E h0 cap Q p l ev R s m args below meth c G D cI cF Z) (hR : ab_R G D cI cF h H) (hS : va_S (ab_A G) s.heap H locs) (hb1 : h0.1 ≤ h.1) (hcap : h.1 < cap) (h70 : h.1 < 70) {n : Int32} (hn : ¬ n < 0) (hN : n.toNatClampNeg = ab_sz h.1) {i pl : Nat} (hck : (j.1, i, 1, pl) ∈ ab_ck) {rest : List Value} (hd : decode j.2.1 pc = .ok (.anewarray i, 3))
    (kk : ∀ (H1 : Heap) (locs1 : List Loc), ab_R G D cI cF (ab_push h (.inr (.inr (ab_sz h.1, fun _ => none)))) H1 → va_S (ab_A G) s.heap H1 locs1 → W p l ev R s m args below meth c H1 locs1 (h.1 + 1 - h0.1) (ab_sl (h.1 + 1) - ab_sl h0.1) Z (F0 m (pc + 3) ls (ab_v G (vR (ab_bk h.1) (ab_of h.1)) :: rest))) : W p l ev R s m args below meth c H locs (h.1 - h0.1) (ab_sl h.1 - ab_sl h0.1) Z (F0 m pc ls (.int n :: rest)) := by
  obtain ⟨⟨hx, hb, hml, hown, hts, hE⟩, ⟨hfr, hlo, hcl, hsl, -⟩, -⟩ := X
  have m1 := ab_sl_le hb1
  have m2 := ab_sl_le (show h.1 + 1 ≤ cap from hcap)
  have m3 : ab_sl (h.1 + 1) = ab_sl h.1 + ab_sz h.1 := rfl
  have hsm : ∀ k, k < 70 → ab_sz k ≤ 112 := by decide +kernel
  have hs112 := hsm h.1 h70
  refine W.anew hx hb hown (hts _ (ab_T_of _ (ab_ck_at _ hck) rfl)) (va_AO.use hE.2.2.2.2.2.2) rfl hd rfl hn (by rw [hN]; omega) (by omega) (by rw [hN]; omega) fun cA kA comp f1 f2 f3 f4 => ?_
  rw [hN]
  refine W.cs (cells' := h.1 + 1 - h0.1) (slots' := ab_sl (h.1 + 1) - ab_sl h0.1) (by omega) (by omega) ?_
  generalize hH1 : H.push ({ cls := cA, slots := Array.replicate (ab_sz h.1) .null, vm := .none } : Cell) = H1
  have z1 : H1.size = H.size + 1 := by rw [← hH1, Array.size_push]
  have e1 : H1[H.size]? = some (arrV cA (ab_sz h.1) (fun _ => .null)) := by rw [← hH1, Array.getElem?_push_size, ← arrV_new]
  have o1 : ∀ q : Nat, q < H.size → H1[q]? = H[q]? := fun q hq => by rw [← hH1, Array.getElem?_push, if_neg (Nat.ne_of_lt hq)]
  have hcA : cA = cF := by
    obtain ⟨kB, cB, b1, b2, b3, b4⟩ := (hE.1.2 1 _ rfl).2
    exact Option.some.inj (f1.symm.trans b4)
  subst hcA
  have := kk H1 locs (ab_push_ok hR h70 z1 o1 (by
    show H1[H.size]? = some (vp_cell cA (ab_sz h.1, .inr (.inr (.inr (.inr (fun _ => none))))))
    rw [e1]; rfl)) (ab_S_push hS z1 o1)
  rw [show ab_v G (vR (ab_bk h.1) (ab_of h.1)) = .ref H.size from congrArg Value.ref (ab_next_ad G hR h70)] at this
  exact this
end AbMore
end
section
section AbCalls
variable {j : MI} {d : Nat} {E : Nat × (Nat → Int32)} {h0 : AH} {cap : Nat} {Q : Option AV → AH → Prop} {K : List IE → Lv → List AV → AH → Prop}
variable {p : Program} {l : Launch} {ev : Env} {R : Room} {s : State} {m : MethodId} {args : Array Value} {below : List Frame} {meth : Method} {c : Code} {G : AG} {D : va_G} {cI cF : ClassId} {Z : State → Prop} {H : Heap} {locs : List Loc} {ls : Array Slot}
variable {pc : Nat} {lv : Lv} {st : List AV} {h h' : AH} {tl : List IE} {y : MethodName} {v : Option AV}
theorem ab_vs_rev (G : AG) (As rest : List AV) (w : AV) : ab_vs G (As.reverse ++ w :: rest) = (ab_vs G As).reverse ++ ab_v G w :: ab_vs G rest := by
  simp [ab_vs, List.map_append, List.map_reverse]
theorem ab_vs_rev0 (G : AG) (As rest : List AV) : ab_vs G (As.reverse ++ rest) = (ab_vs G As).reverse ++ ab_vs G rest := by
  simp [ab_vs, List.map_append, List.map_reverse]
theorem ab_vs_to (G : AG) (v : Option AV) (rest : List AV) : (v.map (ab_v G)).toList ++ ab_vs G rest = ab_vs G (v.toList ++ rest) := by
  cases v <;> rfl
/-- the callee's start, out of the caller's state -/
theorem ab_pre (X : ab_X j d E h0 cap Q p l ev R s m args below meth c G D cI cF Z) (hR : ab_R G D cI cF h H) (hS : va_S (ab_A G) s.heap H locs) (a : List AV) : ∀ U : State, U.heap = H → s.WarmedH U.vm → ab_Pc G D cI cF E a h (ab_vs G a).toArray U := by
  intro U hU hW
  obtain ⟨⟨-, -, -, -, -, hE⟩, -⟩ := X
  exact ⟨rfl, by rw [hU]; exact hR, hE.call hW (fun q h1 h2 => by rw [hU]; exact hS.2.1 q h1 h2) (by rw [hU, hR.2.1]; exact Nat.le_add_right _ _)⟩
/-- room for the call, and the count behind it -/
theorem ab_fits (X : ab_X j d E h0 cap Q p l ev R s m args below meth c G D cI cF Z) (hb1 : h0.1 ≤ h.1) (hh : h.1 ≤ h'.1) (hc : h'.1 ≤ cap) : h.1 - h0.1 + (h'.1 - h.1) ≤ R.cells ∧ ab_sl h.1 - ab_sl h0.1 + (ab_sl h'.1 - ab_sl h.1) ≤ R.slots := by
  obtain ⟨-, ⟨-, -, hcl, hsl, -⟩, -⟩ := X
  have m1 := ab_sl_le hb1
  have m2 := ab_sl_le hh
  have m3 := ab_sl_le hc
  omega
theorem ab_s_callV (X : ab_X j d E h0 cap Q p l ev R s m args below meth c G D cI cF Z) (hR : ab_R G D cI cF h H) (hS : va_S (ab_A G) s.heap H locs) (hl : ls.size = j.2.2.1) (hb1 : h0.1 ≤ h.1) (hc : h'.1 ≤ cap) {b o ci i pl : Nat} {fs As rest : List AV} (hk : ab_ok h b o) (hg : ab_get h b o = .inl (ci, fs)) (hci : ab_cn ci = y.cls ∧ ci < 6) (hcat : ab_cat rest ≤ 8) (hm : (j.1, i, y, pl) ∈ ab_ml) (hdesc : (parseMethodDescriptor y.desc).map (fun d => d.parameters.length) = some As.length) (hC : ab_Ex d 0 y (vR b o :: As) h v h') (hd : decode j.2.1 pc = .ok (.invokevirtual i, 3))
    (kk : ∀ (H1 : Heap) (locs1 : List Loc), ab_R G D cI cF h' H1 → va_S (ab_A G) s.heap H1 locs1 → W p l ev R s m args below meth c H1 locs1 (h'.1 - h0.1) (ab_sl h'.1 - ab_sl h0.1) Z (F0 m (pc + 3) ls (ab_vs G (v.toList ++ rest)))) : W p l ev R s m args below meth c H locs (h.1 - h0.1) (ab_sl h.1 - ab_sl h0.1) Z (F0 m pc ls (ab_vs G (As.reverse ++ vR b o :: rest))) := by
  obtain ⟨cc, mL, ret, ⟨f1, f2, f3, f4, f5, f6⟩, hh, hM⟩ := hC
  have hfit := ab_fits X hb1 hh hc
  have hpre := ab_pre X hR hS (vR b o :: As)
  obtain ⟨⟨hx, hb, hml, hown, hts, hE⟩, ⟨hfr, hlo, -⟩, -⟩ := X
  rw [ab_vs_rev]
  have he := ab_ws_at (G := G) (cI := cI) (cF := cF) hk
  rw [hg] at he
  obtain ⟨q', g0, cell, g1, g2, g3, -⟩ := hR.1 _ _ he
  have hGd : GoodIn ab_T (wsV (ab_cn j.1) i y.cls y (Cond.code y cc mL ret :: ab_T)) := by
    intro w hw
    unfold wsV at hw
    rcases List.mem_append.mp hw with hw | hw
    · simp only [List.mem_cons, List.not_mem_nil, or_false] at hw
      rcases hw with rfl | rfl | rfl | rfl
      · exact ab_T_good _ (ab_T_of _ (ab_ml_at _ hm) rfl)
      · exact ab_T_good _ f5
      · exact ab_T_good _ f6
      · exact ab_T_good _ f2
    · rcases List.mem_cons.mp hw with rfl | hw
      · exact ab_T_good _ f1
      · exact ab_T_good _ hw
  refine ab_ret (mc := h'.1 - h.1) (ms := ab_sl h'.1 - ab_sl h.1) (v := v) (h' := h') (va_runV (Ts := ab_T) (own := ab_cn j.1) (C := y.cls) (As := ab_vs G As) (rest := ab_vs G rest) ⟨hx, hb, hml, hown, hts⟩ (hM l G D cI cF E) (cwV As.length hts hGd rfl rfl rfl ⟨rfl, f3.1, f3.2, hdesc⟩ ⟨hfr, ?_⟩) ⟨ab_Pc.blind, ⟨cell, g1, by rw [g3]; rfl, ?_⟩, hpre⟩ rfl (by simp [ab_vs]) hl rfl (lv_room (by rw [ab_cat_eq]; exact hcat)) hd hfit) hS ?_
  · show 8 + (mL + 11) + 64 * d ≤ R.locals
    omega
  · rw [g2, ← hci.1]
    exact (hE.1.1 ci _ (ab_vw hci.2)).2.1
  · intro H1 locs1 r1 s1
    have m1 := ab_sl_le hb1
    have m2 := ab_sl_le hh
    rw [ab_vs_to]
    exact W.cs (by omega) (by omega) (kk H1 locs1 r1 s1)
theorem ab_s_callS (X : ab_X j d E h0 cap Q p l ev R s m args below meth c G D cI cF Z) (hR : ab_R G D cI cF h H) (hS : va_S (ab_A G) s.heap H locs) (hl : ls.size = j.2.2.1) (hb1 : h0.1 ≤ h.1) (hc : h'.1 ≤ cap) {i pl : Nat} {As rest : List AV} (hcat : ab_cat rest ≤ 8) (hm : (j.1, i, y, pl) ∈ ab_ml) (hdesc : (parseMethodDescriptor y.desc).map (fun d => d.parameters.length) = some As.length) (hC : ab_Ex d 1 y As h v h') (hd : decode j.2.1 pc = .ok (.invokestatic i, 3))
    (kk : ∀ (H1 : Heap) (locs1 : List Loc), ab_R G D cI cF h' H1 → va_S (ab_A G) s.heap H1 locs1 → W p l ev R s m args below meth c H1 locs1 (h'.1 - h0.1) (ab_sl h'.1 - ab_sl h0.1) Z (F0 m (pc + 3) ls (ab_vs G (v.toList ++ rest)))) : W p l ev R s m args below meth c H locs (h.1 - h0.1) (ab_sl h.1 - ab_sl h0.1) Z (F0 m pc ls (ab_vs G (As.reverse ++ rest))) := by
  obtain ⟨cc, mL, ret, ⟨f1, f2, f3, f4, f5⟩, hh, hM⟩ := hC
  have hfit := ab_fits X hb1 hh hc
  have hpre := ab_pre X hR hS As
  obtain ⟨⟨hx, hb, hml, hown, hts, hE⟩, ⟨hfr, hlo, -⟩, -⟩ := X
  rw [ab_vs_rev0]
  have hGd : GoodIn ab_T (va_wsS (ab_cn j.1) i y (Cond.code y cc mL ret :: ab_T)) := by
    intro w hw
    unfold va_wsS at hw
    rcases List.mem_append.mp hw with hw | hw
    · simp only [List.mem_cons, List.not_mem_nil, or_false] at hw
      rcases hw with rfl | rfl | rfl
      · exact ab_T_good _ (ab_T_of _ (ab_ml_at _ hm) rfl)
      · exact ab_T_good _ f5
      · exact ab_T_good _ f2
    · rcases List.mem_cons.mp hw with rfl | hw
      · exact ab_T_good _ f1
      · exact ab_T_good _ hw
  refine ab_ret (mc := h'.1 - h.1) (ms := ab_sl h'.1 - ab_sl h.1) (v := v) (h' := h') (va_runS (Ts := ab_T) (own := ab_cn j.1) (As := ab_vs G As) (rest := ab_vs G rest) ⟨hx, hb, hml, hown, hts⟩ (hM l G D cI cF E) (va_cwS As.length hts hGd rfl rfl rfl ⟨f3.1, f3.2, hdesc⟩ ⟨hfr, ?_⟩) ⟨ab_Pc.blind, hpre⟩ rfl (by simp [ab_vs]) hl rfl (lv_room (by rw [ab_cat_eq]; exact hcat)) hd hfit) hS ?_
  · show 8 + (mL + 11) + 64 * d ≤ R.locals
    omega
  · intro H1 locs1 r1 s1
    have m1 := ab_sl_le hb1
    have m2 := ab_sl_le hh
    rw [ab_vs_to]
    exact W.cs (by omega) (by omega) (kk H1 locs1 r1 s1)
theorem ab_s_callN (X : ab_X j d E h0 cap Q p l ev R s m args below meth c G D cI cF Z) (hR : ab_R G D cI cF h H) (hS : va_S (ab_A G) s.heap H locs) (hl : ls.size = j.2.2.1) (hb1 : h0.1 ≤ h.1) (hc : h'.1 ≤ cap) {i pl : Nat} {As rest : List AV} (hcat : ab_cat rest ≤ 8) (hm : (j.1, i, y, pl) ∈ ab_nest) (hdesc : (parseMethodDescriptor y.desc).map (fun d => d.parameters.length) = some As.length) (hC : ab_Ex d 1 y As h v h') (hd : decode j.2.1 pc = .ok (.invokestatic i, 3))
    (kk : ∀ (H1 : Heap) (locs1 : List Loc), ab_R G D cI cF h' H1 → va_S (ab_A G) s.heap H1 locs1 → W p l ev R s m args below meth c H1 locs1 (h'.1 - h0.1) (ab_sl h'.1 - ab_sl h0.1) Z (F0 m (pc + 3) ls (ab_vs G (v.toList ++ rest)))) : W p l ev R s m args below meth c H locs (h.1 - h0.1) (ab_sl h.1 - ab_sl h0.1) Z (F0 m pc ls (ab_vs G (As.reverse ++ rest))) := by
  obtain ⟨cc, mL, ret, ⟨f1, f2, f3, f4, f5⟩, hh, hM⟩ := hC
  have hfit := ab_fits X hb1 hh hc
  have hpre := ab_pre X hR hS As
  obtain ⟨⟨hx, hb, hml, hown, hts, hE⟩, ⟨hfr, hlo, -⟩, -⟩ := X
  rw [ab_vs_rev0]
  have hGd : GoodIn ab_T (Cond.code y cc mL ret :: ab_T) := by
    intro w hw
    rcases List.mem_cons.mp hw with rfl | hw
    · exact ab_T_good _ f1
    · exact ab_T_good _ hw
  refine ab_ret (mc := h'.1 - h.1) (ms := ab_sl h'.1 - ab_sl h.1) (v := v) (h' := h') (va_runSN (Ts := ab_T) (own := ab_cn j.1) (As := ab_vs G As) (rest := ab_vs G rest) ⟨hx, hb, hml, hown, hts⟩ (hM l G D cI cF E) ⟨va_cnB As.length hts hGd rfl rfl rfl (hE.2.2.2.2.2.1 _ hm) (hts _ f2) ⟨f3.1, f3.2, hdesc⟩ ⟨hfr, ?_⟩, hts _ f5, trivial⟩ ⟨ab_Pc.blind, hpre⟩ rfl (by simp [ab_vs]) hl rfl (lv_room (by rw [ab_cat_eq]; exact hcat)) hd hfit) hS ?_
  · show 8 + (mL + 11) + 64 * d ≤ R.locals
    omega
  · intro H1 locs1 r1 s1
    have m1 := ab_sl_le hb1
    have m2 := ab_sl_le hh
    rw [ab_vs_to]
    exact W.cs (by omega) (by omega) (kk H1 locs1 r1 s1)
theorem ab_s_callI (X : ab_X j d E h0 cap Q p l ev R s m args below meth c G D cI cF Z) (hR : ab_R G D cI cF h H) (hS : va_S (ab_A G) s.heap H locs) (hl : ls.size = j.2.2.1) (hb1 : h0.1 ≤ h.1) (hc : h'.1 ≤ cap) {b o i pl : Nat} {As rest : List AV} (hcat : ab_cat rest ≤ 8) (hm : (j.1, i, y, pl) ∈ ab_ml) (hdesc : (parseMethodDescriptor y.desc).map (fun d => d.parameters.length) = some As.length) (hC : ab_Ex d 2 y (vR b o :: As) h v h') (hd : decode j.2.1 pc = .ok (.invokespecial i, 3))
    (kk : ∀ (H1 : Heap) (locs1 : List Loc), ab_R G D cI cF h' H1 → va_S (ab_A G) s.heap H1 locs1 → W p l ev R s m args below meth c H1 locs1 (h'.1 - h0.1) (ab_sl h'.1 - ab_sl h0.1) Z (F0 m (pc + 3) ls (ab_vs G (v.toList ++ rest)))) : W p l ev R s m args below meth c H locs (h.1 - h0.1) (ab_sl h.1 - ab_sl h0.1) Z (F0 m pc ls (ab_vs G (As.reverse ++ vR b o :: rest))) := by
  obtain ⟨cc, mL, ret, ⟨f1, f2, f3, f4, f5, f6, f7⟩, hh, hM⟩ := hC
  subst f7
  have hfit := ab_fits X hb1 hh hc
  have hpre := ab_pre X hR hS (vR b o :: As)
  obtain ⟨⟨hx, hb, hml, hown, hts, hE⟩, ⟨hfr, hlo, -⟩, -⟩ := X
  rw [ab_vs_rev]
  have hGd : GoodIn ab_T (Cond.code y cc mL none :: ab_T) := by
    intro w hw
    rcases List.mem_cons.mp hw with rfl | hw
    · exact ab_T_good _ f1
    · exact ab_T_good _ hw
  refine ab_ret (mc := h'.1 - h.1) (ms := ab_sl h'.1 - ab_sl h.1) (v := v) (h' := h') (va_runI (Ts := ab_T) (own := ab_cn j.1) (As := ab_vs G As) (rest := ab_vs G rest) ⟨hx, hb, hml, hown, hts⟩ (hM l G D cI cF E) ⟨callB_of As.length hts hGd rfl rfl rfl (hts _ f2) (hts _ (ab_T_of _ (ab_ml_at _ hm) rfl)) ⟨f3.1, f3.2, hdesc⟩ ⟨hfr, ?_⟩, f6, hts _ f5⟩ ⟨ab_Pc.blind, hpre⟩ rfl (by simp [ab_vs]) hl rfl (lv_room (by rw [ab_cat_eq]; exact hcat)) hd hfit) hS ?_
  · show 8 + (mL + 11) + 64 * d ≤ R.locals
    omega
  · intro H1 locs1 r1 s1
    have m1 := ab_sl_le hb1
    have m2 := ab_sl_le hh
    rw [ab_vs_to]
    exact W.cs (by omega) (by omega) (kk H1 locs1 r1 s1)
end AbCalls
end
section
theorem ab_Ex_le {d kd : Nat} {y : MethodName} {a : List AV} {h h' : AH} {v : Option AV} (hC : ab_Ex d kd y a h v h') : h.1 ≤ h'.1 := by
  obtain ⟨_, _, _, _, hh, _⟩ := hC
  exact hh
theorem ab_new_spec {cap : Nat} {h : AH} {n : Nat} {ce : AC} {k : AV → AH → Prop} (hc : ab_new cap h n ce k) : h.1 < cap ∧ ab_sz h.1 = n ∧ k (vR (ab_bk h.1) (ab_of h.1)) (ab_push h ce) := by
  unfold ab_new at hc
  split at hc
  · rename_i h1
    split at hc
    · rename_i h2
      rw [ab_lset_eq] at hc
      exact ⟨Nat.le_of_ble_eq_true h1, Nat.eq_of_beq_eq_true h2, hc⟩
    · exact hc.elim
  · exact hc.elim
def ab_finB (k i : Nat) : Bool := (decide (ab_fin k i = vI 0) && !(ab_TT k i).2.2.2 && decide (ab_ty k i = .int)) || (decide (ab_fin k i = vI 1) && !(ab_TT k i).2.2.2 && decide (ab_ty k i = .boolean)) || (decide (ab_fin k i = vI 2) && (ab_TT k i).2.2.2 && (ab_ty k i).isReference && decide ((ab_TT k i).1 = ab_cn k))
theorem ab_finB_all : ∀ k, k < 6 → ∀ i, i < ab_NN k → ab_finB k i = true := by decide +kernel
theorem ab_fin_or {k i : Nat} (hk : k < 6) (hi : i < ab_NN k) : (ab_fin k i = vI 0 ∧ (ab_TT k i).2.2.2 = false ∧ ab_ty k i = .int) ∨ (ab_fin k i = vI 1 ∧ (ab_TT k i).2.2.2 = false ∧ ab_ty k i = .boolean) ∨ (ab_fin k i = vI 2 ∧ (ab_TT k i).2.2.2 = true ∧ (ab_ty k i).isReference = true ∧ (ab_TT k i).1 = ab_cn k) := by
  have h := ab_finB_all k hk i hi
  simp only [ab_finB, Bool.or_eq_true, Bool.and_eq_true, decide_eq_true_eq, Bool.not_eq_true'] at h
  rcases h with (⟨⟨h1, h2⟩, h3⟩ | ⟨⟨h1, h2⟩, h3⟩) | ⟨⟨⟨h1, h2⟩, h3⟩, h4⟩
  · exact Or.inl ⟨h1, h2, h3⟩
  · exact Or.inr (Or.inl ⟨h1, h2, h3⟩)
  · exact Or.inr (Or.inr ⟨h1, h2, h3, h4⟩)
theorem ab_vI_ne {x z : Int32} (h : x ≠ z) : vI x ≠ vI z := fun e => h (Sum.inl.inj (Option.some.inj e))
theorem ab_fin_0 {k i : Nat} (hk : k < 6) (hi : i < ab_NN k) (h : ab_fin k i = vI 0) : (ab_TT k i).2.2.2 = false ∧ ab_ty k i = .int := by
  rcases ab_fin_or hk hi with h1 | h1 | h1
  · exact h1.2
  · exact absurd (h.symm.trans h1.1) (ab_vI_ne (by decide))
  · exact absurd (h.symm.trans h1.1) (ab_vI_ne (by decide))
theorem ab_fin_1 {k i : Nat} (hk : k < 6) (hi : i < ab_NN k) (h : ab_fin k i = vI 1) : (ab_TT k i).2.2.2 = false ∧ ab_ty k i = .boolean := by
  rcases ab_fin_or hk hi with h1 | h1 | h1
  · exact absurd (h.symm.trans h1.1) (ab_vI_ne (by decide))
  · exact h1.2
  · exact absurd (h.symm.trans h1.1) (ab_vI_ne (by decide))
theorem ab_fin_2 {k i : Nat} (hk : k < 6) (hi : i < ab_NN k) (h : ab_fin k i = vI 2) : (ab_TT k i).2.2.2 = true ∧ (ab_ty k i).isReference = true ∧ (ab_TT k i).1 = ab_cn k := by
  rcases ab_fin_or hk hi with h1 | h1 | h1
  · exact absurd (h.symm.trans h1.1) (ab_vI_ne (by decide))
  · exact absurd (h.symm.trans h1.1) (ab_vI_ne (by decide))
  · exact h1.2
theorem ab_ref_ty {t : FieldType} (h : t.isReference = true) : (∃ n, t = .object n) ∨ ∃ n, t = .array n := by
  cases t <;> first | exact Or.inl ⟨_, rfl⟩ | exact Or.inr ⟨_, rfl⟩ | cases h
set_option maxHeartbeats 4000000 in
set_option maxRecDepth 100000 in
/-- a step of the picture is a step of the machine -/
theorem ab_snd {j : MI} {d : Nat} {E : Nat × (Nat → Int32)} {h0 : AH} {cap : Nat} {Q : Option AV → AH → Prop} {K : List IE → Lv → List AV → AH → Prop} (hg : ab_tab j = true) (hcap : cap ≤ 70)
    (hK : ∀ (cs : List IE) (lv : Lv) (st : List AV) (h : AH), cs <:+ j.2.2.2.2.2 → K cs lv st h → ab_W j d E h0 cap Q cs lv st h) {e : IE} {tl : List IE} (hs : e :: tl <:+ j.2.2.2.2.2) {lv : Lv} {st : List AV} {h : AH}
    (hst : ab_step (ab_Ex d) E j cap Q K e tl lv st h) : ab_W j d E h0 cap Q (e :: tl) lv st h := by
  obtain ⟨hr, hn⟩ := ab_suf hg hs
  have hstl : tl <:+ j.2.2.2.2.2 := (List.suffix_cons e tl).trans hs
  intro p l ev R s m args below meth c G D cI cF Z H locs ls X hR hb1 hb2 hS hl
  refine ⟨e, tl, rfl, ?_⟩
  obtain ⟨pc, ins, len, k, t, u, sw, y⟩ := e
  have nx : ab_Nx j h0 cap K p l ev R s m args below meth c G D cI cF Z tl (pc + len) := by
    intro lv' st' h' H' locs' ls' hk r1 b1 b2 s1 l1
    obtain ⟨i, r, he, hw⟩ := hK tl lv' st' h' hstl hk p l ev R s m args below meth c G D cI cF Z H' locs' ls' X r1 b1 b2 s1 l1
    rw [hn i r he] at hw
    exact hw
  have jp : ∀ (t' : Nat) (lv' : Lv) (st' : List AV), ab_go j.2.2.2.2.2 t' (fun cs => K cs lv' st' h) → lv_has ls j.2.2.1 (ab_lv G lv') → W p l ev R s m args below meth c H locs (h.1 - h0.1) (ab_sl h.1 - ab_sl h0.1) Z (F0 m t' ls (ab_vs G st')) := by
    intro t' lv' st' hgo l1
    obtain ⟨e', r', g1, g2, g3⟩ := ab_go_spec hgo
    obtain ⟨i, r, he, hw⟩ := hK _ lv' st' h g1 g3 p l ev R s m args below meth c G D cI cF Z H locs ls X hR hb1 hb2 hS l1
    cases he
    rw [g2] at hw
    exact hw
  have hx := X.1.1
  have hb := X.1.2.1
  have hml := X.1.2.2.1
  have hown := X.1.2.2.2.1
  have hts := X.1.2.2.2.2.1
  have hfr := X.2.1.1
  have hlo := X.2.1.2.1
  have hcl := X.2.1.2.2.1
  have hsl := X.2.1.2.2.2.1
  have hret0 := X.2.2.1
  have hret1 := X.2.2.2
  have hcells : h.1 - h0.1 ≤ R.cells := by omega
  have hslots : ab_sl h.1 - ab_sl h0.1 ≤ R.slots := by
    have := ab_sl_le hb2
    omega
  rw [ab_res, Bool.and_eq_true, decide_eq_true_eq] at hr
  obtain ⟨hd, hr2⟩ := hr
  cases ins
  all_goals try exact (show False from hst).elim

  case iconst n =>
    simp only [ab_res2, Bool.and_eq_true, decide_eq_true_eq] at hr2
    obtain ⟨rfl, rfl⟩ := hr2
    exact lv_iconst hx hb hd rfl (nx lv (_ :: st) h _ _ _ hst hR hb1 hb2 hS hl)
  case bipush n =>
    simp only [ab_res2, Bool.and_eq_true, decide_eq_true_eq] at hr2
    obtain ⟨rfl, rfl⟩ := hr2
    exact lv_bipush hx hb hd rfl (nx lv (_ :: st) h _ _ _ hst hR hb1 hb2 hS hl)
  case sipush n =>
    simp only [ab_res2, Bool.and_eq_true, decide_eq_true_eq] at hr2
    obtain ⟨rfl, rfl⟩ := hr2
    exact lv_sipush hx hb hd rfl (nx lv (_ :: st) h _ _ _ hst hR hb1 hb2 hS hl)
  case ldc i =>
    simp only [ab_res2, Bool.and_eq_true, decide_eq_true_eq] at hr2
    obtain ⟨rfl, hr2⟩ := hr2
    split at hr2
    · rename_i x
      obtain ⟨q, hq, hq2⟩ := ab_any hr2
      simp only [decide_eq_true_eq] at hq2
      obtain ⟨e1, e2, e3⟩ := hq2
      have hw := ab_kI_at q hq
      rw [e1, e2, e3] at hw
      exact lv_ldc hx hb hown (hts _ (ab_T_of _ hw rfl)) hd (nx lv (_ :: st) h _ _ _ hst hR hb1 hb2 hS hl)
    · exact absurd hr2 (by decide)
  case ldc2_w i =>
    simp only [ab_res2, Bool.and_eq_true, decide_eq_true_eq] at hr2
    obtain ⟨rfl, hr2⟩ := hr2
    split at hr2
    · rename_i x
      obtain ⟨q, hq, hq2⟩ := ab_any hr2
      simp only [decide_eq_true_eq] at hq2
      obtain ⟨e1, e2, e3⟩ := hq2
      have hw := ab_kL_at q hq
      rw [e1, e2, e3] at hw
      exact lv_ldc2 hx hb hown (hts _ (ab_T_of _ hw rfl)) hd (nx lv (_ :: st) h _ _ _ hst hR hb1 hb2 hS hl)
    · exact absurd hr2 (by decide)
  case iload i =>
    simp only [ab_res2, Bool.and_eq_true, decide_eq_true_eq] at hr2
    obtain rfl := hr2
    dsimp only [ab_step] at hst
    split at hst
    · rename_i x he
      exact lv_iload hx hb hd (ab_ld_at hl he) (nx lv (vI x :: st) h _ _ _ hst hR hb1 hb2 hS hl)
    · exact hst.elim
  case iload_n i =>
    simp only [ab_res2, Bool.and_eq_true, decide_eq_true_eq] at hr2
    obtain rfl := hr2
    dsimp only [ab_step] at hst
    split at hst
    · rename_i x he
      exact lv_iload_n hx hb hd rfl (ab_ld_at hl he) (nx lv (vI x :: st) h _ _ _ hst hR hb1 hb2 hS hl)
    · exact hst.elim
  case aload i =>
    simp only [ab_res2, Bool.and_eq_true, decide_eq_true_eq] at hr2
    obtain rfl := hr2
    dsimp only [ab_step] at hst
    split at hst
    · rename_i x he
      exact lv_aload hx hb hd (ab_ld_at hl he) (nx lv (vR x.1 x.2 :: st) h _ _ _ hst hR hb1 hb2 hS hl)
    · exact hst.elim
  case aload_n i =>
    simp only [ab_res2, Bool.and_eq_true, decide_eq_true_eq] at hr2
    obtain rfl := hr2
    dsimp only [ab_step] at hst
    split at hst
    · rename_i x he
      exact lv_aload_n hx hb hd rfl (ab_ld_at hl he) (nx lv (vR x.1 x.2 :: st) h _ _ _ hst hR hb1 hb2 hS hl)
    · exact hst.elim
  case lload i =>
    simp only [ab_res2, Bool.and_eq_true, decide_eq_true_eq] at hr2
    obtain rfl := hr2
    dsimp only [ab_step] at hst
    split at hst
    · rename_i x he
      exact lv_lload hx hb hd (ab_ld_at hl he) (nx lv (vL x :: st) h _ _ _ hst hR hb1 hb2 hS hl)
    · exact hst.elim
  case lload_n i =>
    simp only [ab_res2, Bool.and_eq_true, decide_eq_true_eq] at hr2
    obtain rfl := hr2
    dsimp only [ab_step] at hst
    split at hst
    · rename_i x he
      exact lv_lload_n hx hb hd rfl (ab_ld_at hl he) (nx lv (vL x :: st) h _ _ _ hst hR hb1 hb2 hS hl)
    · exact hst.elim
  case istore i =>
    simp only [ab_res2, Bool.and_eq_true, decide_eq_true_eq] at hr2
    obtain ⟨rfl, hi⟩ := hr2
    dsimp only [ab_step] at hst
    split at hst
    · rename_i x s'
      rw [ab_nrm_eq] at hst
      refine lv_istore hx hb hd hl hi (lv' := ab_lv G ((i, vI x) :: ab_rm lv i)) (by rw [ab_rm_eq]; rfl) (fun ls' hl' => ?_)
      exact nx _ s' h _ _ _ hst hR hb1 hb2 hS hl'
    · exact hst.elim
  case istore_n i =>
    simp only [ab_res2, Bool.and_eq_true, decide_eq_true_eq] at hr2
    obtain ⟨rfl, hi⟩ := hr2
    dsimp only [ab_step] at hst
    split at hst
    · rename_i x s'
      rw [ab_nrm_eq] at hst
      refine lv_istore_n hx hb hd rfl hl hi (lv' := ab_lv G ((i.val, vI x) :: ab_rm lv i.val)) (by rw [ab_rm_eq]; rfl) (fun ls' hl' => ?_)
      exact nx _ s' h _ _ _ hst hR hb1 hb2 hS hl'
    · exact hst.elim
  case astore i =>
    simp only [ab_res2, Bool.and_eq_true, decide_eq_true_eq] at hr2
    obtain ⟨rfl, hi⟩ := hr2
    dsimp only [ab_step] at hst
    split at hst
    · rename_i x s'
      rw [ab_nrm_eq] at hst
      refine lv_astore hx hb hd hl hi (lv' := ab_lv G ((i, vR x.1 x.2) :: ab_rm lv i)) (by rw [ab_rm_eq]; rfl) (fun ls' hl' => ?_)
      exact nx _ s' h _ _ _ hst hR hb1 hb2 hS hl'
    · exact hst.elim
  case astore_n i =>
    simp only [ab_res2, Bool.and_eq_true, decide_eq_true_eq] at hr2
    obtain ⟨rfl, hi⟩ := hr2
    dsimp only [ab_step] at hst
    split at hst
    · rename_i x s'
      rw [ab_nrm_eq] at hst
      refine lv_astore_n hx hb hd rfl hl hi (lv' := ab_lv G ((i.val, vR x.1 x.2) :: ab_rm lv i.val)) (by rw [ab_rm_eq]; rfl) (fun ls' hl' => ?_)
      exact nx _ s' h _ _ _ hst hR hb1 hb2 hS hl'
    · exact hst.elim
  case iinc i n =>
    simp only [ab_res2, Bool.and_eq_true, decide_eq_true_eq] at hr2
    obtain ⟨⟨rfl, hi⟩, rfl⟩ := hr2
    dsimp only [ab_step] at hst
    split at hst
    · rename_i x he
      rw [ab_nrm_eq] at hst
      have hmem : (i, Value.int x) ∈ ab_lv G lv := List.mem_map.mpr ⟨(i, vI x), ab_ld_mem he, rfl⟩
      obtain ⟨kk, hkk⟩ := List.getElem?_of_mem hmem
      refine lv_iinc (v := x + Int32.ofInt n) hx hb hd hl hkk rfl hi (lv' := ab_lv G ((i, vI (x + Int32.ofInt n)) :: ab_rm lv i)) (by rw [ab_rm_eq]; rfl) (fun ls' hl' => ?_)
      exact nx _ st h _ _ _ hst hR hb1 hb2 hS hl'
    · exact hst.elim
  case iadd =>
    simp only [ab_res2, Bool.and_eq_true, decide_eq_true_eq] at hr2
    obtain rfl := hr2
    dsimp only [ab_step] at hst
    split at hst
    · rename_i z x s'
      exact lv_iadd hx hb hd (nx lv (vI (x + z) :: s') h _ _ _ hst hR hb1 hb2 hS hl)
    · exact hst.elim
  case isub =>
    simp only [ab_res2, Bool.and_eq_true, decide_eq_true_eq] at hr2
    obtain rfl := hr2
    dsimp only [ab_step] at hst
    split at hst
    · rename_i z x s'
      exact lv_isub hx hb hd (nx lv (vI (x - z) :: s') h _ _ _ hst hR hb1 hb2 hS hl)
    · exact hst.elim
  case imul =>
    simp only [ab_res2, Bool.and_eq_true, decide_eq_true_eq] at hr2
    obtain rfl := hr2
    dsimp only [ab_step] at hst
    split at hst
    · rename_i z x s'
      exact lv_imul hx hb hd (nx lv (vI (x * z) :: s') h _ _ _ hst hR hb1 hb2 hS hl)
    · exact hst.elim
  case iand =>
    simp only [ab_res2, Bool.and_eq_true, decide_eq_true_eq] at hr2
    obtain rfl := hr2
    dsimp only [ab_step] at hst
    split at hst
    · rename_i z x s'
      exact lv_iand hx hb hd (nx lv (vI (x &&& z) :: s') h _ _ _ hst hR hb1 hb2 hS hl)
    · exact hst.elim
  case ior =>
    simp only [ab_res2, Bool.and_eq_true, decide_eq_true_eq] at hr2
    obtain rfl := hr2
    dsimp only [ab_step] at hst
    split at hst
    · rename_i z x s'
      exact lv_ior hx hb hd (nx lv (vI (x ||| z) :: s') h _ _ _ hst hR hb1 hb2 hS hl)
    · exact hst.elim
  case ishl =>
    simp only [ab_res2, Bool.and_eq_true, decide_eq_true_eq] at hr2
    obtain rfl := hr2
    dsimp only [ab_step] at hst
    split at hst
    · rename_i z x s'
      exact lv_ishl hx hb hd (nx lv (vI (x <<< (z &&& 31)) :: s') h _ _ _ hst hR hb1 hb2 hS hl)
    · exact hst.elim
  case ishr =>
    simp only [ab_res2, Bool.and_eq_true, decide_eq_true_eq] at hr2
    obtain rfl := hr2
    dsimp only [ab_step] at hst
    split at hst
    · rename_i z x s'
      exact lv_ishr hx hb hd (nx lv (vI (x >>> (z &&& 31)) :: s') h _ _ _ hst hR hb1 hb2 hS hl)
    · exact hst.elim
  case land =>
    simp only [ab_res2, Bool.and_eq_true, decide_eq_true_eq] at hr2
    obtain rfl := hr2
    dsimp only [ab_step] at hst
    split at hst
    · rename_i z x s'
      exact lv_land hx hb hd (nx lv (vL (x &&& z) :: s') h _ _ _ hst hR hb1 hb2 hS hl)
    · exact hst.elim
  case lor =>
    simp only [ab_res2, Bool.and_eq_true, decide_eq_true_eq] at hr2
    obtain rfl := hr2
    dsimp only [ab_step] at hst
    split at hst
    · rename_i z x s'
      exact lv_lor hx hb hd (nx lv (vL (x ||| z) :: s') h _ _ _ hst hR hb1 hb2 hS hl)
    · exact hst.elim
  case idiv =>
    simp only [ab_res2, Bool.and_eq_true, decide_eq_true_eq] at hr2
    obtain rfl := hr2
    dsimp only [ab_step] at hst
    split at hst
    · rename_i z x s'
      exact lv_idiv hx hb hd hst.1 (nx lv (vI (x / z) :: s') h _ _ _ hst.2 hR hb1 hb2 hS hl)
    · exact hst.elim
  case irem =>
    simp only [ab_res2, Bool.and_eq_true, decide_eq_true_eq] at hr2
    obtain rfl := hr2
    dsimp only [ab_step] at hst
    split at hst
    · rename_i z x s'
      exact lv_irem hx hb hd hst.1 (nx lv (vI (ab_rem x z) :: s') h _ _ _ hst.2 hR hb1 hb2 hS hl)
    · exact hst.elim
  case ineg =>
    simp only [ab_res2, Bool.and_eq_true, decide_eq_true_eq] at hr2
    obtain rfl := hr2
    dsimp only [ab_step] at hst
    split at hst
    · rename_i x s'
      exact lv_ineg hx hb hd (nx lv (vI (-x) :: s') h _ _ _ hst hR hb1 hb2 hS hl)
    · exact hst.elim
  case i2l =>
    simp only [ab_res2, Bool.and_eq_true, decide_eq_true_eq] at hr2
    obtain rfl := hr2
    dsimp only [ab_step] at hst
    split at hst
    · rename_i x s'
      exact lv_i2l hx hb hd rfl (nx lv (vL x.toInt64 :: s') h _ _ _ hst hR hb1 hb2 hS hl)
    · exact hst.elim
  case l2i =>
    simp only [ab_res2, Bool.and_eq_true, decide_eq_true_eq] at hr2
    obtain rfl := hr2
    dsimp only [ab_step] at hst
    split at hst
    · rename_i x s'
      exact lv_l2i hx hb hd rfl (nx lv (vI x.toInt32 :: s') h _ _ _ hst hR hb1 hb2 hS hl)
    · exact hst.elim
  case lshl =>
    simp only [ab_res2, Bool.and_eq_true, decide_eq_true_eq] at hr2
    obtain rfl := hr2
    dsimp only [ab_step] at hst
    split at hst
    · rename_i z x s'
      exact lv_lshl hx hb hd rfl (nx lv (vL _ :: s') h _ _ _ hst hR hb1 hb2 hS hl)
    · exact hst.elim
  case lshr =>
    simp only [ab_res2, Bool.and_eq_true, decide_eq_true_eq] at hr2
    obtain rfl := hr2
    dsimp only [ab_step] at hst
    split at hst
    · rename_i z x s'
      exact lv_lshr hx hb hd rfl (nx lv (vL _ :: s') h _ _ _ hst hR hb1 hb2 hS hl)
    · exact hst.elim
  case lushr =>
    simp only [ab_res2, Bool.and_eq_true, decide_eq_true_eq] at hr2
    obtain rfl := hr2
    dsimp only [ab_step] at hst
    split at hst
    · rename_i z x s'
      exact lv_lushr hx hb hd rfl (nx lv (vL _ :: s') h _ _ _ hst hR hb1 hb2 hS hl)
    · exact hst.elim
  case dup =>
    simp only [ab_res2, Bool.and_eq_true, decide_eq_true_eq] at hr2
    obtain rfl := hr2
    dsimp only [ab_step] at hst
    split at hst
    · rename_i v' s'
      split at hst
      · exact hst.elim
      · rename_i hc2
        exact lv_dup hx hb hd (by rw [ab_v_cat, hc2]; rfl) (nx lv (v' :: v' :: s') h _ _ _ hst hR hb1 hb2 hS hl)
    · exact hst.elim
  case dup2 =>
    simp only [ab_res2, Bool.and_eq_true, decide_eq_true_eq] at hr2
    obtain rfl := hr2
    dsimp only [ab_step] at hst
    split at hst
    · rename_i v' w' s'
      split at hst
      · exact hst.elim
      · rename_i hc2
        split at hst
        · exact hst.elim
        · rename_i hc3
          exact lv_dup2_11 hx hb hd (by rw [ab_v_cat, hc2]; rfl) (by rw [ab_v_cat, hc3]; rfl) (nx lv (v' :: w' :: v' :: w' :: s') h _ _ _ hst hR hb1 hb2 hS hl)
    · exact hst.elim
  case pop =>
    simp only [ab_res2, Bool.and_eq_true, decide_eq_true_eq] at hr2
    obtain rfl := hr2
    dsimp only [ab_step] at hst
    split at hst
    · rename_i v' s'
      split at hst
      · exact hst.elim
      · rename_i hc2
        exact lv_pop hx hb hd (by rw [ab_v_cat, hc2]; rfl) (nx lv s' h _ _ _ hst hR hb1 hb2 hS hl)
    · exact hst.elim
  case goto off =>
    simp only [ab_res2, ab_tg, Bool.and_eq_true, decide_eq_true_eq] at hr2
    obtain ⟨rfl, ht⟩ := hr2
    exact lv_goto hx hb hd ht (jp t lv st hst hl)
  case ifCond cd off =>
    simp only [ab_res2, ab_tg, Bool.and_eq_true, decide_eq_true_eq] at hr2
    obtain ⟨rfl, ht⟩ := hr2
    dsimp only [ab_step] at hst
    split at hst
    · rename_i x s'
      cases cd
      case eq => exact lv_if_eq hx hb hd ht (fun q => jp t lv s' (hst.1 q) hl) (fun q => nx lv s' h _ _ _ (hst.2 q) hR hb1 hb2 hS hl)
      case ne => exact lv_if_ne hx hb hd ht (fun q => jp t lv s' (hst.1 q) hl) (fun q => nx lv s' h _ _ _ (hst.2 q) hR hb1 hb2 hS hl)
      case lt => exact lv_if_lt hx hb hd ht (fun q => jp t lv s' (hst.1 q) hl) (fun q => nx lv s' h _ _ _ (hst.2 q) hR hb1 hb2 hS hl)
      case ge => exact lv_if_ge hx hb hd ht (fun q => jp t lv s' (hst.1 q) hl) (fun q => nx lv s' h _ _ _ (hst.2 q) hR hb1 hb2 hS hl)
      case gt => exact lv_if_gt hx hb hd ht (fun q => jp t lv s' (hst.1 q) hl) (fun q => nx lv s' h _ _ _ (hst.2 q) hR hb1 hb2 hS hl)
      case le => exact lv_if_le hx hb hd ht (fun q => jp t lv s' (hst.1 q) hl) (fun q => nx lv s' h _ _ _ (hst.2 q) hR hb1 hb2 hS hl)
    · exact hst.elim
  case if_icmp cd off =>
    simp only [ab_res2, ab_tg, Bool.and_eq_true, decide_eq_true_eq] at hr2
    obtain ⟨rfl, ht⟩ := hr2
    dsimp only [ab_step] at hst
    split at hst
    · rename_i z x s'
      cases cd
      case eq => exact lv_icmp_eq hx hb hd ht (fun q => jp t lv s' (hst.1 q) hl) (fun q => nx lv s' h _ _ _ (hst.2 q) hR hb1 hb2 hS hl)
      case ne => exact lv_icmp_ne hx hb hd ht (fun q => jp t lv s' (hst.1 q) hl) (fun q => nx lv s' h _ _ _ (hst.2 q) hR hb1 hb2 hS hl)
      case lt => exact lv_icmp_lt hx hb hd ht (fun q => jp t lv s' (hst.1 q) hl) (fun q => nx lv s' h _ _ _ (hst.2 q) hR hb1 hb2 hS hl)
      case ge => exact lv_icmp_ge hx hb hd ht (fun q => jp t lv s' (hst.1 q) hl) (fun q => nx lv s' h _ _ _ (hst.2 q) hR hb1 hb2 hS hl)
      case gt => exact lv_icmp_gt hx hb hd ht (fun q => jp t lv s' (hst.1 q) hl) (fun q => nx lv s' h _ _ _ (hst.2 q) hR hb1 hb2 hS hl)
      case le => exact lv_icmp_le hx hb hd ht (fun q => jp t lv s' (hst.1 q) hl) (fun q => nx lv s' h _ _ _ (hst.2 q) hR hb1 hb2 hS hl)
    · exact hst.elim
  case tableswitch dflt lo hi offs =>
    simp only [ab_res2, ab_tg, Bool.and_eq_true, decide_eq_true_eq] at hr2
    obtain ⟨⟨ht, hsw⟩, hhi⟩ := hr2
    dsimp only [ab_step] at hst
    split at hst
    · rename_i x s'
      obtain ⟨k1, k2⟩ := ab_tsw_spec hsw hst
      by_cases hxx : x.toInt < lo ∨ hi < x.toInt
      · refine lv_tableOut hx hb hd hxx ht (jp t lv s' (k1 ?_) hl)
        rw [Array.length_toList]
        omega
      · have hlen : (x.toInt - lo).toNat < offs.size := by omega
        have ho : offs[(x.toInt - lo).toNat]? = some offs[(x.toInt - lo).toNat] := Array.getElem?_eq_getElem hlen
        obtain ⟨t', e1, e2⟩ := k2 (x.toInt - lo).toNat offs[(x.toInt - lo).toNat] (by rw [Array.getElem?_toList]; exact ho) (by omega)
        exact lv_tableIn hx hb hd (fun q => hxx (Or.inl q)) (fun q => hxx (Or.inr q)) ho e1 (jp t' lv s' e2 hl)
    · exact hst.elim
  case lookupswitch dflt ps =>
    simp only [ab_res2, ab_tg, Bool.and_eq_true, decide_eq_true_eq] at hr2
    obtain ⟨⟨ht, hsw⟩, hps⟩ := hr2
    dsimp only [ab_step] at hst
    split at hst
    · rename_i x s'
      obtain ⟨t', e1, e2⟩ := ab_lsw_spec ht hsw hst
      exact lv_lookup hx hb hd hps rfl e1 (jp t' lv s' e2 hl)
    · exact hst.elim
  case getfield i =>
    simp only [ab_res2, Bool.and_eq_true, decide_eq_true_eq] at hr2
    obtain ⟨rfl, hf⟩ := hr2
    obtain ⟨q, hq, hq2⟩ := ab_any hf
    simp only [decide_eq_true_eq] at hq2
    obtain ⟨q1, q2, q3, q4, q5⟩ := q
    obtain ⟨rfl, rfl, rfl, rfl⟩ := hq2
    dsimp only [ab_step] at hst
    split at hst
    · rename_i r s'
      obtain ⟨hok, h2⟩ := ab_chk_spec hst
      split at h2
      · rename_i ce hge
        split at h2
        · rename_i hbe
          split at h2
          · rename_i v' hv
            obtain ⟨c1, c2⟩ := ce
            have e1 : c1 = q3 := Nat.eq_of_beq_eq_true hbe
            subst e1
            exact ab_s_get X hR hok hge hv hq hd (nx lv (v' :: s') h _ _ _ h2 hR hb1 hb2 hS hl)
          · exact h2.elim
        · exact h2.elim
      · exact h2.elim
    · exact hst.elim
  case putfield i =>
    simp only [ab_res2, Bool.and_eq_true, decide_eq_true_eq] at hr2
    obtain ⟨⟨⟨rfl, hf⟩, hfin⟩, hoc⟩ := hr2
    obtain ⟨q, hq, hq2⟩ := ab_any hf
    simp only [decide_eq_true_eq] at hq2
    obtain ⟨q1, q2, q3, q4, q5⟩ := q
    obtain ⟨rfl, rfl, rfl, rfl⟩ := hq2
    obtain ⟨f1, f2, -⟩ := ab_fl_at _ hq
    dsimp only [ab_step] at hst
    split at hst
    · rename_i v' r s'
      obtain ⟨hok, h2⟩ := ab_chk_spec hst
      split at h2
      · rename_i ce hge
        split at h2
        · rename_i hbe
          split at h2
          · rename_i hlt
            have hlt : q4 < ce.2.length := Nat.le_of_ble_eq_true hlt
            obtain ⟨c1, c2⟩ := ce
            have e1 : c1 = q3 := Nat.eq_of_beq_eq_true hbe
            subst e1
            split at h2
            · rename_i x
              rw [ab_nrm_eq] at h2
              have h3 := ab_wr_spec h2
              obtain ⟨e2, e3⟩ := ab_fin_0 f1 f2 hfin.symm
              refine ab_s_put (v := vI x) X hR hS hok hge hlt hq e2 (by rw [e3]; rfl) (by rw [e3]; rfl) hd (fun H1 locs1 r1 s1 => ?_)
              exact nx lv s' (ab_set h _ _ _) H1 locs1 ls h3 r1 hb1 hb2 s1 hl
            · rename_i x
              obtain ⟨hx01, h2⟩ := h2
              rw [ab_nrm_eq] at h2
              have h3 := ab_wr_spec h2
              obtain ⟨e2, e3⟩ := ab_fin_1 f1 f2 hfin.symm
              refine ab_s_put (v := vI x) X hR hS hok hge hlt hq e2 (by rw [e3]; rcases hx01 with rfl | rfl <;> rfl) (by rw [e3]; rcases hx01 with rfl | rfl <;> rfl) hd (fun H1 locs1 r1 s1 => ?_)
              exact nx lv s' (ab_set h _ _ _) H1 locs1 ls h3 r1 hb1 hb2 s1 hl
            · rename_i x
              split at h2
              · rename_i hini
                rw [ab_nrm_eq] at h2
                have h3 := ab_wr_spec h2
                obtain ⟨e2, e30, e4⟩ := ab_fin_2 f1 f2 hfin.symm
                have e3 := ab_ref_ty e30
                refine ab_s_putF (v := vR x.1 x.2) X hR hS hok hge hlt hq e2 hini ?_ (by rcases e3 with ⟨n, e3⟩ | ⟨n, e3⟩ <;> rw [e3] <;> rfl) (by rcases e3 with ⟨n, e3⟩ | ⟨n, e3⟩ <;> rw [e3] <;> rfl) hd (fun H1 locs1 r1 s1 => ?_)
                · rw [e4, hoc rfl]
                · exact nx lv s' (ab_set h _ _ _) H1 locs1 ls h3 r1 hb1 hb2 s1 hl
              · exact h2.elim
            · exact h2.elim
          · exact h2.elim
        · exact h2.elim
      · exact h2.elim
    · exact hst.elim
  case getstatic i =>
    simp only [ab_res2, Bool.and_eq_true, decide_eq_true_eq] at hr2
    obtain ⟨rfl, hf⟩ := hr2
    obtain ⟨q, hq, hq2⟩ := ab_any hf
    simp only [decide_eq_true_eq] at hq2
    obtain ⟨q1, q2, q3⟩ := q
    obtain ⟨rfl, rfl⟩ := hq2
    have hw := ab_gs_at _ hq
    exact va_gets hx hb X.1.2.2.2.2.2.2.2.2.1 hS hown (hts _ (ab_T_of _ hw rfl)) (fun _ h9 => h9) hd (nx lv (vR 1001 0 :: st) h _ _ _ hst hR hb1 hb2 hS hl)
  case iaload =>
    simp only [ab_res2, Bool.and_eq_true, decide_eq_true_eq] at hr2
    obtain rfl := hr2
    dsimp only [ab_step] at hst
    split at hst
    · rename_i i r s'
      exact ab_s_iald X hR hS hst (fun n f hk => hk.1) hd (fun n f hk => nx lv (vI (f i.toNatClampNeg) :: s') h _ _ _ hk.2 hR hb1 hb2 hS hl)
    · exact hst.elim
  case arraylength =>
    simp only [ab_res2, Bool.and_eq_true, decide_eq_true_eq] at hr2
    obtain rfl := hr2
    dsimp only [ab_step] at hst
    split at hst
    · rename_i r s'
      exact ab_s_alen X hR hS hst hd (fun n f hk => nx lv (vI (Int32.ofNat n) :: s') h _ _ _ hk hR hb1 hb2 hS hl)
    · exact hst.elim
  case iastore =>
    simp only [ab_res2, Bool.and_eq_true, decide_eq_true_eq] at hr2
    obtain rfl := hr2
    dsimp only [ab_step] at hst
    split at hst
    · rename_i x i r s'
      obtain ⟨hok, h2⟩ := ab_chk_spec hst
      split at h2
      · rename_i a hge
        exact ab_s_iast X hR hS hok hge h2.1 hd (fun H1 locs1 r1 s1 => nx lv s' (ab_set h _ _ _) H1 locs1 ls (ab_wr_spec h2.2) r1 hb1 hb2 s1 hl)
      · exact h2.elim
    · exact hst.elim
  case aaload =>
    simp only [ab_res2, Bool.and_eq_true, decide_eq_true_eq] at hr2
    obtain rfl := hr2
    dsimp only [ab_step] at hst
    split at hst
    · rename_i i r s'
      obtain ⟨hok, h2⟩ := ab_chk_spec hst
      split at h2
      · rename_i a hge
        obtain ⟨hi, q, hq, h3⟩ := h2
        exact ab_s_aald X hR hok hge hi hq hd (nx lv (vR q.1 q.2 :: s') h _ _ _ h3 hR hb1 hb2 hS hl)
      · exact h2.elim
    · exact hst.elim
  case aastore =>
    simp only [ab_res2, Bool.and_eq_true, decide_eq_true_eq] at hr2
    obtain rfl := hr2
    dsimp only [ab_step] at hst
    split at hst
    · rename_i q i r s'
      obtain ⟨hok, h2⟩ := ab_chk_spec hst
      obtain ⟨hok2, h2⟩ := ab_chk_spec h2
      split at h2
      · rename_i a hge
        split at h2
        · rename_i ce hge2
          split at h2
          · rename_i hbe
            obtain ⟨c1, c2⟩ := ce
            have e1 : c1 = 1 := Nat.eq_of_beq_eq_true hbe
            subst e1
            exact ab_s_aast X hR hS hok hok2 hge hge2 h2.1 hd (fun H1 locs1 r1 s1 => nx lv s' (ab_set h _ _ _) H1 locs1 ls (ab_wr_spec h2.2) r1 hb1 hb2 s1 hl)
          · exact h2.elim
        · exact h2.elim
      · exact h2.elim
    · exact hst.elim
  case invokevirtual i =>
    simp only [ab_res2, Bool.and_eq_true, decide_eq_true_eq] at hr2
    obtain ⟨⟨⟨⟨rfl, hu⟩, hf⟩, hdesc⟩, hci⟩ := hr2
    obtain ⟨q, hq, hq2⟩ := ab_any hf
    simp only [decide_eq_true_eq] at hq2
    obtain ⟨q1, q2, q3, q4⟩ := q
    obtain ⟨rfl, rfl, rfl⟩ := hq2
    dsimp only [ab_step] at hst
    obtain ⟨b, o, fs, g1, g2, g3, g4⟩ := ab_rcv_spec hst
    obtain ⟨c1, c2, v, h', c3, c4, c5⟩ := ab_call_spec g4
    obtain ⟨As, a1, a2, a3⟩ := ab_split hu c1 g1
    rw [a1] at c3
    rw [a3]
    exact ab_s_callV X hR hS hl.1 hb1 c4 g2 g3 hci c2 hq (by rw [a2]; exact hdesc) c3 hd (fun H1 locs1 r1 s1 => nx lv _ h' _ _ _ c5 r1 (Nat.le_trans hb1 (ab_Ex_le c3)) c4 s1 hl)
  case invokestatic i =>
    simp only [ab_res2, Bool.and_eq_true, decide_eq_true_eq] at hr2
    obtain ⟨rfl, hr2⟩ := hr2
    dsimp only [ab_step] at hst
    split at hst
    · have hr2 : ab_mabs.any (fun q => decide (q.1 = j.1 ∧ q.2.1 = i)) = true := hr2
      obtain ⟨q, hq, hq2⟩ := ab_any hr2
      simp only [decide_eq_true_eq] at hq2
      obtain ⟨q1, q2, q3⟩ := q
      obtain ⟨rfl, rfl⟩ := hq2
      have hw := ab_abs_at _ hq
      split at hst
      · rename_i x s'
        split at hst
        · rename_i hcat
          have hcat := Nat.le_of_ble_eq_true hcat
          exact va_mabs hx hb (by rw [hml, hl.1]) hown (hts _ (ab_T_of _ hw rfl)) (hts _ ab_w_abss) (hts _ ab_w_im) (hts _ ab_w_absc) (by omega) (by have hq9 := ab_cat_eq G s'; unfold ab_vs at hq9; omega) hcells hslots hd (nx lv (vI _ :: s') h _ _ _ hst hR hb1 hb2 hS hl)
        · exact hst.elim
      · exact hst.elim
    · have hr2 : ab_mmax.any (fun q => decide (q.1 = j.1 ∧ q.2.1 = i)) = true := hr2
      obtain ⟨q, hq, hq2⟩ := ab_any hr2
      simp only [decide_eq_true_eq] at hq2
      obtain ⟨q1, q2, q3⟩ := q
      obtain ⟨rfl, rfl⟩ := hq2
      have hw := ab_max_at _ hq
      split at hst
      · rename_i z x s'
        split at hst
        · rename_i hcat
          have hcat := Nat.le_of_ble_eq_true hcat
          exact va_mmax hx hb (by rw [hml, hl.1]) hown (hts _ (ab_T_of _ hw rfl)) (hts _ ab_w_maxs) (hts _ ab_w_im) (hts _ ab_w_maxc) (by omega) (by have hq9 := ab_cat_eq G s'; unfold ab_vs at hq9; omega) hcells hslots hd (nx lv (vI _ :: s') h _ _ _ hst hR hb1 hb2 hS hl)
        · exact hst.elim
      · exact hst.elim
    · have hr2 : ab_mmin.any (fun q => decide (q.1 = j.1 ∧ q.2.1 = i)) = true := hr2
      obtain ⟨q, hq, hq2⟩ := ab_any hr2
      simp only [decide_eq_true_eq] at hq2
      obtain ⟨q1, q2, q3⟩ := q
      obtain ⟨rfl, rfl⟩ := hq2
      have hw := ab_min_at _ hq
      split at hst
      · rename_i z x s'
        split at hst
        · rename_i hcat
          have hcat := Nat.le_of_ble_eq_true hcat
          exact va_mmin hx hb (by rw [hml, hl.1]) hown (hts _ (ab_T_of _ hw rfl)) (hts _ ab_w_mins) (hts _ ab_w_im) (hts _ ab_w_minc) (by omega) (by have hq9 := ab_cat_eq G s'; unfold ab_vs at hq9; omega) hcells hslots hd (nx lv (vI _ :: s') h _ _ _ hst hR hb1 hb2 hS hl)
        · exact hst.elim
      · exact hst.elim
    · have hr2 : ab_ac.any (fun q => decide (q.1 = j.1 ∧ q.2.1 = i)) = true := hr2
      obtain ⟨q, hq, hq2⟩ := ab_any hr2
      simp only [decide_eq_true_eq] at hq2
      obtain ⟨q1, q2, q3⟩ := q
      obtain ⟨rfl, rfl⟩ := hq2
      split at hst
      · rename_i n dp r sp q' s'
        split at hst
        · rename_i hcat
          have hcat := Nat.le_of_ble_eq_true hcat
          obtain ⟨hok, h2⟩ := ab_chk_spec hst
          obtain ⟨hok2, h2⟩ := ab_chk_spec h2
          split at h2
          · rename_i a hge
            split at h2
            · rename_i g hge2
              obtain ⟨⟨b1, b2, b3, b4, b5⟩, h3⟩ := h2
              exact ab_s_copy X hR hS (by rw [hml, hl.1]) hok hok2 hge hge2 b1 b2 b3 b4 b5 hq (by have hq9 := ab_cat_eq G s'; unfold ab_vs at hq9; omega) hd (fun H1 locs1 r1 s1 => nx lv s' (ab_set h _ _ _) H1 locs1 ls (ab_wr_spec h3) r1 hb1 hb2 s1 hl)
            · exact h2.elim
          · exact h2.elim
        · exact hst.elim
      · exact hst.elim
    · rename_i n1 n2 n3 n4
      split at hr2
      · exact absurd rfl n1
      · exact absurd rfl n2
      · exact absurd rfl n3
      · exact absurd rfl n4
      · skip
        simp only [Bool.and_eq_true, decide_eq_true_eq] at hr2
        obtain ⟨hf, hdesc⟩ := hr2
        obtain ⟨q, hq, hq2⟩ := ab_any hf
        simp only [decide_eq_true_eq] at hq2
        obtain ⟨q1, q2, q3, q4⟩ := q
        obtain ⟨rfl, rfl, rfl⟩ := hq2
        obtain ⟨c1, c2, v, h', c3, c4, c5⟩ := ab_call_spec hst
        have a3 : st = (st.take u).reverse.reverse ++ st.drop u := by rw [List.reverse_reverse, List.take_append_drop]
        rw [a3]
        exact ab_s_callN X hR hS hl.1 hb1 c4 c2 hq (by rw [List.length_reverse, List.length_take, Nat.min_eq_left c1]; exact hdesc) c3 hd (fun H1 locs1 r1 s1 => nx lv _ h' _ _ _ c5 r1 (Nat.le_trans hb1 (ab_Ex_le c3)) c4 s1 hl)
      · skip
        simp only [Bool.and_eq_true, decide_eq_true_eq] at hr2
        obtain ⟨hf, hdesc⟩ := hr2
        obtain ⟨q, hq, hq2⟩ := ab_any hf
        simp only [decide_eq_true_eq] at hq2
        obtain ⟨q1, q2, q3, q4⟩ := q
        obtain ⟨rfl, rfl, rfl⟩ := hq2
        obtain ⟨c1, c2, v, h', c3, c4, c5⟩ := ab_call_spec hst
        have a3 : st = (st.take u).reverse.reverse ++ st.drop u := by rw [List.reverse_reverse, List.take_append_drop]
        rw [a3]
        exact ab_s_callS X hR hS hl.1 hb1 c4 c2 hq (by rw [List.length_reverse, List.length_take, Nat.min_eq_left c1]; exact hdesc) c3 hd (fun H1 locs1 r1 s1 => nx lv _ h' _ _ _ c5 r1 (Nat.le_trans hb1 (ab_Ex_le c3)) c4 s1 hl)
  case invokespecial i =>
    simp only [ab_res2, Bool.and_eq_true, decide_eq_true_eq] at hr2
    obtain ⟨rfl, hr2⟩ := hr2
    dsimp only [ab_step] at hst
    split at hst
    · split at hst
      · rename_i r s'
        split at hst
        · rename_i hcat
          have hcat := Nat.le_of_ble_eq_true hcat
          obtain ⟨q, hq, hq2⟩ := ab_any hr2
          simp only [decide_eq_true_eq] at hq2
          obtain ⟨q1, q2, q3⟩ := q
          obtain ⟨rfl, rfl⟩ := hq2
          have hw := ab_oi_at _ hq
          exact W.objInit hx hb hown (hts _ (ab_T_of _ hw rfl)) (hts _ ab_w_oii) (hts _ ab_w_oic) rfl (by rw [hml]; exact hl.1) rfl hd (by omega) (by show 2 * 0 + ((ab_vs G s').map fun v => v.category).sum + 12 ≤ _; rw [ab_cat_eq]; omega) (nx lv s' h _ _ _ hst hR hb1 hb2 hS hl)
        · exact hst.elim
      · exact hst.elim
    · rename_i hne
      have hr3 : (decide (0 < u) && ab_ml.any (fun q => decide (q.1 = j.1 ∧ q.2.1 = i ∧ q.2.2.1 = y)) && decide ((parseMethodDescriptor y.desc).map (fun d => d.parameters.length) = some (u - 1))) = true := by
        split at hr2
        · exact absurd rfl hne
        · exact hr2
      simp only [Bool.and_eq_true, decide_eq_true_eq] at hr3
      obtain ⟨⟨hu, hf⟩, hdesc⟩ := hr3
      obtain ⟨q, hq, hq2⟩ := ab_any hf
      simp only [decide_eq_true_eq] at hq2
      obtain ⟨q1, q2, q3, q4⟩ := q
      obtain ⟨rfl, rfl, rfl⟩ := hq2
      split at hst
      · rename_i r g1
        obtain ⟨c1, c2, v, h', c3, c4, c5⟩ := ab_call_spec hst
        obtain ⟨As, a1, a2, a3⟩ := ab_split hu c1 g1
        rw [a1] at c3
        rw [a3]
        exact ab_s_callI (b := r.1) (o := r.2) X hR hS hl.1 hb1 c4 c2 hq (by rw [a2]; exact hdesc) c3 hd (fun H1 locs1 r1 s1 => nx lv _ h' _ _ _ c5 r1 (Nat.le_trans hb1 (ab_Ex_le c3)) c4 s1 hl)
      · exact hst.elim
  case new i =>
    simp only [ab_res2, Bool.and_eq_true, decide_eq_true_eq] at hr2
    obtain ⟨⟨⟨rfl, hf⟩, hi⟩, ht, hu⟩ := hr2
    obtain ⟨q, hq, hq2⟩ := ab_any hf
    simp only [decide_eq_true_eq] at hq2
    obtain ⟨q1, q2, q3, q4⟩ := q
    obtain ⟨rfl, rfl, rfl⟩ := hq2
    obtain ⟨z, hz, hz2⟩ := ab_any hi
    simp only [decide_eq_true_eq] at hz2
    obtain ⟨z1, z2, z3, z4⟩ := z
    obtain ⟨rfl, rfl⟩ := hz2
    dsimp only at hu hz ht
    rw [← hu] at hz
    dsimp only [ab_step] at hst
    obtain ⟨n1, n2, n3⟩ := ab_new_spec hst
    have h70 : h.1 < 70 := Nat.lt_of_lt_of_le n1 hcap
    refine ab_s_new X hR hS hb1 n1 h70 ht hq hz (n2.trans hu.symm) hd (fun H1 locs1 r1 s1 => ?_)
    exact nx lv (_ :: st) _ _ _ _ n3 r1 (Nat.le_succ_of_le hb1) n1 s1 hl
  case newarray ty =>
    simp only [ab_res2, Bool.and_eq_true, decide_eq_true_eq] at hr2
    obtain rfl := hr2
    cases ty
    all_goals try exact (show False from hst).elim
    case int =>
      dsimp only [ab_step] at hst
      split at hst
      · rename_i n s'
        obtain ⟨⟨g1, g2⟩, g3⟩ := hst
        obtain ⟨n1, n2, n3⟩ := ab_new_spec g3
        have h70 : h.1 < 70 := Nat.lt_of_lt_of_le n1 hcap
        refine ab_s_newa X hR hS hb1 n1 h70 g1 g2 hd (fun H1 locs1 r1 s1 => ?_)
        exact nx lv (_ :: s') _ _ _ _ n3 r1 (Nat.le_succ_of_le hb1) n1 s1 hl
      · exact hst.elim
  case anewarray i =>
    simp only [ab_res2, Bool.and_eq_true, decide_eq_true_eq] at hr2
    obtain ⟨rfl, hf⟩ := hr2
    obtain ⟨q, hq, hq2⟩ := ab_any hf
    simp only [decide_eq_true_eq] at hq2
    obtain ⟨q1, q2, q3, q4⟩ := q
    obtain ⟨rfl, rfl, rfl⟩ := hq2
    dsimp only [ab_step] at hst
    split at hst
    · rename_i n s'
      obtain ⟨⟨g1, g2⟩, g3⟩ := hst
      obtain ⟨n1, n2, n3⟩ := ab_new_spec g3
      have h70 : h.1 < 70 := Nat.lt_of_lt_of_le n1 hcap
      refine ab_s_anew X hR hS hb1 n1 h70 g1 g2 hq hd (fun H1 locs1 r1 s1 => ?_)
      exact nx lv (_ :: s') _ _ _ _ n3 r1 (Nat.le_succ_of_le hb1) n1 s1 hl
    · exact hst.elim
  case ireturn =>
    simp only [ab_res2, Bool.and_eq_true, decide_eq_true_eq] at hr2
    obtain rfl := hr2
    dsimp only [ab_step] at hst
    split at hst
    · rename_i x
      split at hst
      · rename_i he
        exact hret1 x h H locs pc ls (Or.inl he) hst hR hb1 hb2 hS hd
      · rename_i he
        exact hret1 x h H locs pc ls (Or.inr ⟨he, hst.1⟩) hst.2 hR hb1 hb2 hS hd
      · exact hst.elim
    · exact hst.elim
  case return_ =>
    simp only [ab_res2, Bool.and_eq_true, decide_eq_true_eq] at hr2
    obtain rfl := hr2
    dsimp only [ab_step] at hst
    split at hst
    · split at hst
      · rename_i he
        exact hret0 h H locs pc ls he hst hR hb1 hb2 hS hd
      · exact hst.elim
    · exact hst.elim
end
section
-- THE RUN OF A STRETCH: up to the places 'stop', where what is left is asked of the machine again
def ab_has (l : List Nat) (n : Nat) : Bool := match l with
  | [] => false
  | a :: r => match Nat.beq a n with
    | true => true
    | false => ab_has r n
def ab_ev (j : MI) (d : Nat) (E : Nat × (Nat → Int32)) (h0 : AH) (cap : Nat) (Q : Option AV → AH → Prop) (stop : List Nat) : Nat → List IE → Lv → List AV → AH → Prop
  | 0, cs, lv, st, h => ab_W j d E h0 cap Q cs lv st h
  | n + 1, cs, lv, st, h => match cs with
    | [] => False
    | e :: tl => match ab_has stop e.1 with
      | true => ab_W j d E h0 cap Q (e :: tl) lv st h
      | false => ab_step (ab_Ex d) E j cap Q (ab_ev j d E h0 cap Q stop n) e tl lv st h
theorem ab_ev_W {j : MI} {d : Nat} {E : Nat × (Nat → Int32)} {h0 : AH} {cap : Nat} {Q : Option AV → AH → Prop} {stop : List Nat} (hg : ab_tab j = true) (hcap : cap ≤ 70) : ∀ (n : Nat) (cs : List IE) (lv : Lv) (st : List AV) (h : AH), cs <:+ j.2.2.2.2.2 → ab_ev j d E h0 cap Q stop n cs lv st h → ab_W j d E h0 cap Q cs lv st h := by
  intro n
  induction n with
  | zero => intro cs lv st h _ hh; exact hh
  | succ n ih =>
    intro cs lv st h hs hh
    cases cs with
    | nil => exact (show False from hh).elim
    | cons e tl =>
      unfold ab_ev at hh
      dsimp only at hh
      split at hh
      · exact hh
      · exact ab_snd hg hcap ih hs hh
-- at a place of the table: the first step is taken whether it is a stop or not
def ab_at (I : List IE) (t : Nat) : List IE := match I with
  | [] => []
  | e :: r => match Nat.beq e.1 t with
    | true => e :: r
    | false => ab_at r t
theorem ab_at_suf (t : Nat) : ∀ I : List IE, ab_at I t <:+ I
  | [] => List.suffix_refl _
  | e :: r => by
    unfold ab_at
    split
    · exact List.suffix_refl _
    · exact (ab_at_suf t r).trans (List.suffix_cons e r)
def ab_first (j : MI) (d : Nat) (E : Nat × (Nat → Int32)) (h0 : AH) (cap : Nat) (Q : Option AV → AH → Prop) (stop : List Nat) (n : Nat) (cs : List IE) (lv : Lv) (st : List AV) (h : AH) : Prop := match cs with
  | [] => False
  | e :: tl => ab_step (ab_Ex d) E j cap Q (ab_ev j d E h0 cap Q stop n) e tl lv st h
theorem ab_run {j : MI} {d : Nat} {E : Nat × (Nat → Int32)} {h0 : AH} {cap : Nat} {Q : Option AV → AH → Prop} (stop : List Nat) (n : Nat) (hg : ab_tab j = true) (hcap : cap ≤ 70) (t : Nat) {lv : Lv} {st : List AV} {h : AH} (hh : ab_first j d E h0 cap Q stop n (ab_at j.2.2.2.2.2 t) lv st h) : ab_W j d E h0 cap Q (ab_at j.2.2.2.2.2 t) lv st h := by
  have hs := ab_at_suf t j.2.2.2.2.2
  generalize ab_at j.2.2.2.2.2 t = cs at hs hh ⊢
  cases cs with
  | nil => exact (show False from hh).elim
  | cons e tl => exact ab_snd hg hcap (ab_ev_W hg hcap n) hs hh
-- A CONTRACT OUT OF A WALK
def ab_args (i : Nat) (a : List AV) : Lv := match a with
  | [] => []
  | v :: r => (i, v) :: ab_args (match ab_c2 v with | true => i + 2 | false => i + 1) r
theorem ab_args_eq (G : AG) : ∀ (a : List AV) (i : Nat), ab_lv G (ab_args i a) = lv_args i (ab_vs G a)
  | [], i => rfl
  | v :: r, i => by
    have e := ab_args_eq G r
    unfold ab_args
    show (i, ab_v G v) :: ab_lv G _ = (i, ab_v G v) :: lv_args (if (ab_v G v).category = 2 then i + 2 else i + 1) (ab_vs G r)
    rw [e, ab_v_cat]
    cases ab_c2 v <;> rfl
theorem ab_sl_len (G : AG) : ∀ a : List AV, (lg_sl (ab_vs G a)).length = ab_cat a
  | [] => rfl
  | v :: r => by
    have e := ab_sl_len G r
    have h1 : lg_sl (ab_vs G (v :: r)) = (if (ab_v G v).category = 2 then [Slot.val (ab_v G v), .second] else [.val (ab_v G v)]) ++ lg_sl (ab_vs G r) := rfl
    rw [h1, List.length_append, e, ab_v_cat]
    show _ = _ + ab_cat r
    cases ab_c2 v <;> rfl
/-- what the tables must say of a method: kd 0 an object's, 1 a static one, 2 a constructor -/
def ab_ok2 (j : MI) (kd : Nat) (y : MethodName) : Prop := ab_tab j = true ∧ ab_F kd y j.2.1 j.2.2.1 j.2.2.2.1 ∧ plainName y.cls = true ∧ y.cls = ab_cn j.1 ∧ (j.2.2.2.2.1 = true → y.name = "<init>") ∧ (j.2.2.2.1 = none ∨ j.2.2.2.1 = some .int ∨ j.2.2.2.1 = some .boolean)
theorem ab_meth {j : MI} {kd : Nat} {y : MethodName} (hj : ab_ok2 j kd y) (d : Nat) (a : List AV) (h h' : AH) (v : Option AV) (hle : h.1 ≤ h'.1) (hcat : Nat.ble (ab_cat a) j.2.2.1 = true)
    (hw : ∀ E : Nat × (Nat → Int32), ab_W j d E h h'.1 (fun v1 h1 => v1 = v ∧ h1 = h') (ab_at j.2.2.2.2.2 0) (ab_args 0 a) [] h) : ab_Ex (d + 1) kd y a h v h' := by
  obtain ⟨hg, hF, hpl, hcls, hini, hret⟩ := hj
  refine ⟨j.2.1, j.2.2.1, j.2.2.2.1, hF, hle, fun l G D cI cF E => ?_⟩
  refine Met.ofW (cc := j.2.1) (maxL := j.2.2.1) (ret := j.2.2.2.1) hpl rfl ?_
  intro p e s m args below meth c s₁ B hml hv
  obtain ⟨rfl, hR, hE⟩ := hv
  have hts0 := atoms_spec (ws := Cond.code y j.2.1 j.2.2.1 j.2.2.2.1 :: ab_T) B.pre
  have hts : ∀ w ∈ ab_T, w.before (ab_vs G a).toArray s = true := fun w h => hts0 w (List.mem_cons_of_mem _ h)
  have hown : s.vm.findClass (ab_cn j.1) = some m.cls := by rw [← hcls]; exact findClass_of_methodNamed B.named
  have hlocks := B.notSynchronized
  have hr := B.returns
  have hl := lv_entry (ab_vs G a) (n := j.2.2.1) (by rw [ab_sl_len]; exact Nat.le_of_ble_eq_true hcat)
  rw [← ab_args_eq] at hl
  rw [lg_entry_eq]
  generalize (lg_sl (ab_vs G a) ++ List.replicate (j.2.2.1 - (lg_sl (ab_vs G a)).length) Slot.unset).toArray = ls at hl ⊢
  have hX : ab_X j d E h h'.1 (fun v1 h1 => v1 = v ∧ h1 = h') p l e (headSpec (Cond.code y j.2.1 j.2.2.1 j.2.2.2.1 :: ab_T) (ab_rmm (d + 1) h h')).room s m (ab_vs G a).toArray below meth c G D cI cF (MQ below (ab_Qc G D cI cF v h') (ab_vs G a).toArray s (h'.1 - h.1) (ab_sl h'.1 - ab_sl h.1) (ab_A G)) := by
    refine ⟨⟨B.exec, B.bytes, hml, hown, hts, hE⟩, ⟨Nat.le_refl _, Nat.le_refl _, Nat.le_refl _, Nat.le_refl _, fun q => ((name_of_methodNamed B.named B.method).1).trans (hini q)⟩, ?_, ?_⟩
    · intro h1 H1 locs1 pc ls1 hr0 hq r1 b1 b2 s1 hd
      obtain ⟨q1, q2⟩ := hq
      subst q1; subst q2
      exact W.vret B.exec B.bytes (hr.trans hr0) (fun t ht hWm => ⟨rfl, by rw [ht]; exact r1, s1.F ht⟩) s1.2.2 hd
    · intro x h1 H1 locs1 pc ls1 hr0 hq r1 b1 b2 s1 hd
      obtain ⟨q1, q2⟩ := hq
      subst q1; subst q2
      rcases hr0 with hr0 | ⟨hr0, hx⟩
      · exact W.iret B.exec B.bytes (hr.trans hr0) (fun t ht hWm => ⟨rfl, by rw [ht]; exact r1, s1.F ht⟩) s1.2.2 hd
      · exact W.zret B.exec B.bytes (hr.trans hr0) (by rcases hx with rfl | rfl <;> rfl) (fun t ht hWm => ⟨rfl, by rw [ht]; exact r1, s1.F ht⟩) s1.2.2 hd
  obtain ⟨i, r, he, hW⟩ := hw E p l e _ s m _ below meth c G D cI cF _ s.heap [] ls hX hR (Nat.le_refl _) hle va_S.rf hl
  have h00 : i.1 = 0 := by
    have hg2 := hg
    simp only [ab_tab, Bool.and_eq_true] at hg2
    obtain ⟨-, h3⟩ := hg2
    generalize hI : j.2.2.2.2.2 = I at h3 he
    cases I with
    | nil => exact absurd h3 (by decide)
    | cons e0 r0 =>
      have e00 : e0.1 = 0 := Nat.eq_of_beq_eq_true h3
      unfold ab_at at he
      rw [e00] at he
      dsimp only [Nat.beq] at he
      cases he
      exact e00
  rw [h00] at hW
  exact W.cs (by omega) (by omega) hW
end
section
abbrev jX0_init : MI := (0, cX0_init, 2, none, true, iX0_init)
set_option maxRecDepth 100000 in
theorem oX0_init : ab_ok2 jX0_init 2 yX0_init := ⟨by decide +kernel, ⟨ab_T_of 106 (by decide +kernel) rfl, ab_T_of 56 (by decide +kernel) rfl, ⟨by decide, by decide⟩, by decide, ⟨ab_T_of 105 (by decide +kernel) rfl, rfl, rfl⟩⟩, by decide, rfl, fun q => rfl, Or.inl rfl⟩
abbrev jX0_copyFrom : MI := (0, cX0_copyFrom, 3, none, false, iX0_copyFrom)
set_option maxRecDepth 100000 in
theorem oX0_copyFrom : ab_ok2 jX0_copyFrom 0 yX0_copyFrom := ⟨by decide +kernel, ⟨ab_T_of 340 (by decide +kernel) rfl, ab_T_of 56 (by decide +kernel) rfl, ⟨by decide, by decide⟩, by decide, ⟨ab_T_of 338 (by decide +kernel) rfl, ab_T_of 339 (by decide +kernel) rfl⟩⟩, by decide, rfl, fun q => absurd q (by decide), Or.inl rfl⟩
abbrev jX0_takeStatement : MI := (0, cX0_takeStatement, 3, some .boolean, false, iX0_takeStatement)
set_option maxRecDepth 100000 in
theorem oX0_takeStatement : ab_ok2 jX0_takeStatement 0 yX0_takeStatement := ⟨by decide +kernel, ⟨ab_T_of 352 (by decide +kernel) rfl, ab_T_of 56 (by decide +kernel) rfl, ⟨by decide, by decide⟩, by decide, ⟨ab_T_of 350 (by decide +kernel) rfl, ab_T_of 351 (by decide +kernel) rfl⟩⟩, by decide, rfl, fun q => absurd q (by decide), Or.inr (Or.inr rfl)⟩
abbrev jX0_addCog : MI := (0, cX0_addCog, 2, some .boolean, false, iX0_addCog)
set_option maxRecDepth 100000 in
theorem oX0_addCog : ab_ok2 jX0_addCog 0 yX0_addCog := ⟨by decide +kernel, ⟨ab_T_of 356 (by decide +kernel) rfl, ab_T_of 56 (by decide +kernel) rfl, ⟨by decide, by decide⟩, by decide, ⟨ab_T_of 355 (by decide +kernel) rfl, ab_T_of 7 (by decide +kernel) rfl⟩⟩, by decide, rfl, fun q => absurd q (by decide), Or.inr (Or.inr rfl)⟩
abbrev jX0_addFault : MI := (0, cX0_addFault, 2, some .boolean, false, iX0_addFault)
set_option maxRecDepth 100000 in
theorem oX0_addFault : ab_ok2 jX0_addFault 0 yX0_addFault := ⟨by decide +kernel, ⟨ab_T_of 360 (by decide +kernel) rfl, ab_T_of 56 (by decide +kernel) rfl, ⟨by decide, by decide⟩, by decide, ⟨ab_T_of 359 (by decide +kernel) rfl, ab_T_of 8 (by decide +kernel) rfl⟩⟩, by decide, rfl, fun q => absurd q (by decide), Or.inr (Or.inr rfl)⟩
abbrev jX0_addStage : MI := (0, cX0_addStage, 4, none, false, iX0_addStage)
set_option maxRecDepth 100000 in
theorem oX0_addStage : ab_ok2 jX0_addStage 0 yX0_addStage := ⟨by decide +kernel, ⟨ab_T_of 425 (by decide +kernel) rfl, ab_T_of 56 (by decide +kernel) rfl, ⟨by decide, by decide⟩, by decide, ⟨ab_T_of 423 (by decide +kernel) rfl, ab_T_of 424 (by decide +kernel) rfl⟩⟩, by decide, rfl, fun q => absurd q (by decide), Or.inl rfl⟩
abbrev jX0_turnsOfRide : MI := (0, cX0_turnsOfRide, 3, some .int, false, iX0_turnsOfRide)
set_option maxRecDepth 100000 in
theorem oX0_turnsOfRide : ab_ok2 jX0_turnsOfRide 0 yX0_turnsOfRide := ⟨by decide +kernel, ⟨ab_T_of 522 (by decide +kernel) rfl, ab_T_of 56 (by decide +kernel) rfl, ⟨by decide, by decide⟩, by decide, ⟨ab_T_of 520 (by decide +kernel) rfl, ab_T_of 521 (by decide +kernel) rfl⟩⟩, by decide, rfl, fun q => absurd q (by decide), Or.inr (Or.inl rfl)⟩
abbrev jX0_upOf : MI := (0, cX0_upOf, 2, some .int, false, iX0_upOf)
set_option maxRecDepth 100000 in
theorem oX0_upOf : ab_ok2 jX0_upOf 0 yX0_upOf := ⟨by decide +kernel, ⟨ab_T_of 392 (by decide +kernel) rfl, ab_T_of 56 (by decide +kernel) rfl, ⟨by decide, by decide⟩, by decide, ⟨ab_T_of 390 (by decide +kernel) rfl, ab_T_of 391 (by decide +kernel) rfl⟩⟩, by decide, rfl, fun q => absurd q (by decide), Or.inr (Or.inl rfl)⟩
abbrev jX0_downOf : MI := (0, cX0_downOf, 3, some .int, false, iX0_downOf)
set_option maxRecDepth 100000 in
theorem oX0_downOf : ab_ok2 jX0_downOf 0 yX0_downOf := ⟨by decide +kernel, ⟨ab_T_of 396 (by decide +kernel) rfl, ab_T_of 56 (by decide +kernel) rfl, ⟨by decide, by decide⟩, by decide, ⟨ab_T_of 394 (by decide +kernel) rfl, ab_T_of 395 (by decide +kernel) rfl⟩⟩, by decide, rfl, fun q => absurd q (by decide), Or.inr (Or.inl rfl)⟩
abbrev jX0_loadIn : MI := (0, cX0_loadIn, 6, some .int, false, iX0_loadIn)
set_option maxRecDepth 100000 in
theorem oX0_loadIn : ab_ok2 jX0_loadIn 0 yX0_loadIn := ⟨by decide +kernel, ⟨ab_T_of 407 (by decide +kernel) rfl, ab_T_of 56 (by decide +kernel) rfl, ⟨by decide, by decide⟩, by decide, ⟨ab_T_of 405 (by decide +kernel) rfl, ab_T_of 406 (by decide +kernel) rfl⟩⟩, by decide, rfl, fun q => absurd q (by decide), Or.inr (Or.inl rfl)⟩
abbrev jX0_wasOiled : MI := (0, cX0_wasOiled, 1, some .boolean, false, iX0_wasOiled)
set_option maxRecDepth 100000 in
theorem oX0_wasOiled : ab_ok2 jX0_wasOiled 0 yX0_wasOiled := ⟨by decide +kernel, ⟨ab_T_of 644 (by decide +kernel) rfl, ab_T_of 56 (by decide +kernel) rfl, ⟨by decide, by decide⟩, by decide, ⟨ab_T_of 642 (by decide +kernel) rfl, ab_T_of 643 (by decide +kernel) rfl⟩⟩, by decide, rfl, fun q => absurd q (by decide), Or.inr (Or.inr rfl)⟩
abbrev jX0_isSilent : MI := (0, cX0_isSilent, 3, some .boolean, false, iX0_isSilent)
set_option maxRecDepth 100000 in
theorem oX0_isSilent : ab_ok2 jX0_isSilent 0 yX0_isSilent := ⟨by decide +kernel, ⟨ab_T_of 468 (by decide +kernel) rfl, ab_T_of 56 (by decide +kernel) rfl, ⟨by decide, by decide⟩, by decide, ⟨ab_T_of 466 (by decide +kernel) rfl, ab_T_of 467 (by decide +kernel) rfl⟩⟩, by decide, rfl, fun q => absurd q (by decide), Or.inr (Or.inr rfl)⟩
abbrev jX0_weightOf : MI := (0, cX0_weightOf, 4, some .int, false, iX0_weightOf)
set_option maxRecDepth 100000 in
theorem oX0_weightOf : ab_ok2 jX0_weightOf 0 yX0_weightOf := ⟨by decide +kernel, ⟨ab_T_of 545 (by decide +kernel) rfl, ab_T_of 56 (by decide +kernel) rfl, ⟨by decide, by decide⟩, by decide, ⟨ab_T_of 543 (by decide +kernel) rfl, ab_T_of 544 (by decide +kernel) rfl⟩⟩, by decide, rfl, fun q => absurd q (by decide), Or.inr (Or.inl rfl)⟩
abbrev jX1_init : MI := (1, cX1_init, 1, none, true, iX1_init)
set_option maxRecDepth 100000 in
theorem oX1_init : ab_ok2 jX1_init 2 yX1_init := ⟨by decide +kernel, ⟨ab_T_of 113 (by decide +kernel) rfl, ab_T_of 57 (by decide +kernel) rfl, ⟨by decide, by decide⟩, by decide, ⟨ab_T_of 112 (by decide +kernel) rfl, rfl, rfl⟩⟩, by decide, rfl, fun q => rfl, Or.inl rfl⟩
abbrev jX1_copyFrom : MI := (1, cX1_copyFrom, 2, none, false, iX1_copyFrom)
set_option maxRecDepth 100000 in
theorem oX1_copyFrom : ab_ok2 jX1_copyFrom 0 yX1_copyFrom := ⟨by decide +kernel, ⟨ab_T_of 347 (by decide +kernel) rfl, ab_T_of 57 (by decide +kernel) rfl, ⟨by decide, by decide⟩, by decide, ⟨ab_T_of 345 (by decide +kernel) rfl, ab_T_of 346 (by decide +kernel) rfl⟩⟩, by decide, rfl, fun q => absurd q (by decide), Or.inl rfl⟩
abbrev jX1_become : MI := (1, cX1_become, 2, some .boolean, false, iX1_become)
set_option maxRecDepth 100000 in
theorem oX1_become : ab_ok2 jX1_become 0 yX1_become := ⟨by decide +kernel, ⟨ab_T_of 364 (by decide +kernel) rfl, ab_T_of 57 (by decide +kernel) rfl, ⟨by decide, by decide⟩, by decide, ⟨ab_T_of 362 (by decide +kernel) rfl, ab_T_of 363 (by decide +kernel) rfl⟩⟩, by decide, rfl, fun q => absurd q (by decide), Or.inr (Or.inr rfl)⟩
abbrev jX1_limitAfter : MI := (1, cX1_limitAfter, 3, some .int, false, iX1_limitAfter)
set_option maxRecDepth 100000 in
theorem oX1_limitAfter : ab_ok2 jX1_limitAfter 0 yX1_limitAfter := ⟨by decide +kernel, ⟨ab_T_of 384 (by decide +kernel) rfl, ab_T_of 57 (by decide +kernel) rfl, ⟨by decide, by decide⟩, by decide, ⟨ab_T_of 382 (by decide +kernel) rfl, ab_T_of 383 (by decide +kernel) rfl⟩⟩, by decide, rfl, fun q => absurd q (by decide), Or.inr (Or.inl rfl)⟩
abbrev jX1_goesBack : MI := (1, cX1_goesBack, 1, some .boolean, false, iX1_goesBack)
set_option maxRecDepth 100000 in
theorem oX1_goesBack : ab_ok2 jX1_goesBack 0 yX1_goesBack := ⟨by decide +kernel, ⟨ab_T_of 485 (by decide +kernel) rfl, ab_T_of 57 (by decide +kernel) rfl, ⟨by decide, by decide⟩, by decide, ⟨ab_T_of 483 (by decide +kernel) rfl, ab_T_of 484 (by decide +kernel) rfl⟩⟩, by decide, rfl, fun q => absurd q (by decide), Or.inr (Or.inr rfl)⟩
abbrev jX1_goesAheadOf : MI := (1, cX1_goesAheadOf, 2, some .boolean, false, iX1_goesAheadOf)
set_option maxRecDepth 100000 in
theorem oX1_goesAheadOf : ab_ok2 jX1_goesAheadOf 0 yX1_goesAheadOf := ⟨by decide +kernel, ⟨ab_T_of 605 (by decide +kernel) rfl, ab_T_of 57 (by decide +kernel) rfl, ⟨by decide, by decide⟩, by decide, ⟨ab_T_of 603 (by decide +kernel) rfl, ab_T_of 604 (by decide +kernel) rfl⟩⟩, by decide, rfl, fun q => absurd q (by decide), Or.inr (Or.inr rfl)⟩
abbrev jX1_scaleTo : MI := (1, cX1_scaleTo, 2, none, false, iX1_scaleTo)
set_option maxRecDepth 100000 in
theorem oX1_scaleTo : ab_ok2 jX1_scaleTo 0 yX1_scaleTo := ⟨by decide +kernel, ⟨ab_T_of 460 (by decide +kernel) rfl, ab_T_of 57 (by decide +kernel) rfl, ⟨by decide, by decide⟩, by decide, ⟨ab_T_of 458 (by decide +kernel) rfl, ab_T_of 459 (by decide +kernel) rfl⟩⟩, by decide, rfl, fun q => absurd q (by decide), Or.inl rfl⟩
abbrev jX1_partsToClick : MI := (1, cX1_partsToClick, 1, some .int, false, iX1_partsToClick)
set_option maxRecDepth 100000 in
theorem oX1_partsToClick : ab_ok2 jX1_partsToClick 0 yX1_partsToClick := ⟨by decide +kernel, ⟨ab_T_of 474 (by decide +kernel) rfl, ab_T_of 57 (by decide +kernel) rfl, ⟨by decide, by decide⟩, by decide, ⟨ab_T_of 472 (by decide +kernel) rfl, ab_T_of 473 (by decide +kernel) rfl⟩⟩, by decide, rfl, fun q => absurd q (by decide), Or.inr (Or.inl rfl)⟩
abbrev jX1_move : MI := (1, cX1_move, 2, none, false, iX1_move)
set_option maxRecDepth 100000 in
theorem oX1_move : ab_ok2 jX1_move 0 yX1_move := ⟨by decide +kernel, ⟨ab_T_of 489 (by decide +kernel) rfl, ab_T_of 57 (by decide +kernel) rfl, ⟨by decide, by decide⟩, by decide, ⟨ab_T_of 487 (by decide +kernel) rfl, ab_T_of 488 (by decide +kernel) rfl⟩⟩, by decide, rfl, fun q => absurd q (by decide), Or.inl rfl⟩
abbrev jX2_init : MI := (2, cX2_init, 2, none, true, iX2_init)
set_option maxRecDepth 100000 in
theorem oX2_init : ab_ok2 jX2_init 2 yX2_init := ⟨by decide +kernel, ⟨ab_T_of 217 (by decide +kernel) rfl, ab_T_of 58 (by decide +kernel) rfl, ⟨by decide, by decide⟩, by decide, ⟨ab_T_of 216 (by decide +kernel) rfl, rfl, rfl⟩⟩, by decide, rfl, fun q => rfl, Or.inl rfl⟩
abbrev jX2_begin : MI := (2, cX2_begin, 3, none, false, iX2_begin)
set_option maxRecDepth 100000 in
theorem oX2_begin : ab_ok2 jX2_begin 0 yX2_begin := ⟨by decide +kernel, ⟨ab_T_of 445 (by decide +kernel) rfl, ab_T_of 58 (by decide +kernel) rfl, ⟨by decide, by decide⟩, by decide, ⟨ab_T_of 443 (by decide +kernel) rfl, ab_T_of 444 (by decide +kernel) rfl⟩⟩, by decide, rfl, fun q => absurd q (by decide), Or.inl rfl⟩
abbrev jX2_passRide : MI := (2, cX2_passRide, 4, some .int, false, iX2_passRide)
set_option maxRecDepth 100000 in
theorem oX2_passRide : ab_ok2 jX2_passRide 0 yX2_passRide := ⟨by decide +kernel, ⟨ab_T_of 441 (by decide +kernel) rfl, ab_T_of 58 (by decide +kernel) rfl, ⟨by decide, by decide⟩, by decide, ⟨ab_T_of 439 (by decide +kernel) rfl, ab_T_of 440 (by decide +kernel) rfl⟩⟩, by decide, rfl, fun q => absurd q (by decide), Or.inr (Or.inl rfl)⟩
abbrev jX2_passStage : MI := (2, cX2_passStage, 4, none, false, iX2_passStage)
set_option maxRecDepth 100000 in
theorem oX2_passStage : ab_ok2 jX2_passStage 0 yX2_passStage := ⟨by decide +kernel, ⟨ab_T_of 451 (by decide +kernel) rfl, ab_T_of 58 (by decide +kernel) rfl, ⟨by decide, by decide⟩, by decide, ⟨ab_T_of 449 (by decide +kernel) rfl, ab_T_of 450 (by decide +kernel) rfl⟩⟩, by decide, rfl, fun q => absurd q (by decide), Or.inl rfl⟩
abbrev jX2_shiftTo : MI := (2, cX2_shiftTo, 2, none, false, iX2_shiftTo)
set_option maxRecDepth 100000 in
theorem oX2_shiftTo : ab_ok2 jX2_shiftTo 0 yX2_shiftTo := ⟨by decide +kernel, ⟨ab_T_of 455 (by decide +kernel) rfl, ab_T_of 58 (by decide +kernel) rfl, ⟨by decide, by decide⟩, by decide, ⟨ab_T_of 453 (by decide +kernel) rfl, ab_T_of 454 (by decide +kernel) rfl⟩⟩, by decide, rfl, fun q => absurd q (by decide), Or.inl rfl⟩
abbrev jX2_comesByIn : MI := (2, cX2_comesByIn, 2, some .boolean, false, iX2_comesByIn)
set_option maxRecDepth 100000 in
theorem oX2_comesByIn : ab_ok2 jX2_comesByIn 0 yX2_comesByIn := ⟨by decide +kernel, ⟨ab_T_of 581 (by decide +kernel) rfl, ab_T_of 58 (by decide +kernel) rfl, ⟨by decide, by decide⟩, by decide, ⟨ab_T_of 579 (by decide +kernel) rfl, ab_T_of 580 (by decide +kernel) rfl⟩⟩, by decide, rfl, fun q => absurd q (by decide), Or.inr (Or.inr rfl)⟩
abbrev jX2_partsInStep : MI := (2, cX2_partsInStep, 2, some .int, false, iX2_partsInStep)
set_option maxRecDepth 100000 in
theorem oX2_partsInStep : ab_ok2 jX2_partsInStep 0 yX2_partsInStep := ⟨by decide +kernel, ⟨ab_T_of 481 (by decide +kernel) rfl, ab_T_of 58 (by decide +kernel) rfl, ⟨by decide, by decide⟩, by decide, ⟨ab_T_of 480 (by decide +kernel) rfl, ab_T_of 12 (by decide +kernel) rfl⟩⟩, by decide, rfl, fun q => absurd q (by decide), Or.inr (Or.inl rfl)⟩
abbrev jX2_listen : MI := (2, cX2_listen, 11, none, false, iX2_listen)
set_option maxRecDepth 100000 in
theorem oX2_listen : ab_ok2 jX2_listen 0 yX2_listen := ⟨by decide +kernel, ⟨ab_T_of 464 (by decide +kernel) rfl, ab_T_of 58 (by decide +kernel) rfl, ⟨by decide, by decide⟩, by decide, ⟨ab_T_of 463 (by decide +kernel) rfl, ab_T_of 11 (by decide +kernel) rfl⟩⟩, by decide, rfl, fun q => absurd q (by decide), Or.inl rfl⟩
abbrev jX3_init : MI := (3, cX3_init, 1, none, true, iX3_init)
set_option maxRecDepth 100000 in
theorem oX3_init : ab_ok2 jX3_init 2 yX3_init := ⟨by decide +kernel, ⟨ab_T_of 74 (by decide +kernel) rfl, ab_T_of 55 (by decide +kernel) rfl, ⟨by decide, by decide⟩, by decide, ⟨ab_T_of 73 (by decide +kernel) rfl, rfl, rfl⟩⟩, by decide, rfl, fun q => rfl, Or.inl rfl⟩
abbrev jX3_add : MI := (3, cX3_add, 2, none, false, iX3_add)
set_option maxRecDepth 100000 in
theorem oX3_add : ab_ok2 jX3_add 0 yX3_add := ⟨by decide +kernel, ⟨ab_T_of 297 (by decide +kernel) rfl, ab_T_of 55 (by decide +kernel) rfl, ⟨by decide, by decide⟩, by decide, ⟨ab_T_of 295 (by decide +kernel) rfl, ab_T_of 296 (by decide +kernel) rfl⟩⟩, by decide, rfl, fun q => absurd q (by decide), Or.inl rfl⟩
abbrev jX3_checkForm : MI := (3, cX3_checkForm, 2, some .int, false, iX3_checkForm)
set_option maxRecDepth 100000 in
theorem oX3_checkForm : ab_ok2 jX3_checkForm 0 yX3_checkForm := ⟨by decide +kernel, ⟨ab_T_of 305 (by decide +kernel) rfl, ab_T_of 55 (by decide +kernel) rfl, ⟨by decide, by decide⟩, by decide, ⟨ab_T_of 303 (by decide +kernel) rfl, ab_T_of 304 (by decide +kernel) rfl⟩⟩, by decide, rfl, fun q => absurd q (by decide), Or.inr (Or.inl rfl)⟩
abbrev jX3_readStatement : MI := (3, cX3_readStatement, 1, some .boolean, false, iX3_readStatement)
set_option maxRecDepth 100000 in
theorem oX3_readStatement : ab_ok2 jX3_readStatement 0 yX3_readStatement := ⟨by decide +kernel, ⟨ab_T_of 309 (by decide +kernel) rfl, ab_T_of 55 (by decide +kernel) rfl, ⟨by decide, by decide⟩, by decide, ⟨ab_T_of 307 (by decide +kernel) rfl, ab_T_of 308 (by decide +kernel) rfl⟩⟩, by decide, rfl, fun q => absurd q (by decide), Or.inr (Or.inr rfl)⟩
abbrev jX3_readFault : MI := (3, cX3_readFault, 1, some .boolean, false, iX3_readFault)
set_option maxRecDepth 100000 in
theorem oX3_readFault : ab_ok2 jX3_readFault 0 yX3_readFault := ⟨by decide +kernel, ⟨ab_T_of 317 (by decide +kernel) rfl, ab_T_of 55 (by decide +kernel) rfl, ⟨by decide, by decide⟩, by decide, ⟨ab_T_of 316 (by decide +kernel) rfl, ab_T_of 2 (by decide +kernel) rfl⟩⟩, by decide, rfl, fun q => absurd q (by decide), Or.inr (Or.inr rfl)⟩
abbrev jX3_readBall : MI := (3, cX3_readBall, 1, some .boolean, false, iX3_readBall)
set_option maxRecDepth 100000 in
theorem oX3_readBall : ab_ok2 jX3_readBall 0 yX3_readBall := ⟨by decide +kernel, ⟨ab_T_of 332 (by decide +kernel) rfl, ab_T_of 55 (by decide +kernel) rfl, ⟨by decide, by decide⟩, by decide, ⟨ab_T_of 331 (by decide +kernel) rfl, ab_T_of 5 (by decide +kernel) rfl⟩⟩, by decide, rfl, fun q => absurd q (by decide), Or.inr (Or.inr rfl)⟩
abbrev jX3_readNumber : MI := (3, cX3_readNumber, 6, some .boolean, false, iX3_readNumber)
set_option maxRecDepth 100000 in
theorem oX3_readNumber : ab_ok2 jX3_readNumber 0 yX3_readNumber := ⟨by decide +kernel, ⟨ab_T_of 324 (by decide +kernel) rfl, ab_T_of 55 (by decide +kernel) rfl, ⟨by decide, by decide⟩, by decide, ⟨ab_T_of 323 (by decide +kernel) rfl, ab_T_of 3 (by decide +kernel) rfl⟩⟩, by decide, rfl, fun q => absurd q (by decide), Or.inr (Or.inr rfl)⟩
abbrev jX3_skip : MI := (3, cX3_skip, 2, some .boolean, false, iX3_skip)
set_option maxRecDepth 100000 in
theorem oX3_skip : ab_ok2 jX3_skip 0 yX3_skip := ⟨by decide +kernel, ⟨ab_T_of 328 (by decide +kernel) rfl, ab_T_of 55 (by decide +kernel) rfl, ⟨by decide, by decide⟩, by decide, ⟨ab_T_of 327 (by decide +kernel) rfl, ab_T_of 4 (by decide +kernel) rfl⟩⟩, by decide, rfl, fun q => absurd q (by decide), Or.inr (Or.inr rfl)⟩
abbrev jX3_peek : MI := (3, cX3_peek, 1, some .int, false, iX3_peek)
set_option maxRecDepth 100000 in
theorem oX3_peek : ab_ok2 jX3_peek 0 yX3_peek := ⟨by decide +kernel, ⟨ab_T_of 313 (by decide +kernel) rfl, ab_T_of 55 (by decide +kernel) rfl, ⟨by decide, by decide⟩, by decide, ⟨ab_T_of 312 (by decide +kernel) rfl, ab_T_of 1 (by decide +kernel) rfl⟩⟩, by decide, rfl, fun q => absurd q (by decide), Or.inr (Or.inl rfl)⟩
abbrev jX3_kindOf : MI := (3, cX3_kindOf, 1, some .int, false, iX3_kindOf)
set_option maxRecDepth 100000 in
theorem oX3_kindOf : ab_ok2 jX3_kindOf 1 yX3_kindOf := ⟨by decide +kernel, ⟨ab_T_of 320 (by decide +kernel) rfl, ab_T_of 55 (by decide +kernel) rfl, ⟨by decide, by decide⟩, by decide, ab_T_of 319 (by decide +kernel) rfl⟩, by decide, rfl, fun q => absurd q (by decide), Or.inr (Or.inl rfl)⟩
abbrev jX4_init : MI := (4, cX4_init, 1, none, true, iX4_init)
set_option maxRecDepth 100000 in
theorem oX4_init : ab_ok2 jX4_init 2 yX4_init := ⟨by decide +kernel, ⟨ab_T_of 66 (by decide +kernel) rfl, ab_T_of 54 (by decide +kernel) rfl, ⟨by decide, by decide⟩, by decide, ⟨ab_T_of 65 (by decide +kernel) rfl, rfl, rfl⟩⟩, by decide, rfl, fun q => rfl, Or.inl rfl⟩
abbrev jX4_feed : MI := (4, cX4_feed, 5, some .int, false, iX4_feed)
set_option maxRecDepth 100000 in
theorem oX4_feed : ab_ok2 jX4_feed 0 yX4_feed := ⟨by decide +kernel, ⟨ab_T_of 289 (by decide +kernel) rfl, ab_T_of 54 (by decide +kernel) rfl, ⟨by decide, by decide⟩, by decide, ⟨ab_T_of 287 (by decide +kernel) rfl, ab_T_of 288 (by decide +kernel) rfl⟩⟩, by decide, rfl, fun q => absurd q (by decide), Or.inr (Or.inl rfl)⟩
abbrev jX4_bicycle : MI := (4, cX4_bicycle, 2, some .int, false, iX4_bicycle)
set_option maxRecDepth 100000 in
theorem oX4_bicycle : ab_ok2 jX4_bicycle 0 yX4_bicycle := ⟨by decide +kernel, ⟨ab_T_of 301 (by decide +kernel) rfl, ab_T_of 54 (by decide +kernel) rfl, ⟨by decide, by decide⟩, by decide, ⟨ab_T_of 299 (by decide +kernel) rfl, ab_T_of 300 (by decide +kernel) rfl⟩⟩, by decide, rfl, fun q => absurd q (by decide), Or.inr (Or.inl rfl)⟩
abbrev jX4_part : MI := (4, cX4_part, 3, some .int, false, iX4_part)
set_option maxRecDepth 100000 in
theorem oX4_part : ab_ok2 jX4_part 0 yX4_part := ⟨by decide +kernel, ⟨ab_T_of 368 (by decide +kernel) rfl, ab_T_of 54 (by decide +kernel) rfl, ⟨by decide, by decide⟩, by decide, ⟨ab_T_of 366 (by decide +kernel) rfl, ab_T_of 367 (by decide +kernel) rfl⟩⟩, by decide, rfl, fun q => absurd q (by decide), Or.inr (Or.inl rfl)⟩
abbrev jX4_fault : MI := (4, cX4_fault, 4, some .int, false, iX4_fault)
set_option maxRecDepth 100000 in
theorem oX4_fault : ab_ok2 jX4_fault 0 yX4_fault := ⟨by decide +kernel, ⟨ab_T_of 376 (by decide +kernel) rfl, ab_T_of 54 (by decide +kernel) rfl, ⟨by decide, by decide⟩, by decide, ⟨ab_T_of 374 (by decide +kernel) rfl, ab_T_of 375 (by decide +kernel) rfl⟩⟩, by decide, rfl, fun q => absurd q (by decide), Or.inr (Or.inl rfl)⟩
abbrev jX4_rounds : MI := (4, cX4_rounds, 5, some .int, false, iX4_rounds)
set_option maxRecDepth 100000 in
theorem oX4_rounds : ab_ok2 jX4_rounds 0 yX4_rounds := ⟨by decide +kernel, ⟨ab_T_of 388 (by decide +kernel) rfl, ab_T_of 54 (by decide +kernel) rfl, ⟨by decide, by decide⟩, by decide, ⟨ab_T_of 386 (by decide +kernel) rfl, ab_T_of 387 (by decide +kernel) rfl⟩⟩, by decide, rfl, fun q => absurd q (by decide), Or.inr (Or.inl rfl)⟩
abbrev jX4_load : MI := (4, cX4_load, 3, some .int, false, iX4_load)
set_option maxRecDepth 100000 in
theorem oX4_load : ab_ok2 jX4_load 0 yX4_load := ⟨by decide +kernel, ⟨ab_T_of 400 (by decide +kernel) rfl, ab_T_of 54 (by decide +kernel) rfl, ⟨by decide, by decide⟩, by decide, ⟨ab_T_of 398 (by decide +kernel) rfl, ab_T_of 399 (by decide +kernel) rfl⟩⟩, by decide, rfl, fun q => absurd q (by decide), Or.inr (Or.inl rfl)⟩
abbrev jX4_set : MI := (4, cX4_set, 4, some .int, false, iX4_set)
set_option maxRecDepth 100000 in
theorem oX4_set : ab_ok2 jX4_set 0 yX4_set := ⟨by decide +kernel, ⟨ab_T_of 411 (by decide +kernel) rfl, ab_T_of 54 (by decide +kernel) rfl, ⟨by decide, by decide⟩, by decide, ⟨ab_T_of 409 (by decide +kernel) rfl, ab_T_of 410 (by decide +kernel) rfl⟩⟩, by decide, rfl, fun q => absurd q (by decide), Or.inr (Or.inl rfl)⟩
abbrev jX4_oil : MI := (4, cX4_oil, 3, some .int, false, iX4_oil)
set_option maxRecDepth 100000 in
theorem oX4_oil : ab_ok2 jX4_oil 0 yX4_oil := ⟨by decide +kernel, ⟨ab_T_of 417 (by decide +kernel) rfl, ab_T_of 54 (by decide +kernel) rfl, ⟨by decide, by decide⟩, by decide, ⟨ab_T_of 415 (by decide +kernel) rfl, ab_T_of 416 (by decide +kernel) rfl⟩⟩, by decide, rfl, fun q => absurd q (by decide), Or.inr (Or.inl rfl)⟩
abbrev jX4_stage : MI := (4, cX4_stage, 4, some .int, false, iX4_stage)
set_option maxRecDepth 100000 in
theorem oX4_stage : ab_ok2 jX4_stage 0 yX4_stage := ⟨by decide +kernel, ⟨ab_T_of 421 (by decide +kernel) rfl, ab_T_of 54 (by decide +kernel) rfl, ⟨by decide, by decide⟩, by decide, ⟨ab_T_of 419 (by decide +kernel) rfl, ab_T_of 420 (by decide +kernel) rfl⟩⟩, by decide, rfl, fun q => absurd q (by decide), Or.inr (Or.inl rfl)⟩
abbrev jX4_stageOf : MI := (4, cX4_stageOf, 3, some .int, false, iX4_stageOf)
set_option maxRecDepth 100000 in
theorem oX4_stageOf : ab_ok2 jX4_stageOf 0 yX4_stageOf := ⟨by decide +kernel, ⟨ab_T_of 429 (by decide +kernel) rfl, ab_T_of 54 (by decide +kernel) rfl, ⟨by decide, by decide⟩, by decide, ⟨ab_T_of 427 (by decide +kernel) rfl, ab_T_of 428 (by decide +kernel) rfl⟩⟩, by decide, rfl, fun q => absurd q (by decide), Or.inr (Or.inl rfl)⟩
abbrev jX4_drop : MI := (4, cX4_drop, 2, some .int, false, iX4_drop)
set_option maxRecDepth 100000 in
theorem oX4_drop : ab_ok2 jX4_drop 0 yX4_drop := ⟨by decide +kernel, ⟨ab_T_of 433 (by decide +kernel) rfl, ab_T_of 54 (by decide +kernel) rfl, ⟨by decide, by decide⟩, by decide, ⟨ab_T_of 431 (by decide +kernel) rfl, ab_T_of 432 (by decide +kernel) rfl⟩⟩, by decide, rfl, fun q => absurd q (by decide), Or.inr (Or.inl rfl)⟩
abbrev jX4_counts : MI := (4, cX4_counts, 2, some .int, false, iX4_counts)
set_option maxRecDepth 100000 in
theorem oX4_counts : ab_ok2 jX4_counts 0 yX4_counts := ⟨by decide +kernel, ⟨ab_T_of 437 (by decide +kernel) rfl, ab_T_of 54 (by decide +kernel) rfl, ⟨by decide, by decide⟩, by decide, ⟨ab_T_of 435 (by decide +kernel) rfl, ab_T_of 436 (by decide +kernel) rfl⟩⟩, by decide, rfl, fun q => absurd q (by decide), Or.inr (Or.inl rfl)⟩
abbrev jX4_stageCounts : MI := (4, cX4_stageCounts, 5, some .int, false, iX4_stageCounts)
set_option maxRecDepth 100000 in
theorem oX4_stageCounts : ab_ok2 jX4_stageCounts 0 yX4_stageCounts := ⟨by decide +kernel, ⟨ab_T_of 493 (by decide +kernel) rfl, ab_T_of 54 (by decide +kernel) rfl, ⟨by decide, by decide⟩, by decide, ⟨ab_T_of 491 (by decide +kernel) rfl, ab_T_of 492 (by decide +kernel) rfl⟩⟩, by decide, rfl, fun q => absurd q (by decide), Or.inr (Or.inl rfl)⟩
abbrev jX4_when : MI := (4, cX4_when, 3, some .int, false, iX4_when)
set_option maxRecDepth 100000 in
theorem oX4_when : ab_ok2 jX4_when 0 yX4_when := ⟨by decide +kernel, ⟨ab_T_of 503 (by decide +kernel) rfl, ab_T_of 54 (by decide +kernel) rfl, ⟨by decide, by decide⟩, by decide, ⟨ab_T_of 501 (by decide +kernel) rfl, ab_T_of 502 (by decide +kernel) rfl⟩⟩, by decide, rfl, fun q => absurd q (by decide), Or.inr (Or.inl rfl)⟩
abbrev jX4_heard : MI := (4, cX4_heard, 7, some .int, false, iX4_heard)
set_option maxRecDepth 100000 in
theorem oX4_heard : ab_ok2 jX4_heard 0 yX4_heard := ⟨by decide +kernel, ⟨ab_T_of 507 (by decide +kernel) rfl, ab_T_of 54 (by decide +kernel) rfl, ⟨by decide, by decide⟩, by decide, ⟨ab_T_of 505 (by decide +kernel) rfl, ab_T_of 506 (by decide +kernel) rfl⟩⟩, by decide, rfl, fun q => absurd q (by decide), Or.inr (Or.inl rfl)⟩
abbrev jX4_go : MI := (4, cX4_go, 3, some .int, false, iX4_go)
set_option maxRecDepth 100000 in
theorem oX4_go : ab_ok2 jX4_go 0 yX4_go := ⟨by decide +kernel, ⟨ab_T_of 518 (by decide +kernel) rfl, ab_T_of 54 (by decide +kernel) rfl, ⟨by decide, by decide⟩, by decide, ⟨ab_T_of 516 (by decide +kernel) rfl, ab_T_of 517 (by decide +kernel) rfl⟩⟩, by decide, rfl, fun q => absurd q (by decide), Or.inr (Or.inl rfl)⟩
abbrev jX4_fit : MI := (4, cX4_fit, 3, some .int, false, iX4_fit)
set_option maxRecDepth 100000 in
theorem oX4_fit : ab_ok2 jX4_fit 0 yX4_fit := ⟨by decide +kernel, ⟨ab_T_of 527 (by decide +kernel) rfl, ab_T_of 54 (by decide +kernel) rfl, ⟨by decide, by decide⟩, by decide, ⟨ab_T_of 525 (by decide +kernel) rfl, ab_T_of 526 (by decide +kernel) rfl⟩⟩, by decide, rfl, fun q => absurd q (by decide), Or.inr (Or.inl rfl)⟩
abbrev jX4_odds : MI := (4, cX4_odds, 6, some .int, false, iX4_odds)
set_option maxRecDepth 100000 in
theorem oX4_odds : ab_ok2 jX4_odds 0 yX4_odds := ⟨by decide +kernel, ⟨ab_T_of 541 (by decide +kernel) rfl, ab_T_of 54 (by decide +kernel) rfl, ⟨by decide, by decide⟩, by decide, ⟨ab_T_of 539 (by decide +kernel) rfl, ab_T_of 540 (by decide +kernel) rfl⟩⟩, by decide, rfl, fun q => absurd q (by decide), Or.inr (Or.inl rfl)⟩
abbrev jX4_twos : MI := (4, cX4_twos, 7, some .int, false, iX4_twos)
set_option maxRecDepth 100000 in
theorem oX4_twos : ab_ok2 jX4_twos 0 yX4_twos := ⟨by decide +kernel, ⟨ab_T_of 552 (by decide +kernel) rfl, ab_T_of 54 (by decide +kernel) rfl, ⟨by decide, by decide⟩, by decide, ⟨ab_T_of 550 (by decide +kernel) rfl, ab_T_of 551 (by decide +kernel) rfl⟩⟩, by decide, rfl, fun q => absurd q (by decide), Or.inr (Or.inl rfl)⟩
abbrev jX4_apart : MI := (4, cX4_apart, 6, some .int, false, iX4_apart)
set_option maxRecDepth 100000 in
theorem oX4_apart : ab_ok2 jX4_apart 0 yX4_apart := ⟨by decide +kernel, ⟨ab_T_of 556 (by decide +kernel) rfl, ab_T_of 54 (by decide +kernel) rfl, ⟨by decide, by decide⟩, by decide, ⟨ab_T_of 554 (by decide +kernel) rfl, ab_T_of 555 (by decide +kernel) rfl⟩⟩, by decide, rfl, fun q => absurd q (by decide), Or.inr (Or.inl rfl)⟩
abbrev jX4_tells : MI := (4, cX4_tells, 8, some .int, false, iX4_tells)
set_option maxRecDepth 100000 in
theorem oX4_tells : ab_ok2 jX4_tells 0 yX4_tells := ⟨by decide +kernel, ⟨ab_T_of 564 (by decide +kernel) rfl, ab_T_of 54 (by decide +kernel) rfl, ⟨by decide, by decide⟩, by decide, ⟨ab_T_of 562 (by decide +kernel) rfl, ab_T_of 563 (by decide +kernel) rfl⟩⟩, by decide, rfl, fun q => absurd q (by decide), Or.inr (Or.inl rfl)⟩
abbrev jX4_length : MI := (4, cX4_length, 7, some .int, false, iX4_length)
set_option maxRecDepth 100000 in
theorem oX4_length : ab_ok2 jX4_length 0 yX4_length := ⟨by decide +kernel, ⟨ab_T_of 572 (by decide +kernel) rfl, ab_T_of 54 (by decide +kernel) rfl, ⟨by decide, by decide⟩, by decide, ⟨ab_T_of 570 (by decide +kernel) rfl, ab_T_of 571 (by decide +kernel) rfl⟩⟩, by decide, rfl, fun q => absurd q (by decide), Or.inr (Or.inl rfl)⟩
abbrev jX4_beat : MI := (4, cX4_beat, 5, some .int, false, iX4_beat)
set_option maxRecDepth 100000 in
theorem oX4_beat : ab_ok2 jX4_beat 0 yX4_beat := ⟨by decide +kernel, ⟨ab_T_of 576 (by decide +kernel) rfl, ab_T_of 54 (by decide +kernel) rfl, ⟨by decide, by decide⟩, by decide, ⟨ab_T_of 574 (by decide +kernel) rfl, ab_T_of 575 (by decide +kernel) rfl⟩⟩, by decide, rfl, fun q => absurd q (by decide), Or.inr (Or.inl rfl)⟩
abbrev jX4_away : MI := (4, cX4_away, 4, some .int, false, iX4_away)
set_option maxRecDepth 100000 in
theorem oX4_away : ab_ok2 jX4_away 0 yX4_away := ⟨by decide +kernel, ⟨ab_T_of 586 (by decide +kernel) rfl, ab_T_of 54 (by decide +kernel) rfl, ⟨by decide, by decide⟩, by decide, ⟨ab_T_of 584 (by decide +kernel) rfl, ab_T_of 585 (by decide +kernel) rfl⟩⟩, by decide, rfl, fun q => absurd q (by decide), Or.inr (Or.inl rfl)⟩
abbrev jX4_danger : MI := (4, cX4_danger, 3, some .int, false, iX4_danger)
set_option maxRecDepth 100000 in
theorem oX4_danger : ab_ok2 jX4_danger 0 yX4_danger := ⟨by decide +kernel, ⟨ab_T_of 590 (by decide +kernel) rfl, ab_T_of 54 (by decide +kernel) rfl, ⟨by decide, by decide⟩, by decide, ⟨ab_T_of 588 (by decide +kernel) rfl, ab_T_of 589 (by decide +kernel) rfl⟩⟩, by decide, rfl, fun q => absurd q (by decide), Or.inr (Or.inl rfl)⟩
abbrev jX4_least : MI := (4, cX4_least, 2, some .int, false, iX4_least)
set_option maxRecDepth 100000 in
theorem oX4_least : ab_ok2 jX4_least 0 yX4_least := ⟨by decide +kernel, ⟨ab_T_of 597 (by decide +kernel) rfl, ab_T_of 54 (by decide +kernel) rfl, ⟨by decide, by decide⟩, by decide, ⟨ab_T_of 595 (by decide +kernel) rfl, ab_T_of 596 (by decide +kernel) rfl⟩⟩, by decide, rfl, fun q => absurd q (by decide), Or.inr (Or.inl rfl)⟩
abbrev jX4_row : MI := (4, cX4_row, 2, some .int, false, iX4_row)
set_option maxRecDepth 100000 in
theorem oX4_row : ab_ok2 jX4_row 0 yX4_row := ⟨by decide +kernel, ⟨ab_T_of 613 (by decide +kernel) rfl, ab_T_of 54 (by decide +kernel) rfl, ⟨by decide, by decide⟩, by decide, ⟨ab_T_of 611 (by decide +kernel) rfl, ab_T_of 612 (by decide +kernel) rfl⟩⟩, by decide, rfl, fun q => absurd q (by decide), Or.inr (Or.inl rfl)⟩
abbrev jX4_judge : MI := (4, cX4_judge, 4, some .int, false, iX4_judge)
set_option maxRecDepth 100000 in
theorem oX4_judge : ab_ok2 jX4_judge 0 yX4_judge := ⟨by decide +kernel, ⟨ab_T_of 617 (by decide +kernel) rfl, ab_T_of 54 (by decide +kernel) rfl, ⟨by decide, by decide⟩, by decide, ⟨ab_T_of 615 (by decide +kernel) rfl, ab_T_of 616 (by decide +kernel) rfl⟩⟩, by decide, rfl, fun q => absurd q (by decide), Or.inr (Or.inl rfl)⟩
abbrev jX4_held : MI := (4, cX4_held, 1, some .int, false, iX4_held)
set_option maxRecDepth 100000 in
theorem oX4_held : ab_ok2 jX4_held 0 yX4_held := ⟨by decide +kernel, ⟨ab_T_of 624 (by decide +kernel) rfl, ab_T_of 54 (by decide +kernel) rfl, ⟨by decide, by decide⟩, by decide, ⟨ab_T_of 622 (by decide +kernel) rfl, ab_T_of 623 (by decide +kernel) rfl⟩⟩, by decide, rfl, fun q => absurd q (by decide), Or.inr (Or.inl rfl)⟩
abbrev jX4_image : MI := (4, cX4_image, 1, some .int, false, iX4_image)
set_option maxRecDepth 100000 in
theorem oX4_image : ab_ok2 jX4_image 0 yX4_image := ⟨by decide +kernel, ⟨ab_T_of 632 (by decide +kernel) rfl, ab_T_of 54 (by decide +kernel) rfl, ⟨by decide, by decide⟩, by decide, ⟨ab_T_of 630 (by decide +kernel) rfl, ab_T_of 631 (by decide +kernel) rfl⟩⟩, by decide, rfl, fun q => absurd q (by decide), Or.inr (Or.inl rfl)⟩
abbrev jX4_on : MI := (4, cX4_on, 1, some .int, false, iX4_on)
set_option maxRecDepth 100000 in
theorem oX4_on : ab_ok2 jX4_on 0 yX4_on := ⟨by decide +kernel, ⟨ab_T_of 636 (by decide +kernel) rfl, ab_T_of 54 (by decide +kernel) rfl, ⟨by decide, by decide⟩, by decide, ⟨ab_T_of 634 (by decide +kernel) rfl, ab_T_of 635 (by decide +kernel) rfl⟩⟩, by decide, rfl, fun q => absurd q (by decide), Or.inr (Or.inl rfl)⟩
abbrev jX4_count : MI := (4, cX4_count, 2, some .int, false, iX4_count)
set_option maxRecDepth 100000 in
theorem oX4_count : ab_ok2 jX4_count 0 yX4_count := ⟨by decide +kernel, ⟨ab_T_of 640 (by decide +kernel) rfl, ab_T_of 54 (by decide +kernel) rfl, ⟨by decide, by decide⟩, by decide, ⟨ab_T_of 638 (by decide +kernel) rfl, ab_T_of 639 (by decide +kernel) rfl⟩⟩, by decide, rfl, fun q => absurd q (by decide), Or.inr (Or.inl rfl)⟩
abbrev jX4_refuse : MI := (4, cX4_refuse, 3, some .int, false, iX4_refuse)
set_option maxRecDepth 100000 in
theorem oX4_refuse : ab_ok2 jX4_refuse 0 yX4_refuse := ⟨by decide +kernel, ⟨ab_T_of 293 (by decide +kernel) rfl, ab_T_of 54 (by decide +kernel) rfl, ⟨by decide, by decide⟩, by decide, ⟨ab_T_of 292 (by decide +kernel) rfl, ab_T_of 0 (by decide +kernel) rfl⟩⟩, by decide, rfl, fun q => absurd q (by decide), Or.inr (Or.inl rfl)⟩
abbrev jX4_isFault : MI := (4, cX4_isFault, 2, some .boolean, false, iX4_isFault)
set_option maxRecDepth 100000 in
theorem oX4_isFault : ab_ok2 jX4_isFault 0 yX4_isFault := ⟨by decide +kernel, ⟨ab_T_of 380 (by decide +kernel) rfl, ab_T_of 54 (by decide +kernel) rfl, ⟨by decide, by decide⟩, by decide, ⟨ab_T_of 379 (by decide +kernel) rfl, ab_T_of 10 (by decide +kernel) rfl⟩⟩, by decide, rfl, fun q => absurd q (by decide), Or.inr (Or.inr rfl)⟩
abbrev jX4_areTwoFaults : MI := (4, cX4_areTwoFaults, 3, some .boolean, false, iX4_areTwoFaults)
set_option maxRecDepth 100000 in
theorem oX4_areTwoFaults : ab_ok2 jX4_areTwoFaults 0 yX4_areTwoFaults := ⟨by decide +kernel, ⟨ab_T_of 560 (by decide +kernel) rfl, ab_T_of 54 (by decide +kernel) rfl, ⟨by decide, by decide⟩, by decide, ⟨ab_T_of 559 (by decide +kernel) rfl, ab_T_of 16 (by decide +kernel) rfl⟩⟩, by decide, rfl, fun q => absurd q (by decide), Or.inr (Or.inr rfl)⟩
abbrev jX4_isGear : MI := (4, cX4_isGear, 2, some .boolean, false, iX4_isGear)
set_option maxRecDepth 100000 in
theorem oX4_isGear : ab_ok2 jX4_isGear 0 yX4_isGear := ⟨by decide +kernel, ⟨ab_T_of 372 (by decide +kernel) rfl, ab_T_of 54 (by decide +kernel) rfl, ⟨by decide, by decide⟩, by decide, ⟨ab_T_of 371 (by decide +kernel) rfl, ab_T_of 9 (by decide +kernel) rfl⟩⟩, by decide, rfl, fun q => absurd q (by decide), Or.inr (Or.inr rfl)⟩
abbrev jX4_isAct : MI := (4, cX4_isAct, 1, some .boolean, false, iX4_isAct)
set_option maxRecDepth 100000 in
theorem oX4_isAct : ab_ok2 jX4_isAct 1 yX4_isAct := ⟨by decide +kernel, ⟨ab_T_of 403 (by decide +kernel) rfl, ab_T_of 54 (by decide +kernel) rfl, ⟨by decide, by decide⟩, by decide, ab_T_of 402 (by decide +kernel) rfl⟩, by decide, rfl, fun q => absurd q (by decide), Or.inr (Or.inr rfl)⟩
abbrev jX4_isWithin : MI := (4, cX4_isWithin, 3, some .boolean, false, iX4_isWithin)
set_option maxRecDepth 100000 in
theorem oX4_isWithin : ab_ok2 jX4_isWithin 1 yX4_isWithin := ⟨by decide +kernel, ⟨ab_T_of 534 (by decide +kernel) rfl, ab_T_of 54 (by decide +kernel) rfl, ⟨by decide, by decide⟩, by decide, ab_T_of 533 (by decide +kernel) rfl⟩, by decide, rfl, fun q => absurd q (by decide), Or.inr (Or.inr rfl)⟩
abbrev jX4_takeStatements : MI := (4, cX4_takeStatements, 4, some .int, false, iX4_takeStatements)
set_option maxRecDepth 100000 in
theorem oX4_takeStatements : ab_ok2 jX4_takeStatements 0 yX4_takeStatements := ⟨by decide +kernel, ⟨ab_T_of 336 (by decide +kernel) rfl, ab_T_of 54 (by decide +kernel) rfl, ⟨by decide, by decide⟩, by decide, ⟨ab_T_of 335 (by decide +kernel) rfl, ab_T_of 6 (by decide +kernel) rfl⟩⟩, by decide, rfl, fun q => absurd q (by decide), Or.inr (Or.inl rfl)⟩
abbrev jX4_clicksInStage : MI := (4, cX4_clicksInStage, 5, some .int, false, iX4_clicksInStage)
set_option maxRecDepth 100000 in
theorem oX4_clicksInStage : ab_ok2 jX4_clicksInStage 0 yX4_clicksInStage := ⟨by decide +kernel, ⟨ab_T_of 497 (by decide +kernel) rfl, ab_T_of 54 (by decide +kernel) rfl, ⟨by decide, by decide⟩, by decide, ⟨ab_T_of 496 (by decide +kernel) rfl, ab_T_of 13 (by decide +kernel) rfl⟩⟩, by decide, rfl, fun q => absurd q (by decide), Or.inr (Or.inl rfl)⟩
abbrev jX4_listenToRide : MI := (4, cX4_listenToRide, 2, none, false, iX4_listenToRide)
set_option maxRecDepth 100000 in
theorem oX4_listenToRide : ab_ok2 jX4_listenToRide 0 yX4_listenToRide := ⟨by decide +kernel, ⟨ab_T_of 511 (by decide +kernel) rfl, ab_T_of 54 (by decide +kernel) rfl, ⟨by decide, by decide⟩, by decide, ⟨ab_T_of 510 (by decide +kernel) rfl, ab_T_of 14 (by decide +kernel) rfl⟩⟩, by decide, rfl, fun q => absurd q (by decide), Or.inl rfl⟩
abbrev jX4_fittingBits : MI := (4, cX4_fittingBits, 5, some .int, false, iX4_fittingBits)
set_option maxRecDepth 100000 in
theorem oX4_fittingBits : ab_ok2 jX4_fittingBits 0 yX4_fittingBits := ⟨by decide +kernel, ⟨ab_T_of 531 (by decide +kernel) rfl, ab_T_of 54 (by decide +kernel) rfl, ⟨by decide, by decide⟩, by decide, ⟨ab_T_of 530 (by decide +kernel) rfl, ab_T_of 15 (by decide +kernel) rfl⟩⟩, by decide, rfl, fun q => absurd q (by decide), Or.inr (Or.inl rfl)⟩
abbrev jX4_unlikeCounts : MI := (4, cX4_unlikeCounts, 8, some .int, false, iX4_unlikeCounts)
set_option maxRecDepth 100000 in
theorem oX4_unlikeCounts : ab_ok2 jX4_unlikeCounts 0 yX4_unlikeCounts := ⟨by decide +kernel, ⟨ab_T_of 568 (by decide +kernel) rfl, ab_T_of 54 (by decide +kernel) rfl, ⟨by decide, by decide⟩, by decide, ⟨ab_T_of 567 (by decide +kernel) rfl, ab_T_of 17 (by decide +kernel) rfl⟩⟩, by decide, rfl, fun q => absurd q (by decide), Or.inr (Or.inl rfl)⟩
abbrev jX4_leastTerm : MI := (4, cX4_leastTerm, 5, some .int, false, iX4_leastTerm)
set_option maxRecDepth 100000 in
theorem oX4_leastTerm : ab_ok2 jX4_leastTerm 1 yX4_leastTerm := ⟨by decide +kernel, ⟨ab_T_of 548 (by decide +kernel) rfl, ab_T_of 54 (by decide +kernel) rfl, ⟨by decide, by decide⟩, by decide, ab_T_of 547 (by decide +kernel) rfl⟩, by decide, rfl, fun q => absurd q (by decide), Or.inr (Or.inl rfl)⟩
abbrev jX4_wrap : MI := (4, cX4_wrap, 3, some .int, false, iX4_wrap)
set_option maxRecDepth 100000 in
theorem oX4_wrap : ab_ok2 jX4_wrap 1 yX4_wrap := ⟨by decide +kernel, ⟨ab_T_of 477 (by decide +kernel) rfl, ab_T_of 54 (by decide +kernel) rfl, ⟨by decide, by decide⟩, by decide, ab_T_of 476 (by decide +kernel) rfl⟩, by decide, rfl, fun q => absurd q (by decide), Or.inr (Or.inl rfl)⟩
abbrev jX4_findLeastOrder : MI := (4, cX4_findLeastOrder, 3, none, false, iX4_findLeastOrder)
set_option maxRecDepth 100000 in
theorem oX4_findLeastOrder : ab_ok2 jX4_findLeastOrder 0 yX4_findLeastOrder := ⟨by decide +kernel, ⟨ab_T_of 601 (by decide +kernel) rfl, ab_T_of 54 (by decide +kernel) rfl, ⟨by decide, by decide⟩, by decide, ⟨ab_T_of 600 (by decide +kernel) rfl, ab_T_of 18 (by decide +kernel) rfl⟩⟩, by decide, rfl, fun q => absurd q (by decide), Or.inl rfl⟩
abbrev jX4_sumOf : MI := (4, cX4_sumOf, 6, some .int, false, iX4_sumOf)
set_option maxRecDepth 100000 in
theorem oX4_sumOf : ab_ok2 jX4_sumOf 0 yX4_sumOf := ⟨by decide +kernel, ⟨ab_T_of 609 (by decide +kernel) rfl, ab_T_of 54 (by decide +kernel) rfl, ⟨by decide, by decide⟩, by decide, ⟨ab_T_of 608 (by decide +kernel) rfl, ab_T_of 19 (by decide +kernel) rfl⟩⟩, by decide, rfl, fun q => absurd q (by decide), Or.inr (Or.inl rfl)⟩
abbrev jX4_isToldEachFaultOnce : MI := (4, cX4_isToldEachFaultOnce, 3, some .boolean, false, iX4_isToldEachFaultOnce)
set_option maxRecDepth 100000 in
theorem oX4_isToldEachFaultOnce : ab_ok2 jX4_isToldEachFaultOnce 0 yX4_isToldEachFaultOnce := ⟨by decide +kernel, ⟨ab_T_of 628 (by decide +kernel) rfl, ab_T_of 54 (by decide +kernel) rfl, ⟨by decide, by decide⟩, by decide, ⟨ab_T_of 627 (by decide +kernel) rfl, ab_T_of 20 (by decide +kernel) rfl⟩⟩, by decide, rfl, fun q => absurd q (by decide), Or.inr (Or.inr rfl)⟩
abbrev jX5_init : MI := (5, cX5_init, 1, none, true, iX5_init)
set_option maxRecDepth 100000 in
theorem oX5_init : ab_ok2 jX5_init 2 yX5_init := ⟨by decide +kernel, ⟨ab_T_of 649 (by decide +kernel) rfl, ab_T_of 59 (by decide +kernel) rfl, ⟨by decide, by decide⟩, by decide, ⟨ab_T_of 648 (by decide +kernel) rfl, rfl, rfl⟩⟩, by decide, rfl, fun q => rfl, Or.inl rfl⟩
abbrev jX5_refuse : MI := (5, cX5_refuse, 2, some .int, false, iX5_refuse)
set_option maxRecDepth 100000 in
theorem oX5_refuse : ab_ok2 jX5_refuse 0 yX5_refuse := ⟨by decide +kernel, ⟨ab_T_of 734 (by decide +kernel) rfl, ab_T_of 59 (by decide +kernel) rfl, ⟨by decide, by decide⟩, by decide, ⟨ab_T_of 733 (by decide +kernel) rfl, ab_T_of 21 (by decide +kernel) rfl⟩⟩, by decide, rfl, fun q => absurd q (by decide), Or.inr (Or.inl rfl)⟩
abbrev jX5_isIn : MI := (5, cX5_isIn, 2, some .boolean, false, iX5_isIn)
set_option maxRecDepth 100000 in
theorem oX5_isIn : ab_ok2 jX5_isIn 1 yX5_isIn := ⟨by decide +kernel, ⟨ab_T_of 780 (by decide +kernel) rfl, ab_T_of 59 (by decide +kernel) rfl, ⟨by decide, by decide⟩, by decide, ab_T_of 779 (by decide +kernel) rfl⟩, by decide, rfl, fun q => absurd q (by decide), Or.inr (Or.inr rfl)⟩
abbrev jX5_within : MI := (5, cX5_within, 3, some .int, false, iX5_within)
set_option maxRecDepth 100000 in
theorem oX5_within : ab_ok2 jX5_within 1 yX5_within := ⟨by decide +kernel, ⟨ab_T_of 818 (by decide +kernel) rfl, ab_T_of 59 (by decide +kernel) rfl, ⟨by decide, by decide⟩, by decide, ab_T_of 817 (by decide +kernel) rfl⟩, by decide, rfl, fun q => absurd q (by decide), Or.inr (Or.inl rfl)⟩
abbrev jX5_isFault : MI := (5, cX5_isFault, 2, some .boolean, false, iX5_isFault)
set_option maxRecDepth 100000 in
theorem oX5_isFault : ab_ok2 jX5_isFault 0 yX5_isFault := ⟨by decide +kernel, ⟨ab_T_of 788 (by decide +kernel) rfl, ab_T_of 59 (by decide +kernel) rfl, ⟨by decide, by decide⟩, by decide, ⟨ab_T_of 787 (by decide +kernel) rfl, ab_T_of 29 (by decide +kernel) rfl⟩⟩, by decide, rfl, fun q => absurd q (by decide), Or.inr (Or.inr rfl)⟩
abbrev jX5_isGear : MI := (5, cX5_isGear, 2, some .boolean, false, iX5_isGear)
set_option maxRecDepth 100000 in
theorem oX5_isGear : ab_ok2 jX5_isGear 0 yX5_isGear := ⟨by decide +kernel, ⟨ab_T_of 777 (by decide +kernel) rfl, ab_T_of 59 (by decide +kernel) rfl, ⟨by decide, by decide⟩, by decide, ⟨ab_T_of 776 (by decide +kernel) rfl, ab_T_of 28 (by decide +kernel) rfl⟩⟩, by decide, rfl, fun q => absurd q (by decide), Or.inr (Or.inr rfl)⟩
abbrev jX5_isAct : MI := (5, cX5_isAct, 1, some .boolean, false, iX5_isAct)
set_option maxRecDepth 100000 in
theorem oX5_isAct : ab_ok2 jX5_isAct 1 yX5_isAct := ⟨by decide +kernel, ⟨ab_T_of 815 (by decide +kernel) rfl, ab_T_of 59 (by decide +kernel) rfl, ⟨by decide, by decide⟩, by decide, ab_T_of 814 (by decide +kernel) rfl⟩, by decide, rfl, fun q => absurd q (by decide), Or.inr (Or.inr rfl)⟩
abbrev jX5_get : MI := (5, cX5_get, 3, some .int, false, iX5_get)
set_option maxRecDepth 100000 in
theorem oX5_get : ab_ok2 jX5_get 0 yX5_get := ⟨by decide +kernel, ⟨ab_T_of 792 (by decide +kernel) rfl, ab_T_of 59 (by decide +kernel) rfl, ⟨by decide, by decide⟩, by decide, ⟨ab_T_of 791 (by decide +kernel) rfl, ab_T_of 30 (by decide +kernel) rfl⟩⟩, by decide, rfl, fun q => absurd q (by decide), Or.inr (Or.inl rfl)⟩
abbrev jX5_feed : MI := (5, cX5_feed, 5, some .int, false, iX5_feed)
set_option maxRecDepth 100000 in
theorem oX5_feed : ab_ok2 jX5_feed 0 yX5_feed := ⟨by decide +kernel, ⟨ab_T_of 730 (by decide +kernel) rfl, ab_T_of 59 (by decide +kernel) rfl, ⟨by decide, by decide⟩, by decide, ⟨ab_T_of 728 (by decide +kernel) rfl, ab_T_of 729 (by decide +kernel) rfl⟩⟩, by decide, rfl, fun q => absurd q (by decide), Or.inr (Or.inl rfl)⟩
abbrev jX5_sign : MI := (5, cX5_sign, 1, some .int, false, iX5_sign)
set_option maxRecDepth 100000 in
theorem oX5_sign : ab_ok2 jX5_sign 0 yX5_sign := ⟨by decide +kernel, ⟨ab_T_of 751 (by decide +kernel) rfl, ab_T_of 59 (by decide +kernel) rfl, ⟨by decide, by decide⟩, by decide, ⟨ab_T_of 750 (by decide +kernel) rfl, ab_T_of 24 (by decide +kernel) rfl⟩⟩, by decide, rfl, fun q => absurd q (by decide), Or.inr (Or.inl rfl)⟩
abbrev jX5_takes : MI := (5, cX5_takes, 2, some .boolean, false, iX5_takes)
set_option maxRecDepth 100000 in
theorem oX5_takes : ab_ok2 jX5_takes 0 yX5_takes := ⟨by decide +kernel, ⟨ab_T_of 759 (by decide +kernel) rfl, ab_T_of 59 (by decide +kernel) rfl, ⟨by decide, by decide⟩, by decide, ⟨ab_T_of 758 (by decide +kernel) rfl, ab_T_of 26 (by decide +kernel) rfl⟩⟩, by decide, rfl, fun q => absurd q (by decide), Or.inr (Or.inr rfl)⟩
abbrev jX5_readsNumber : MI := (5, cX5_readsNumber, 5, some .boolean, false, iX5_readsNumber)
set_option maxRecDepth 100000 in
theorem oX5_readsNumber : ab_ok2 jX5_readsNumber 0 yX5_readsNumber := ⟨by decide +kernel, ⟨ab_T_of 755 (by decide +kernel) rfl, ab_T_of 59 (by decide +kernel) rfl, ⟨by decide, by decide⟩, by decide, ⟨ab_T_of 754 (by decide +kernel) rfl, ab_T_of 25 (by decide +kernel) rfl⟩⟩, by decide, rfl, fun q => absurd q (by decide), Or.inr (Or.inr rfl)⟩
abbrev jX5_kindOf : MI := (5, cX5_kindOf, 1, some .int, false, iX5_kindOf)
set_option maxRecDepth 100000 in
theorem oX5_kindOf : ab_ok2 jX5_kindOf 1 yX5_kindOf := ⟨by decide +kernel, ⟨ab_T_of 762 (by decide +kernel) rfl, ab_T_of 59 (by decide +kernel) rfl, ⟨by decide, by decide⟩, by decide, ab_T_of 761 (by decide +kernel) rfl⟩, by decide, rfl, fun q => absurd q (by decide), Or.inr (Or.inl rfl)⟩
abbrev jX5_readsStatement : MI := (5, cX5_readsStatement, 2, some .boolean, false, iX5_readsStatement)
set_option maxRecDepth 100000 in
theorem oX5_readsStatement : ab_ok2 jX5_readsStatement 0 yX5_readsStatement := ⟨by decide +kernel, ⟨ab_T_of 747 (by decide +kernel) rfl, ab_T_of 59 (by decide +kernel) rfl, ⟨by decide, by decide⟩, by decide, ⟨ab_T_of 746 (by decide +kernel) rfl, ab_T_of 23 (by decide +kernel) rfl⟩⟩, by decide, rfl, fun q => absurd q (by decide), Or.inr (Or.inr rfl)⟩
abbrev jX5_between : MI := (5, cX5_between, 3, some .boolean, false, iX5_between)
set_option maxRecDepth 100000 in
theorem oX5_between : ab_ok2 jX5_between 1 yX5_between := ⟨by decide +kernel, ⟨ab_T_of 769 (by decide +kernel) rfl, ab_T_of 59 (by decide +kernel) rfl, ⟨by decide, by decide⟩, by decide, ab_T_of 768 (by decide +kernel) rfl⟩, by decide, rfl, fun q => absurd q (by decide), Or.inr (Or.inr rfl)⟩
abbrev jX5_comes : MI := (5, cX5_comes, 5, some .boolean, false, iX5_comes)
set_option maxRecDepth 100000 in
theorem oX5_comes : ab_ok2 jX5_comes 0 yX5_comes := ⟨by decide +kernel, ⟨ab_T_of 766 (by decide +kernel) rfl, ab_T_of 59 (by decide +kernel) rfl, ⟨by decide, by decide⟩, by decide, ⟨ab_T_of 765 (by decide +kernel) rfl, ab_T_of 27 (by decide +kernel) rfl⟩⟩, by decide, rfl, fun q => absurd q (by decide), Or.inr (Or.inr rfl)⟩
abbrev jX5_reads : MI := (5, cX5_reads, 5, some .int, false, iX5_reads)
set_option maxRecDepth 100000 in
theorem oX5_reads : ab_ok2 jX5_reads 0 yX5_reads := ⟨by decide +kernel, ⟨ab_T_of 743 (by decide +kernel) rfl, ab_T_of 59 (by decide +kernel) rfl, ⟨by decide, by decide⟩, by decide, ⟨ab_T_of 742 (by decide +kernel) rfl, ab_T_of 22 (by decide +kernel) rfl⟩⟩, by decide, rfl, fun q => absurd q (by decide), Or.inr (Or.inl rfl)⟩
abbrev jX5_bicycle : MI := (5, cX5_bicycle, 2, some .int, false, iX5_bicycle)
set_option maxRecDepth 100000 in
theorem oX5_bicycle : ab_ok2 jX5_bicycle 0 yX5_bicycle := ⟨by decide +kernel, ⟨ab_T_of 739 (by decide +kernel) rfl, ab_T_of 59 (by decide +kernel) rfl, ⟨by decide, by decide⟩, by decide, ⟨ab_T_of 737 (by decide +kernel) rfl, ab_T_of 738 (by decide +kernel) rfl⟩⟩, by decide, rfl, fun q => absurd q (by decide), Or.inr (Or.inl rfl)⟩
abbrev jX5_part : MI := (5, cX5_part, 2, some .int, false, iX5_part)
set_option maxRecDepth 100000 in
theorem oX5_part : ab_ok2 jX5_part 0 yX5_part := ⟨by decide +kernel, ⟨ab_T_of 773 (by decide +kernel) rfl, ab_T_of 59 (by decide +kernel) rfl, ⟨by decide, by decide⟩, by decide, ⟨ab_T_of 771 (by decide +kernel) rfl, ab_T_of 772 (by decide +kernel) rfl⟩⟩, by decide, rfl, fun q => absurd q (by decide), Or.inr (Or.inl rfl)⟩
abbrev jX5_limitOf : MI := (5, cX5_limitOf, 4, some .int, false, iX5_limitOf)
set_option maxRecDepth 100000 in
theorem oX5_limitOf : ab_ok2 jX5_limitOf 0 yX5_limitOf := ⟨by decide +kernel, ⟨ab_T_of 796 (by decide +kernel) rfl, ab_T_of 59 (by decide +kernel) rfl, ⟨by decide, by decide⟩, by decide, ⟨ab_T_of 795 (by decide +kernel) rfl, ab_T_of 31 (by decide +kernel) rfl⟩⟩, by decide, rfl, fun q => absurd q (by decide), Or.inr (Or.inl rfl)⟩
abbrev jX5_fault : MI := (5, cX5_fault, 3, some .int, false, iX5_fault)
set_option maxRecDepth 100000 in
theorem oX5_fault : ab_ok2 jX5_fault 0 yX5_fault := ⟨by decide +kernel, ⟨ab_T_of 784 (by decide +kernel) rfl, ab_T_of 59 (by decide +kernel) rfl, ⟨by decide, by decide⟩, by decide, ⟨ab_T_of 782 (by decide +kernel) rfl, ab_T_of 783 (by decide +kernel) rfl⟩⟩, by decide, rfl, fun q => absurd q (by decide), Or.inr (Or.inl rfl)⟩
abbrev jX5_upOf : MI := (5, cX5_upOf, 2, some .int, false, iX5_upOf)
set_option maxRecDepth 100000 in
theorem oX5_upOf : ab_ok2 jX5_upOf 0 yX5_upOf := ⟨by decide +kernel, ⟨ab_T_of 804 (by decide +kernel) rfl, ab_T_of 59 (by decide +kernel) rfl, ⟨by decide, by decide⟩, by decide, ⟨ab_T_of 803 (by decide +kernel) rfl, ab_T_of 32 (by decide +kernel) rfl⟩⟩, by decide, rfl, fun q => absurd q (by decide), Or.inr (Or.inl rfl)⟩
abbrev jX5_downOf : MI := (5, cX5_downOf, 3, some .int, false, iX5_downOf)
set_option maxRecDepth 100000 in
theorem oX5_downOf : ab_ok2 jX5_downOf 0 yX5_downOf := ⟨by decide +kernel, ⟨ab_T_of 808 (by decide +kernel) rfl, ab_T_of 59 (by decide +kernel) rfl, ⟨by decide, by decide⟩, by decide, ⟨ab_T_of 807 (by decide +kernel) rfl, ab_T_of 33 (by decide +kernel) rfl⟩⟩, by decide, rfl, fun q => absurd q (by decide), Or.inr (Or.inl rfl)⟩
abbrev jX5_rounds : MI := (5, cX5_rounds, 4, some .int, false, iX5_rounds)
set_option maxRecDepth 100000 in
theorem oX5_rounds : ab_ok2 jX5_rounds 0 yX5_rounds := ⟨by decide +kernel, ⟨ab_T_of 800 (by decide +kernel) rfl, ab_T_of 59 (by decide +kernel) rfl, ⟨by decide, by decide⟩, by decide, ⟨ab_T_of 798 (by decide +kernel) rfl, ab_T_of 799 (by decide +kernel) rfl⟩⟩, by decide, rfl, fun q => absurd q (by decide), Or.inr (Or.inl rfl)⟩
abbrev jX5_loadOf : MI := (5, cX5_loadOf, 5, some .int, false, iX5_loadOf)
set_option maxRecDepth 100000 in
theorem oX5_loadOf : ab_ok2 jX5_loadOf 0 yX5_loadOf := ⟨by decide +kernel, ⟨ab_T_of 822 (by decide +kernel) rfl, ab_T_of 59 (by decide +kernel) rfl, ⟨by decide, by decide⟩, by decide, ⟨ab_T_of 821 (by decide +kernel) rfl, ab_T_of 34 (by decide +kernel) rfl⟩⟩, by decide, rfl, fun q => absurd q (by decide), Or.inr (Or.inl rfl)⟩
abbrev jX5_load : MI := (5, cX5_load, 4, some .int, false, iX5_load)
set_option maxRecDepth 100000 in
theorem oX5_load : ab_ok2 jX5_load 0 yX5_load := ⟨by decide +kernel, ⟨ab_T_of 812 (by decide +kernel) rfl, ab_T_of 59 (by decide +kernel) rfl, ⟨by decide, by decide⟩, by decide, ⟨ab_T_of 810 (by decide +kernel) rfl, ab_T_of 811 (by decide +kernel) rfl⟩⟩, by decide, rfl, fun q => absurd q (by decide), Or.inr (Or.inl rfl)⟩
abbrev jX5_most : MI := (5, cX5_most, 1, some .int, false, iX5_most)
set_option maxRecDepth 100000 in
theorem oX5_most : ab_ok2 jX5_most 1 yX5_most := ⟨by decide +kernel, ⟨ab_T_of 829 (by decide +kernel) rfl, ab_T_of 59 (by decide +kernel) rfl, ⟨by decide, by decide⟩, by decide, ab_T_of 828 (by decide +kernel) rfl⟩, by decide, rfl, fun q => absurd q (by decide), Or.inr (Or.inl rfl)⟩
abbrev jX5_set : MI := (5, cX5_set, 5, some .int, false, iX5_set)
set_option maxRecDepth 100000 in
theorem oX5_set : ab_ok2 jX5_set 0 yX5_set := ⟨by decide +kernel, ⟨ab_T_of 826 (by decide +kernel) rfl, ab_T_of 59 (by decide +kernel) rfl, ⟨by decide, by decide⟩, by decide, ⟨ab_T_of 824 (by decide +kernel) rfl, ab_T_of 825 (by decide +kernel) rfl⟩⟩, by decide, rfl, fun q => absurd q (by decide), Or.inr (Or.inl rfl)⟩
abbrev jX5_oil : MI := (5, cX5_oil, 3, some .int, false, iX5_oil)
set_option maxRecDepth 100000 in
theorem oX5_oil : ab_ok2 jX5_oil 0 yX5_oil := ⟨by decide +kernel, ⟨ab_T_of 833 (by decide +kernel) rfl, ab_T_of 59 (by decide +kernel) rfl, ⟨by decide, by decide⟩, by decide, ⟨ab_T_of 831 (by decide +kernel) rfl, ab_T_of 832 (by decide +kernel) rfl⟩⟩, by decide, rfl, fun q => absurd q (by decide), Or.inr (Or.inl rfl)⟩
abbrev jX5_stage : MI := (5, cX5_stage, 6, some .int, false, iX5_stage)
set_option maxRecDepth 100000 in
theorem oX5_stage : ab_ok2 jX5_stage 0 yX5_stage := ⟨by decide +kernel, ⟨ab_T_of 837 (by decide +kernel) rfl, ab_T_of 59 (by decide +kernel) rfl, ⟨by decide, by decide⟩, by decide, ⟨ab_T_of 835 (by decide +kernel) rfl, ab_T_of 836 (by decide +kernel) rfl⟩⟩, by decide, rfl, fun q => absurd q (by decide), Or.inr (Or.inl rfl)⟩
abbrev jX5_stageOf : MI := (5, cX5_stageOf, 3, some .int, false, iX5_stageOf)
set_option maxRecDepth 100000 in
theorem oX5_stageOf : ab_ok2 jX5_stageOf 0 yX5_stageOf := ⟨by decide +kernel, ⟨ab_T_of 841 (by decide +kernel) rfl, ab_T_of 59 (by decide +kernel) rfl, ⟨by decide, by decide⟩, by decide, ⟨ab_T_of 839 (by decide +kernel) rfl, ab_T_of 840 (by decide +kernel) rfl⟩⟩, by decide, rfl, fun q => absurd q (by decide), Or.inr (Or.inl rfl)⟩
abbrev jX5_drop : MI := (5, cX5_drop, 2, some .int, false, iX5_drop)
set_option maxRecDepth 100000 in
theorem oX5_drop : ab_ok2 jX5_drop 0 yX5_drop := ⟨by decide +kernel, ⟨ab_T_of 845 (by decide +kernel) rfl, ab_T_of 59 (by decide +kernel) rfl, ⟨by decide, by decide⟩, by decide, ⟨ab_T_of 843 (by decide +kernel) rfl, ab_T_of 844 (by decide +kernel) rfl⟩⟩, by decide, rfl, fun q => absurd q (by decide), Or.inr (Or.inl rfl)⟩
abbrev jX5_begins : MI := (5, cX5_begins, 2, none, false, iX5_begins)
set_option maxRecDepth 100000 in
theorem oX5_begins : ab_ok2 jX5_begins 0 yX5_begins := ⟨by decide +kernel, ⟨ab_T_of 857 (by decide +kernel) rfl, ab_T_of 59 (by decide +kernel) rfl, ⟨by decide, by decide⟩, by decide, ⟨ab_T_of 856 (by decide +kernel) rfl, ab_T_of 36 (by decide +kernel) rfl⟩⟩, by decide, rfl, fun q => absurd q (by decide), Or.inl rfl⟩
abbrev jX5_opensStage : MI := (5, cX5_opensStage, 4, none, false, iX5_opensStage)
set_option maxRecDepth 100000 in
theorem oX5_opensStage : ab_ok2 jX5_opensStage 0 yX5_opensStage := ⟨by decide +kernel, ⟨ab_T_of 869 (by decide +kernel) rfl, ab_T_of 59 (by decide +kernel) rfl, ⟨by decide, by decide⟩, by decide, ⟨ab_T_of 868 (by decide +kernel) rfl, ab_T_of 39 (by decide +kernel) rfl⟩⟩, by decide, rfl, fun q => absurd q (by decide), Or.inl rfl⟩
abbrev jX5_comesBy : MI := (5, cX5_comesBy, 6, some .boolean, false, iX5_comesBy)
set_option maxRecDepth 100000 in
theorem oX5_comesBy : ab_ok2 jX5_comesBy 0 yX5_comesBy := ⟨by decide +kernel, ⟨ab_T_of 877 (by decide +kernel) rfl, ab_T_of 59 (by decide +kernel) rfl, ⟨by decide, by decide⟩, by decide, ⟨ab_T_of 876 (by decide +kernel) rfl, ab_T_of 41 (by decide +kernel) rfl⟩⟩, by decide, rfl, fun q => absurd q (by decide), Or.inr (Or.inr rfl)⟩
abbrev jX5_isSilent : MI := (5, cX5_isSilent, 2, some .boolean, false, iX5_isSilent)
set_option maxRecDepth 100000 in
theorem oX5_isSilent : ab_ok2 jX5_isSilent 0 yX5_isSilent := ⟨by decide +kernel, ⟨ab_T_of 881 (by decide +kernel) rfl, ab_T_of 59 (by decide +kernel) rfl, ⟨by decide, by decide⟩, by decide, ⟨ab_T_of 880 (by decide +kernel) rfl, ab_T_of 42 (by decide +kernel) rfl⟩⟩, by decide, rfl, fun q => absurd q (by decide), Or.inr (Or.inr rfl)⟩
abbrev jX5_clicks : MI := (5, cX5_clicks, 2, none, false, iX5_clicks)
set_option maxRecDepth 100000 in
theorem oX5_clicks : ab_ok2 jX5_clicks 0 yX5_clicks := ⟨by decide +kernel, ⟨ab_T_of 885 (by decide +kernel) rfl, ab_T_of 59 (by decide +kernel) rfl, ⟨by decide, by decide⟩, by decide, ⟨ab_T_of 884 (by decide +kernel) rfl, ab_T_of 43 (by decide +kernel) rfl⟩⟩, by decide, rfl, fun q => absurd q (by decide), Or.inl rfl⟩
abbrev jX5_goesStep : MI := (5, cX5_goesStep, 7, none, false, iX5_goesStep)
set_option maxRecDepth 100000 in
theorem oX5_goesStep : ab_ok2 jX5_goesStep 0 yX5_goesStep := ⟨by decide +kernel, ⟨ab_T_of 873 (by decide +kernel) rfl, ab_T_of 59 (by decide +kernel) rfl, ⟨by decide, by decide⟩, by decide, ⟨ab_T_of 872 (by decide +kernel) rfl, ab_T_of 40 (by decide +kernel) rfl⟩⟩, by decide, rfl, fun q => absurd q (by decide), Or.inl rfl⟩
abbrev jX5_goesStage : MI := (5, cX5_goesStage, 6, none, false, iX5_goesStage)
set_option maxRecDepth 100000 in
theorem oX5_goesStage : ab_ok2 jX5_goesStage 0 yX5_goesStage := ⟨by decide +kernel, ⟨ab_T_of 865 (by decide +kernel) rfl, ab_T_of 59 (by decide +kernel) rfl, ⟨by decide, by decide⟩, by decide, ⟨ab_T_of 864 (by decide +kernel) rfl, ab_T_of 38 (by decide +kernel) rfl⟩⟩, by decide, rfl, fun q => absurd q (by decide), Or.inl rfl⟩
abbrev jX5_rides : MI := (5, cX5_rides, 2, none, false, iX5_rides)
set_option maxRecDepth 100000 in
theorem oX5_rides : ab_ok2 jX5_rides 0 yX5_rides := ⟨by decide +kernel, ⟨ab_T_of 861 (by decide +kernel) rfl, ab_T_of 59 (by decide +kernel) rfl, ⟨by decide, by decide⟩, by decide, ⟨ab_T_of 860 (by decide +kernel) rfl, ab_T_of 37 (by decide +kernel) rfl⟩⟩, by decide, rfl, fun q => absurd q (by decide), Or.inl rfl⟩
abbrev jX5_counted : MI := (5, cX5_counted, 1, none, false, iX5_counted)
set_option maxRecDepth 100000 in
theorem oX5_counted : ab_ok2 jX5_counted 0 yX5_counted := ⟨by decide +kernel, ⟨ab_T_of 853 (by decide +kernel) rfl, ab_T_of 59 (by decide +kernel) rfl, ⟨by decide, by decide⟩, by decide, ⟨ab_T_of 852 (by decide +kernel) rfl, ab_T_of 35 (by decide +kernel) rfl⟩⟩, by decide, rfl, fun q => absurd q (by decide), Or.inl rfl⟩
abbrev jX5_counts : MI := (5, cX5_counts, 2, some .int, false, iX5_counts)
set_option maxRecDepth 100000 in
theorem oX5_counts : ab_ok2 jX5_counts 0 yX5_counts := ⟨by decide +kernel, ⟨ab_T_of 849 (by decide +kernel) rfl, ab_T_of 59 (by decide +kernel) rfl, ⟨by decide, by decide⟩, by decide, ⟨ab_T_of 847 (by decide +kernel) rfl, ab_T_of 848 (by decide +kernel) rfl⟩⟩, by decide, rfl, fun q => absurd q (by decide), Or.inr (Or.inl rfl)⟩
abbrev jX5_stageAlone : MI := (5, cX5_stageAlone, 4, none, false, iX5_stageAlone)
set_option maxRecDepth 100000 in
theorem oX5_stageAlone : ab_ok2 jX5_stageAlone 0 yX5_stageAlone := ⟨by decide +kernel, ⟨ab_T_of 896 (by decide +kernel) rfl, ab_T_of 59 (by decide +kernel) rfl, ⟨by decide, by decide⟩, by decide, ⟨ab_T_of 895 (by decide +kernel) rfl, ab_T_of 44 (by decide +kernel) rfl⟩⟩, by decide, rfl, fun q => absurd q (by decide), Or.inl rfl⟩
abbrev jX5_stageCounts : MI := (5, cX5_stageCounts, 6, some .int, false, iX5_stageCounts)
set_option maxRecDepth 100000 in
theorem oX5_stageCounts : ab_ok2 jX5_stageCounts 0 yX5_stageCounts := ⟨by decide +kernel, ⟨ab_T_of 892 (by decide +kernel) rfl, ab_T_of 59 (by decide +kernel) rfl, ⟨by decide, by decide⟩, by decide, ⟨ab_T_of 890 (by decide +kernel) rfl, ab_T_of 891 (by decide +kernel) rfl⟩⟩, by decide, rfl, fun q => absurd q (by decide), Or.inr (Or.inl rfl)⟩
abbrev jX5_when : MI := (5, cX5_when, 3, some .int, false, iX5_when)
set_option maxRecDepth 100000 in
theorem oX5_when : ab_ok2 jX5_when 0 yX5_when := ⟨by decide +kernel, ⟨ab_T_of 900 (by decide +kernel) rfl, ab_T_of 59 (by decide +kernel) rfl, ⟨by decide, by decide⟩, by decide, ⟨ab_T_of 898 (by decide +kernel) rfl, ab_T_of 899 (by decide +kernel) rfl⟩⟩, by decide, rfl, fun q => absurd q (by decide), Or.inr (Or.inl rfl)⟩
abbrev jX5_heard : MI := (5, cX5_heard, 4, some .int, false, iX5_heard)
set_option maxRecDepth 100000 in
theorem oX5_heard : ab_ok2 jX5_heard 0 yX5_heard := ⟨by decide +kernel, ⟨ab_T_of 904 (by decide +kernel) rfl, ab_T_of 59 (by decide +kernel) rfl, ⟨by decide, by decide⟩, by decide, ⟨ab_T_of 902 (by decide +kernel) rfl, ab_T_of 903 (by decide +kernel) rfl⟩⟩, by decide, rfl, fun q => absurd q (by decide), Or.inr (Or.inl rfl)⟩
abbrev jX5_go : MI := (5, cX5_go, 4, some .int, false, iX5_go)
set_option maxRecDepth 100000 in
theorem oX5_go : ab_ok2 jX5_go 0 yX5_go := ⟨by decide +kernel, ⟨ab_T_of 908 (by decide +kernel) rfl, ab_T_of 59 (by decide +kernel) rfl, ⟨by decide, by decide⟩, by decide, ⟨ab_T_of 906 (by decide +kernel) rfl, ab_T_of 907 (by decide +kernel) rfl⟩⟩, by decide, rfl, fun q => absurd q (by decide), Or.inr (Or.inl rfl)⟩
abbrev jX5_wrongCount : MI := (5, cX5_wrongCount, 2, some .int, false, iX5_wrongCount)
set_option maxRecDepth 100000 in
theorem oX5_wrongCount : ab_ok2 jX5_wrongCount 1 yX5_wrongCount := ⟨by decide +kernel, ⟨ab_T_of 915 (by decide +kernel) rfl, ab_T_of 59 (by decide +kernel) rfl, ⟨by decide, by decide⟩, by decide, ab_T_of 914 (by decide +kernel) rfl⟩, by decide, rfl, fun q => absurd q (by decide), Or.inr (Or.inl rfl)⟩
abbrev jX5_amount : MI := (5, cX5_amount, 1, some .int, false, iX5_amount)
set_option maxRecDepth 100000 in
theorem oX5_amount : ab_ok2 jX5_amount 1 yX5_amount := ⟨by decide +kernel, ⟨ab_T_of 922 (by decide +kernel) rfl, ab_T_of 59 (by decide +kernel) rfl, ⟨by decide, by decide⟩, by decide, ab_T_of 921 (by decide +kernel) rfl⟩, by decide, rfl, fun q => absurd q (by decide), Or.inr (Or.inl rfl)⟩
abbrev jX5_fitOf : MI := (5, cX5_fitOf, 5, some .int, false, iX5_fitOf)
set_option maxRecDepth 100000 in
theorem oX5_fitOf : ab_ok2 jX5_fitOf 0 yX5_fitOf := ⟨by decide +kernel, ⟨ab_T_of 919 (by decide +kernel) rfl, ab_T_of 59 (by decide +kernel) rfl, ⟨by decide, by decide⟩, by decide, ⟨ab_T_of 918 (by decide +kernel) rfl, ab_T_of 45 (by decide +kernel) rfl⟩⟩, by decide, rfl, fun q => absurd q (by decide), Or.inr (Or.inl rfl)⟩
abbrev jX5_fit : MI := (5, cX5_fit, 4, some .int, false, iX5_fit)
set_option maxRecDepth 100000 in
theorem oX5_fit : ab_ok2 jX5_fit 0 yX5_fit := ⟨by decide +kernel, ⟨ab_T_of 912 (by decide +kernel) rfl, ab_T_of 59 (by decide +kernel) rfl, ⟨by decide, by decide⟩, by decide, ⟨ab_T_of 910 (by decide +kernel) rfl, ab_T_of 911 (by decide +kernel) rfl⟩⟩, by decide, rfl, fun q => absurd q (by decide), Or.inr (Or.inl rfl)⟩
abbrev jX5_common : MI := (5, cX5_common, 2, some .int, false, iX5_common)
set_option maxRecDepth 100000 in
theorem oX5_common : ab_ok2 jX5_common 1 yX5_common := ⟨by decide +kernel, ⟨ab_T_of 933 (by decide +kernel) rfl, ab_T_of 59 (by decide +kernel) rfl, ⟨by decide, by decide⟩, by decide, ab_T_of 932 (by decide +kernel) rfl⟩, by decide, rfl, fun q => absurd q (by decide), Or.inr (Or.inl rfl)⟩
abbrev jX5_partOf : MI := (5, cX5_partOf, 5, some .int, false, iX5_partOf)
set_option maxRecDepth 100000 in
theorem oX5_partOf : ab_ok2 jX5_partOf 0 yX5_partOf := ⟨by decide +kernel, ⟨ab_T_of 930 (by decide +kernel) rfl, ab_T_of 59 (by decide +kernel) rfl, ⟨by decide, by decide⟩, by decide, ⟨ab_T_of 929 (by decide +kernel) rfl, ab_T_of 46 (by decide +kernel) rfl⟩⟩, by decide, rfl, fun q => absurd q (by decide), Or.inr (Or.inl rfl)⟩
abbrev jX5_odds : MI := (5, cX5_odds, 9, some .int, false, iX5_odds)
set_option maxRecDepth 100000 in
theorem oX5_odds : ab_ok2 jX5_odds 0 yX5_odds := ⟨by decide +kernel, ⟨ab_T_of 926 (by decide +kernel) rfl, ab_T_of 59 (by decide +kernel) rfl, ⟨by decide, by decide⟩, by decide, ⟨ab_T_of 924 (by decide +kernel) rfl, ab_T_of 925 (by decide +kernel) rfl⟩⟩, by decide, rfl, fun q => absurd q (by decide), Or.inr (Or.inl rfl)⟩
abbrev jX5_twos : MI := (5, cX5_twos, 8, some .int, false, iX5_twos)
set_option maxRecDepth 100000 in
theorem oX5_twos : ab_ok2 jX5_twos 0 yX5_twos := ⟨by decide +kernel, ⟨ab_T_of 937 (by decide +kernel) rfl, ab_T_of 59 (by decide +kernel) rfl, ⟨by decide, by decide⟩, by decide, ⟨ab_T_of 935 (by decide +kernel) rfl, ab_T_of 936 (by decide +kernel) rfl⟩⟩, by decide, rfl, fun q => absurd q (by decide), Or.inr (Or.inl rfl)⟩
abbrev jX5_areTwo : MI := (5, cX5_areTwo, 3, some .boolean, false, iX5_areTwo)
set_option maxRecDepth 100000 in
theorem oX5_areTwo : ab_ok2 jX5_areTwo 0 yX5_areTwo := ⟨by decide +kernel, ⟨ab_T_of 945 (by decide +kernel) rfl, ab_T_of 59 (by decide +kernel) rfl, ⟨by decide, by decide⟩, by decide, ⟨ab_T_of 944 (by decide +kernel) rfl, ab_T_of 47 (by decide +kernel) rfl⟩⟩, by decide, rfl, fun q => absurd q (by decide), Or.inr (Or.inr rfl)⟩
abbrev jX5_apart : MI := (5, cX5_apart, 5, some .int, false, iX5_apart)
set_option maxRecDepth 100000 in
theorem oX5_apart : ab_ok2 jX5_apart 0 yX5_apart := ⟨by decide +kernel, ⟨ab_T_of 941 (by decide +kernel) rfl, ab_T_of 59 (by decide +kernel) rfl, ⟨by decide, by decide⟩, by decide, ⟨ab_T_of 939 (by decide +kernel) rfl, ab_T_of 940 (by decide +kernel) rfl⟩⟩, by decide, rfl, fun q => absurd q (by decide), Or.inr (Or.inl rfl)⟩
abbrev jX5_unlike : MI := (5, cX5_unlike, 5, some .int, false, iX5_unlike)
set_option maxRecDepth 100000 in
theorem oX5_unlike : ab_ok2 jX5_unlike 0 yX5_unlike := ⟨by decide +kernel, ⟨ab_T_of 953 (by decide +kernel) rfl, ab_T_of 59 (by decide +kernel) rfl, ⟨by decide, by decide⟩, by decide, ⟨ab_T_of 952 (by decide +kernel) rfl, ab_T_of 48 (by decide +kernel) rfl⟩⟩, by decide, rfl, fun q => absurd q (by decide), Or.inr (Or.inl rfl)⟩
abbrev jX5_tells : MI := (5, cX5_tells, 8, some .int, false, iX5_tells)
set_option maxRecDepth 100000 in
theorem oX5_tells : ab_ok2 jX5_tells 0 yX5_tells := ⟨by decide +kernel, ⟨ab_T_of 949 (by decide +kernel) rfl, ab_T_of 59 (by decide +kernel) rfl, ⟨by decide, by decide⟩, by decide, ⟨ab_T_of 947 (by decide +kernel) rfl, ab_T_of 948 (by decide +kernel) rfl⟩⟩, by decide, rfl, fun q => absurd q (by decide), Or.inr (Or.inl rfl)⟩
abbrev jX5_length : MI := (5, cX5_length, 9, some .int, false, iX5_length)
set_option maxRecDepth 100000 in
theorem oX5_length : ab_ok2 jX5_length 0 yX5_length := ⟨by decide +kernel, ⟨ab_T_of 957 (by decide +kernel) rfl, ab_T_of 59 (by decide +kernel) rfl, ⟨by decide, by decide⟩, by decide, ⟨ab_T_of 955 (by decide +kernel) rfl, ab_T_of 956 (by decide +kernel) rfl⟩⟩, by decide, rfl, fun q => absurd q (by decide), Or.inr (Or.inl rfl)⟩
abbrev jX5_beat : MI := (5, cX5_beat, 7, some .int, false, iX5_beat)
set_option maxRecDepth 100000 in
theorem oX5_beat : ab_ok2 jX5_beat 0 yX5_beat := ⟨by decide +kernel, ⟨ab_T_of 961 (by decide +kernel) rfl, ab_T_of 59 (by decide +kernel) rfl, ⟨by decide, by decide⟩, by decide, ⟨ab_T_of 959 (by decide +kernel) rfl, ab_T_of 960 (by decide +kernel) rfl⟩⟩, by decide, rfl, fun q => absurd q (by decide), Or.inr (Or.inl rfl)⟩
abbrev jX5_weights : MI := (5, cX5_weights, 3, some .int, false, iX5_weights)
set_option maxRecDepth 100000 in
theorem oX5_weights : ab_ok2 jX5_weights 0 yX5_weights := ⟨by decide +kernel, ⟨ab_T_of 969 (by decide +kernel) rfl, ab_T_of 59 (by decide +kernel) rfl, ⟨by decide, by decide⟩, by decide, ⟨ab_T_of 968 (by decide +kernel) rfl, ab_T_of 49 (by decide +kernel) rfl⟩⟩, by decide, rfl, fun q => absurd q (by decide), Or.inr (Or.inl rfl)⟩
abbrev jX5_away : MI := (5, cX5_away, 4, some .int, false, iX5_away)
set_option maxRecDepth 100000 in
theorem oX5_away : ab_ok2 jX5_away 0 yX5_away := ⟨by decide +kernel, ⟨ab_T_of 965 (by decide +kernel) rfl, ab_T_of 59 (by decide +kernel) rfl, ⟨by decide, by decide⟩, by decide, ⟨ab_T_of 963 (by decide +kernel) rfl, ab_T_of 964 (by decide +kernel) rfl⟩⟩, by decide, rfl, fun q => absurd q (by decide), Or.inr (Or.inl rfl)⟩
abbrev jX5_danger : MI := (5, cX5_danger, 3, some .int, false, iX5_danger)
set_option maxRecDepth 100000 in
theorem oX5_danger : ab_ok2 jX5_danger 0 yX5_danger := ⟨by decide +kernel, ⟨ab_T_of 973 (by decide +kernel) rfl, ab_T_of 59 (by decide +kernel) rfl, ⟨by decide, by decide⟩, by decide, ⟨ab_T_of 971 (by decide +kernel) rfl, ab_T_of 972 (by decide +kernel) rfl⟩⟩, by decide, rfl, fun q => absurd q (by decide), Or.inr (Or.inl rfl)⟩
abbrev jX5_sumOf : MI := (5, cX5_sumOf, 5, some .int, false, iX5_sumOf)
set_option maxRecDepth 100000 in
theorem oX5_sumOf : ab_ok2 jX5_sumOf 0 yX5_sumOf := ⟨by decide +kernel, ⟨ab_T_of 989 (by decide +kernel) rfl, ab_T_of 59 (by decide +kernel) rfl, ⟨by decide, by decide⟩, by decide, ⟨ab_T_of 988 (by decide +kernel) rfl, ab_T_of 52 (by decide +kernel) rfl⟩⟩, by decide, rfl, fun q => absurd q (by decide), Or.inr (Or.inl rfl)⟩
abbrev jX5_orders : MI := (5, cX5_orders, 5, none, false, iX5_orders)
set_option maxRecDepth 100000 in
theorem oX5_orders : ab_ok2 jX5_orders 0 yX5_orders := ⟨by decide +kernel, ⟨ab_T_of 985 (by decide +kernel) rfl, ab_T_of 59 (by decide +kernel) rfl, ⟨by decide, by decide⟩, by decide, ⟨ab_T_of 984 (by decide +kernel) rfl, ab_T_of 51 (by decide +kernel) rfl⟩⟩, by decide, rfl, fun q => absurd q (by decide), Or.inl rfl⟩
abbrev jX5_findLeast : MI := (5, cX5_findLeast, 1, none, false, iX5_findLeast)
set_option maxRecDepth 100000 in
theorem oX5_findLeast : ab_ok2 jX5_findLeast 0 yX5_findLeast := ⟨by decide +kernel, ⟨ab_T_of 981 (by decide +kernel) rfl, ab_T_of 59 (by decide +kernel) rfl, ⟨by decide, by decide⟩, by decide, ⟨ab_T_of 980 (by decide +kernel) rfl, ab_T_of 50 (by decide +kernel) rfl⟩⟩, by decide, rfl, fun q => absurd q (by decide), Or.inl rfl⟩
abbrev jX5_least : MI := (5, cX5_least, 3, some .int, false, iX5_least)
set_option maxRecDepth 100000 in
theorem oX5_least : ab_ok2 jX5_least 0 yX5_least := ⟨by decide +kernel, ⟨ab_T_of 977 (by decide +kernel) rfl, ab_T_of 59 (by decide +kernel) rfl, ⟨by decide, by decide⟩, by decide, ⟨ab_T_of 975 (by decide +kernel) rfl, ab_T_of 976 (by decide +kernel) rfl⟩⟩, by decide, rfl, fun q => absurd q (by decide), Or.inr (Or.inl rfl)⟩
abbrev jX5_row : MI := (5, cX5_row, 3, some .int, false, iX5_row)
set_option maxRecDepth 100000 in
theorem oX5_row : ab_ok2 jX5_row 0 yX5_row := ⟨by decide +kernel, ⟨ab_T_of 993 (by decide +kernel) rfl, ab_T_of 59 (by decide +kernel) rfl, ⟨by decide, by decide⟩, by decide, ⟨ab_T_of 991 (by decide +kernel) rfl, ab_T_of 992 (by decide +kernel) rfl⟩⟩, by decide, rfl, fun q => absurd q (by decide), Or.inr (Or.inl rfl)⟩
abbrev jX5_judge : MI := (5, cX5_judge, 3, some .int, false, iX5_judge)
set_option maxRecDepth 100000 in
theorem oX5_judge : ab_ok2 jX5_judge 0 yX5_judge := ⟨by decide +kernel, ⟨ab_T_of 997 (by decide +kernel) rfl, ab_T_of 59 (by decide +kernel) rfl, ⟨by decide, by decide⟩, by decide, ⟨ab_T_of 995 (by decide +kernel) rfl, ab_T_of 996 (by decide +kernel) rfl⟩⟩, by decide, rfl, fun q => absurd q (by decide), Or.inr (Or.inl rfl)⟩
abbrev jX5_held : MI := (5, cX5_held, 5, some .int, false, iX5_held)
set_option maxRecDepth 100000 in
theorem oX5_held : ab_ok2 jX5_held 0 yX5_held := ⟨by decide +kernel, ⟨ab_T_of 1001 (by decide +kernel) rfl, ab_T_of 59 (by decide +kernel) rfl, ⟨by decide, by decide⟩, by decide, ⟨ab_T_of 999 (by decide +kernel) rfl, ab_T_of 1000 (by decide +kernel) rfl⟩⟩, by decide, rfl, fun q => absurd q (by decide), Or.inr (Or.inl rfl)⟩
abbrev jX5_image : MI := (5, cX5_image, 2, some .int, false, iX5_image)
set_option maxRecDepth 100000 in
theorem oX5_image : ab_ok2 jX5_image 0 yX5_image := ⟨by decide +kernel, ⟨ab_T_of 1005 (by decide +kernel) rfl, ab_T_of 59 (by decide +kernel) rfl, ⟨by decide, by decide⟩, by decide, ⟨ab_T_of 1003 (by decide +kernel) rfl, ab_T_of 1004 (by decide +kernel) rfl⟩⟩, by decide, rfl, fun q => absurd q (by decide), Or.inr (Or.inl rfl)⟩
abbrev jX5_on : MI := (5, cX5_on, 2, some .int, false, iX5_on)
set_option maxRecDepth 100000 in
theorem oX5_on : ab_ok2 jX5_on 0 yX5_on := ⟨by decide +kernel, ⟨ab_T_of 1009 (by decide +kernel) rfl, ab_T_of 59 (by decide +kernel) rfl, ⟨by decide, by decide⟩, by decide, ⟨ab_T_of 1007 (by decide +kernel) rfl, ab_T_of 1008 (by decide +kernel) rfl⟩⟩, by decide, rfl, fun q => absurd q (by decide), Or.inr (Or.inl rfl)⟩
abbrev jX5_count : MI := (5, cX5_count, 2, some .int, false, iX5_count)
set_option maxRecDepth 100000 in
theorem oX5_count : ab_ok2 jX5_count 0 yX5_count := ⟨by decide +kernel, ⟨ab_T_of 1013 (by decide +kernel) rfl, ab_T_of 59 (by decide +kernel) rfl, ⟨by decide, by decide⟩, by decide, ⟨ab_T_of 1011 (by decide +kernel) rfl, ab_T_of 1012 (by decide +kernel) rfl⟩⟩, by decide, rfl, fun q => absurd q (by decide), Or.inr (Or.inl rfl)⟩
end
section
-- PICTURES OF THE TWO OBJECTS
abbrev mG : Type := Nat → Int32
abbrev mA : Type := Nat → Nat → Int32
abbrev mF : Type := Nat → Nat → Nat → Int32
def mS (A : mA) (k : Nat) (f : Nat → Int32) : mA := fun j => if j = k then f else A j
def hM (g : mG) (A : mA) (xs : List AB) : AH := (70,
  (fun _ => .inl (5, [vR 1 0, vR 2 0, vR 3 0, vR 4 0, vI (g 4), vR 5 0, vR 6 0, vI (g 7), vI (g 8), vR 7 0, vR 8 0, vR 9 0, vI (g 12), vI (g 13), vI (g 14), vI (g 15), vI (g 16), vI (g 17), vI (g 18), vI (g 19), vR 10 0, vR 11 0, vI (g 22), vR 12 0, vI (g 24)])) ::
  (fun _ => .inr (.inl (7, A 1))) :: (fun _ => .inr (.inl (112, A 2))) :: (fun _ => .inr (.inl (112, A 3))) :: (fun _ => .inr (.inl (112, A 4))) :: (fun _ => .inr (.inl (64, A 5))) :: (fun _ => .inr (.inl (7, A 6))) ::
  (fun _ => .inr (.inl (8, A 7))) :: (fun _ => .inr (.inl (8, A 8))) :: (fun _ => .inr (.inl (8, A 9))) :: (fun _ => .inr (.inl (8, A 10))) :: (fun _ => .inr (.inl (8, A 11))) :: (fun _ => .inr (.inl (8, A 12))) :: xs)
def ab_fa (b : Nat) : Nat → AV := va_up (va_up (va_up (va_up (va_up (va_up (va_up (va_up (fun _ => none) 0 (vR b 0)) 1 (vR b 1)) 2 (vR b 2)) 3 (vR b 3)) 4 (vR b 4)) 5 (vR b 5)) 6 (vR b 6)) 7 (vR b 7)
theorem ab_fa_at (b : Nat) {i : Nat} (h : i < 8) : ab_fa b i = vR b i := by
  rcases (show i = 0 ∨ i = 1 ∨ i = 2 ∨ i = 3 ∨ i = 4 ∨ i = 5 ∨ i = 6 ∨ i = 7 by omega) with rfl | rfl | rfl | rfl | rfl | rfl | rfl | rfl <;> rfl
def xBk (b : Nat) (x : mA) : AC := .inl (0, [vI (x b 0), vI (x b 1), vR (b + 1) 0, vI (x b 3), vR (b + 2) 0, vI (x b 5), vR (b + 4) 0, vI (x b 7), vI (x b 8), vR (b + 5) 0, vR (b + 6) 0, vR (b + 7) 0, vI (x b 12)])
def xFt (v : Nat → Int32) : AC := .inl (1, [vI (v 0), vI (v 1), vI (v 2), vI (v 3), vI (v 4), vI (v 5), vI (v 6), vI (v 7), vI (v 8)])
def xl (x a : mA) (f : mF) : List AB :=
  (fun _ => .inl (4, [vR 14 0, vR 17 0, vR 25 0, vR 33 0, vI (x 13 4), vR 41 0, vR 43 0, vR 45 0, vR 46 0, vR 47 0, vI (x 13 10), vR 48 0])) ::
  (fun _ => .inl (3, [vR 15 0, vI (x 14 1), vI (x 14 2), vI (x 14 3), vI (x 14 4), vR 16 0])) :: (fun _ => .inr (.inl (64, a 15))) :: (fun _ => .inr (.inl (6, a 16))) ::
  (fun _ => xBk 17 x) :: (fun _ => .inr (.inl (5, a 18))) :: (fun _ => .inr (.inr (8, ab_fa 20))) :: (fun o => xFt (f 20 o)) :: (fun _ => .inr (.inl (4, a 21))) :: (fun _ => .inr (.inl (8, a 22))) :: (fun _ => .inr (.inl (8, a 23))) :: (fun _ => .inr (.inl (8, a 24))) ::
  (fun _ => xBk 25 x) :: (fun _ => .inr (.inl (5, a 26))) :: (fun _ => .inr (.inr (8, ab_fa 28))) :: (fun o => xFt (f 28 o)) :: (fun _ => .inr (.inl (4, a 29))) :: (fun _ => .inr (.inl (8, a 30))) :: (fun _ => .inr (.inl (8, a 31))) :: (fun _ => .inr (.inl (8, a 32))) ::
  (fun _ => xBk 33 x) :: (fun _ => .inr (.inl (5, a 34))) :: (fun _ => .inr (.inr (8, ab_fa 36))) :: (fun o => xFt (f 36 o)) :: (fun _ => .inr (.inl (4, a 37))) :: (fun _ => .inr (.inl (8, a 38))) :: (fun _ => .inr (.inl (8, a 39))) :: (fun _ => .inr (.inl (8, a 40))) ::
  (fun _ => .inl (2, [vR 17 0, vR 42 0, vI (x 41 2), vI (x 41 3), vI (x 41 4), vI (x 41 5), vI (x 41 6), vI (x 41 7)])) :: (fun _ => xFt (x 42)) ::
  (fun _ => .inl (2, [vR 17 0, vR 44 0, vI (x 43 2), vI (x 43 3), vI (x 43 4), vI (x 43 5), vI (x 43 6), vI (x 43 7)])) :: (fun _ => xFt (x 44)) ::
  (fun _ => .inr (.inl (8, a 45))) :: (fun _ => .inr (.inl (8, a 46))) :: (fun _ => .inr (.inl (8, a 47))) :: (fun _ => .inr (.inl (7, a 48))) :: []
def hX (mb : Nat → AB) (x a : mA) (f : mF) : AH := (70, mb 0 :: mb 1 :: mb 2 :: mb 3 :: mb 4 :: mb 5 :: mb 6 :: mb 7 :: mb 8 :: mb 9 :: mb 10 :: mb 11 :: mb 12 :: xl x a f)
def mbl (g : mG) (A : mA) (k : Nat) : AB := (hM g A []).2.getD k ab_nil
theorem hX_hM (g : mG) (A : mA) (x a : mA) (f : mF) : hM g A (xl x a f) = hX (mbl g A) x a f := rfl
theorem m_refuse (d : Nat) (g : mG) (A : mA) (xs : List AB) (c : Int32) (hc : vp_in (-c) 7) : ab_Ex (d + 1) 0 yX5_refuse [vR 0 0, vI c] (hM g A xs) (some (vI c)) (hM g (mS A 1 (upd (A 1) (-c).toNatClampNeg (A 1 (-c).toNatClampNeg + 1))) xs) := by
  refine ab_meth oX5_refuse d _ _ _ _ (Nat.le_refl _) rfl (fun E => ?_)
  refine ab_run [] 50 oX5_refuse.1 (Nat.le_refl _) 0 ?_
  refine ⟨hc, ?_⟩
  refine ⟨hc, ?_⟩
  exact ⟨rfl, rfl⟩
theorem x_refuse (d : Nat) (mb : Nat → AB) (x a : mA) (f : mF) (c : Int32) (hc : 0 < -c ∧ -c < 7) (hi : vp_in (-c) 7) : ab_Ex (d + 1) 0 yX4_refuse [vR 13 0, vI c] (hX mb x a f) (some (vI c)) (hX mb x (mS a 48 (upd (a 48) (-c).toNatClampNeg (a 48 (-c).toNatClampNeg + 1))) f) := by
  refine ab_meth oX4_refuse d _ _ _ _ (Nat.le_refl _) rfl (fun E => ?_)
  refine ab_run [] 50 oX4_refuse.1 (Nat.le_refl _) 0 ?_
  refine ⟨fun q => ?_, fun q => ?_⟩
  · exact absurd hc.1 (Int32.not_lt.mpr q)
  refine ⟨fun q => ?_, fun q => ?_⟩
  · exact absurd hc.2 (Int32.not_lt.mpr q)
  refine ⟨hi, ?_⟩
  refine ⟨hi, ?_⟩
  exact ⟨rfl, rfl⟩
end
section
theorem vp_d {i : Int32} {n : Nat} (h : (decide (i < 0) || Nat.ble n i.toNatClampNeg) = false) : vp_in i n := by
  intro q
  rw [Bool.or_eq_false_iff] at h
  rcases q with q | q
  · exact absurd q (of_decide_eq_false h.1)
  · rw [Nat.ble_eq_true_of_le q] at h
    exact absurd h.2 (by decide)
def mG0 : mG := fun _ => 0
def mA0 : mA := fun k => if k = 2 then upd (upd (upd (upd (fun _ => 0) 0 44) 1 108) 6 (-9)) 10 30 else fun _ => 0
def hM0 (xs : List AB) : AH := (58, (fun _ => .inl (5, ab_dfl 5)) :: ab_nil :: ab_nil :: ab_nil :: ab_nil :: ab_nil :: ab_nil :: ab_nil :: ab_nil :: ab_nil :: ab_nil :: ab_nil :: ab_nil :: xs)
set_option maxRecDepth 100000 in
theorem m_init (d : Nat) (xs : List AB) : ab_Ex (d + 1) 2 yX5_init [vR 0 0] (hM0 xs) none (hM mG0 mA0 xs) := by
  refine ab_meth oX5_init d _ _ _ _ (Nat.le_of_ble_eq_true rfl) rfl (fun E => ?_)
  refine ab_run [] 200 oX5_init.1 (Nat.le_refl _) 0 ?_
  refine ⟨⟨by decide, rfl⟩, ?_⟩
  refine ⟨⟨by decide, rfl⟩, ?_⟩
  refine ⟨⟨by decide, rfl⟩, ?_⟩
  refine ⟨⟨by decide, rfl⟩, ?_⟩
  refine ⟨⟨by decide, rfl⟩, ?_⟩
  refine ⟨⟨by decide, rfl⟩, ?_⟩
  refine ⟨⟨by decide, rfl⟩, ?_⟩
  refine ⟨⟨by decide, rfl⟩, ?_⟩
  refine ⟨⟨by decide, rfl⟩, ?_⟩
  refine ⟨⟨by decide, rfl⟩, ?_⟩
  refine ⟨⟨by decide, rfl⟩, ?_⟩
  refine ⟨⟨by decide, rfl⟩, ?_⟩
  refine ⟨vp_d rfl, ?_⟩
  refine ⟨vp_d rfl, ?_⟩
  refine ⟨vp_d rfl, ?_⟩
  refine ⟨vp_d rfl, ?_⟩
  exact ⟨rfl, rfl⟩
theorem ab_chk_in {h : AH} {b o : Nat} {P : Prop} (hk : ab_ok h b o) (hP : P) : ab_chk h b o P := by
  obtain ⟨h1, h2, h3⟩ := hk
  unfold ab_chk
  unfold ab_ct at h2
  unfold ab_st at h3
  split
  · rename_i he
    rw [he] at h2
    exact absurd h2 (by omega)
  · rename_i s he
    rw [he] at h2 h3
    have e0 : o = 0 := by omega
    subst e0
    have e1 : Nat.blt s h.1 = true := Nat.ble_eq_true_of_le h3
    rw [e1]
    exact hP
  · rename_i s n n0 n1 he
    rw [he] at h2 h3
    exact ⟨⟨h2, h3⟩, hP⟩
theorem ab_wr_in {h : AH} {b o : Nat} {c : AC} {k : AH → Prop} (hk : k (ab_set h b o c)) : ab_wr h b o c k := by
  unfold ab_wr
  rw [ab_lset_eq]
  exact hk
theorem ab_set_set {h : AH} {b o : Nat} (c c' : AC) (hl : h.2.length = 49) (hb : b < 49) : ab_set (ab_set h b o c) b o c' = ab_set h b o c' := by
  unfold ab_set
  dsimp only
  rw [List.set_set]
  congr 2
  rw [List.getD_eq_getElem?_getD, List.getElem?_set_self (by omega)]
  simp only [Option.getD_some]
  unfold ab_upd
  split
  · rfl
  · funext q
    by_cases hq : q = o <;> simp [hq]
theorem ab_get_self {h : AH} {b o : Nat} (c : AC) (hl : h.2.length = 49) (hk : ab_ok h b o) : ab_get (ab_set h b o c) b o = c := by
  rw [ab_get_set c hl hk.1 hk.2.1 hk.2.1]
  simp
set_option maxRecDepth 100000 in
theorem f_init (d : Nat) (h : AH) (h70 : h.1 ≤ 70) (hl : h.2.length = 49) (b o : Nat) (hk : ab_ok h b o) (hg : ab_get h b o = .inl (1, ab_dfl 1)) : ab_Ex (d + 1) 2 yX1_init [vR b o] h none (ab_set h b o (.inl (1, [vI 0, vI 0, vI 0, vI 0, vI 0, vI 1, vI 1, vI 0, vI 1]))) := by
  refine ab_meth oX1_init d _ _ _ _ (Nat.le_refl _) rfl (fun E => ?_)
  refine ab_run [] 50 oX1_init.1 h70 0 ?_
  refine ab_chk_in hk ?_
  dsimp only
  rw [hg]
  refine ab_wr_in ?_
  refine ab_chk_in hk ?_
  dsimp only
  rw [ab_get_self _ hl hk]
  refine ab_wr_in ?_
  refine ab_chk_in hk ?_
  dsimp only
  rw [ab_set_set _ _ hl hk.1, ab_get_self _ hl hk]
  refine ab_wr_in ?_
  refine ⟨rfl, ?_⟩
  rw [ab_set_set _ _ hl hk.1]
end
section
def f0c : AC := .inl (1, [vI 0, vI 0, vI 0, vI 0, vI 0, vI 1, vI 1, vI 0, vI 1])
def ab_fm : Nat → AB
  | 0 => ab_nil
  | i + 1 => ab_upd 8 (ab_upd 8 (ab_fm i) i (.inl (1, ab_dfl 1))) i f0c
set_option maxRecDepth 100000 in
theorem t_init (d : Nat) {p0 p1 p2 p3 p4 p5 p6 p7 p8 p9 p10 p11 p12 p13 : AB} : ab_Ex (d + 1) 2 yX3_init [vR 14 0] (2, p0 :: p1 :: p2 :: p3 :: p4 :: p5 :: p6 :: p7 :: p8 :: p9 :: p10 :: p11 :: p12 :: p13 :: (fun _ => .inl (3, ab_dfl 3)) :: ab_nil :: ab_nil :: ab_nil :: ab_nil :: ab_nil :: ab_nil :: ab_nil :: ab_nil :: ab_nil :: ab_nil :: ab_nil :: ab_nil :: ab_nil :: ab_nil :: ab_nil :: ab_nil :: ab_nil :: ab_nil :: ab_nil :: ab_nil :: ab_nil :: ab_nil :: ab_nil :: ab_nil :: ab_nil :: ab_nil :: ab_nil :: ab_nil :: ab_nil :: ab_nil :: ab_nil :: ab_nil :: ab_nil :: ab_nil :: []) none (4, p0 :: p1 :: p2 :: p3 :: p4 :: p5 :: p6 :: p7 :: p8 :: p9 :: p10 :: p11 :: p12 :: p13 :: (fun _ => .inl (3, [vR 15 0, vI 0, vI 0, vI 0, vI 0, vR 16 0])) :: (fun _ => .inr (.inl (64, fun _ => 0))) :: (fun _ => .inr (.inl (6, fun _ => 0))) :: ab_nil :: ab_nil :: ab_nil :: ab_nil :: ab_nil :: ab_nil :: ab_nil :: ab_nil :: ab_nil :: ab_nil :: ab_nil :: ab_nil :: ab_nil :: ab_nil :: ab_nil :: ab_nil :: ab_nil :: ab_nil :: ab_nil :: ab_nil :: ab_nil :: ab_nil :: ab_nil :: ab_nil :: ab_nil :: ab_nil :: ab_nil :: ab_nil :: ab_nil :: ab_nil :: ab_nil :: ab_nil :: []) := by
  refine ab_meth oX3_init d _ _ _ _ (Nat.le_of_ble_eq_true rfl) rfl (fun E => ?_)
  refine ab_run [] 100 oX3_init.1 (Nat.le_of_ble_eq_true rfl) 0 ?_
  refine ⟨⟨by decide, rfl⟩, ?_⟩
  refine ⟨⟨by decide, rfl⟩, ?_⟩
  exact ⟨rfl, rfl⟩
set_option maxRecDepth 100000 in
theorem b_init_17 (d : Nat) {p0 p1 p2 p3 p4 p5 p6 p7 p8 p9 p10 p11 p12 p13 p14 p15 p16 : AB} : ab_Ex (d + 2) 2 yX0_init [vR 17 0] (5, p0 :: p1 :: p2 :: p3 :: p4 :: p5 :: p6 :: p7 :: p8 :: p9 :: p10 :: p11 :: p12 :: p13 :: p14 :: p15 :: p16 :: (fun _ => .inl (0, ab_dfl 0)) :: ab_nil :: ab_nil :: ab_nil :: ab_nil :: ab_nil :: ab_nil :: ab_nil :: ab_nil :: ab_nil :: ab_nil :: ab_nil :: ab_nil :: ab_nil :: ab_nil :: ab_nil :: ab_nil :: ab_nil :: ab_nil :: ab_nil :: ab_nil :: ab_nil :: ab_nil :: ab_nil :: ab_nil :: ab_nil :: ab_nil :: ab_nil :: ab_nil :: ab_nil :: ab_nil :: ab_nil :: []) none (19, p0 :: p1 :: p2 :: p3 :: p4 :: p5 :: p6 :: p7 :: p8 :: p9 :: p10 :: p11 :: p12 :: p13 :: p14 :: p15 :: p16 :: (fun _ => .inl (0, [vI 44, vI 108, vR 18 0, vI 0, vR 19 0, vI 0, vR 21 0, vI 0, vI (-9), vR 22 0, vR 23 0, vR 24 0, vI 0])) :: (fun _ => .inr (.inl (5, fun _ => 0))) :: (fun _ => .inr (.inr (8, ab_fa 20))) :: ab_fm 8 :: (fun _ => .inr (.inl (4, upd (fun _ => 0) 3 30))) :: (fun _ => .inr (.inl (8, fun _ => 0))) :: (fun _ => .inr (.inl (8, fun _ => 0))) :: (fun _ => .inr (.inl (8, fun _ => 0))) :: ab_nil :: ab_nil :: ab_nil :: ab_nil :: ab_nil :: ab_nil :: ab_nil :: ab_nil :: ab_nil :: ab_nil :: ab_nil :: ab_nil :: ab_nil :: ab_nil :: ab_nil :: ab_nil :: ab_nil :: ab_nil :: ab_nil :: ab_nil :: ab_nil :: ab_nil :: ab_nil :: ab_nil :: []) := by
  refine ab_meth oX0_init (d + 1) _ _ _ _ (Nat.le_of_ble_eq_true rfl) rfl (fun E => ?_)
  refine ab_run [] 400 oX0_init.1 (Nat.le_of_ble_eq_true rfl) 0 ?_
  refine ⟨⟨by decide, rfl⟩, ?_⟩
  refine ⟨⟨by decide, rfl⟩, ?_⟩
  refine ⟨fun q => absurd q (by decide), fun _ => ?_⟩
  refine ⟨_, _, f_init d _ (Nat.le_of_ble_eq_true rfl) rfl 20 0 ⟨Nat.le_of_ble_eq_true rfl, Nat.le_of_ble_eq_true rfl, Nat.le_of_ble_eq_true rfl⟩ rfl, Nat.le_of_ble_eq_true rfl, ?_⟩
  refine ⟨⟨Nat.le_of_ble_eq_true rfl, Nat.le_of_ble_eq_true rfl⟩, ?_⟩
  refine ⟨vp_d rfl, ?_⟩
  refine ⟨fun q => absurd q (by decide), fun _ => ?_⟩
  refine ⟨_, _, f_init d _ (Nat.le_of_ble_eq_true rfl) rfl 20 1 ⟨Nat.le_of_ble_eq_true rfl, Nat.le_of_ble_eq_true rfl, Nat.le_of_ble_eq_true rfl⟩ rfl, Nat.le_of_ble_eq_true rfl, ?_⟩
  refine ⟨⟨Nat.le_of_ble_eq_true rfl, Nat.le_of_ble_eq_true rfl⟩, ?_⟩
  refine ⟨vp_d rfl, ?_⟩
  refine ⟨fun q => absurd q (by decide), fun _ => ?_⟩
  refine ⟨_, _, f_init d _ (Nat.le_of_ble_eq_true rfl) rfl 20 2 ⟨Nat.le_of_ble_eq_true rfl, Nat.le_of_ble_eq_true rfl, Nat.le_of_ble_eq_true rfl⟩ rfl, Nat.le_of_ble_eq_true rfl, ?_⟩
  refine ⟨⟨Nat.le_of_ble_eq_true rfl, Nat.le_of_ble_eq_true rfl⟩, ?_⟩
  refine ⟨vp_d rfl, ?_⟩
  refine ⟨fun q => absurd q (by decide), fun _ => ?_⟩
  refine ⟨_, _, f_init d _ (Nat.le_of_ble_eq_true rfl) rfl 20 3 ⟨Nat.le_of_ble_eq_true rfl, Nat.le_of_ble_eq_true rfl, Nat.le_of_ble_eq_true rfl⟩ rfl, Nat.le_of_ble_eq_true rfl, ?_⟩
  refine ⟨⟨Nat.le_of_ble_eq_true rfl, Nat.le_of_ble_eq_true rfl⟩, ?_⟩
  refine ⟨vp_d rfl, ?_⟩
  refine ⟨fun q => absurd q (by decide), fun _ => ?_⟩
  refine ⟨_, _, f_init d _ (Nat.le_of_ble_eq_true rfl) rfl 20 4 ⟨Nat.le_of_ble_eq_true rfl, Nat.le_of_ble_eq_true rfl, Nat.le_of_ble_eq_true rfl⟩ rfl, Nat.le_of_ble_eq_true rfl, ?_⟩
  refine ⟨⟨Nat.le_of_ble_eq_true rfl, Nat.le_of_ble_eq_true rfl⟩, ?_⟩
  refine ⟨vp_d rfl, ?_⟩
  refine ⟨fun q => absurd q (by decide), fun _ => ?_⟩
  refine ⟨_, _, f_init d _ (Nat.le_of_ble_eq_true rfl) rfl 20 5 ⟨Nat.le_of_ble_eq_true rfl, Nat.le_of_ble_eq_true rfl, Nat.le_of_ble_eq_true rfl⟩ rfl, Nat.le_of_ble_eq_true rfl, ?_⟩
  refine ⟨⟨Nat.le_of_ble_eq_true rfl, Nat.le_of_ble_eq_true rfl⟩, ?_⟩
  refine ⟨vp_d rfl, ?_⟩
  refine ⟨fun q => absurd q (by decide), fun _ => ?_⟩
  refine ⟨_, _, f_init d _ (Nat.le_of_ble_eq_true rfl) rfl 20 6 ⟨Nat.le_of_ble_eq_true rfl, Nat.le_of_ble_eq_true rfl, Nat.le_of_ble_eq_true rfl⟩ rfl, Nat.le_of_ble_eq_true rfl, ?_⟩
  refine ⟨⟨Nat.le_of_ble_eq_true rfl, Nat.le_of_ble_eq_true rfl⟩, ?_⟩
  refine ⟨vp_d rfl, ?_⟩
  refine ⟨fun q => absurd q (by decide), fun _ => ?_⟩
  refine ⟨_, _, f_init d _ (Nat.le_of_ble_eq_true rfl) rfl 20 7 ⟨Nat.le_of_ble_eq_true rfl, Nat.le_of_ble_eq_true rfl, Nat.le_of_ble_eq_true rfl⟩ rfl, Nat.le_of_ble_eq_true rfl, ?_⟩
  refine ⟨⟨Nat.le_of_ble_eq_true rfl, Nat.le_of_ble_eq_true rfl⟩, ?_⟩
  refine ⟨vp_d rfl, ?_⟩
  refine ⟨fun _ => ?_, fun q => absurd (by decide) q⟩
  refine ⟨⟨by decide, rfl⟩, ?_⟩
  refine ⟨vp_d rfl, ?_⟩
  refine ⟨⟨by decide, rfl⟩, ?_⟩
  refine ⟨⟨by decide, rfl⟩, ?_⟩
  refine ⟨⟨by decide, rfl⟩, ?_⟩
  exact ⟨rfl, rfl⟩
set_option maxRecDepth 100000 in
theorem b_init_25 (d : Nat) {p0 p1 p2 p3 p4 p5 p6 p7 p8 p9 p10 p11 p12 p13 p14 p15 p16 p17 p18 p19 p20 p21 p22 p23 p24 : AB} : ab_Ex (d + 2) 2 yX0_init [vR 25 0] (20, p0 :: p1 :: p2 :: p3 :: p4 :: p5 :: p6 :: p7 :: p8 :: p9 :: p10 :: p11 :: p12 :: p13 :: p14 :: p15 :: p16 :: p17 :: p18 :: p19 :: p20 :: p21 :: p22 :: p23 :: p24 :: (fun _ => .inl (0, ab_dfl 0)) :: ab_nil :: ab_nil :: ab_nil :: ab_nil :: ab_nil :: ab_nil :: ab_nil :: ab_nil :: ab_nil :: ab_nil :: ab_nil :: ab_nil :: ab_nil :: ab_nil :: ab_nil :: ab_nil :: ab_nil :: ab_nil :: ab_nil :: ab_nil :: ab_nil :: ab_nil :: ab_nil :: []) none (34, p0 :: p1 :: p2 :: p3 :: p4 :: p5 :: p6 :: p7 :: p8 :: p9 :: p10 :: p11 :: p12 :: p13 :: p14 :: p15 :: p16 :: p17 :: p18 :: p19 :: p20 :: p21 :: p22 :: p23 :: p24 :: (fun _ => .inl (0, [vI 44, vI 108, vR 26 0, vI 0, vR 27 0, vI 0, vR 29 0, vI 0, vI (-9), vR 30 0, vR 31 0, vR 32 0, vI 0])) :: (fun _ => .inr (.inl (5, fun _ => 0))) :: (fun _ => .inr (.inr (8, ab_fa 28))) :: ab_fm 8 :: (fun _ => .inr (.inl (4, upd (fun _ => 0) 3 30))) :: (fun _ => .inr (.inl (8, fun _ => 0))) :: (fun _ => .inr (.inl (8, fun _ => 0))) :: (fun _ => .inr (.inl (8, fun _ => 0))) :: ab_nil :: ab_nil :: ab_nil :: ab_nil :: ab_nil :: ab_nil :: ab_nil :: ab_nil :: ab_nil :: ab_nil :: ab_nil :: ab_nil :: ab_nil :: ab_nil :: ab_nil :: ab_nil :: []) := by
  refine ab_meth oX0_init (d + 1) _ _ _ _ (Nat.le_of_ble_eq_true rfl) rfl (fun E => ?_)
  refine ab_run [] 400 oX0_init.1 (Nat.le_of_ble_eq_true rfl) 0 ?_
  refine ⟨⟨by decide, rfl⟩, ?_⟩
  refine ⟨⟨by decide, rfl⟩, ?_⟩
  refine ⟨fun q => absurd q (by decide), fun _ => ?_⟩
  refine ⟨_, _, f_init d _ (Nat.le_of_ble_eq_true rfl) rfl 28 0 ⟨Nat.le_of_ble_eq_true rfl, Nat.le_of_ble_eq_true rfl, Nat.le_of_ble_eq_true rfl⟩ rfl, Nat.le_of_ble_eq_true rfl, ?_⟩
  refine ⟨⟨Nat.le_of_ble_eq_true rfl, Nat.le_of_ble_eq_true rfl⟩, ?_⟩
  refine ⟨vp_d rfl, ?_⟩
  refine ⟨fun q => absurd q (by decide), fun _ => ?_⟩
  refine ⟨_, _, f_init d _ (Nat.le_of_ble_eq_true rfl) rfl 28 1 ⟨Nat.le_of_ble_eq_true rfl, Nat.le_of_ble_eq_true rfl, Nat.le_of_ble_eq_true rfl⟩ rfl, Nat.le_of_ble_eq_true rfl, ?_⟩
  refine ⟨⟨Nat.le_of_ble_eq_true rfl, Nat.le_of_ble_eq_true rfl⟩, ?_⟩
  refine ⟨vp_d rfl, ?_⟩
  refine ⟨fun q => absurd q (by decide), fun _ => ?_⟩
  refine ⟨_, _, f_init d _ (Nat.le_of_ble_eq_true rfl) rfl 28 2 ⟨Nat.le_of_ble_eq_true rfl, Nat.le_of_ble_eq_true rfl, Nat.le_of_ble_eq_true rfl⟩ rfl, Nat.le_of_ble_eq_true rfl, ?_⟩
  refine ⟨⟨Nat.le_of_ble_eq_true rfl, Nat.le_of_ble_eq_true rfl⟩, ?_⟩
  refine ⟨vp_d rfl, ?_⟩
  refine ⟨fun q => absurd q (by decide), fun _ => ?_⟩
  refine ⟨_, _, f_init d _ (Nat.le_of_ble_eq_true rfl) rfl 28 3 ⟨Nat.le_of_ble_eq_true rfl, Nat.le_of_ble_eq_true rfl, Nat.le_of_ble_eq_true rfl⟩ rfl, Nat.le_of_ble_eq_true rfl, ?_⟩
  refine ⟨⟨Nat.le_of_ble_eq_true rfl, Nat.le_of_ble_eq_true rfl⟩, ?_⟩
  refine ⟨vp_d rfl, ?_⟩
  refine ⟨fun q => absurd q (by decide), fun _ => ?_⟩
  refine ⟨_, _, f_init d _ (Nat.le_of_ble_eq_true rfl) rfl 28 4 ⟨Nat.le_of_ble_eq_true rfl, Nat.le_of_ble_eq_true rfl, Nat.le_of_ble_eq_true rfl⟩ rfl, Nat.le_of_ble_eq_true rfl, ?_⟩
  refine ⟨⟨Nat.le_of_ble_eq_true rfl, Nat.le_of_ble_eq_true rfl⟩, ?_⟩
  refine ⟨vp_d rfl, ?_⟩
  refine ⟨fun q => absurd q (by decide), fun _ => ?_⟩
  refine ⟨_, _, f_init d _ (Nat.le_of_ble_eq_true rfl) rfl 28 5 ⟨Nat.le_of_ble_eq_true rfl, Nat.le_of_ble_eq_true rfl, Nat.le_of_ble_eq_true rfl⟩ rfl, Nat.le_of_ble_eq_true rfl, ?_⟩
  refine ⟨⟨Nat.le_of_ble_eq_true rfl, Nat.le_of_ble_eq_true rfl⟩, ?_⟩
  refine ⟨vp_d rfl, ?_⟩
  refine ⟨fun q => absurd q (by decide), fun _ => ?_⟩
  refine ⟨_, _, f_init d _ (Nat.le_of_ble_eq_true rfl) rfl 28 6 ⟨Nat.le_of_ble_eq_true rfl, Nat.le_of_ble_eq_true rfl, Nat.le_of_ble_eq_true rfl⟩ rfl, Nat.le_of_ble_eq_true rfl, ?_⟩
  refine ⟨⟨Nat.le_of_ble_eq_true rfl, Nat.le_of_ble_eq_true rfl⟩, ?_⟩
  refine ⟨vp_d rfl, ?_⟩
  refine ⟨fun q => absurd q (by decide), fun _ => ?_⟩
  refine ⟨_, _, f_init d _ (Nat.le_of_ble_eq_true rfl) rfl 28 7 ⟨Nat.le_of_ble_eq_true rfl, Nat.le_of_ble_eq_true rfl, Nat.le_of_ble_eq_true rfl⟩ rfl, Nat.le_of_ble_eq_true rfl, ?_⟩
  refine ⟨⟨Nat.le_of_ble_eq_true rfl, Nat.le_of_ble_eq_true rfl⟩, ?_⟩
  refine ⟨vp_d rfl, ?_⟩
  refine ⟨fun _ => ?_, fun q => absurd (by decide) q⟩
  refine ⟨⟨by decide, rfl⟩, ?_⟩
  refine ⟨vp_d rfl, ?_⟩
  refine ⟨⟨by decide, rfl⟩, ?_⟩
  refine ⟨⟨by decide, rfl⟩, ?_⟩
  refine ⟨⟨by decide, rfl⟩, ?_⟩
  exact ⟨rfl, rfl⟩
set_option maxRecDepth 100000 in
theorem b_init_33 (d : Nat) {p0 p1 p2 p3 p4 p5 p6 p7 p8 p9 p10 p11 p12 p13 p14 p15 p16 p17 p18 p19 p20 p21 p22 p23 p24 p25 p26 p27 p28 p29 p30 p31 p32 : AB} : ab_Ex (d + 2) 2 yX0_init [vR 33 0] (35, p0 :: p1 :: p2 :: p3 :: p4 :: p5 :: p6 :: p7 :: p8 :: p9 :: p10 :: p11 :: p12 :: p13 :: p14 :: p15 :: p16 :: p17 :: p18 :: p19 :: p20 :: p21 :: p22 :: p23 :: p24 :: p25 :: p26 :: p27 :: p28 :: p29 :: p30 :: p31 :: p32 :: (fun _ => .inl (0, ab_dfl 0)) :: ab_nil :: ab_nil :: ab_nil :: ab_nil :: ab_nil :: ab_nil :: ab_nil :: ab_nil :: ab_nil :: ab_nil :: ab_nil :: ab_nil :: ab_nil :: ab_nil :: ab_nil :: []) none (49, p0 :: p1 :: p2 :: p3 :: p4 :: p5 :: p6 :: p7 :: p8 :: p9 :: p10 :: p11 :: p12 :: p13 :: p14 :: p15 :: p16 :: p17 :: p18 :: p19 :: p20 :: p21 :: p22 :: p23 :: p24 :: p25 :: p26 :: p27 :: p28 :: p29 :: p30 :: p31 :: p32 :: (fun _ => .inl (0, [vI 44, vI 108, vR 34 0, vI 0, vR 35 0, vI 0, vR 37 0, vI 0, vI (-9), vR 38 0, vR 39 0, vR 40 0, vI 0])) :: (fun _ => .inr (.inl (5, fun _ => 0))) :: (fun _ => .inr (.inr (8, ab_fa 36))) :: ab_fm 8 :: (fun _ => .inr (.inl (4, upd (fun _ => 0) 3 30))) :: (fun _ => .inr (.inl (8, fun _ => 0))) :: (fun _ => .inr (.inl (8, fun _ => 0))) :: (fun _ => .inr (.inl (8, fun _ => 0))) :: ab_nil :: ab_nil :: ab_nil :: ab_nil :: ab_nil :: ab_nil :: ab_nil :: ab_nil :: []) := by
  refine ab_meth oX0_init (d + 1) _ _ _ _ (Nat.le_of_ble_eq_true rfl) rfl (fun E => ?_)
  refine ab_run [] 400 oX0_init.1 (Nat.le_of_ble_eq_true rfl) 0 ?_
  refine ⟨⟨by decide, rfl⟩, ?_⟩
  refine ⟨⟨by decide, rfl⟩, ?_⟩
  refine ⟨fun q => absurd q (by decide), fun _ => ?_⟩
  refine ⟨_, _, f_init d _ (Nat.le_of_ble_eq_true rfl) rfl 36 0 ⟨Nat.le_of_ble_eq_true rfl, Nat.le_of_ble_eq_true rfl, Nat.le_of_ble_eq_true rfl⟩ rfl, Nat.le_of_ble_eq_true rfl, ?_⟩
  refine ⟨⟨Nat.le_of_ble_eq_true rfl, Nat.le_of_ble_eq_true rfl⟩, ?_⟩
  refine ⟨vp_d rfl, ?_⟩
  refine ⟨fun q => absurd q (by decide), fun _ => ?_⟩
  refine ⟨_, _, f_init d _ (Nat.le_of_ble_eq_true rfl) rfl 36 1 ⟨Nat.le_of_ble_eq_true rfl, Nat.le_of_ble_eq_true rfl, Nat.le_of_ble_eq_true rfl⟩ rfl, Nat.le_of_ble_eq_true rfl, ?_⟩
  refine ⟨⟨Nat.le_of_ble_eq_true rfl, Nat.le_of_ble_eq_true rfl⟩, ?_⟩
  refine ⟨vp_d rfl, ?_⟩
  refine ⟨fun q => absurd q (by decide), fun _ => ?_⟩
  refine ⟨_, _, f_init d _ (Nat.le_of_ble_eq_true rfl) rfl 36 2 ⟨Nat.le_of_ble_eq_true rfl, Nat.le_of_ble_eq_true rfl, Nat.le_of_ble_eq_true rfl⟩ rfl, Nat.le_of_ble_eq_true rfl, ?_⟩
  refine ⟨⟨Nat.le_of_ble_eq_true rfl, Nat.le_of_ble_eq_true rfl⟩, ?_⟩
  refine ⟨vp_d rfl, ?_⟩
  refine ⟨fun q => absurd q (by decide), fun _ => ?_⟩
  refine ⟨_, _, f_init d _ (Nat.le_of_ble_eq_true rfl) rfl 36 3 ⟨Nat.le_of_ble_eq_true rfl, Nat.le_of_ble_eq_true rfl, Nat.le_of_ble_eq_true rfl⟩ rfl, Nat.le_of_ble_eq_true rfl, ?_⟩
  refine ⟨⟨Nat.le_of_ble_eq_true rfl, Nat.le_of_ble_eq_true rfl⟩, ?_⟩
  refine ⟨vp_d rfl, ?_⟩
  refine ⟨fun q => absurd q (by decide), fun _ => ?_⟩
  refine ⟨_, _, f_init d _ (Nat.le_of_ble_eq_true rfl) rfl 36 4 ⟨Nat.le_of_ble_eq_true rfl, Nat.le_of_ble_eq_true rfl, Nat.le_of_ble_eq_true rfl⟩ rfl, Nat.le_of_ble_eq_true rfl, ?_⟩
  refine ⟨⟨Nat.le_of_ble_eq_true rfl, Nat.le_of_ble_eq_true rfl⟩, ?_⟩
  refine ⟨vp_d rfl, ?_⟩
  refine ⟨fun q => absurd q (by decide), fun _ => ?_⟩
  refine ⟨_, _, f_init d _ (Nat.le_of_ble_eq_true rfl) rfl 36 5 ⟨Nat.le_of_ble_eq_true rfl, Nat.le_of_ble_eq_true rfl, Nat.le_of_ble_eq_true rfl⟩ rfl, Nat.le_of_ble_eq_true rfl, ?_⟩
  refine ⟨⟨Nat.le_of_ble_eq_true rfl, Nat.le_of_ble_eq_true rfl⟩, ?_⟩
  refine ⟨vp_d rfl, ?_⟩
  refine ⟨fun q => absurd q (by decide), fun _ => ?_⟩
  refine ⟨_, _, f_init d _ (Nat.le_of_ble_eq_true rfl) rfl 36 6 ⟨Nat.le_of_ble_eq_true rfl, Nat.le_of_ble_eq_true rfl, Nat.le_of_ble_eq_true rfl⟩ rfl, Nat.le_of_ble_eq_true rfl, ?_⟩
  refine ⟨⟨Nat.le_of_ble_eq_true rfl, Nat.le_of_ble_eq_true rfl⟩, ?_⟩
  refine ⟨vp_d rfl, ?_⟩
  refine ⟨fun q => absurd q (by decide), fun _ => ?_⟩
  refine ⟨_, _, f_init d _ (Nat.le_of_ble_eq_true rfl) rfl 36 7 ⟨Nat.le_of_ble_eq_true rfl, Nat.le_of_ble_eq_true rfl, Nat.le_of_ble_eq_true rfl⟩ rfl, Nat.le_of_ble_eq_true rfl, ?_⟩
  refine ⟨⟨Nat.le_of_ble_eq_true rfl, Nat.le_of_ble_eq_true rfl⟩, ?_⟩
  refine ⟨vp_d rfl, ?_⟩
  refine ⟨fun _ => ?_, fun q => absurd (by decide) q⟩
  refine ⟨⟨by decide, rfl⟩, ?_⟩
  refine ⟨vp_d rfl, ?_⟩
  refine ⟨⟨by decide, rfl⟩, ?_⟩
  refine ⟨⟨by decide, rfl⟩, ?_⟩
  refine ⟨⟨by decide, rfl⟩, ?_⟩
  exact ⟨rfl, rfl⟩
set_option maxRecDepth 100000 in
theorem r_init_41 (d : Nat) {p0 p1 p2 p3 p4 p5 p6 p7 p8 p9 p10 p11 p12 p13 p14 p15 p16 p17 p18 p19 p20 p21 p22 p23 p24 p25 p26 p27 p28 p29 p30 p31 p32 p33 p34 p35 p36 p37 p38 p39 p40 : AB} : ab_Ex (d + 2) 2 yX2_init [vR 41 0, vR 17 0] (50, p0 :: p1 :: p2 :: p3 :: p4 :: p5 :: p6 :: p7 :: p8 :: p9 :: p10 :: p11 :: p12 :: p13 :: p14 :: p15 :: p16 :: p17 :: p18 :: p19 :: p20 :: p21 :: p22 :: p23 :: p24 :: p25 :: p26 :: p27 :: p28 :: p29 :: p30 :: p31 :: p32 :: p33 :: p34 :: p35 :: p36 :: p37 :: p38 :: p39 :: p40 :: (fun _ => .inl (2, ab_dfl 2)) :: ab_nil :: ab_nil :: ab_nil :: ab_nil :: ab_nil :: ab_nil :: ab_nil :: []) none (51, p0 :: p1 :: p2 :: p3 :: p4 :: p5 :: p6 :: p7 :: p8 :: p9 :: p10 :: p11 :: p12 :: p13 :: p14 :: p15 :: p16 :: p17 :: p18 :: p19 :: p20 :: p21 :: p22 :: p23 :: p24 :: p25 :: p26 :: p27 :: p28 :: p29 :: p30 :: p31 :: p32 :: p33 :: p34 :: p35 :: p36 :: p37 :: p38 :: p39 :: p40 :: (fun _ => .inl (2, [vR 17 0, vR 42 0, vI 0, vI 0, vI 0, vI 0, vI 0, vI 0])) :: (fun _ => f0c) :: ab_nil :: ab_nil :: ab_nil :: ab_nil :: ab_nil :: ab_nil :: []) := by
  refine ab_meth oX2_init (d + 1) _ _ _ _ (Nat.le_of_ble_eq_true rfl) rfl (fun E => ?_)
  refine ab_run [] 400 oX2_init.1 (Nat.le_of_ble_eq_true rfl) 0 ?_
  refine ⟨_, _, f_init d _ (Nat.le_of_ble_eq_true rfl) rfl 42 0 ⟨Nat.le_of_ble_eq_true rfl, Nat.le_of_ble_eq_true rfl, Nat.le_of_ble_eq_true rfl⟩ rfl, Nat.le_of_ble_eq_true rfl, ?_⟩
  exact ⟨rfl, rfl⟩
set_option maxRecDepth 100000 in
theorem r_init_43 (d : Nat) {p0 p1 p2 p3 p4 p5 p6 p7 p8 p9 p10 p11 p12 p13 p14 p15 p16 p17 p18 p19 p20 p21 p22 p23 p24 p25 p26 p27 p28 p29 p30 p31 p32 p33 p34 p35 p36 p37 p38 p39 p40 p41 p42 : AB} : ab_Ex (d + 2) 2 yX2_init [vR 43 0, vR 17 0] (52, p0 :: p1 :: p2 :: p3 :: p4 :: p5 :: p6 :: p7 :: p8 :: p9 :: p10 :: p11 :: p12 :: p13 :: p14 :: p15 :: p16 :: p17 :: p18 :: p19 :: p20 :: p21 :: p22 :: p23 :: p24 :: p25 :: p26 :: p27 :: p28 :: p29 :: p30 :: p31 :: p32 :: p33 :: p34 :: p35 :: p36 :: p37 :: p38 :: p39 :: p40 :: p41 :: p42 :: (fun _ => .inl (2, ab_dfl 2)) :: ab_nil :: ab_nil :: ab_nil :: ab_nil :: ab_nil :: []) none (53, p0 :: p1 :: p2 :: p3 :: p4 :: p5 :: p6 :: p7 :: p8 :: p9 :: p10 :: p11 :: p12 :: p13 :: p14 :: p15 :: p16 :: p17 :: p18 :: p19 :: p20 :: p21 :: p22 :: p23 :: p24 :: p25 :: p26 :: p27 :: p28 :: p29 :: p30 :: p31 :: p32 :: p33 :: p34 :: p35 :: p36 :: p37 :: p38 :: p39 :: p40 :: p41 :: p42 :: (fun _ => .inl (2, [vR 17 0, vR 44 0, vI 0, vI 0, vI 0, vI 0, vI 0, vI 0])) :: (fun _ => f0c) :: ab_nil :: ab_nil :: ab_nil :: ab_nil :: []) := by
  refine ab_meth oX2_init (d + 1) _ _ _ _ (Nat.le_of_ble_eq_true rfl) rfl (fun E => ?_)
  refine ab_run [] 400 oX2_init.1 (Nat.le_of_ble_eq_true rfl) 0 ?_
  refine ⟨_, _, f_init d _ (Nat.le_of_ble_eq_true rfl) rfl 44 0 ⟨Nat.le_of_ble_eq_true rfl, Nat.le_of_ble_eq_true rfl, Nat.le_of_ble_eq_true rfl⟩ rfl, Nat.le_of_ble_eq_true rfl, ?_⟩
  exact ⟨rfl, rfl⟩
def hX0 : AH := (1, ab_nil :: ab_nil :: ab_nil :: ab_nil :: ab_nil :: ab_nil :: ab_nil :: ab_nil :: ab_nil :: ab_nil :: ab_nil :: ab_nil :: ab_nil :: (fun _ => .inl (4, ab_dfl 4)) :: ab_nil :: ab_nil :: ab_nil :: ab_nil :: ab_nil :: ab_nil :: ab_nil :: ab_nil :: ab_nil :: ab_nil :: ab_nil :: ab_nil :: ab_nil :: ab_nil :: ab_nil :: ab_nil :: ab_nil :: ab_nil :: ab_nil :: ab_nil :: ab_nil :: ab_nil :: ab_nil :: ab_nil :: ab_nil :: ab_nil :: ab_nil :: ab_nil :: ab_nil :: ab_nil :: ab_nil :: ab_nil :: ab_nil :: ab_nil :: ab_nil :: [])
def xx0 : mA := fun b k => if b = 17 ∨ b = 25 ∨ b = 33 then (if k = 0 then 44 else if k = 1 then 108 else if k = 8 then -9 else 0) else if b = 42 ∨ b = 44 then (if k = 5 ∨ k = 6 ∨ k = 8 then 1 else 0) else 0
def xa0 : mA := fun b => if b = 21 ∨ b = 29 ∨ b = 37 then upd (fun _ => 0) 3 30 else fun _ => 0
def xf0 : mF := fun _ _ k => if k = 5 ∨ k = 6 ∨ k = 8 then 1 else 0
def hX1 : AH := (57, ab_nil :: ab_nil :: ab_nil :: ab_nil :: ab_nil :: ab_nil :: ab_nil :: ab_nil :: ab_nil :: ab_nil :: ab_nil :: ab_nil :: ab_nil :: xl xx0 xa0 xf0)
/-- the same cells -/
def ab_hq (h1 h2 : AH) : Prop := h1.1 = h2.1 ∧ h1.2.length = h2.2.length ∧ ∀ b, b < 49 → ∀ o, o < ab_ct b → ab_get h1 b o = ab_get h2 b o
theorem ab_hq_R {h1 h2 : AH} (hq : ab_hq h1 h2) {G : AG} {D : va_G} {cI cF : ClassId} {H : Heap} (hR : ab_R G D cI cF h1 H) : ab_R G D cI cF h2 H := by
  obtain ⟨e1, e2, e3⟩ := hq
  obtain ⟨r1, r2, r3, r4⟩ := hR
  have ew : ab_ws G cI cF h1 = ab_ws G cI cF h2 := by
    unfold ab_ws
    rw [← e1]
    refine List.map_congr_left (fun k hk => ?_)
    have hlt := List.mem_range.mp hk
    obtain ⟨l1, l2, l3⟩ := ab_lay1 k (by omega)
    unfold ab_wk
    rw [e3 _ l1 _ l2]
  exact ⟨by rw [← ew]; exact r1, by rw [← e1]; exact r2, by rw [← e2]; exact r3, by rw [← e1]; exact r4⟩
theorem ab_MetFree_mono {l : Launch} {y : MethodName} {ws : List Cond} {rm : Room} {Pc : Array Value → State → Prop} {Q1 Q2 : Array Value → State → Outcome → State → Prop} {mc ms : Nat} {free : Addr → Prop} (hM : Met l y ws rm Pc Q1 mc ms free) (hQ : ∀ a st o t, Q1 a st o t → Q2 a st o t) : Met l y ws rm Pc Q2 mc ms free := by
  intro p e ha hc hk s m args below hf happ hP hK
  obtain ⟨t, o, a1, a2, a3, a4⟩ := hM p e ha hc hk s m args below hf happ hP hK
  exact ⟨t, o, a1, a2, a3, hQ _ _ _ _ a4.1, a4.2⟩
theorem ab_Ex_hq {d kd : Nat} {y : MethodName} {a : List AV} {h h1 h2 : AH} {v : Option AV} (hC : ab_Ex d kd y a h v h1) (hq : ab_hq h1 h2) : ab_Ex d kd y a h v h2 := by
  obtain ⟨cc, mL, ret, hF, hle, hM⟩ := hC
  have e1 := hq.1
  refine ⟨cc, mL, ret, hF, by rw [← e1]; exact hle, fun l G D cI cF E => ?_⟩
  have hM1 := hM l G D cI cF E
  unfold ab_rmm at hM1 ⊢
  rw [e1] at hM1
  exact ab_MetFree_mono hM1 (fun a st o t q => ⟨q.1, ab_hq_R hq q.2.1, q.2.2⟩)
set_option maxRecDepth 100000 in
theorem x_init (d : Nat) : ab_Ex (d + 3) 2 yX4_init [vR 13 0] hX0 none hX1 := by
  refine ab_Ex_hq (h1 := (57, ((hX1.2.set 20 (ab_fm 8)).set 28 (ab_fm 8)).set 36 (ab_fm 8))) ?_ ?_
  · refine ab_meth oX4_init (d + 2) _ _ _ _ (Nat.le_of_ble_eq_true rfl) rfl (fun E => ?_)
    refine ab_run [] 400 oX4_init.1 (Nat.le_of_ble_eq_true rfl) 0 ?_
    refine ⟨_, _, t_init (d + 1), Nat.le_of_ble_eq_true rfl, ?_⟩
    refine ⟨_, _, b_init_17 d, Nat.le_of_ble_eq_true rfl, ?_⟩
    refine ⟨_, _, b_init_25 d, Nat.le_of_ble_eq_true rfl, ?_⟩
    refine ⟨_, _, b_init_33 d, Nat.le_of_ble_eq_true rfl, ?_⟩
    refine ⟨Or.inl rfl, ?_⟩
    refine ⟨_, _, r_init_41 d, Nat.le_of_ble_eq_true rfl, ?_⟩
    refine ⟨_, _, r_init_43 d, Nat.le_of_ble_eq_true rfl, ?_⟩
    refine ⟨⟨by decide, rfl⟩, ?_⟩
    refine ⟨⟨by decide, rfl⟩, ?_⟩
    refine ⟨⟨by decide, rfl⟩, ?_⟩
    refine ⟨⟨by decide, rfl⟩, ?_⟩
    exact ⟨rfl, rfl⟩
  · refine ⟨rfl, rfl, fun b hb o ho => ?_⟩
    have hfam : ∀ q, q < 8 → ab_fm 8 q = xFt (xf0 20 q) := by
      intro q hq
      rcases (show q = 0 ∨ q = 1 ∨ q = 2 ∨ q = 3 ∨ q = 4 ∨ q = 5 ∨ q = 6 ∨ q = 7 by omega) with rfl | rfl | rfl | rfl | rfl | rfl | rfl | rfl <;> rfl
    by_cases h36 : b = 36
    · subst h36
      exact hfam o ho
    by_cases h28 : b = 28
    · subst h28
      exact hfam o ho
    by_cases h20 : b = 20
    · subst h20
      exact hfam o ho
    show ((((hX1.2.set 20 (ab_fm 8)).set 28 (ab_fm 8)).set 36 (ab_fm 8)).getD b ab_nil) o = (hX1.2.getD b ab_nil) o
    rw [List.getD_eq_getElem?_getD, List.getD_eq_getElem?_getD, List.getElem?_set_ne (Ne.symm h36), List.getElem?_set_ne (Ne.symm h28), List.getElem?_set_ne (Ne.symm h20)]
end
section
abbrev jL : MI := (6, cL_law, 4, some .boolean, false, iL_law)
set_option maxRecDepth 100000 in
theorem oL_0 : ((iL_law.drop 0).take 28).all (ab_res jL) = true := by decide +kernel
set_option maxRecDepth 100000 in
theorem oL_1 : ((iL_law.drop 28).take 28).all (ab_res jL) = true := by decide +kernel
set_option maxRecDepth 100000 in
theorem oL_2 : ((iL_law.drop 56).take 28).all (ab_res jL) = true := by decide +kernel
set_option maxRecDepth 100000 in
theorem oL_3 : ((iL_law.drop 84).take 28).all (ab_res jL) = true := by decide +kernel
set_option maxRecDepth 100000 in
theorem oL_4 : ((iL_law.drop 112).take 28).all (ab_res jL) = true := by decide +kernel
set_option maxRecDepth 100000 in
theorem oL_5 : ((iL_law.drop 140).take 28).all (ab_res jL) = true := by decide +kernel
set_option maxRecDepth 100000 in
theorem oL_6 : ((iL_law.drop 168).take 28).all (ab_res jL) = true := by decide +kernel
set_option maxRecDepth 100000 in
theorem oL_7 : ((iL_law.drop 196).take 28).all (ab_res jL) = true := by decide +kernel
set_option maxRecDepth 100000 in
theorem oL_8 : ((iL_law.drop 224).take 28).all (ab_res jL) = true := by decide +kernel
set_option maxRecDepth 100000 in
theorem oL_9 : ((iL_law.drop 252).take 28).all (ab_res jL) = true := by decide +kernel
set_option maxRecDepth 100000 in
theorem oL_10 : ((iL_law.drop 280).take 28).all (ab_res jL) = true := by decide +kernel
set_option maxRecDepth 100000 in
theorem oL_11 : ((iL_law.drop 308).take 28).all (ab_res jL) = true := by decide +kernel
set_option maxRecDepth 100000 in
theorem oL_12 : ((iL_law.drop 336).take 28).all (ab_res jL) = true := by decide +kernel
set_option maxRecDepth 100000 in
theorem oL_13 : ((iL_law.drop 364).take 28).all (ab_res jL) = true := by decide +kernel
set_option maxRecDepth 100000 in
theorem oL_14 : ((iL_law.drop 392).take 28).all (ab_res jL) = true := by decide +kernel
set_option maxRecDepth 100000 in
theorem oL_15 : ((iL_law.drop 420).take 28).all (ab_res jL) = true := by decide +kernel
set_option maxRecDepth 100000 in
theorem oL_16 : ((iL_law.drop 448).take 28).all (ab_res jL) = true := by decide +kernel
set_option maxRecDepth 100000 in
theorem oL_17 : ((iL_law.drop 476).take 28).all (ab_res jL) = true := by decide +kernel
set_option maxRecDepth 100000 in
theorem oL_18 : ((iL_law.drop 504).take 28).all (ab_res jL) = true := by decide +kernel
set_option maxRecDepth 100000 in
theorem oL_19 : ((iL_law.drop 532).take 28).all (ab_res jL) = true := by decide +kernel
set_option maxRecDepth 100000 in
theorem oL_20 : ((iL_law.drop 560).take 28).all (ab_res jL) = true := by decide +kernel
set_option maxRecDepth 100000 in
theorem oL_21 : ((iL_law.drop 588).take 28).all (ab_res jL) = true := by decide +kernel
set_option maxRecDepth 100000 in
theorem oL_22 : ((iL_law.drop 616).take 28).all (ab_res jL) = true := by decide +kernel
set_option maxRecDepth 100000 in
theorem oL_23 : ((iL_law.drop 644).take 28).all (ab_res jL) = true := by decide +kernel
set_option maxRecDepth 100000 in
theorem oL_24 : ((iL_law.drop 672).take 28).all (ab_res jL) = true := by decide +kernel
set_option maxRecDepth 100000 in
theorem oL_25 : ((iL_law.drop 700).take 28).all (ab_res jL) = true := by decide +kernel
set_option maxRecDepth 100000 in
theorem oL_26 : ((iL_law.drop 728).take 28).all (ab_res jL) = true := by decide +kernel
set_option maxRecDepth 100000 in
theorem oL_27 : ((iL_law.drop 756).take 28).all (ab_res jL) = true := by decide +kernel
theorem ab_all_cut {l : List IE} {f : IE → Bool} {n : Nat} (h1 : (l.take n).all f = true) (h2 : (l.drop n).all f = true) : l.all f = true := by
  rw [← List.take_append_drop n l, List.all_append, h1, h2]
  rfl
set_option maxRecDepth 100000 in
theorem oL : ab_tab jL = true := by
  have h28 : (iL_law.drop 784).all (ab_res jL) = true := by decide +kernel
  have h27 : (iL_law.drop 756).all (ab_res jL) = true := ab_all_cut (n := 28) oL_27 (by rw [List.drop_drop]; exact h28)
  have h26 : (iL_law.drop 728).all (ab_res jL) = true := ab_all_cut (n := 28) oL_26 (by rw [List.drop_drop]; exact h27)
  have h25 : (iL_law.drop 700).all (ab_res jL) = true := ab_all_cut (n := 28) oL_25 (by rw [List.drop_drop]; exact h26)
  have h24 : (iL_law.drop 672).all (ab_res jL) = true := ab_all_cut (n := 28) oL_24 (by rw [List.drop_drop]; exact h25)
  have h23 : (iL_law.drop 644).all (ab_res jL) = true := ab_all_cut (n := 28) oL_23 (by rw [List.drop_drop]; exact h24)
  have h22 : (iL_law.drop 616).all (ab_res jL) = true := ab_all_cut (n := 28) oL_22 (by rw [List.drop_drop]; exact h23)
  have h21 : (iL_law.drop 588).all (ab_res jL) = true := ab_all_cut (n := 28) oL_21 (by rw [List.drop_drop]; exact h22)
  have h20 : (iL_law.drop 560).all (ab_res jL) = true := ab_all_cut (n := 28) oL_20 (by rw [List.drop_drop]; exact h21)
  have h19 : (iL_law.drop 532).all (ab_res jL) = true := ab_all_cut (n := 28) oL_19 (by rw [List.drop_drop]; exact h20)
  have h18 : (iL_law.drop 504).all (ab_res jL) = true := ab_all_cut (n := 28) oL_18 (by rw [List.drop_drop]; exact h19)
  have h17 : (iL_law.drop 476).all (ab_res jL) = true := ab_all_cut (n := 28) oL_17 (by rw [List.drop_drop]; exact h18)
  have h16 : (iL_law.drop 448).all (ab_res jL) = true := ab_all_cut (n := 28) oL_16 (by rw [List.drop_drop]; exact h17)
  have h15 : (iL_law.drop 420).all (ab_res jL) = true := ab_all_cut (n := 28) oL_15 (by rw [List.drop_drop]; exact h16)
  have h14 : (iL_law.drop 392).all (ab_res jL) = true := ab_all_cut (n := 28) oL_14 (by rw [List.drop_drop]; exact h15)
  have h13 : (iL_law.drop 364).all (ab_res jL) = true := ab_all_cut (n := 28) oL_13 (by rw [List.drop_drop]; exact h14)
  have h12 : (iL_law.drop 336).all (ab_res jL) = true := ab_all_cut (n := 28) oL_12 (by rw [List.drop_drop]; exact h13)
  have h11 : (iL_law.drop 308).all (ab_res jL) = true := ab_all_cut (n := 28) oL_11 (by rw [List.drop_drop]; exact h12)
  have h10 : (iL_law.drop 280).all (ab_res jL) = true := ab_all_cut (n := 28) oL_10 (by rw [List.drop_drop]; exact h11)
  have h9 : (iL_law.drop 252).all (ab_res jL) = true := ab_all_cut (n := 28) oL_9 (by rw [List.drop_drop]; exact h10)
  have h8 : (iL_law.drop 224).all (ab_res jL) = true := ab_all_cut (n := 28) oL_8 (by rw [List.drop_drop]; exact h9)
  have h7 : (iL_law.drop 196).all (ab_res jL) = true := ab_all_cut (n := 28) oL_7 (by rw [List.drop_drop]; exact h8)
  have h6 : (iL_law.drop 168).all (ab_res jL) = true := ab_all_cut (n := 28) oL_6 (by rw [List.drop_drop]; exact h7)
  have h5 : (iL_law.drop 140).all (ab_res jL) = true := ab_all_cut (n := 28) oL_5 (by rw [List.drop_drop]; exact h6)
  have h4 : (iL_law.drop 112).all (ab_res jL) = true := ab_all_cut (n := 28) oL_4 (by rw [List.drop_drop]; exact h5)
  have h3 : (iL_law.drop 84).all (ab_res jL) = true := ab_all_cut (n := 28) oL_3 (by rw [List.drop_drop]; exact h4)
  have h2 : (iL_law.drop 56).all (ab_res jL) = true := ab_all_cut (n := 28) oL_2 (by rw [List.drop_drop]; exact h3)
  have h1 : (iL_law.drop 28).all (ab_res jL) = true := ab_all_cut (n := 28) oL_1 (by rw [List.drop_drop]; exact h2)
  have h0 : (iL_law.drop 0).all (ab_res jL) = true := ab_all_cut (n := 28) oL_0 (by rw [List.drop_drop]; exact h1)
  have hs : (ab_seq iL_law && (match iL_law with
    | e :: _ => Nat.beq e.1 0
    | [] => false)) = true := by decide +kernel
  rw [Bool.and_eq_true] at hs
  show (iL_law.all (ab_res jL) && ab_seq iL_law && _) = true
  rw [show iL_law.all (ab_res jL) = true from h0, hs.1]
  exact hs.2
-- WHAT IS OWED OF A PAIR OF METHODS
abbrev IT : Type := mG → mA → mA → mA → mF → Prop
def Pr (I : IT) (d : Nat) (yx ym : MethodName) (as : List AV) : Prop := ∀ (g : mG) (A x a : mA) (f : mF), I g A x a f → ∃ (r : Int32) (x' a' : mA) (f' : mF) (g' : mG) (A' : mA),
  ab_Ex d 0 yx (vR 13 0 :: as) (hM g A (xl x a f)) (some (vI r)) (hM g A (xl x' a' f')) ∧ ab_Ex d 0 ym (vR 0 0 :: as) (hM g A (xl x' a' f')) (some (vI r)) (hM g' A' (xl x' a' f')) ∧ I g' A' x' a' f'
def P_feed (I : IT) (d : Nat) : Prop := ∀ (p1 : Int32) (p2 : Int64), Pr I d yX4_feed yX5_feed [vI p1, vL p2]
def P_bicycle (I : IT) (d : Nat) : Prop := Pr I d yX4_bicycle yX5_bicycle []
def P_part (I : IT) (d : Nat) : Prop := ∀ p1 : Int32, Pr I d yX4_part yX5_part [vI p1]
def P_fault (I : IT) (d : Nat) : Prop := ∀ p1 p2 : Int32, Pr I d yX4_fault yX5_fault [vI p1, vI p2]
def P_rounds (I : IT) (d : Nat) : Prop := ∀ p1 p2 p3 : Int32, Pr I d yX4_rounds yX5_rounds [vI p1, vI p2, vI p3]
def P_load (I : IT) (d : Nat) : Prop := ∀ p1 p2 : Int32, Pr I d yX4_load yX5_load [vI p1, vI p2]
def P_set (I : IT) (d : Nat) : Prop := ∀ p1 p2 : Int32, Pr I d yX4_set yX5_set [vI p1, vI p2]
def P_oil (I : IT) (d : Nat) : Prop := Pr I d yX4_oil yX5_oil []
def P_stage (I : IT) (d : Nat) : Prop := ∀ p1 p2 p3 : Int32, Pr I d yX4_stage yX5_stage [vI p1, vI p2, vI p3]
def P_stageOf (I : IT) (d : Nat) : Prop := ∀ p1 p2 : Int32, Pr I d yX4_stageOf yX5_stageOf [vI p1, vI p2]
def P_drop (I : IT) (d : Nat) : Prop := Pr I d yX4_drop yX5_drop []
def P_counts (I : IT) (d : Nat) : Prop := ∀ p1 : Int32, Pr I d yX4_counts yX5_counts [vI p1]
def P_stageCounts (I : IT) (d : Nat) : Prop := ∀ p1 p2 p3 p4 : Int32, Pr I d yX4_stageCounts yX5_stageCounts [vI p1, vI p2, vI p3, vI p4]
def P_when (I : IT) (d : Nat) : Prop := ∀ p1 p2 : Int32, Pr I d yX4_when yX5_when [vI p1, vI p2]
def P_heard (I : IT) (d : Nat) : Prop := ∀ p1 : Int32, Pr I d yX4_heard yX5_heard [vI p1]
def P_go (I : IT) (d : Nat) : Prop := Pr I d yX4_go yX5_go []
def P_fit (I : IT) (d : Nat) : Prop := ∀ p1 p2 : Int32, Pr I d yX4_fit yX5_fit [vI p1, vI p2]
def P_odds (I : IT) (d : Nat) : Prop := ∀ p1 p2 p3 p4 : Int32, Pr I d yX4_odds yX5_odds [vI p1, vI p2, vI p3, vI p4]
def P_twos (I : IT) (d : Nat) : Prop := ∀ p1 p2 p3 : Int32, Pr I d yX4_twos yX5_twos [vI p1, vI p2, vI p3]
def P_apart (I : IT) (d : Nat) : Prop := ∀ p1 p2 : Int32, Pr I d yX4_apart yX5_apart [vI p1, vI p2]
def P_tells (I : IT) (d : Nat) : Prop := ∀ p1 p2 : Int32, Pr I d yX4_tells yX5_tells [vI p1, vI p2]
def P_length (I : IT) (d : Nat) : Prop := ∀ p1 p2 p3 p4 p5 : Int32, Pr I d yX4_length yX5_length [vI p1, vI p2, vI p3, vI p4, vI p5]
def P_beat (I : IT) (d : Nat) : Prop := ∀ p1 p2 p3 : Int32, Pr I d yX4_beat yX5_beat [vI p1, vI p2, vI p3]
def P_away (I : IT) (d : Nat) : Prop := ∀ p1 : Int32, Pr I d yX4_away yX5_away [vI p1]
def P_danger (I : IT) (d : Nat) : Prop := ∀ p1 : Int32, Pr I d yX4_danger yX5_danger [vI p1]
def P_least (I : IT) (d : Nat) : Prop := ∀ p1 : Int32, Pr I d yX4_least yX5_least [vI p1]
def P_row (I : IT) (d : Nat) : Prop := ∀ p1 : Int32, Pr I d yX4_row yX5_row [vI p1]
def P_judge (I : IT) (d : Nat) : Prop := Pr I d yX4_judge yX5_judge []
def P_held (I : IT) (d : Nat) : Prop := Pr I d yX4_held yX5_held []
def P_image (I : IT) (d : Nat) : Prop := Pr I d yX4_image yX5_image []
def P_on (I : IT) (d : Nat) : Prop := Pr I d yX4_on yX5_on []
def P_count (I : IT) (d : Nat) : Prop := ∀ p1 : Int32, Pr I d yX4_count yX5_count [vI p1]
def P_all (I : IT) (d : Nat) : Prop := P_feed I d ∧ P_bicycle I d ∧ P_part I d ∧ P_fault I d ∧ P_rounds I d ∧ P_load I d ∧ P_set I d ∧ P_oil I d ∧ P_stage I d ∧ P_stageOf I d ∧ P_drop I d ∧ P_counts I d ∧ P_stageCounts I d ∧ P_when I d ∧ P_heard I d ∧ P_go I d ∧ P_fit I d ∧ P_odds I d ∧ P_twos I d ∧ P_apart I d ∧ P_tells I d ∧ P_length I d ∧ P_beat I d ∧ P_away I d ∧ P_danger I d ∧ P_least I d ∧ P_row I d ∧ P_judge I d ∧ P_held I d ∧ P_image I d ∧ P_on I d ∧ P_count I d
theorem lp_in {n L k : Nat} (h : n + 6 ≤ L) (hk : k < 6) (hL : L ≤ 3072) : vp_in (nI n + nI k) L := by
  rw [nI_add]
  exact vp_in_nI (by omega) (by omega)
theorem lp_go {n L : Nat} (hL : L ≤ 3072) (hn : n ≤ 3078) (h : ¬ Int32.ofNat L - 6 < nI n) : n + 6 ≤ L := by
  have h1 : (Int32.ofNat L).toInt = (L : Int) := nI_toInt (by omega)
  have h2 : (nI n).toInt = (n : Int) := nI_toInt (by omega)
  have h3 : (Int32.ofNat L - 6).toInt = (L : Int) - 6 := by
    rw [Int32.toInt_sub, h1, show (6 : Int32).toInt = 6 from rfl]
    apply Int.bmod_eq_of_le <;> omega
  have h4 := Int32.not_lt.mp h
  rw [Int32.le_iff_toInt_le, h2, h3] at h4
  omega
set_option maxHeartbeats 4000000 in
set_option maxRecDepth 100000 in
theorem law_loop {I : IT} {d : Nat} (hp : P_all I d) (E : Nat × (Nat → Int32)) (hL : E.1 ≤ 3072) (h0 : AH) : ∀ (k n : Nat) (g : mG) (A x a : mA) (f : mF), E.1 + 6 ≤ n + k → n ≤ E.1 + 6 → I g A x a f → ab_W jL d E h0 70 (fun v _ => v = some (vI 1)) (ab_at iL_law 18) [(3, vI (nI n)), (2, vR 0 0), (1, vR 13 0), (0, vR 1000 0)] [] (hM g A (xl x a f)) := by
  obtain ⟨p_feed, p_bicycle, p_part, p_fault, p_rounds, p_load, p_set, p_oil, p_stage, p_stageOf, p_drop, p_counts, p_stageCounts, p_when, p_heard, p_go, p_fit, p_odds, p_twos, p_apart, p_tells, p_length, p_beat, p_away, p_danger, p_least, p_row, p_judge, p_held, p_image, p_on, p_count⟩ := hp
  intro k
  induction k with
  | zero =>
    intro n g A x a f h1 h2 hI
    refine ab_run [18] 400 oL (Nat.le_refl _) 18 ?_
    refine ⟨fun q => ?_, fun q => ?_⟩
    · exact ⟨Or.inr rfl, rfl⟩
    · exact absurd (lp_go hL (by omega) q) (by omega)
  | succ k ih =>
    intro n g A x a f h1 h2 hI
    refine ab_run [18] 400 oL (Nat.le_refl _) 18 ?_
    refine ⟨fun q => ?_, fun q => ?_⟩
    · exact ⟨Or.inr rfl, rfl⟩
    have hn := lp_go hL (by omega) q
    have i0 : vp_in (nI n) E.1 := vp_in_nI (by omega) (by omega)
    have i1 : vp_in (nI n + 1) E.1 := lp_in (k := 1) hn (by decide) hL
    have i2 : vp_in (nI n + 2) E.1 := lp_in (k := 2) hn (by decide) hL
    have i3 : vp_in (nI n + 3) E.1 := lp_in (k := 3) hn (by decide) hL
    have i4 : vp_in (nI n + 4) E.1 := lp_in (k := 4) hn (by decide) hL
    have i5 : vp_in (nI n + 5) E.1 := lp_in (k := 5) hn (by decide) hL
    have hnext : ∀ (g : mG) (A x a : mA) (f : mF), I g A x a f → ab_W jL d E h0 70 (fun v _ => v = some (vI 1)) (ab_at iL_law 18) [(3, vI (nI n + 6)), (2, vR 0 0), (1, vR 13 0), (0, vR 1000 0)] [] (hM g A (xl x a f)) := by
      intro g A x a f hI
      rw [show nI n + 6 = nI (n + 6) from nI_add n 6]
      exact ih (n + 6) g A x a f (by omega) (by omega) hI
    refine ⟨i0, ?_⟩
    refine ⟨fun _ => ?_, fun _ => ?_⟩
    · refine ⟨i1, ?_⟩
      refine ⟨i2, ?_⟩
      refine ⟨i3, ?_⟩
      obtain ⟨r, x', a', f', g', A', e1, e2, hI'⟩ := p_feed _ _ g A x a f hI
      refine ⟨_, _, e1, Nat.le_refl _, ?_⟩
      refine ⟨i1, ?_⟩
      refine ⟨i2, ?_⟩
      refine ⟨i3, ?_⟩
      refine ⟨_, _, e2, Nat.le_refl _, ?_⟩
      refine ⟨fun _ => ?_, fun q => absurd rfl q⟩
      exact hnext g' A' x' a' f' hI'
    refine ⟨fun _ => ?_, fun _ => ?_⟩
    · obtain ⟨r, x', a', f', g', A', e1, e2, hI'⟩ := p_bicycle  g A x a f hI
      refine ⟨_, _, e1, Nat.le_refl _, ?_⟩
      refine ⟨_, _, e2, Nat.le_refl _, ?_⟩
      refine ⟨fun _ => ?_, fun q => absurd rfl q⟩
      exact hnext g' A' x' a' f' hI'
    refine ⟨fun _ => ?_, fun _ => ?_⟩
    · refine ⟨i1, ?_⟩
      obtain ⟨r, x', a', f', g', A', e1, e2, hI'⟩ := p_part _ g A x a f hI
      refine ⟨_, _, e1, Nat.le_refl _, ?_⟩
      refine ⟨i1, ?_⟩
      refine ⟨_, _, e2, Nat.le_refl _, ?_⟩
      refine ⟨fun _ => ?_, fun q => absurd rfl q⟩
      exact hnext g' A' x' a' f' hI'
    refine ⟨fun _ => ?_, fun _ => ?_⟩
    · refine ⟨i1, ?_⟩
      refine ⟨i2, ?_⟩
      obtain ⟨r, x', a', f', g', A', e1, e2, hI'⟩ := p_fault _ _ g A x a f hI
      refine ⟨_, _, e1, Nat.le_refl _, ?_⟩
      refine ⟨i1, ?_⟩
      refine ⟨i2, ?_⟩
      refine ⟨_, _, e2, Nat.le_refl _, ?_⟩
      refine ⟨fun _ => ?_, fun q => absurd rfl q⟩
      exact hnext g' A' x' a' f' hI'
    refine ⟨fun _ => ?_, fun _ => ?_⟩
    · refine ⟨i1, ?_⟩
      refine ⟨i2, ?_⟩
      refine ⟨i3, ?_⟩
      obtain ⟨r, x', a', f', g', A', e1, e2, hI'⟩ := p_rounds _ _ _ g A x a f hI
      refine ⟨_, _, e1, Nat.le_refl _, ?_⟩
      refine ⟨i1, ?_⟩
      refine ⟨i2, ?_⟩
      refine ⟨i3, ?_⟩
      refine ⟨_, _, e2, Nat.le_refl _, ?_⟩
      refine ⟨fun _ => ?_, fun q => absurd rfl q⟩
      exact hnext g' A' x' a' f' hI'
    refine ⟨fun _ => ?_, fun _ => ?_⟩
    · refine ⟨i1, ?_⟩
      refine ⟨i2, ?_⟩
      obtain ⟨r, x', a', f', g', A', e1, e2, hI'⟩ := p_load _ _ g A x a f hI
      refine ⟨_, _, e1, Nat.le_refl _, ?_⟩
      refine ⟨i1, ?_⟩
      refine ⟨i2, ?_⟩
      refine ⟨_, _, e2, Nat.le_refl _, ?_⟩
      refine ⟨fun _ => ?_, fun q => absurd rfl q⟩
      exact hnext g' A' x' a' f' hI'
    refine ⟨fun _ => ?_, fun _ => ?_⟩
    · refine ⟨i1, ?_⟩
      refine ⟨i2, ?_⟩
      obtain ⟨r, x', a', f', g', A', e1, e2, hI'⟩ := p_set _ _ g A x a f hI
      refine ⟨_, _, e1, Nat.le_refl _, ?_⟩
      refine ⟨i1, ?_⟩
      refine ⟨i2, ?_⟩
      refine ⟨_, _, e2, Nat.le_refl _, ?_⟩
      refine ⟨fun _ => ?_, fun q => absurd rfl q⟩
      exact hnext g' A' x' a' f' hI'
    refine ⟨fun _ => ?_, fun _ => ?_⟩
    · obtain ⟨r, x', a', f', g', A', e1, e2, hI'⟩ := p_oil  g A x a f hI
      refine ⟨_, _, e1, Nat.le_refl _, ?_⟩
      refine ⟨_, _, e2, Nat.le_refl _, ?_⟩
      refine ⟨fun _ => ?_, fun q => absurd rfl q⟩
      exact hnext g' A' x' a' f' hI'
    refine ⟨fun _ => ?_, fun _ => ?_⟩
    · refine ⟨i1, ?_⟩
      refine ⟨i2, ?_⟩
      refine ⟨i3, ?_⟩
      obtain ⟨r, x', a', f', g', A', e1, e2, hI'⟩ := p_stage _ _ _ g A x a f hI
      refine ⟨_, _, e1, Nat.le_refl _, ?_⟩
      refine ⟨i1, ?_⟩
      refine ⟨i2, ?_⟩
      refine ⟨i3, ?_⟩
      refine ⟨_, _, e2, Nat.le_refl _, ?_⟩
      refine ⟨fun _ => ?_, fun q => absurd rfl q⟩
      exact hnext g' A' x' a' f' hI'
    refine ⟨fun _ => ?_, fun _ => ?_⟩
    · refine ⟨i1, ?_⟩
      refine ⟨i2, ?_⟩
      obtain ⟨r, x', a', f', g', A', e1, e2, hI'⟩ := p_stageOf _ _ g A x a f hI
      refine ⟨_, _, e1, Nat.le_refl _, ?_⟩
      refine ⟨i1, ?_⟩
      refine ⟨i2, ?_⟩
      refine ⟨_, _, e2, Nat.le_refl _, ?_⟩
      refine ⟨fun _ => ?_, fun q => absurd rfl q⟩
      exact hnext g' A' x' a' f' hI'
    refine ⟨fun _ => ?_, fun _ => ?_⟩
    · obtain ⟨r, x', a', f', g', A', e1, e2, hI'⟩ := p_drop  g A x a f hI
      refine ⟨_, _, e1, Nat.le_refl _, ?_⟩
      refine ⟨_, _, e2, Nat.le_refl _, ?_⟩
      refine ⟨fun _ => ?_, fun q => absurd rfl q⟩
      exact hnext g' A' x' a' f' hI'
    refine ⟨fun _ => ?_, fun _ => ?_⟩
    · refine ⟨i1, ?_⟩
      obtain ⟨r, x', a', f', g', A', e1, e2, hI'⟩ := p_counts _ g A x a f hI
      refine ⟨_, _, e1, Nat.le_refl _, ?_⟩
      refine ⟨i1, ?_⟩
      refine ⟨_, _, e2, Nat.le_refl _, ?_⟩
      refine ⟨fun _ => ?_, fun q => absurd rfl q⟩
      exact hnext g' A' x' a' f' hI'
    refine ⟨fun _ => ?_, fun _ => ?_⟩
    · refine ⟨i1, ?_⟩
      refine ⟨i2, ?_⟩
      refine ⟨i3, ?_⟩
      refine ⟨i4, ?_⟩
      obtain ⟨r, x', a', f', g', A', e1, e2, hI'⟩ := p_stageCounts _ _ _ _ g A x a f hI
      refine ⟨_, _, e1, Nat.le_refl _, ?_⟩
      refine ⟨i1, ?_⟩
      refine ⟨i2, ?_⟩
      refine ⟨i3, ?_⟩
      refine ⟨i4, ?_⟩
      refine ⟨_, _, e2, Nat.le_refl _, ?_⟩
      refine ⟨fun _ => ?_, fun q => absurd rfl q⟩
      exact hnext g' A' x' a' f' hI'
    refine ⟨fun _ => ?_, fun _ => ?_⟩
    · refine ⟨i1, ?_⟩
      refine ⟨i2, ?_⟩
      obtain ⟨r, x', a', f', g', A', e1, e2, hI'⟩ := p_when _ _ g A x a f hI
      refine ⟨_, _, e1, Nat.le_refl _, ?_⟩
      refine ⟨i1, ?_⟩
      refine ⟨i2, ?_⟩
      refine ⟨_, _, e2, Nat.le_refl _, ?_⟩
      refine ⟨fun _ => ?_, fun q => absurd rfl q⟩
      exact hnext g' A' x' a' f' hI'
    refine ⟨fun _ => ?_, fun _ => ?_⟩
    · refine ⟨i1, ?_⟩
      obtain ⟨r, x', a', f', g', A', e1, e2, hI'⟩ := p_heard _ g A x a f hI
      refine ⟨_, _, e1, Nat.le_refl _, ?_⟩
      refine ⟨i1, ?_⟩
      refine ⟨_, _, e2, Nat.le_refl _, ?_⟩
      refine ⟨fun _ => ?_, fun q => absurd rfl q⟩
      exact hnext g' A' x' a' f' hI'
    refine ⟨fun _ => ?_, fun _ => ?_⟩
    · obtain ⟨r, x', a', f', g', A', e1, e2, hI'⟩ := p_go  g A x a f hI
      refine ⟨_, _, e1, Nat.le_refl _, ?_⟩
      refine ⟨_, _, e2, Nat.le_refl _, ?_⟩
      refine ⟨fun _ => ?_, fun q => absurd rfl q⟩
      exact hnext g' A' x' a' f' hI'
    refine ⟨fun _ => ?_, fun _ => ?_⟩
    · refine ⟨i1, ?_⟩
      refine ⟨i2, ?_⟩
      obtain ⟨r, x', a', f', g', A', e1, e2, hI'⟩ := p_fit _ _ g A x a f hI
      refine ⟨_, _, e1, Nat.le_refl _, ?_⟩
      refine ⟨i1, ?_⟩
      refine ⟨i2, ?_⟩
      refine ⟨_, _, e2, Nat.le_refl _, ?_⟩
      refine ⟨fun _ => ?_, fun q => absurd rfl q⟩
      exact hnext g' A' x' a' f' hI'
    refine ⟨fun _ => ?_, fun _ => ?_⟩
    · refine ⟨i1, ?_⟩
      refine ⟨i2, ?_⟩
      refine ⟨i3, ?_⟩
      refine ⟨i4, ?_⟩
      obtain ⟨r, x', a', f', g', A', e1, e2, hI'⟩ := p_odds _ _ _ _ g A x a f hI
      refine ⟨_, _, e1, Nat.le_refl _, ?_⟩
      refine ⟨i1, ?_⟩
      refine ⟨i2, ?_⟩
      refine ⟨i3, ?_⟩
      refine ⟨i4, ?_⟩
      refine ⟨_, _, e2, Nat.le_refl _, ?_⟩
      refine ⟨fun _ => ?_, fun q => absurd rfl q⟩
      exact hnext g' A' x' a' f' hI'
    refine ⟨fun _ => ?_, fun _ => ?_⟩
    · refine ⟨i1, ?_⟩
      refine ⟨i2, ?_⟩
      refine ⟨i3, ?_⟩
      obtain ⟨r, x', a', f', g', A', e1, e2, hI'⟩ := p_twos _ _ _ g A x a f hI
      refine ⟨_, _, e1, Nat.le_refl _, ?_⟩
      refine ⟨i1, ?_⟩
      refine ⟨i2, ?_⟩
      refine ⟨i3, ?_⟩
      refine ⟨_, _, e2, Nat.le_refl _, ?_⟩
      refine ⟨fun _ => ?_, fun q => absurd rfl q⟩
      exact hnext g' A' x' a' f' hI'
    refine ⟨fun _ => ?_, fun _ => ?_⟩
    · refine ⟨i1, ?_⟩
      refine ⟨i2, ?_⟩
      obtain ⟨r, x', a', f', g', A', e1, e2, hI'⟩ := p_apart _ _ g A x a f hI
      refine ⟨_, _, e1, Nat.le_refl _, ?_⟩
      refine ⟨i1, ?_⟩
      refine ⟨i2, ?_⟩
      refine ⟨_, _, e2, Nat.le_refl _, ?_⟩
      refine ⟨fun _ => ?_, fun q => absurd rfl q⟩
      exact hnext g' A' x' a' f' hI'
    refine ⟨fun _ => ?_, fun _ => ?_⟩
    · refine ⟨i1, ?_⟩
      refine ⟨i2, ?_⟩
      obtain ⟨r, x', a', f', g', A', e1, e2, hI'⟩ := p_tells _ _ g A x a f hI
      refine ⟨_, _, e1, Nat.le_refl _, ?_⟩
      refine ⟨i1, ?_⟩
      refine ⟨i2, ?_⟩
      refine ⟨_, _, e2, Nat.le_refl _, ?_⟩
      refine ⟨fun _ => ?_, fun q => absurd rfl q⟩
      exact hnext g' A' x' a' f' hI'
    refine ⟨fun _ => ?_, fun _ => ?_⟩
    · refine ⟨i1, ?_⟩
      refine ⟨i2, ?_⟩
      refine ⟨i3, ?_⟩
      refine ⟨i4, ?_⟩
      refine ⟨i5, ?_⟩
      obtain ⟨r, x', a', f', g', A', e1, e2, hI'⟩ := p_length _ _ _ _ _ g A x a f hI
      refine ⟨_, _, e1, Nat.le_refl _, ?_⟩
      refine ⟨i1, ?_⟩
      refine ⟨i2, ?_⟩
      refine ⟨i3, ?_⟩
      refine ⟨i4, ?_⟩
      refine ⟨i5, ?_⟩
      refine ⟨_, _, e2, Nat.le_refl _, ?_⟩
      refine ⟨fun _ => ?_, fun q => absurd rfl q⟩
      exact hnext g' A' x' a' f' hI'
    refine ⟨fun _ => ?_, fun _ => ?_⟩
    · refine ⟨i1, ?_⟩
      refine ⟨i2, ?_⟩
      refine ⟨i3, ?_⟩
      obtain ⟨r, x', a', f', g', A', e1, e2, hI'⟩ := p_beat _ _ _ g A x a f hI
      refine ⟨_, _, e1, Nat.le_refl _, ?_⟩
      refine ⟨i1, ?_⟩
      refine ⟨i2, ?_⟩
      refine ⟨i3, ?_⟩
      refine ⟨_, _, e2, Nat.le_refl _, ?_⟩
      refine ⟨fun _ => ?_, fun q => absurd rfl q⟩
      exact hnext g' A' x' a' f' hI'
    refine ⟨fun _ => ?_, fun _ => ?_⟩
    · refine ⟨i1, ?_⟩
      obtain ⟨r, x', a', f', g', A', e1, e2, hI'⟩ := p_away _ g A x a f hI
      refine ⟨_, _, e1, Nat.le_refl _, ?_⟩
      refine ⟨i1, ?_⟩
      refine ⟨_, _, e2, Nat.le_refl _, ?_⟩
      refine ⟨fun _ => ?_, fun q => absurd rfl q⟩
      exact hnext g' A' x' a' f' hI'
    refine ⟨fun _ => ?_, fun _ => ?_⟩
    · refine ⟨i1, ?_⟩
      obtain ⟨r, x', a', f', g', A', e1, e2, hI'⟩ := p_danger _ g A x a f hI
      refine ⟨_, _, e1, Nat.le_refl _, ?_⟩
      refine ⟨i1, ?_⟩
      refine ⟨_, _, e2, Nat.le_refl _, ?_⟩
      refine ⟨fun _ => ?_, fun q => absurd rfl q⟩
      exact hnext g' A' x' a' f' hI'
    refine ⟨fun _ => ?_, fun _ => ?_⟩
    · refine ⟨i1, ?_⟩
      obtain ⟨r, x', a', f', g', A', e1, e2, hI'⟩ := p_least _ g A x a f hI
      refine ⟨_, _, e1, Nat.le_refl _, ?_⟩
      refine ⟨i1, ?_⟩
      refine ⟨_, _, e2, Nat.le_refl _, ?_⟩
      refine ⟨fun _ => ?_, fun q => absurd rfl q⟩
      exact hnext g' A' x' a' f' hI'
    refine ⟨fun _ => ?_, fun _ => ?_⟩
    · refine ⟨i1, ?_⟩
      obtain ⟨r, x', a', f', g', A', e1, e2, hI'⟩ := p_row _ g A x a f hI
      refine ⟨_, _, e1, Nat.le_refl _, ?_⟩
      refine ⟨i1, ?_⟩
      refine ⟨_, _, e2, Nat.le_refl _, ?_⟩
      refine ⟨fun _ => ?_, fun q => absurd rfl q⟩
      exact hnext g' A' x' a' f' hI'
    refine ⟨fun _ => ?_, fun _ => ?_⟩
    · obtain ⟨r, x', a', f', g', A', e1, e2, hI'⟩ := p_judge  g A x a f hI
      refine ⟨_, _, e1, Nat.le_refl _, ?_⟩
      refine ⟨_, _, e2, Nat.le_refl _, ?_⟩
      refine ⟨fun _ => ?_, fun q => absurd rfl q⟩
      exact hnext g' A' x' a' f' hI'
    refine ⟨fun _ => ?_, fun _ => ?_⟩
    · obtain ⟨r, x', a', f', g', A', e1, e2, hI'⟩ := p_held  g A x a f hI
      refine ⟨_, _, e1, Nat.le_refl _, ?_⟩
      refine ⟨_, _, e2, Nat.le_refl _, ?_⟩
      refine ⟨fun _ => ?_, fun q => absurd rfl q⟩
      exact hnext g' A' x' a' f' hI'
    refine ⟨fun _ => ?_, fun _ => ?_⟩
    · obtain ⟨r, x', a', f', g', A', e1, e2, hI'⟩ := p_image  g A x a f hI
      refine ⟨_, _, e1, Nat.le_refl _, ?_⟩
      refine ⟨_, _, e2, Nat.le_refl _, ?_⟩
      refine ⟨fun _ => ?_, fun q => absurd rfl q⟩
      exact hnext g' A' x' a' f' hI'
    refine ⟨fun _ => ?_, fun _ => ?_⟩
    · obtain ⟨r, x', a', f', g', A', e1, e2, hI'⟩ := p_on  g A x a f hI
      refine ⟨_, _, e1, Nat.le_refl _, ?_⟩
      refine ⟨_, _, e2, Nat.le_refl _, ?_⟩
      refine ⟨fun _ => ?_, fun q => absurd rfl q⟩
      exact hnext g' A' x' a' f' hI'
    refine ⟨fun _ => ?_, fun _ => ?_⟩
    · refine ⟨i1, ?_⟩
      obtain ⟨r, x', a', f', g', A', e1, e2, hI'⟩ := p_count _ g A x a f hI
      refine ⟨_, _, e1, Nat.le_refl _, ?_⟩
      refine ⟨i1, ?_⟩
      refine ⟨_, _, e2, Nat.le_refl _, ?_⟩
      refine ⟨fun _ => ?_, fun q => absurd rfl q⟩
      exact hnext g' A' x' a' f' hI'
    exact hnext g A x a f hI
end
section
/-! THE CLAIM OUT OF ONE WALK OF THE LAW'S BODY. Your part is whole_start (and what it stands on); all else here is the same for every law, but numbers. -/
def R_law : String := "ClickEachTurnLaw"
def lw_P (b : Addr) (xs : List Int32) (args : Array Value) (s : State) : Prop := args = #[.ref b] ∧ s.IntsAt b xs ∧ xs.length ≤ 3072 ∧ (Jvm.Cond.and given_1 narrow_1).before args s = true
def lw_Q (_ : Array Value) (s : State) (o : Outcome) (t : State) : Prop := o = .returned (some (.int 1)) ∧ Framed s o t [] 600000 7302250
def lw_Z (below : List Frame) (a : Array Value) (s : State) : State → Prop := fun t => ∃ o, t.status = .running ∧ Ended t below o ∧ lw_Q a s o t
/-- the law's own end, with 1 on the stack, nothing written that was there before, its room as the claim has it -/
theorem lw_ret {p : Program} {l : Launch} {e : Env} {s : State} {m : MethodId} {below : List Frame} {meth : Method} {c : Code} {b : Nat} (hx : p.tables.exec = Jvm.exec) (hb : c.code = code) (hr : meth.sig.returnType = ret) (hlocks : meth.locks = false) {pc : Nat} {H : Heap} {ls : Array Slot} (hdg : decode code pc = .ok (.ireturn, 1)) : W p l e room_1 s m #[Value.ref b] below meth c H [] 600000 7302250 (lw_Z below #[Value.ref b] s) (F0 m pc ls [.int 1]) := by
  intro T hT X
  obtain ⟨fs, hret, hrun, hended, hW, hframe⟩ := X.leave (v := some (.int 1)) (hlocks := hlocks) (fun h => by rw [hr] at h; cases h)
  have hmeth' : T.vm.method? m = some meth := X.method'
  refine ⟨T.setFrames fs, ?_, .returned (some (.int 1)), hrun, hended, rfl, ⟨_, rfl⟩, hW, hframe⟩
  jvm_step X.here [X.here.top, hx, hb, hdg, hmeth', hr, ret, narrow_b1]
  (try refine ⟨rfl, ?_⟩); (try refine ⟨rfl, ?_⟩)
  first | (intro acts; rw [hret _ acts rfl rfl rfl]) | rw [hret _ _ rfl rfl rfl]
  exact Steps.refl _
/-- what holds at the law's entry: the machine, the code, the tables' words (any of lw_tbl by 'hts w (by decide +kernel)'), the script of L ints xs at the cell b, what the Statement gives of the start (any of its parts by flat_of_before) -/
def lw_At (p : Program) (s : State) (m : MethodId) (meth : Method) (c : Code) (b L : Nat) (xs : Nat → Int32) : Prop :=
  p.tables.exec = Jvm.exec ∧ c.code = code ∧ meth.sig.returnType = ret ∧ c.maxLocals = 4 ∧ s.vm.findClass R_law = some m.cls ∧ (∀ w ∈ lw_tbl, w.before #[Value.ref b] s = true) ∧ va_X b L xs s s.heap ∧ b < s.heap.size ∧ meth.locks = false ∧ (Jvm.Cond.and given_1 narrow_1).before #[Value.ref b] s = true
def hN : AH := (0, ab_nil :: ab_nil :: ab_nil :: ab_nil :: ab_nil :: ab_nil :: ab_nil :: ab_nil :: ab_nil :: ab_nil :: ab_nil :: ab_nil :: ab_nil :: ab_nil :: ab_nil :: ab_nil :: ab_nil :: ab_nil :: ab_nil :: ab_nil :: ab_nil :: ab_nil :: ab_nil :: ab_nil :: ab_nil :: ab_nil :: ab_nil :: ab_nil :: ab_nil :: ab_nil :: ab_nil :: ab_nil :: ab_nil :: ab_nil :: ab_nil :: ab_nil :: ab_nil :: ab_nil :: ab_nil :: ab_nil :: ab_nil :: ab_nil :: ab_nil :: ab_nil :: ab_nil :: ab_nil :: ab_nil :: ab_nil :: ab_nil :: [])
set_option maxHeartbeats 4000000 in
set_option maxRecDepth 100000 in
theorem law_all {I : IT} (hp : P_all I 40) (hI : I mG0 mA0 xx0 xa0 xf0) (E : Nat × (Nat → Int32)) (hL : E.1 ≤ 3072) : ab_W jL 40 E hN 70 (fun v _ => v = some (vI 1)) (ab_at iL_law 0) [(0, vR 1000 0)] [] hN := by
  refine ab_run [18] 100 oL (Nat.le_refl _) 0 ?_
  refine ⟨_, _, x_init 37, Nat.le_of_ble_eq_true rfl, ?_⟩
  refine ⟨_, _, m_init 39 _, Nat.le_refl _, ?_⟩
  exact law_loop hp E hL hN (E.1 + 6) 0 mG0 mA0 xx0 xa0 xf0 (by omega) (by omega) hI
set_option maxHeartbeats 4000000 in
set_option maxRecDepth 100000 in
theorem ws_of {I : IT} (hp : P_all I 40) (hI : I mG0 mA0 xx0 xa0 xf0) {p : Program} {e : Env} {s : State} {m : MethodId} {below : List Frame} {meth : Method} {c : Code} (l : Launch) {b L : Nat} {xs : Nat → Int32} (hL : L ≤ 3072) (C0 : lw_At p s m meth c b L xs) : W p l e room_1 s m #[Value.ref b] below meth c s.heap [] 0 0 (lw_Z below #[Value.ref b] s) (entryFrame m ([Value.ref b] : List Value).toArray 4) := by
  obtain ⟨hx, hb, hr, hml, hown, hts, hX, hbl, hlocks, hgv⟩ := C0
  have htT : ∀ w ∈ ab_T, w.before #[Value.ref b] s = true := fun w hw => hts w (List.mem_filter.mp hw).1
  have hini : ∀ k, k < 6 → ∃ p1 p2, (k, ab_NN k, p1, p2) ∈ ab_ini := by
    intro k hk
    rcases (show k = 0 ∨ k = 1 ∨ k = 2 ∨ k = 3 ∨ k = 4 ∨ k = 5 by omega) with rfl | rfl | rfl | rfl | rfl | rfl
    · exact ⟨_, _, List.mem_of_getElem? (i := 0) rfl⟩
    · exact ⟨_, _, List.mem_of_getElem? (i := 1) rfl⟩
    · exact ⟨_, _, List.mem_of_getElem? (i := 2) rfl⟩
    · exact ⟨_, _, List.mem_of_getElem? (i := 3) rfl⟩
    · exact ⟨_, _, List.mem_of_getElem? (i := 4) rfl⟩
    · exact ⟨_, _, List.mem_of_getElem? (i := 5) rfl⟩
  have hkn : ∀ k : Nat, ∃ (cC : ClassId) (iS : Nat → Nat), k < 6 → u_Kn s (ab_cn k) (ab_TT k) (ab_NN k) cC iS := by
    intro k
    by_cases hk : k < 6
    · obtain ⟨p1, p2, hm⟩ := hini k hk
      obtain ⟨cC, iS, h⟩ := u_known (C := ab_cn k) (T := ab_TT k) (N := ab_NN k) (n := ab_NN k) htT (ab_hin2 hk) (htT _ (ab_T_of _ (ab_ini_at _ hm).1 rfl))
      exact ⟨cC, iS, fun _ => h⟩
    · exact ⟨0, fun _ => 0, fun h => absurd h hk⟩
  obtain ⟨dC, hkn⟩ := Classical.axiomOfChoice hkn
  obtain ⟨dI, hkn⟩ := Classical.axiomOfChoice hkn
  obtain ⟨cI, kI, compI, hfI, hkI, hkindI⟩ := Cond.arrayClass_spec (htT _ ab_w_ai)
  obtain ⟨compF, cF, kF, hcompF, hidxF, hkF, hkindF, hnameF⟩ := Cond.arrayOver_spec (hts _ ab_w_ao)
  have hvl : ∀ (k : Nat) (q : vw_C), vwCl[k]? = some q → k < 6 := fun k q h => (List.getElem?_eq_some_iff.mp h).1
  have hK : va_K (dC, dI) vwCl [(cI, .int), (cF, .object RX1)] s := by
    refine ⟨fun k q hq => ?_, fun k q hq => ?_⟩
    · have hk := hvl k q hq
      have hq2 := (ab_vw hk).symm.trans hq
      cases hq2
      exact hkn k hk
    · have hk : k < 2 := (List.getElem?_eq_some_iff.mp hq).1
      rcases (show k = 0 ∨ k = 1 by omega) with rfl | rfl
      · cases hq
        exact ⟨fun n z => ⟨fun k h => (by cases h), kI, hkI, compI, hkindI⟩, hfI⟩
      · cases hq
        exact ⟨fun n z => ⟨fun k h => (by cases h), kF, hkF, compF, hkindF⟩, kF, compF, hkF, hkindF, hcompF, hnameF⟩
  have hfl := flat_of_before _ hgv
  have hAf : ∀ a : Nat, a < s.heap.size → ¬ (fun q : Nat => s.heap.size ≤ q) a := fun a h => Nat.not_le.mpr h
  have hT := va_Tof (args := #[Value.ref b]) (s := s) (tm := .static RX4 "MOST_SETTING" "[I") (ty := .int) (N := 4) (f := fun j => .int (ab_ms j)) (A := fun q : Nat => s.heap.size ≤ q) (by decide) (hfl _ (by decide +kernel)) (va_eqt (hfl (.eq (.length (.static RX4 "MOST_SETTING" "[I")) (.int 4)) (by decide +kernel))) (fun j hj => by
    rcases (show j = 0 ∨ j = 1 ∨ j = 2 ∨ j = 3 by omega) with rfl | rfl | rfl | rfl
    · exact va_eqt (hfl (.eq (.elem (.static RX4 "MOST_SETTING" "[I") (.int 0)) (.int 9)) (by decide +kernel))
    · exact va_eqt (hfl (.eq (.elem (.static RX4 "MOST_SETTING" "[I") (.int 1)) (.int 1)) (by decide +kernel))
    · exact va_eqt (hfl (.eq (.elem (.static RX4 "MOST_SETTING" "[I") (.int 2)) (.int 100)) (by decide +kernel))
    · exact va_eqt (hfl (.eq (.elem (.static RX4 "MOST_SETTING" "[I") (.int 3)) (.int 99)) (by decide +kernel))) hAf
  obtain ⟨t, ht, hT⟩ := hT
  have hini4 : (Cond.initialized RX4).before #[Value.ref b] s = true := by
    obtain ⟨p1, p2, hm⟩ := hini 4 (by decide)
    exact htT _ (ab_T_of _ (ab_ini_at _ hm).2 rfl)
  have hZ := va_Zof (A := fun q : Nat => s.heap.size ≤ q) (hts _ ab_w_ls) hini4 ht hAf
  have hEn : ab_En (s.heap.size, b, t) (dC, dI) cI cF (L, xs) s := by
    refine ⟨hK, ⟨hX, hbl⟩, Nat.le_refl _, hZ, hT, fun q hq => va_Nw.of rfl (hts _ (List.mem_of_getElem? (ab_nest_at q hq))), va_AO.of (hts _ ab_w_ao)⟩
  have hR : ab_R (s.heap.size, b, t) (dC, dI) cI cF hN s.heap := ⟨fun k q h => by simp [ab_ws, hN] at h, rfl, rfl, by decide⟩
  have hl := lv_entry ([.ref b]) (n := 4) (Nat.le_of_ble_eq_true rfl)
  rw [lg_entry_eq]
  generalize (lg_sl ([.ref b]) ++ List.replicate (4 - (lg_sl ([.ref b])).length) Slot.unset).toArray = ls at hl ⊢
  have hS : va_S (ab_A (s.heap.size, b, t)) s.heap s.heap [] := va_S.rf
  have hXX : ab_X jL 40 (L, xs) hN 70 (fun v _ => v = some (vI 1)) p l e room_1 s m #[Value.ref b] below meth c (s.heap.size, b, t) (dC, dI) cI cF (lw_Z below #[Value.ref b] s) := by
    refine ⟨⟨hx, hb, hml, hown, htT, hEn⟩, ⟨by decide, by decide, by decide, by decide +kernel, fun q => absurd q (by decide)⟩, ?_, ?_⟩
    · intro h1 H1 locs1 pc ls1 hr0
      exact absurd hr0 (by decide)
    · intro z h1 H1 locs1 pc ls1 hr0 hq r1 b1 b2 s1 hd
      have hz : z = 1 := Sum.inl.inj (Option.some.inj (Option.some.inj hq))
      subst hz
      refine va_forget (fun q hq => s1.2.2 q hq) ?_
      have hsl70 : ab_sl 70 ≤ 7302250 := by decide +kernel
      have m1 := ab_sl_le b2
      refine W.widen (k := 600000) (n := 7302250) (by omega) (by omega) ?_
      exact lw_ret hx hb hr hlocks hd
  obtain ⟨i, r, he, hW⟩ := law_all hp hI (L, xs) hL p l e room_1 s m #[Value.ref b] below meth c (s.heap.size, b, t) (dC, dI) cI cF (lw_Z below #[Value.ref b] s) s.heap [] ls hXX hR (Nat.le_refl _) (by decide) hS hl
  have hi : i.1 = 0 := by
    cases he
    rfl
  rw [hi] at hW
  exact hW
end
section
def bI (P : Prop) [Decidable P] : Int32 := if P then 1 else 0
theorem bI_t {P : Prop} [Decidable P] (h : P) : bI P = 1 := if_pos h
theorem bI_f {P : Prop} [Decidable P] (h : ¬ P) : bI P = 0 := if_neg h
theorem bI_01 (P : Prop) [Decidable P] : bI P = 0 ∨ bI P = 1 := by
  by_cases h : P
  · exact Or.inr (bI_t h)
  · exact Or.inl (bI_f h)
theorem br_z {P : Prop} [Decidable P] {X Y : Prop} (h1 : ¬ P → X) (h2 : P → Y) : (bI P = 0 → X) ∧ (¬ bI P = 0 → Y) := by
  by_cases h : P
  · rw [bI_t h]
    exact ⟨fun q => absurd q (by decide), fun _ => h2 h⟩
  · rw [bI_f h]
    exact ⟨fun _ => h1 h, fun q => absurd rfl q⟩
theorem br_n {P : Prop} [Decidable P] {X Y : Prop} (h1 : P → X) (h2 : ¬ P → Y) : (¬ bI P = 0 → X) ∧ (bI P = 0 → Y) := by
  obtain ⟨a, b⟩ := br_z h2 h1
  exact ⟨b, a⟩
theorem ex_r {d kd : Nat} {y : MethodName} {a : List AV} {h h' : AH} {r r' : Int32} (hC : ab_Ex d kd y a h (some (vI r)) h') (e : r = r') : ab_Ex d kd y a h (some (vI r')) h' := e ▸ hC
-- pure words, over ints
def limI (kind load t : Int32) : Int32 := if kind = 6 then (if load - t / 20 < 0 then 0 else load - t / 20) else load
def upI (kind up front : Int32) : Int32 := if kind = 1 then up else if kind = 2 ∨ kind = 3 then front else 1
def downI (kind dn links cog : Int32) : Int32 := if kind = 1 then dn else if kind = 2 then links else if kind = 3 then cog else 1
def leftI (step : Int32) : Prop := 15 ≤ step ∧ step ≤ 34
def pushI (step : Int32) : Prop := (15 ≤ step ∧ step ≤ 34) ∨ (65 ≤ step ∧ step ≤ 84)
def loadI (act step hill : Int32) : Int32 :=
  if act = 0 then (if (15 ≤ step ∧ step ≤ 34) ∨ (65 ≤ step ∧ step ≤ 84) then 6 + hill else 2)
  else if act = 1 then (if (15 ≤ step ∧ step ≤ 34) ∨ (65 ≤ step ∧ step ≤ 84) then 8 + hill else 1)
  else if act = 2 then (if (15 ≤ step ∧ step ≤ 34) ∨ (65 ≤ step ∧ step ≤ 84) then 5 + hill else 1)
  else if act = 3 then (if 15 ≤ step ∧ step ≤ 34 then 6 + hill else 2) else 0
def mstI (what : Int32) : Int32 := if what = 0 then 9 else if what = 1 then 1 else if what = 2 then 100 else 99
def withI (v lo hi : Int32) : Int32 := if v < lo then -4 else if hi < v then -6 else 0
def wrongI (c o : Int32) : Int32 := if c < 0 ∨ o < 0 then -4 else if 9999 < c ∨ 9999 < o then -6 else 0
def absI (v : Int32) : Int32 := if v < 0 then -v else v
section ModelLeaf
variable (d : Nat) (g : mG) (A : mA) (xs : List AB)
theorem m_isIn (h : AH) (h70 : h.1 ≤ 70) (v n : Int32) : ab_Ex (d + 1) 1 yX5_isIn [vI v, vI n] h (some (vI (bI (0 ≤ v ∧ v < n)))) h := by
  refine ab_meth oX5_isIn d _ _ _ _ (Nat.le_refl _) rfl (fun E => ?_)
  refine ab_run [] 50 oX5_isIn.1 h70 0 ?_
  refine ⟨fun c1 => ?_, fun c1 => ?_⟩
  · refine ⟨Or.inl rfl, ?_, rfl⟩
    rw [bI_f (fun q => Int32.not_lt.mpr q.1 c1)]
  refine ⟨fun c2 => ?_, fun c2 => ?_⟩
  · refine ⟨Or.inl rfl, ?_, rfl⟩
    rw [bI_f (fun q => Int32.not_lt.mpr c2 q.2)]
  · refine ⟨Or.inr rfl, ?_, rfl⟩
    rw [bI_t ⟨Int32.not_lt.mp c1, Int32.not_le.mp c2⟩]
theorem m_within (h : AH) (h70 : h.1 ≤ 70) (v lo hi : Int32) : ab_Ex (d + 1) 1 yX5_within [vI v, vI lo, vI hi] h (some (vI (withI v lo hi))) h := by
  refine ab_meth oX5_within d _ _ _ _ (Nat.le_refl _) rfl (fun E => ?_)
  refine ab_run [] 50 oX5_within.1 h70 0 ?_
  unfold withI
  refine ⟨fun c1 => ?_, fun c1 => ?_⟩
  · refine ⟨fun c2 => ?_, fun c2 => ?_⟩
    · refine ⟨?_, rfl⟩
      rw [if_neg (Int32.not_lt.mpr c1), if_neg (Int32.not_lt.mpr c2)]
    · refine ⟨?_, rfl⟩
      rw [if_neg (Int32.not_lt.mpr c1), if_pos (Int32.not_le.mp c2)]
  · refine ⟨?_, rfl⟩
    rw [if_pos (Int32.not_le.mp c1)]
theorem m_isFault (v : Int32) : ab_Ex (d + 2) 0 yX5_isFault [vR 0 0, vI v] (hM g A xs) (some (vI (bI (0 ≤ v ∧ v < A 2 3)))) (hM g A xs) := by
  refine ab_meth oX5_isFault (d + 1) _ _ _ _ (Nat.le_refl _) rfl (fun E => ?_)
  refine ab_run [] 50 oX5_isFault.1 (Nat.le_refl _) 0 ?_
  refine ⟨vp_d rfl, ?_⟩
  refine ⟨_, _, m_isIn d _ (Nat.le_refl _) _ _, Nat.le_refl _, ?_⟩
  exact ⟨bI_01 _, rfl, rfl⟩
theorem m_isGear (v : Int32) : ab_Ex (d + 2) 0 yX5_isGear [vR 0 0, vI v] (hM g A xs) (some (vI (bI (0 ≤ v ∧ v < A 2 2)))) (hM g A xs) := by
  refine ab_meth oX5_isGear (d + 1) _ _ _ _ (Nat.le_refl _) rfl (fun E => ?_)
  refine ab_run [] 50 oX5_isGear.1 (Nat.le_refl _) 0 ?_
  refine ⟨vp_d rfl, ?_⟩
  refine ⟨_, _, m_isIn d _ (Nat.le_refl _) _ _, Nat.le_refl _, ?_⟩
  exact ⟨bI_01 _, rfl, rfl⟩
theorem m_isAct (h : AH) (h70 : h.1 ≤ 70) (v : Int32) : ab_Ex (d + 2) 1 yX5_isAct [vI v] h (some (vI (bI (0 ≤ v ∧ v < 6)))) h := by
  refine ab_meth oX5_isAct (d + 1) _ _ _ _ (Nat.le_refl _) rfl (fun E => ?_)
  refine ab_run [] 50 oX5_isAct.1 h70 0 ?_
  refine ⟨_, _, m_isIn d _ h70 _ _, Nat.le_refl _, ?_⟩
  exact ⟨bI_01 _, rfl, rfl⟩
theorem ix_f (i k : Nat) : (16 : Int32) + 9 * nI i + nI k = nI (16 + 9 * i + k) := by
  rw [show (16 : Int32) = nI 16 from rfl, show (9 : Int32) = nI 9 from rfl, pk_mul, nI_add, nI_add]
theorem m_get (i k : Nat) (hi : 16 + 9 * i + k < 112) : ab_Ex (d + 1) 0 yX5_get [vR 0 0, vI (nI i), vI (nI k)] (hM g A xs) (some (vI (A 2 (16 + 9 * i + k)))) (hM g A xs) := by
  refine ab_meth oX5_get d _ _ _ _ (Nat.le_refl _) rfl (fun E => ?_)
  refine ab_run [] 50 oX5_get.1 (Nat.le_refl _) 0 ?_
  refine ⟨by rw [ix_f]; exact vp_in_nI hi (by omega), ?_⟩
  refine ⟨?_, rfl⟩
  rw [ix_f, nI_clamp (by omega)]
theorem m_get0 (i : Nat) (hi : 16 + 9 * i < 112) : ab_Ex (d + 1) 0 yX5_get [vR 0 0, vI (nI i), vI (nI 0)] (hM g A xs) (some (vI (A 2 (16 + 9 * i)))) (hM g A xs) := m_get d g A xs i 0 hi
theorem m_between (h : AH) (h70 : h.1 ≤ 70) (v lo hi : Int32) : ab_Ex (d + 1) 1 yX5_between [vI v, vI lo, vI hi] h (some (vI (bI (lo ≤ v ∧ v ≤ hi)))) h := by
  refine ab_meth oX5_between d _ _ _ _ (Nat.le_refl _) rfl (fun E => ?_)
  refine ab_run [] 50 oX5_between.1 h70 0 ?_
  refine ⟨fun c1 => ?_, fun c1 => ?_⟩
  · refine ⟨Or.inl rfl, ?_, rfl⟩
    rw [bI_f (fun q => Int32.not_lt.mpr q.1 c1)]
  refine ⟨fun c2 => ?_, fun c2 => ?_⟩
  · refine ⟨Or.inl rfl, ?_, rfl⟩
    rw [bI_f (fun q => Int32.not_lt.mpr q.2 c2)]
  · refine ⟨Or.inr rfl, ?_, rfl⟩
    rw [bI_t ⟨Int32.not_lt.mp c1, Int32.not_lt.mp c2⟩]
theorem m_limitOf (i : Nat) (hi : i < 8) (t : Int32) : ab_Ex (d + 2) 0 yX5_limitOf [vR 0 0, vI (nI i), vI t] (hM g A xs) (some (vI (limI (A 2 (16 + 9 * i)) (A 2 (16 + 9 * i + 2)) t))) (hM g A xs) := by
  refine ab_meth oX5_limitOf (d + 1) _ _ _ _ (Nat.le_refl _) rfl (fun E => ?_)
  refine ab_run [] 100 oX5_limitOf.1 (Nat.le_refl _) 0 ?_
  refine ⟨_, _, m_get d g A xs i 2 (by omega), Nat.le_refl _, ?_⟩
  refine ⟨_, _, m_get0 d g A xs i (by omega), Nat.le_refl _, ?_⟩
  unfold limI
  refine ⟨fun c1 => ?_, fun c1 => ?_⟩
  · refine ⟨by decide, ?_⟩
    refine ⟨fun c2 => ?_, fun c2 => ?_⟩
    · refine ⟨?_, rfl⟩
      rw [if_pos c1, if_neg (Int32.not_lt.mpr c2)]
    · refine ⟨?_, rfl⟩
      rw [if_pos c1, if_pos (Int32.not_le.mp c2)]
  · refine ⟨?_, rfl⟩
    rw [if_neg c1]
theorem m_upOf (i : Nat) (hi : i < 8) : ab_Ex (d + 2) 0 yX5_upOf [vR 0 0, vI (nI i)] (hM g A xs) (some (vI (upI (A 2 (16 + 9 * i)) (A 2 (16 + 9 * i + 5)) (A 2 0)))) (hM g A xs) := by
  refine ab_meth oX5_upOf (d + 1) _ _ _ _ (Nat.le_refl _) rfl (fun E => ?_)
  refine ab_run [] 100 oX5_upOf.1 (Nat.le_refl _) 0 ?_
  have g0 := m_get0 d g A xs i (by omega)
  have g5 := m_get d g A xs i 5 (by omega)
  unfold upI
  refine ⟨_, _, g0, Nat.le_refl _, fun c1 => ?_, fun c1 => ?_⟩
  · refine ⟨_, _, g0, Nat.le_refl _, fun c2 => ?_, fun c2 => ?_⟩
    · refine ⟨vp_d rfl, ?_, rfl⟩
      rw [if_neg c1, if_pos (Or.inl c2)]
      rfl
    · refine ⟨_, _, g0, Nat.le_refl _, fun c3 => ?_, fun c3 => ?_⟩
      · refine ⟨?_, rfl⟩
        rw [if_neg c1, if_neg (fun q => q.elim c2 c3)]
      · refine ⟨vp_d rfl, ?_, rfl⟩
        rw [if_neg c1, if_pos (Or.inr c3)]
        rfl
  · refine ⟨_, _, g5, Nat.le_refl _, ?_, rfl⟩
    rw [if_pos c1]
theorem m_downOf (i : Nat) (hi : i < 8) (w : Nat) (hw : w < 5) : ab_Ex (d + 2) 0 yX5_downOf [vR 0 0, vI (nI i), vI (nI w)] (hM g A xs) (some (vI (downI (A 2 (16 + 9 * i)) (A 2 (16 + 9 * i + 6)) (A 2 1) (A 2 (11 + w))))) (hM g A xs) := by
  refine ab_meth oX5_downOf (d + 1) _ _ _ _ (Nat.le_refl _) rfl (fun E => ?_)
  refine ab_run [] 100 oX5_downOf.1 (Nat.le_refl _) 0 ?_
  have g0 := m_get0 d g A xs i (by omega)
  have g6 := m_get d g A xs i 6 (by omega)
  have ew : (11 : Int32) + nI w = nI (11 + w) := nI_add 11 w
  unfold downI
  refine ⟨_, _, g0, Nat.le_refl _, fun c1 => ?_, fun c1 => ?_⟩
  · refine ⟨_, _, g0, Nat.le_refl _, fun c2 => ?_, fun c2 => ?_⟩
    · refine ⟨_, _, g0, Nat.le_refl _, fun c3 => ?_, fun c3 => ?_⟩
      · refine ⟨?_, rfl⟩
        rw [if_neg c1, if_neg c2, if_neg c3]
      · refine ⟨by rw [ew]; exact vp_in_nI (by omega) (by omega), ?_, rfl⟩
        rw [if_neg c1, if_neg c2, if_pos c3, ew, nI_clamp (by omega)]
    · refine ⟨vp_d rfl, ?_, rfl⟩
      rw [if_neg c1, if_pos c2]
      rfl
  · refine ⟨_, _, g6, Nat.le_refl _, ?_, rfl⟩
    rw [if_pos c1]
theorem m_most (h : AH) (h70 : h.1 ≤ 70) (v : Int32) : ab_Ex (d + 1) 1 yX5_most [vI v] h (some (vI (mstI v))) h := by
  refine ab_meth oX5_most d _ _ _ _ (Nat.le_refl _) rfl (fun E => ?_)
  refine ab_run [] 50 oX5_most.1 h70 0 ?_
  unfold mstI
  refine ⟨fun c1 => ?_, fun c1 => ?_⟩
  · refine ⟨fun c2 => ?_, fun c2 => ?_⟩
    · refine ⟨fun c3 => ?_, fun c3 => ?_⟩
      · refine ⟨?_, rfl⟩
        rw [if_neg c1, if_neg c2, if_neg c3]
      · refine ⟨?_, rfl⟩
        rw [if_neg c1, if_neg c2, if_pos c3]
    · refine ⟨?_, rfl⟩
      rw [if_neg c1, if_pos c2]
  · refine ⟨?_, rfl⟩
    rw [if_pos c1]
theorem m_wrongCount (h : AH) (h70 : h.1 ≤ 70) (c o : Int32) : ab_Ex (d + 1) 1 yX5_wrongCount [vI c, vI o] h (some (vI (wrongI c o))) h := by
  refine ab_meth oX5_wrongCount d _ _ _ _ (Nat.le_refl _) rfl (fun E => ?_)
  refine ab_run [] 50 oX5_wrongCount.1 h70 0 ?_
  unfold wrongI
  refine ⟨fun c1 => ?_, fun c1 => ?_⟩
  · refine ⟨?_, rfl⟩
    rw [if_pos (Or.inl c1)]
  refine ⟨fun c2 => ?_, fun c2 => ?_⟩
  · refine ⟨fun c3 => ?_, fun c3 => ?_⟩
    · refine ⟨?_, rfl⟩
      rw [if_neg (fun q => q.elim c1 (Int32.not_lt.mpr c2)), if_pos (Or.inl c3)]
    · refine ⟨fun c4 => ?_, fun c4 => ?_⟩
      · refine ⟨?_, rfl⟩
        rw [if_neg (fun q => q.elim c1 (Int32.not_lt.mpr c2)), if_neg (fun q => q.elim c3 (Int32.not_lt.mpr c4))]
      · refine ⟨?_, rfl⟩
        rw [if_neg (fun q => q.elim c1 (Int32.not_lt.mpr c2)), if_pos (Or.inr (Int32.not_le.mp c4))]
  · refine ⟨?_, rfl⟩
    rw [if_pos (Or.inr (Int32.not_le.mp c2))]
theorem m_amount (h : AH) (h70 : h.1 ≤ 70) (v : Int32) : ab_Ex (d + 1) 1 yX5_amount [vI v] h (some (vI (absI v))) h := by
  refine ab_meth oX5_amount d _ _ _ _ (Nat.le_refl _) rfl (fun E => ?_)
  refine ab_run [] 50 oX5_amount.1 h70 0 ?_
  unfold absI
  refine ⟨fun c1 => ?_, fun c1 => ?_⟩
  · refine ⟨?_, rfl⟩
    rw [if_neg (Int32.not_lt.mpr c1)]
  · refine ⟨?_, rfl⟩
    rw [if_pos (Int32.not_le.mp c1)]
end ModelLeaf
end
section
theorem nlt_le {a b : Int32} (h : ¬ a < b) : b ≤ a := Int32.not_lt.mp h
theorem nle_lt {a b : Int32} (h : ¬ a ≤ b) : b < a := Int32.not_le.mp h
theorem le_nlt {a b : Int32} (h : b ≤ a) : ¬ a < b := Int32.not_lt.mpr h
theorem lt_nle {a b : Int32} (h : b < a) : ¬ a ≤ b := Int32.not_le.mpr h
def limX (kind load t : Int32) : Int32 := if (if kind = 6 then t / 20 else 0) < load then load - (if kind = 6 then t / 20 else 0) else 0
def silX (kind t oiled oil shoe : Int32) : Int32 := if (kind = 5 ∧ 0 ≤ oiled ∧ t - oiled < oil) ∨ (¬ kind = 5 ∧ kind = 7 ∧ ¬ shoe = 0) then 1 else 0
def wrapI (p r : Int32) : Int32 := if r < 1 then 0 else if ab_rem p r < 0 then ab_rem p r + r else ab_rem p r
section Loads
variable (d : Nat)
set_option maxRecDepth 100000 in
theorem m_loadOf (g : mG) (A : mA) (xs : List AB) (act step : Int32) : ab_Ex (d + 1) 0 yX5_loadOf [vR 0 0, vI act, vI step] (hM g A xs) (some (vI (loadI act step (A 2 7)))) (hM g A xs) := by
  refine ab_meth oX5_loadOf d _ _ _ _ (Nat.le_refl _) rfl (fun E => ?_)
  have H41 : ab_W jX5_loadOf d E (hM g A xs) (hM g A xs).1 (fun v1 h1 => v1 = some (vI (loadI act step (A 2 7))) ∧ h1 = hM g A xs) (ab_at iX5_loadOf 41) [(4, vI (bI ((15 ≤ step ∧ step ≤ 34) ∨ (65 ≤ step ∧ step ≤ 84)))), (3, vI (bI (15 ≤ step ∧ step ≤ 34))), (0, vR 0 0), (1, vI act), (2, vI step)] [] (hM g A xs) := by
    refine ab_run [] 100 oX5_loadOf.1 (Nat.le_refl _) 41 ?_
    unfold loadI
    refine ⟨fun c1 => ?_, fun c1 => ?_⟩
    · refine br_z (fun c2 => ?_) (fun c2 => ?_)
      · refine ⟨?_, rfl⟩
        rw [if_pos c1, if_neg c2]
      · refine ⟨vp_d rfl, ?_, rfl⟩
        rw [if_pos c1, if_pos c2]
        rfl
    refine ⟨fun c2 => ?_, fun c2 => ?_⟩
    · refine br_z (fun c3 => ?_) (fun c3 => ?_)
      · refine ⟨?_, rfl⟩
        rw [if_neg c1, if_pos c2, if_neg c3]
      · refine ⟨vp_d rfl, ?_, rfl⟩
        rw [if_neg c1, if_pos c2, if_pos c3]
        rfl
    refine ⟨fun c3 => ?_, fun c3 => ?_⟩
    · refine br_z (fun c4 => ?_) (fun c4 => ?_)
      · refine ⟨?_, rfl⟩
        rw [if_neg c1, if_neg c2, if_pos c3, if_neg c4]
      · refine ⟨vp_d rfl, ?_, rfl⟩
        rw [if_neg c1, if_neg c2, if_pos c3, if_pos c4]
        rfl
    refine ⟨fun c4 => ?_, fun c4 => ?_⟩
    · refine br_z (fun c5 => ?_) (fun c5 => ?_)
      · refine ⟨?_, rfl⟩
        rw [if_neg c1, if_neg c2, if_neg c3, if_pos c4, if_neg c5]
      · refine ⟨vp_d rfl, ?_, rfl⟩
        rw [if_neg c1, if_neg c2, if_neg c3, if_pos c4, if_pos c5]
        rfl
    · refine ⟨?_, rfl⟩
      rw [if_neg c1, if_neg c2, if_neg c3, if_neg c4]
  have K : ∀ (p q : Int32), p = bI ((15 ≤ step ∧ step ≤ 34) ∨ (65 ≤ step ∧ step ≤ 84)) → q = bI (15 ≤ step ∧ step ≤ 34) → ab_W jX5_loadOf d E (hM g A xs) (hM g A xs).1 (fun v1 h1 => v1 = some (vI (loadI act step (A 2 7))) ∧ h1 = hM g A xs) (ab_at iX5_loadOf 41) [(4, vI p), (3, vI q), (0, vR 0 0), (1, vI act), (2, vI step)] [] (hM g A xs) := by
    intro p q hp hq
    rw [hp, hq]
    exact H41
  refine ab_run [41] 100 oX5_loadOf.1 (Nat.le_refl _) 0 ?_
  have t2 : ¬ (15 ≤ step ∧ step ≤ 34) → ∀ v, ((65 ≤ step ∧ step ≤ 84) ∧ v = 1 ∨ ¬ (65 ≤ step ∧ step ≤ 84) ∧ v = 0) → v = bI ((15 ≤ step ∧ step ≤ 34) ∨ (65 ≤ step ∧ step ≤ 84)) := by
    intro h1 v h2
    rcases h2 with ⟨h2, rfl⟩ | ⟨h2, rfl⟩
    · rw [bI_t (Or.inr h2)]
    · rw [bI_f (fun q => q.elim h1 h2)]
  refine ⟨fun c1 => ?_, fun c1 => ?_⟩
  · have h1 : ¬ (15 ≤ step ∧ step ≤ 34) := fun q => le_nlt q.1 c1
    refine ⟨fun z => absurd rfl z, fun _ => ?_⟩
    refine ⟨fun c2 => ?_, fun c2 => ?_⟩
    · exact K 0 0 (t2 h1 0 (Or.inr ⟨fun q => le_nlt q.1 c2, rfl⟩)) (bI_f h1).symm
    refine ⟨fun c3 => ?_, fun c3 => ?_⟩
    · exact K 0 0 (t2 h1 0 (Or.inr ⟨fun q => le_nlt q.2 c3, rfl⟩)) (bI_f h1).symm
    · exact K 1 0 (t2 h1 1 (Or.inl ⟨⟨nlt_le c2, nlt_le c3⟩, rfl⟩)) (bI_f h1).symm
  refine ⟨fun c2 => ?_, fun c2 => ?_⟩
  · have h1 : ¬ (15 ≤ step ∧ step ≤ 34) := fun q => le_nlt q.2 c2
    refine ⟨fun z => absurd rfl z, fun _ => ?_⟩
    refine ⟨fun c2 => ?_, fun c2 => ?_⟩
    · exact K 0 0 (t2 h1 0 (Or.inr ⟨fun q => le_nlt q.1 c2, rfl⟩)) (bI_f h1).symm
    refine ⟨fun c3 => ?_, fun c3 => ?_⟩
    · exact K 0 0 (t2 h1 0 (Or.inr ⟨fun q => le_nlt q.2 c3, rfl⟩)) (bI_f h1).symm
    · exact K 1 0 (t2 h1 1 (Or.inl ⟨⟨nlt_le c2, nlt_le c3⟩, rfl⟩)) (bI_f h1).symm
  · have h1 : 15 ≤ step ∧ step ≤ 34 := ⟨nlt_le c1, nlt_le c2⟩
    refine ⟨fun _ => ?_, fun z => absurd z (by decide)⟩
    exact K 1 1 (bI_t (Or.inl h1)).symm (bI_t h1).symm
set_option maxRecDepth 100000 in
theorem x_loadIn (mb : Nat → AB) (x a : mA) (f : mF) (act step : Int32) : ab_Ex (d + 1) 0 yX0_loadIn [vR 17 0, vI act, vI step] (hX mb x a f) (some (vI (loadI act step (a 21 0)))) (hX mb x a f) := by
  refine ab_meth oX0_loadIn d _ _ _ _ (Nat.le_refl _) rfl (fun E => ?_)
  have H41 : ab_W jX0_loadIn d E (hX mb x a f) (hX mb x a f).1 (fun v1 h1 => v1 = some (vI (loadI act step (a 21 0))) ∧ h1 = hX mb x a f) (ab_at iX0_loadIn 41) [(4, vI (bI ((15 ≤ step ∧ step ≤ 34) ∨ (65 ≤ step ∧ step ≤ 84)))), (3, vI (bI (15 ≤ step ∧ step ≤ 34))), (0, vR 17 0), (1, vI act), (2, vI step)] [] (hX mb x a f) := by
    refine ab_run [] 100 oX0_loadIn.1 (Nat.le_refl _) 41 ?_
    unfold loadI
    refine ⟨vp_d rfl, ?_⟩
    refine ⟨fun c1 => ?_, fun c1 => ?_⟩
    · refine br_z (fun c2 => ?_) (fun c2 => ?_)
      · refine ⟨?_, rfl⟩
        rw [if_pos c1, if_neg c2]
      · refine ⟨?_, rfl⟩
        rw [if_pos c1, if_pos c2]
        rfl
    refine ⟨fun c2 => ?_, fun c2 => ?_⟩
    · refine br_z (fun c3 => ?_) (fun c3 => ?_)
      · refine ⟨?_, rfl⟩
        rw [if_neg c1, if_pos c2, if_neg c3]
      · refine ⟨?_, rfl⟩
        rw [if_neg c1, if_pos c2, if_pos c3]
        rfl
    refine ⟨fun c3 => ?_, fun c3 => ?_⟩
    · refine br_z (fun c4 => ?_) (fun c4 => ?_)
      · refine ⟨?_, rfl⟩
        rw [if_neg c1, if_neg c2, if_pos c3, if_neg c4]
      · refine ⟨?_, rfl⟩
        rw [if_neg c1, if_neg c2, if_pos c3, if_pos c4]
        rfl
    refine ⟨fun c4 => ?_, fun c4 => ?_⟩
    · refine br_z (fun c5 => ?_) (fun c5 => ?_)
      · refine ⟨?_, rfl⟩
        rw [if_neg c1, if_neg c2, if_neg c3, if_pos c4, if_neg c5]
      · refine ⟨?_, rfl⟩
        rw [if_neg c1, if_neg c2, if_neg c3, if_pos c4, if_pos c5]
        rfl
    · refine ⟨?_, rfl⟩
      rw [if_neg c1, if_neg c2, if_neg c3, if_neg c4]
  have K : ∀ (p q : Int32), p = bI ((15 ≤ step ∧ step ≤ 34) ∨ (65 ≤ step ∧ step ≤ 84)) → q = bI (15 ≤ step ∧ step ≤ 34) → ab_W jX0_loadIn d E (hX mb x a f) (hX mb x a f).1 (fun v1 h1 => v1 = some (vI (loadI act step (a 21 0))) ∧ h1 = hX mb x a f) (ab_at iX0_loadIn 41) [(4, vI p), (3, vI q), (0, vR 17 0), (1, vI act), (2, vI step)] [] (hX mb x a f) := by
    intro p q hp hq
    rw [hp, hq]
    exact H41
  refine ab_run [41] 100 oX0_loadIn.1 (Nat.le_refl _) 0 ?_
  have t2 : ¬ (15 ≤ step ∧ step ≤ 34) → ∀ v, ((65 ≤ step ∧ step ≤ 84) ∧ v = 1 ∨ ¬ (65 ≤ step ∧ step ≤ 84) ∧ v = 0) → v = bI ((15 ≤ step ∧ step ≤ 34) ∨ (65 ≤ step ∧ step ≤ 84)) := by
    intro h1 v h2
    rcases h2 with ⟨h2, rfl⟩ | ⟨h2, rfl⟩
    · rw [bI_t (Or.inr h2)]
    · rw [bI_f (fun q => q.elim h1 h2)]
  refine ⟨fun c1 => ?_, fun c1 => ?_⟩
  · have h1 : ¬ (15 ≤ step ∧ step ≤ 34) := fun q => le_nlt q.1 c1
    refine ⟨fun z => absurd rfl z, fun _ => ?_⟩
    refine ⟨fun c2 => ?_, fun c2 => ?_⟩
    · exact K 0 0 (t2 h1 0 (Or.inr ⟨fun q => le_nlt q.1 c2, rfl⟩)) (bI_f h1).symm
    refine ⟨fun c3 => ?_, fun c3 => ?_⟩
    · exact K 0 0 (t2 h1 0 (Or.inr ⟨fun q => le_nlt q.2 c3, rfl⟩)) (bI_f h1).symm
    · exact K 1 0 (t2 h1 1 (Or.inl ⟨⟨nlt_le c2, nlt_le c3⟩, rfl⟩)) (bI_f h1).symm
  refine ⟨fun c2 => ?_, fun c2 => ?_⟩
  · have h1 : ¬ (15 ≤ step ∧ step ≤ 34) := fun q => le_nlt q.2 c2
    refine ⟨fun z => absurd rfl z, fun _ => ?_⟩
    refine ⟨fun c2 => ?_, fun c2 => ?_⟩
    · exact K 0 0 (t2 h1 0 (Or.inr ⟨fun q => le_nlt q.1 c2, rfl⟩)) (bI_f h1).symm
    refine ⟨fun c3 => ?_, fun c3 => ?_⟩
    · exact K 0 0 (t2 h1 0 (Or.inr ⟨fun q => le_nlt q.2 c3, rfl⟩)) (bI_f h1).symm
    · exact K 1 0 (t2 h1 1 (Or.inl ⟨⟨nlt_le c2, nlt_le c3⟩, rfl⟩)) (bI_f h1).symm
  · have h1 : 15 ≤ step ∧ step ≤ 34 := ⟨nlt_le c1, nlt_le c2⟩
    refine ⟨fun _ => ?_, fun z => absurd z (by decide)⟩
    exact K 1 1 (bI_t (Or.inl h1)).symm (bI_t h1).symm
end Loads
section XLeaf
variable (d : Nat) (mb : Nat → AB) (x a : mA) (f : mF)
theorem x_isFault (v : Int32) : ab_Ex (d + 1) 0 yX4_isFault [vR 13 0, vI v] (hX mb x a f) (some (vI (bI (0 ≤ v ∧ v < x 17 5)))) (hX mb x a f) := by
  refine ab_meth oX4_isFault d _ _ _ _ (Nat.le_refl _) rfl (fun E => ?_)
  refine ab_run [] 50 oX4_isFault.1 (Nat.le_refl _) 0 ?_
  refine ⟨fun c1 => ?_, fun c1 => ?_⟩
  · refine ⟨Or.inl rfl, ?_, rfl⟩
    rw [bI_f (fun q => le_nlt q.1 c1)]
  refine ⟨fun c2 => ?_, fun c2 => ?_⟩
  · refine ⟨Or.inl rfl, ?_, rfl⟩
    rw [bI_f (fun q => le_nlt c2 q.2)]
  · refine ⟨Or.inr rfl, ?_, rfl⟩
    rw [bI_t ⟨nlt_le c1, nle_lt c2⟩]
theorem x_isGear (v : Int32) : ab_Ex (d + 1) 0 yX4_isGear [vR 13 0, vI v] (hX mb x a f) (some (vI (bI (0 ≤ v ∧ v < x 17 3)))) (hX mb x a f) := by
  refine ab_meth oX4_isGear d _ _ _ _ (Nat.le_refl _) rfl (fun E => ?_)
  refine ab_run [] 50 oX4_isGear.1 (Nat.le_refl _) 0 ?_
  refine ⟨fun c1 => ?_, fun c1 => ?_⟩
  · refine ⟨Or.inl rfl, ?_, rfl⟩
    rw [bI_f (fun q => le_nlt q.1 c1)]
  refine ⟨fun c2 => ?_, fun c2 => ?_⟩
  · refine ⟨Or.inl rfl, ?_, rfl⟩
    rw [bI_f (fun q => le_nlt c2 q.2)]
  · refine ⟨Or.inr rfl, ?_, rfl⟩
    rw [bI_t ⟨nlt_le c1, nle_lt c2⟩]
theorem x_isAct (h : AH) (h70 : h.1 ≤ 70) (v : Int32) : ab_Ex (d + 1) 1 yX4_isAct [vI v] h (some (vI (bI (0 ≤ v ∧ v < 6)))) h := by
  refine ab_meth oX4_isAct d _ _ _ _ (Nat.le_refl _) rfl (fun E => ?_)
  refine ab_run [] 50 oX4_isAct.1 h70 0 ?_
  refine ⟨fun c1 => ?_, fun c1 => ?_⟩
  · refine ⟨Or.inl rfl, ?_, rfl⟩
    rw [bI_f (fun q => le_nlt q.1 c1)]
  refine ⟨fun c2 => ?_, fun c2 => ?_⟩
  · refine ⟨Or.inl rfl, ?_, rfl⟩
    rw [bI_f (fun q => le_nlt c2 q.2)]
  · refine ⟨Or.inr rfl, ?_, rfl⟩
    rw [bI_t ⟨nlt_le c1, nle_lt c2⟩]
theorem x_isWithin (h : AH) (h70 : h.1 ≤ 70) (u v o : Int32) : ab_Ex (d + 1) 1 yX4_isWithin [vI u, vI v, vI o] h (some (vI (bI ((if 0 ≤ u - v then u - v else 0 - (u - v)) ≤ o)))) h := by
  refine ab_meth oX4_isWithin d _ _ _ _ (Nat.le_refl _) rfl (fun E => ?_)
  refine ab_run [] 50 oX4_isWithin.1 h70 0 ?_
  refine ⟨fun c1 => ?_, fun c1 => ?_⟩
  · refine ⟨Or.inl rfl, ?_, rfl⟩
    rw [bI_f (lt_nle c1)]
  · refine ⟨Or.inr rfl, ?_, rfl⟩
    rw [bI_t (nlt_le c1)]
theorem x_areTwo (u v : Int32) : ab_Ex (d + 2) 0 yX4_areTwoFaults [vR 13 0, vI u, vI v] (hX mb x a f) (some (vI (bI ((0 ≤ u ∧ u < x 17 5) ∧ (0 ≤ v ∧ v < x 17 5) ∧ ¬ u = v)))) (hX mb x a f) := by
  refine ab_meth oX4_areTwoFaults (d + 1) _ _ _ _ (Nat.le_refl _) rfl (fun E => ?_)
  refine ab_run [] 50 oX4_areTwoFaults.1 (Nat.le_refl _) 0 ?_
  refine ⟨_, _, x_isFault d mb x a f u, Nat.le_refl _, br_z (fun c1 => ?_) (fun c1 => ?_)⟩
  · refine ⟨Or.inl rfl, ?_, rfl⟩
    rw [bI_f (fun q => c1 q.1)]
  refine ⟨_, _, x_isFault d mb x a f v, Nat.le_refl _, br_z (fun c2 => ?_) (fun c2 => ?_)⟩
  · refine ⟨Or.inl rfl, ?_, rfl⟩
    rw [bI_f (fun q => c2 q.2.1)]
  refine ⟨fun c3 => ?_, fun c3 => ?_⟩
  · refine ⟨Or.inl rfl, ?_, rfl⟩
    rw [bI_f (fun q => q.2.2 c3)]
  · refine ⟨Or.inr rfl, ?_, rfl⟩
    rw [bI_t ⟨c1, c2, c3⟩]
theorem x_wrap (h : AH) (h70 : h.1 ≤ 70) (p r : Int32) : ab_Ex (d + 1) 1 yX4_wrap [vI p, vI r] h (some (vI (wrapI p r))) h := by
  refine ab_meth oX4_wrap d _ _ _ _ (Nat.le_refl _) rfl (fun E => ?_)
  refine ab_run [] 50 oX4_wrap.1 h70 0 ?_
  unfold wrapI
  refine ⟨fun c1 => ?_, fun c1 => ?_⟩
  · refine ⟨fun q => by rw [q] at c1; exact absurd c1 (by decide), ?_⟩
    refine ⟨fun c2 => ?_, fun c2 => ?_⟩
    · refine ⟨?_, rfl⟩
      rw [if_neg (le_nlt c1), if_neg (le_nlt c2)]
    · refine ⟨?_, rfl⟩
      rw [if_neg (le_nlt c1), if_pos (nle_lt c2)]
  · refine ⟨?_, rfl⟩
    rw [if_pos (nle_lt c1)]
theorem x_wasOiled : ab_Ex (d + 1) 0 yX0_wasOiled [vR 17 0] (hX mb x a f) (some (vI (bI (0 ≤ x 17 8)))) (hX mb x a f) := by
  refine ab_meth oX0_wasOiled d _ _ _ _ (Nat.le_refl _) rfl (fun E => ?_)
  refine ab_run [] 50 oX0_wasOiled.1 (Nat.le_refl _) 0 ?_
  refine ⟨fun c1 => ?_, fun c1 => ?_⟩
  · refine ⟨Or.inl rfl, ?_, rfl⟩
    rw [bI_f (lt_nle c1)]
  · refine ⟨Or.inr rfl, ?_, rfl⟩
    rw [bI_t (nlt_le c1)]
-- a fault at any place
variable {h : AH} (h70 : h.1 ≤ 70) {b o : Nat} (hk : ab_ok h b o) {v : Nat → Int32} (hg : ab_get h b o = xFt v)
theorem f_limit (h70 : h.1 ≤ 70) (hk : ab_ok h b o) (hg : ab_get h b o = xFt v) (t : Int32) : ab_Ex (d + 1) 0 yX1_limitAfter [vR b o, vI t] h (some (vI (limX (v 0) (v 2) t))) h := by
  refine ab_meth oX1_limitAfter d _ _ _ _ (Nat.le_refl _) rfl (fun E => ?_)
  refine ab_run [] 50 oX1_limitAfter.1 h70 0 ?_
  unfold limX
  refine ab_chk_in hk ?_
  dsimp only
  rw [hg]
  refine ⟨fun c1 => ?_, fun c1 => ?_⟩
  · refine ab_chk_in hk ?_
    dsimp only
    rw [hg]
    refine ⟨fun c2 => ?_, fun c2 => ?_⟩
    · refine ⟨?_, rfl⟩
      rw [if_neg c1, if_neg (le_nlt c2)]
    · refine ab_chk_in hk ?_
      dsimp only
      rw [hg]
      refine ⟨?_, rfl⟩
      rw [if_neg c1, if_pos (nle_lt c2)]
  · refine ⟨by decide, ?_⟩
    refine ab_chk_in hk ?_
    dsimp only
    rw [hg]
    refine ⟨fun c2 => ?_, fun c2 => ?_⟩
    · refine ⟨?_, rfl⟩
      rw [if_pos c1, if_neg (le_nlt c2)]
    · refine ab_chk_in hk ?_
      dsimp only
      rw [hg]
      refine ⟨?_, rfl⟩
      rw [if_pos c1, if_pos (nle_lt c2)]
end XLeaf
end
section
section XFault
variable (d : Nat) {h : AH} {b o : Nat} {v : Nat → Int32}
theorem f_goesBack (h70 : h.1 ≤ 70) (hk : ab_ok h b o) (hg : ab_get h b o = xFt v) : ab_Ex (d + 1) 0 yX1_goesBack [vR b o] h (some (vI (bI (¬ v 0 = 1 ∧ ¬ v 0 = 2 ∧ ¬ v 0 = 3 ∧ ¬ v 0 = 4)))) h := by
  refine ab_meth oX1_goesBack d _ _ _ _ (Nat.le_refl _) rfl (fun E => ?_)
  refine ab_run [] 50 oX1_goesBack.1 h70 0 ?_
  refine ab_chk_in hk ?_
  dsimp only
  rw [hg]
  refine ⟨fun c1 => ?_, fun c1 => ?_⟩
  · refine ⟨Or.inl rfl, ?_, rfl⟩
    rw [bI_f (fun q => q.1 c1)]
  refine ab_chk_in hk ?_
  dsimp only
  rw [hg]
  refine ⟨fun c2 => ?_, fun c2 => ?_⟩
  · refine ⟨Or.inl rfl, ?_, rfl⟩
    rw [bI_f (fun q => q.2.1 c2)]
  refine ab_chk_in hk ?_
  dsimp only
  rw [hg]
  refine ⟨fun c3 => ?_, fun c3 => ?_⟩
  · refine ⟨Or.inl rfl, ?_, rfl⟩
    rw [bI_f (fun q => q.2.2.1 c3)]
  refine ab_chk_in hk ?_
  dsimp only
  rw [hg]
  refine ⟨fun c4 => ?_, fun c4 => ?_⟩
  · refine ⟨Or.inl rfl, ?_, rfl⟩
    rw [bI_f (fun q => q.2.2.2 c4)]
  refine ⟨Or.inr rfl, ?_, rfl⟩
  rw [bI_t ⟨c1, c2, c3, c4⟩]
theorem f_goesAhead {b2 o2 : Nat} {v2 : Nat → Int32} (h70 : h.1 ≤ 70) (hk : ab_ok h b o) (hg : ab_get h b o = xFt v) (hk2 : ab_ok h b2 o2) (hg2 : ab_get h b2 o2 = xFt v2) : ab_Ex (d + 1) 0 yX1_goesAheadOf [vR b o, vR b2 o2] h (some (vI (bI (v 4 * v2 3 < v2 4 * v 3)))) h := by
  refine ab_meth oX1_goesAheadOf d _ _ _ _ (Nat.le_refl _) rfl (fun E => ?_)
  refine ab_run [] 50 oX1_goesAheadOf.1 h70 0 ?_
  refine ab_chk_in hk ?_
  dsimp only
  rw [hg]
  refine ab_chk_in hk2 ?_
  dsimp only
  rw [hg2]
  refine ab_chk_in hk2 ?_
  dsimp only
  rw [hg2]
  refine ab_chk_in hk ?_
  dsimp only
  rw [hg]
  refine ⟨fun c1 => ?_, fun c1 => ?_⟩
  · refine ⟨Or.inl rfl, ?_, rfl⟩
    rw [bI_f (le_nlt c1)]
  · refine ⟨Or.inr rfl, ?_, rfl⟩
    rw [bI_t (nle_lt c1)]
theorem f_scaleTo (h70 : h.1 ≤ 70) (hl : h.2.length = 49) (hk : ab_ok h b o) (hg : ab_get h b o = xFt v) (dn : Int32) (h8 : 0 < v 8) : ab_Ex (d + 1) 0 yX1_scaleTo [vR b o, vI dn] h none (ab_set h b o (xFt (upd (upd v 7 (v 7 * dn / v 8)) 8 dn))) := by
  refine ab_meth oX1_scaleTo d _ _ _ _ (Nat.le_refl _) rfl (fun E => ?_)
  refine ab_run [] 50 oX1_scaleTo.1 h70 0 ?_
  refine ab_chk_in hk ?_
  dsimp only
  rw [hg]
  refine ⟨fun c1 => absurd h8 (le_nlt c1), fun c1 => ?_⟩
  refine ab_chk_in hk ?_
  dsimp only
  rw [hg]
  refine ab_chk_in hk ?_
  dsimp only
  rw [hg]
  refine ⟨fun q => by rw [q] at h8; exact absurd h8 (by decide), ?_⟩
  refine ab_chk_in hk ?_
  dsimp only
  rw [hg]
  refine ab_wr_in ?_
  refine ab_chk_in hk ?_
  dsimp only
  rw [ab_get_self _ hl hk]
  refine ab_wr_in ?_
  refine ⟨rfl, ?_⟩
  rw [ab_set_set _ _ hl hk.1]
  rfl
theorem f_parts (h70 : h.1 ≤ 70) (hk : ab_ok h b o) (hg : ab_get h b o = xFt v) : ab_Ex (d + 2) 0 yX1_partsToClick [vR b o] h (some (vI (wrapI (v 1 * v 8 - v 7 - 1) (100 * v 8)))) h := by
  refine ab_meth oX1_partsToClick (d + 1) _ _ _ _ (Nat.le_refl _) rfl (fun E => ?_)
  refine ab_run [] 50 oX1_partsToClick.1 h70 0 ?_
  refine ab_chk_in hk ?_
  dsimp only
  rw [hg]
  refine ab_chk_in hk ?_
  dsimp only
  rw [hg]
  refine ab_chk_in hk ?_
  dsimp only
  rw [hg]
  refine ab_chk_in hk ?_
  dsimp only
  rw [hg]
  refine ⟨_, _, x_wrap d _ h70 _ _, Nat.le_refl _, ?_⟩
  exact ⟨rfl, rfl⟩
theorem f_move (h70 : h.1 ≤ 70) (hk : ab_ok h b o) (hg : ab_get h b o = xFt v) (p : Int32) : ab_Ex (d + 2) 0 yX1_move [vR b o, vI p] h none (ab_set h b o (xFt (upd v 7 (wrapI (v 7 + p) (100 * v 8))))) := by
  refine ab_meth oX1_move (d + 1) _ _ _ _ (Nat.le_refl _) rfl (fun E => ?_)
  refine ab_run [] 50 oX1_move.1 h70 0 ?_
  refine ab_chk_in hk ?_
  dsimp only
  rw [hg]
  refine ab_chk_in hk ?_
  dsimp only
  rw [hg]
  refine ⟨_, _, x_wrap d _ h70 _ _, Nat.le_refl _, ?_⟩
  refine ab_chk_in hk ?_
  dsimp only
  rw [hg]
  refine ab_wr_in ?_
  exact ⟨rfl, rfl⟩
set_option maxRecDepth 100000 in
theorem f_copyFrom {b2 o2 : Nat} {v2 : Nat → Int32} (h70 : h.1 ≤ 70) (hl : h.2.length = 49) (hk : ab_ok h b o) (hg : ab_get h b o = xFt v) (hk2 : ab_ok h b2 o2) (hg2 : ab_get h b2 o2 = xFt v2) (hne : ¬ (b2 = b ∧ o2 = o)) : ab_Ex (d + 1) 0 yX1_copyFrom [vR b o, vR b2 o2] h none (ab_set h b o (xFt v2)) := by
  have hgs : ∀ c : AC, ab_get (ab_set h b o c) b2 o2 = xFt v2 := by
    intro c
    rw [ab_get_set c hl hk.1 hk.2.1 hk2.2.1, if_neg hne]
    exact hg2
  refine ab_meth oX1_copyFrom d _ _ _ _ (Nat.le_refl _) rfl (fun E => ?_)
  refine ab_run [] 100 oX1_copyFrom.1 h70 0 ?_
  refine ab_chk_in hk2 ?_
  dsimp only
  rw [hg2]
  refine ab_chk_in hk ?_
  dsimp only
  rw [hg]
  refine ab_wr_in ?_
  refine ab_chk_in hk2 ?_
  dsimp only
  rw [hgs]
  refine ab_chk_in hk ?_
  dsimp only
  rw [ab_get_self _ hl hk]
  refine ab_wr_in ?_
  rw [ab_set_set _ _ hl hk.1]
  refine ab_chk_in hk2 ?_
  dsimp only
  rw [hgs]
  refine ab_chk_in hk ?_
  dsimp only
  rw [ab_get_self _ hl hk]
  refine ab_wr_in ?_
  rw [ab_set_set _ _ hl hk.1]
  refine ab_chk_in hk2 ?_
  dsimp only
  rw [hgs]
  refine ab_chk_in hk ?_
  dsimp only
  rw [ab_get_self _ hl hk]
  refine ab_wr_in ?_
  rw [ab_set_set _ _ hl hk.1]
  refine ab_chk_in hk2 ?_
  dsimp only
  rw [hgs]
  refine ab_chk_in hk ?_
  dsimp only
  rw [ab_get_self _ hl hk]
  refine ab_wr_in ?_
  rw [ab_set_set _ _ hl hk.1]
  refine ab_chk_in hk2 ?_
  dsimp only
  rw [hgs]
  refine ab_chk_in hk ?_
  dsimp only
  rw [ab_get_self _ hl hk]
  refine ab_wr_in ?_
  rw [ab_set_set _ _ hl hk.1]
  refine ab_chk_in hk2 ?_
  dsimp only
  rw [hgs]
  refine ab_chk_in hk ?_
  dsimp only
  rw [ab_get_self _ hl hk]
  refine ab_wr_in ?_
  rw [ab_set_set _ _ hl hk.1]
  refine ab_chk_in hk2 ?_
  dsimp only
  rw [hgs]
  refine ab_chk_in hk ?_
  dsimp only
  rw [ab_get_self _ hl hk]
  refine ab_wr_in ?_
  rw [ab_set_set _ _ hl hk.1]
  refine ab_chk_in hk2 ?_
  dsimp only
  rw [hgs]
  refine ab_chk_in hk ?_
  dsimp only
  rw [ab_get_self _ hl hk]
  refine ab_wr_in ?_
  rw [ab_set_set _ _ hl hk.1]
  exact ⟨rfl, rfl⟩
end XFault
end
section
theorem ab_W_lv {j : MI} {d : Nat} {E : Nat × (Nat → Int32)} {h0 : AH} {cap : Nat} {Q : Option AV → AH → Prop} {cs : List IE} {lv lv' : Lv} {st : List AV} {h : AH} (hs : ∀ q ∈ lv', q ∈ lv) (hw : ab_W j d E h0 cap Q cs lv' st h) : ab_W j d E h0 cap Q cs lv st h := by
  intro p l ev R s m args below meth c G D cI cF Z H locs ls X hR hb1 hb2 hS hl
  refine hw p l ev R s m args below meth c G D cI cF Z H locs ls X hR hb1 hb2 hS ⟨hl.1, hl.2.1, fun q hq => ?_⟩
  obtain ⟨z, hz, rfl⟩ := List.mem_map.mp hq
  exact hl.2.2 _ (List.mem_map.mpr ⟨z, hs z hz, rfl⟩)
def fS (f : mF) (b i : Nat) (w : Nat → Int32) : mF := fun b' => if b' = b then (fun i' => if i' = i then w else f b i') else f b'
theorem hX_ok20 (mb : Nat → AB) (x a : mA) (f : mF) {i : Nat} (hi : i < 8) : ab_ok (hX mb x a f) 20 i := ⟨by decide, hi, by show 7 + i < 70; omega⟩
theorem ck20 {i : Nat} (hi : i < 8) : i < 8 ∧ 7 + i < 70 := ⟨hi, by omega⟩
theorem hX_get20 (mb : Nat → AB) (x a : mA) (f : mF) (i : Nat) : ab_get (hX mb x a f) 20 i = xFt (f 20 i) := rfl
theorem hX_len (mb : Nat → AB) (x a : mA) (f : mF) : (hX mb x a f).2.length = 49 := rfl
theorem hX_set20 (mb : Nat → AB) (x a : mA) (f : mF) (i : Nat) (w : Nat → Int32) : ab_set (hX mb x a f) 20 i (xFt w) = hX mb x a (fS f 20 i w) := by
  have e : (fun j => if j = i then xFt w else xFt (f 20 j)) = fun o => xFt (fS f 20 i w 20 o) := by
    funext q
    by_cases hq : q = i
    · simp [fS, hq]
    · simp [fS, hq]
  show (70, (hX mb x a f).2.set 20 (fun j => if j = i then xFt w else xFt (f 20 j))) = _
  rw [e]
  rfl
section XBike
variable (d : Nat) (mb : Nat → AB) (x a : mA) (f : mF) {b o : Nat} {v : Nat → Int32}
def downX (kind dn links : Int32) (gear n : Int32) (cog : Nat → Int32) : Int32 := if kind = 1 then dn else if kind = 2 then links else if kind = 3 then (if 0 ≤ gear ∧ gear < n then cog gear.toNatClampNeg else 1) else 1
theorem x_upOf (hk : ab_ok (hX mb x a f) b o) (hg : ab_get (hX mb x a f) b o = xFt v) : ab_Ex (d + 1) 0 yX0_upOf [vR 17 0, vR b o] (hX mb x a f) (some (vI (upI (v 0) (v 5) (x 17 0)))) (hX mb x a f) := by
  refine ab_meth oX0_upOf d _ _ _ _ (Nat.le_refl _) rfl (fun E => ?_)
  refine ab_run [] 50 oX0_upOf.1 (Nat.le_refl _) 0 ?_
  unfold upI
  refine ab_chk_in hk ?_
  dsimp only
  rw [hg]
  refine ⟨fun c1 => ?_, fun c1 => ?_⟩
  · refine ab_chk_in hk ?_
    dsimp only
    rw [hg]
    refine ⟨?_, rfl⟩
    rw [if_pos c1]
  refine ⟨fun c2 => ?_, fun c2 => ?_⟩
  · refine ⟨?_, rfl⟩
    rw [if_neg c1, if_pos (Or.inl c2)]
  refine ⟨fun c3 => ?_, fun c3 => ?_⟩
  · refine ⟨?_, rfl⟩
    rw [if_neg c1, if_pos (Or.inr c3)]
  · refine ⟨?_, rfl⟩
    rw [if_neg c1, if_neg (fun q => q.elim c2 c3)]
theorem x_downOf (hk : ab_ok (hX mb x a f) b o) (hg : ab_get (hX mb x a f) b o = xFt v) (hn : x 17 3 ≤ 5) (gear : Int32) : ab_Ex (d + 1) 0 yX0_downOf [vR 17 0, vR b o, vI gear] (hX mb x a f) (some (vI (downX (v 0) (v 6) (x 17 1) gear (x 17 3) (a 18)))) (hX mb x a f) := by
  refine ab_meth oX0_downOf d _ _ _ _ (Nat.le_refl _) rfl (fun E => ?_)
  refine ab_run [] 50 oX0_downOf.1 (Nat.le_refl _) 0 ?_
  unfold downX
  refine ab_chk_in hk ?_
  dsimp only
  rw [hg]
  refine ⟨fun c1 => ?_, fun c1 => ?_⟩
  · refine ab_chk_in hk ?_
    dsimp only
    rw [hg]
    refine ⟨?_, rfl⟩
    rw [if_pos c1]
  refine ⟨fun c2 => ?_, fun c2 => ?_⟩
  · refine ⟨?_, rfl⟩
    rw [if_neg c1, if_pos c2]
  refine ⟨fun c3 => ?_, fun c3 => ?_⟩
  · refine ⟨fun c4 => ?_, fun c4 => ?_⟩
    · refine ⟨?_, rfl⟩
      rw [if_neg c1, if_neg c2, if_pos c3, if_neg (fun q => le_nlt q.1 c4)]
    refine ⟨fun c5 => ?_, fun c5 => ?_⟩
    · refine ⟨?_, rfl⟩
      rw [if_neg c1, if_neg c2, if_pos c3, if_neg (fun q => le_nlt c5 q.2)]
    · refine ⟨?_, ?_⟩
      · refine vp_in_iff.mpr ⟨?_, ?_⟩
        · have := Int32.le_iff_toInt_le.mp (nlt_le c4)
          exact this
        · have h1 := Int32.lt_iff_toInt_lt.mp (nle_lt c5)
          have h2 := Int32.le_iff_toInt_le.mp hn
          have h3 : (5 : Int32).toInt = 5 := rfl
          omega
      refine ⟨?_, rfl⟩
      rw [if_neg c1, if_neg c2, if_pos c3, if_pos ⟨nlt_le c4, nle_lt c5⟩]
  · refine ⟨?_, rfl⟩
    rw [if_neg c1, if_neg c2, if_neg c3]
theorem x_isSilent (hk : ab_ok (hX mb x a f) b o) (hg : ab_get (hX mb x a f) b o = xFt v) (t : Int32) : ab_Ex (d + 1) 0 yX0_isSilent [vR 17 0, vR b o, vI t] (hX mb x a f) (some (vI (silX (v 0) t (x 17 8) (a 21 3) (a 21 1)))) (hX mb x a f) := by
  refine ab_meth oX0_isSilent d _ _ _ _ (Nat.le_refl _) rfl (fun E => ?_)
  refine ab_run [] 50 oX0_isSilent.1 (Nat.le_refl _) 0 ?_
  unfold silX
  refine ab_chk_in hk ?_
  dsimp only
  rw [hg]
  refine ⟨fun c1 => ?_, fun c1 => ?_⟩
  · refine ab_chk_in hk ?_
    dsimp only
    rw [hg]
    refine ⟨fun c2 => ?_, fun c2 => ?_⟩
    · refine ⟨Or.inl rfl, ?_, rfl⟩
      rw [if_neg (fun q => q.elim (fun z => c1 z.1) (fun z => c2 z.2.1))]
    refine ⟨vp_d rfl, fun c3 => ?_, fun c3 => ?_⟩
    · refine ⟨Or.inl rfl, ?_, rfl⟩
      rw [if_neg (fun q => q.elim (fun z => c1 z.1) (fun z => z.2.2 c3))]
    · refine ⟨Or.inr rfl, ?_, rfl⟩
      rw [if_pos (Or.inr ⟨c1, c2, c3⟩)]
  · refine ⟨fun c2 => ?_, fun c2 => ?_⟩
    · refine ⟨Or.inl rfl, ?_, rfl⟩
      rw [if_neg (fun q => q.elim (fun z => le_nlt z.2.1 c2) (fun z => z.1 c1))]
    refine ⟨vp_d rfl, fun c3 => ?_, fun c3 => ?_⟩
    · refine ⟨Or.inl rfl, ?_, rfl⟩
      rw [if_neg (fun q => q.elim (fun z => le_nlt c3 z.2.2) (fun z => z.1 c1))]
    · refine ⟨Or.inr rfl, ?_, rfl⟩
      rw [if_pos (Or.inl ⟨c1, nlt_le c2, nle_lt c3⟩)]
theorem nI_lt_m {i m : Nat} (h : i < m) (hm : m ≤ 1000) : ¬ nI m ≤ nI i := nI_ge h (by omega)
theorem x_weightOf {m : Nat} (hm : x 17 5 = nI m) (hm8 : m ≤ 8) (bits : Int32) : ab_Ex (d + 1) 0 yX0_weightOf [vR 17 0, vI bits] (hX mb x a f) (some (vI (bx_sum (fun i => ((bits >>> (nI i &&& 31)) &&& 1) * f 20 i 3) m))) (hX mb x a f) := by
  refine ab_meth oX0_weightOf d _ _ _ _ (Nat.le_refl _) rfl (fun E => ?_)
  have loop : ∀ (k i : Nat), i + k = m → ab_W jX0_weightOf d E (hX mb x a f) (hX mb x a f).1 (fun v1 h1 => v1 = some (vI (bx_sum (fun i => ((bits >>> (nI i &&& 31)) &&& 1) * f 20 i 3) m)) ∧ h1 = hX mb x a f) (ab_at iX0_weightOf 4) [(3, vI (nI i)), (2, vI (bx_sum (fun i => ((bits >>> (nI i &&& 31)) &&& 1) * f 20 i 3) i)), (0, vR 17 0), (1, vI bits)] [] (hX mb x a f) := by
    intro k
    induction k with
    | zero =>
      intro i hi
      refine ab_run [4] 100 oX0_weightOf.1 (Nat.le_refl _) 4 ?_
      refine ⟨fun c1 => ?_, fun c1 => ?_⟩
      · refine ⟨?_, rfl⟩
        rw [show i = m by omega]
      · rw [hm] at c1
        exact absurd (nI_le (by omega) (by omega)) c1
    | succ k ih =>
      intro i hi
      refine ab_run [4] 100 oX0_weightOf.1 (Nat.le_refl _) 4 ?_
      refine ⟨fun c1 => ?_, fun c1 => ?_⟩
      · rw [hm] at c1
        exact absurd c1 (nI_lt_m (by omega) (by omega))
      refine ⟨vp_in_nI (by omega) (by omega), ⟨(20, i), by rw [nI_clamp (by omega)]; exact ab_fa_at 20 (by omega), ?_⟩⟩
      refine ⟨ck20 (by omega), ?_⟩
      have := ih (i + 1) (by omega)
      rw [nI_succ] at this
      exact this
  refine ab_run [4] 100 oX0_weightOf.1 (Nat.le_refl _) 0 ?_
  exact loop m 0 (by omega)
theorem x_turnsOfRide {m : Nat} (hm : x 17 12 = nI m) (hm8 : m ≤ 8) : ab_Ex (d + 1) 0 yX0_turnsOfRide [vR 17 0] (hX mb x a f) (some (vI (bx_sum (a 24) m))) (hX mb x a f) := by
  refine ab_meth oX0_turnsOfRide d _ _ _ _ (Nat.le_refl _) rfl (fun E => ?_)
  have loop : ∀ (k i : Nat), i + k = m → ab_W jX0_turnsOfRide d E (hX mb x a f) (hX mb x a f).1 (fun v1 h1 => v1 = some (vI (bx_sum (a 24) m)) ∧ h1 = hX mb x a f) (ab_at iX0_turnsOfRide 4) [(2, vI (nI i)), (1, vI (bx_sum (a 24) i)), (0, vR 17 0)] [] (hX mb x a f) := by
    intro k
    induction k with
    | zero =>
      intro i hi
      refine ab_run [4] 100 oX0_turnsOfRide.1 (Nat.le_refl _) 4 ?_
      refine ⟨fun c1 => ?_, fun c1 => ?_⟩
      · refine ⟨?_, rfl⟩
        rw [show i = m by omega]
      · rw [hm] at c1
        exact absurd (nI_le (by omega) (by omega)) c1
    | succ k ih =>
      intro i hi
      refine ab_run [4] 100 oX0_turnsOfRide.1 (Nat.le_refl _) 4 ?_
      refine ⟨fun c1 => ?_, fun c1 => ?_⟩
      · rw [hm] at c1
        exact absurd c1 (nI_lt_m (by omega) (by omega))
      refine ⟨vp_in_nI (by omega) (by omega), ?_⟩
      have := ih (i + 1) (by omega)
      rw [nI_succ] at this
      rw [nI_clamp (by omega)]
      exact this
  refine ab_run [4] 100 oX0_turnsOfRide.1 (Nat.le_refl _) 0 ?_
  exact loop m 0 (by omega)
theorem m_weights {m : Nat} (g : mG) (A : mA) (xs : List AB) (hm : A 2 3 = nI m) (hm8 : m ≤ 8) : ab_Ex (d + 2) 0 yX5_weights [vR 0 0] (hM g A xs) (some (vI (bx_sum (fun i => A 2 (16 + 9 * i + 3)) m))) (hM g A xs) := by
  refine ab_meth oX5_weights (d + 1) _ _ _ _ (Nat.le_refl _) rfl (fun E => ?_)
  have loop : ∀ (k i : Nat), i + k = m → ab_W jX5_weights (d + 1) E (hM g A xs) (hM g A xs).1 (fun v1 h1 => v1 = some (vI (bx_sum (fun i => A 2 (16 + 9 * i + 3)) m)) ∧ h1 = hM g A xs) (ab_at iX5_weights 4) [(2, vI (nI i)), (1, vI (bx_sum (fun i => A 2 (16 + 9 * i + 3)) i)), (0, vR 0 0)] [] (hM g A xs) := by
    intro k
    induction k with
    | zero =>
      intro i hi
      refine ab_run [4] 100 oX5_weights.1 (Nat.le_refl _) 4 ?_
      refine ⟨vp_d rfl, fun c1 => ?_, fun c1 => ?_⟩
      · refine ⟨?_, rfl⟩
        rw [show i = m by omega]
      · have c1 : ¬ A 2 3 ≤ nI i := c1
        rw [hm] at c1
        exact absurd (nI_le (by omega) (by omega)) c1
    | succ k ih =>
      intro i hi
      refine ab_run [4] 100 oX5_weights.1 (Nat.le_refl _) 4 ?_
      refine ⟨vp_d rfl, fun c1 => ?_, fun c1 => ?_⟩
      · have c1 : A 2 3 ≤ nI i := c1
        rw [hm] at c1
        exact absurd c1 (nI_lt_m (by omega) (by omega))
      refine ⟨_, _, m_get d g A xs i 3 (by omega), Nat.le_refl _, ?_⟩
      have := ih (i + 1) (by omega)
      rw [nI_succ] at this
      exact this
  refine ab_run [4] 100 oX5_weights.1 (Nat.le_refl _) 0 ?_
  exact loop m 0 (by omega)
end XBike
end
section
-- A RIDER: r = its ints (2 pace, 3 ridden before, 4 steps before, 5 clicks, 6 wanted, 7 found), w = its fault
def rB (up ridden wanted : Int32) (r : Nat → Int32) : Nat → Int32 := upd (upd (upd (upd (upd (upd r 2 up) 3 ridden) 4 0) 5 0) 6 wanted) 7 (-9)
def rW (w : Nat → Int32) (dn : Int32) : Nat → Int32 := upd (upd w 7 (w 7 * dn / w 8)) 8 dn
def paceI (act pace : Int32) (kind : Int32) : Int32 := if act < 4 then pace else if act = 4 ∧ (¬ kind = 1 ∧ ¬ kind = 2 ∧ ¬ kind = 3 ∧ ¬ kind = 4) then -pace else 0
/-- whether it clicks in the step t of a stage, if it comes by -/
def okP (act ridden : Int32) (w : Nat → Int32) (oiled oil shoe hill : Int32) (t : Nat) : Prop := silX (w 0) (ridden + nI t / 100) oiled oil shoe = 0 ∧ limX (w 0) (w 2) (ridden + nI t / 100) ≤ loadI act (ab_rem (nI t) 100) hill
/-- one click more -/
def clkR (r : Nat → Int32) (t : Nat) : Nat → Int32 := upd (if r 5 = r 6 then upd r 7 (r 4 + nI t) else r) 5 (r 5 + 1)
noncomputable def lisR (ok : Nat → Prop) (u G e : Nat) : Nat → Nat → (Nat → Int32) → (Nat → Int32)
  | 0, _, r => r
  | n + 1, p, r => if p < e then lisR ok u G e n (p + G) (@ite _ (ok (p / u)) (Classical.propDecidable _) (clkR r (p / u)) r) else r
theorem clkR_lo (r : Nat → Int32) (t : Nat) {k : Nat} (h5 : k ≠ 5) (h7 : k ≠ 7) : clkR r t k = r k := by
  unfold clkR
  by_cases h : r 5 = r 6 <;> simp [h, upd, h5, h7]
theorem bI_fs {P : Prop} [Decidable P] (h : ¬ P) : some (vI 0) = some (vI (bI P)) := by rw [bI_f h]
theorem bI_ts {P : Prop} [Decidable P] (h : P) : some (vI 1) = some (vI (bI P)) := by rw [bI_t h]
theorem lv_pk {lv lv' : Lv} (ks : List Nat) (h : ks.map (fun k => lv[k]?) = lv'.map some) : ∀ q ∈ lv', q ∈ lv := by
  intro q hq
  have h1 : some q ∈ lv'.map some := List.mem_map.mpr ⟨q, hq, rfl⟩
  rw [← h] at h1
  obtain ⟨k, -, hk⟩ := List.mem_map.mp h1
  exact List.mem_of_getElem? hk
theorem silX_01 (kind t oiled oil shoe : Int32) : silX kind t oiled oil shoe = 0 ∨ silX kind t oiled oil shoe = 1 := by
  unfold silX
  split
  · exact Or.inr rfl
  · exact Or.inl rfl

section Rider41
variable (d : Nat) (mb : Nat → AB) (x a : mA) (f : mF) (w r : Nat → Int32)
theorem ok42 (x' : mA) : ab_ok (hX mb x' a f) 42 0 := ⟨Nat.le_of_ble_eq_true rfl, Nat.le_of_ble_eq_true rfl, Nat.le_of_ble_eq_true rfl⟩
theorem r_begin41 {i : Nat} (hi : i < 8) (wanted : Int32) : ab_Ex (d + 2) 0 yX2_begin [vR 41 0, vR 20 i, vI wanted] (hX mb (mS (mS x 42 w) 41 r) a f) none (hX mb (mS (mS x 42 (f 20 i)) 41 (rB (upI (f 20 i 0) (f 20 i 5) (x 17 0)) (x 17 7) wanted r)) a f) := by
  refine ab_meth oX2_begin (d + 1) _ _ _ _ (Nat.le_refl _) rfl (fun E => ?_)
  refine ab_run [] 100 oX2_begin.1 (Nat.le_refl _) 0 ?_
  refine ⟨_, _, f_copyFrom d (b := 42) (o := 0) (b2 := 20) (o2 := i) (v := w) (v2 := f 20 i) (Nat.le_refl _) rfl (ok42 mb a f _) rfl (hX_ok20 mb _ a f hi) rfl (by omega), Nat.le_refl _, ?_⟩
  have e : ab_set (hX mb (mS (mS x 42 w) 41 r) a f) 42 0 (xFt (f 20 i)) = (hX mb (mS (mS x 42 (f 20 i)) 41 r) a f) := rfl
  rw [e]
  refine ⟨_, _, x_upOf d mb _ a f (hX_ok20 mb _ a f hi) rfl, Nat.le_refl _, ?_⟩
  exact ⟨rfl, rfl⟩
theorem r_shift41 (hn : x 17 3 ≤ 5) (h8 : 0 < w 8) (gear : Int32) : ab_Ex (d + 2) 0 yX2_shiftTo [vR 41 0, vI gear] (hX mb (mS (mS x 42 w) 41 r) a f) none (hX mb (mS (mS x 42 (rW w (downX (w 0) (w 6) (x 17 1) gear (x 17 3) (a 18)))) 41 r) a f) := by
  refine ab_meth oX2_shiftTo (d + 1) _ _ _ _ (Nat.le_refl _) rfl (fun E => ?_)
  refine ab_run [] 100 oX2_shiftTo.1 (Nat.le_refl _) 0 ?_
  refine ⟨_, _, x_downOf d mb (mS (mS x 42 w) 41 r) a f (b := 42) (o := 0) (v := w) (ok42 mb a f _) rfl hn gear, Nat.le_refl _, ?_⟩
  refine ⟨_, _, f_scaleTo d (b := 42) (o := 0) (v := w) (Nat.le_refl _) rfl (ok42 mb a f _) rfl _ h8, Nat.le_refl _, ?_⟩
  exact ⟨rfl, rfl⟩
theorem r_partsInStep41 (act : Int32) : ab_Ex (d + 2) 0 yX2_partsInStep [vR 41 0, vI act] (hX mb (mS (mS x 42 w) 41 r) a f) (some (vI (paceI act (r 2) (w 0)))) (hX mb (mS (mS x 42 w) 41 r) a f) := by
  refine ab_meth oX2_partsInStep (d + 1) _ _ _ _ (Nat.le_refl _) rfl (fun E => ?_)
  refine ab_run [] 100 oX2_partsInStep.1 (Nat.le_refl _) 0 ?_
  unfold paceI
  refine ⟨fun c1 => ?_, fun c1 => ?_⟩
  · refine ⟨fun c2 => ?_, fun c2 => ?_⟩
    · refine ⟨?_, rfl⟩
      rw [if_neg (le_nlt c1), if_neg (fun q => c2 q.1)]
    · refine ⟨_, _, f_goesBack d (b := 42) (o := 0) (v := w) (Nat.le_refl _) (ok42 mb a f _) rfl, Nat.le_refl _, br_z (fun c3 => ?_) (fun c3 => ?_)⟩
      · refine ⟨?_, rfl⟩
        rw [if_neg (le_nlt c1), if_neg (fun q => c3 q.2)]
      · refine ⟨?_, rfl⟩
        rw [if_neg (le_nlt c1), if_pos ⟨c2, c3⟩]
        rfl
  · refine ⟨?_, rfl⟩
    rw [if_pos (nle_lt c1)]
    rfl
theorem r_comesByIn41 (step : Int32) : ab_Ex (d + 3) 0 yX2_comesByIn [vR 41 0, vI step] (hX mb (mS (mS x 42 w) 41 r) a f) (some (vI (bI (wrapI (wrapI (w 1 * w 8 - w 7 - 1) (100 * w 8) - step * r 2) (100 * w 8) < r 2)))) (hX mb (mS (mS x 42 w) 41 r) a f) := by
  refine ab_meth oX2_comesByIn (d + 2) _ _ _ _ (Nat.le_refl _) rfl (fun E => ?_)
  refine ab_run [] 100 oX2_comesByIn.1 (Nat.le_refl _) 0 ?_
  refine ⟨_, _, f_parts d (b := 42) (o := 0) (v := w) (Nat.le_refl _) (ok42 mb a f _) rfl, Nat.le_refl _, ?_⟩
  refine ⟨_, _, x_wrap (d + 1) _ (Nat.le_refl _) _ _, Nat.le_refl _, ?_⟩
  refine ⟨fun c1 => ?_, fun c1 => ?_⟩
  · exact ⟨Or.inl rfl, bI_fs (le_nlt c1), rfl⟩
  · exact ⟨Or.inr rfl, bI_ts (nle_lt c1), rfl⟩
set_option maxHeartbeats 1000000 in
theorem r_listen41 (act : Int32) (T p0 G u n0 : Nat) (hT : T ≤ 60) (hG : 1 ≤ G) (hG2 : G ≤ 14000) (hu : 1 ≤ u) (hu2 : u ≤ 60) (hp0 : p0 ≤ 14000) (hn0 : T * 100 * u < p0 + n0 * G) : ab_Ex (d + 2) 0 yX2_listen [vR 41 0, vI act, vI (nI T), vI (nI p0), vI (nI G), vI (nI u)] (hX mb (mS (mS x 42 w) 41 r) a f) none (hX mb (mS (mS x 42 w) 41 (lisR (okP act (r 3) w (x 17 8) (a 21 3) (a 21 1) (a 21 0)) u G (T * 100 * u) n0 p0 r)) a f) := by
  refine ab_meth oX2_listen (d + 1) _ _ _ _ (Nat.le_refl _) rfl (fun E => ?_)
  have hTu : T * 100 * u ≤ 360000 := Nat.mul_le_mul (Nat.mul_le_mul hT (Nat.le_refl 100)) hu2
  have hend : nI T * 100 * nI u = nI (T * 100 * u) := by
    rw [show (100 : Int32) = nI 100 from rfl, pk_mul, pk_mul]
  have loop : ∀ (n p : Nat) (s : Nat → Int32), (∀ k, k ≠ 5 → k ≠ 7 → s k = r k) → p ≤ 380000 → T * 100 * u < p + n * G →
      ab_W jX2_listen (d + 1) E (hX mb (mS (mS x 42 w) 41 r) a f) (hX mb (mS (mS x 42 w) 41 r) a f).1 (fun v1 h1 => v1 = none ∧ h1 = (hX mb (mS (mS x 42 w) 41 (lisR (okP act (r 3) w (x 17 8) (a 21 3) (a 21 1) (a 21 0)) u G (T * 100 * u) n p s)) a f)) (ab_at iX2_listen 25) [(7, vI (nI p)), (6, vI (nI (T * 100 * u))), (0, vR 41 0), (1, vI act), (2, vI (nI T)), (3, vI (nI p0)), (4, vI (nI G)), (5, vI (nI u))] [] (hX mb (mS (mS x 42 w) 41 s) a f) := by
    intro n
    induction n with
    | zero =>
      intro p s hs hp hn
      refine ab_run [25] 100 oX2_listen.1 (Nat.le_refl _) 25 ?_
      refine ⟨fun c1 => ⟨rfl, rfl⟩, fun c1 => ?_⟩
      exact absurd (nI_le (by omega) (by omega)) c1
    | succ n ih =>
      intro p s hs hp hn
      by_cases hpe : p < T * 100 * u
      · have hdiv : nI p / nI u = nI (p / u) := pk_div (by omega) (by omega) (by omega)
        have hpu : p / u ≤ p := Nat.div_le_self p u
        have hadd : nI p + nI G = nI (p + G) := nI_add p G
        have hmul : (n + 1) * G = n * G + G := Nat.succ_mul n G
        have nxt : ∀ s2 : Nat → Int32, s2 = @ite _ (okP act (r 3) w (x 17 8) (a 21 3) (a 21 1) (a 21 0) (p / u)) (Classical.propDecidable _) (clkR s (p / u)) s → ab_W jX2_listen (d + 1) E (hX mb (mS (mS x 42 w) 41 r) a f) (hX mb (mS (mS x 42 w) 41 r) a f).1 (fun v1 h1 => v1 = none ∧ h1 = (hX mb (mS (mS x 42 w) 41 (lisR (okP act (r 3) w (x 17 8) (a 21 3) (a 21 1) (a 21 0)) u G (T * 100 * u) (n + 1) p s)) a f)) (ab_at iX2_listen 25) [(7, vI (nI p + nI G)), (6, vI (nI (T * 100 * u))), (0, vR 41 0), (1, vI act), (2, vI (nI T)), (3, vI (nI p0)), (4, vI (nI G)), (5, vI (nI u))] [] (hX mb (mS (mS x 42 w) 41 s2) a f) := by
          intro s2 hs2
          have h2 : ∀ k, k ≠ 5 → k ≠ 7 → s2 k = r k := by
            intro k h5 h7
            rw [hs2]
            split
            · rw [clkR_lo s (p / u) h5 h7]
              exact hs k h5 h7
            · exact hs k h5 h7
          have h3 := ih (p + G) s2 h2 (by omega) (by omega)
          have e : lisR (okP act (r 3) w (x 17 8) (a 21 3) (a 21 1) (a 21 0)) u G (T * 100 * u) (n + 1) p s = lisR (okP act (r 3) w (x 17 8) (a 21 3) (a 21 1) (a 21 0)) u G (T * 100 * u) n (p + G) s2 := by
            rw [hs2]
            show (if p < T * 100 * u then _ else s) = _
            rw [if_pos hpe]
          rw [e, hadd]
          exact h3
        refine ab_run [25] 100 oX2_listen.1 (Nat.le_refl _) 25 ?_
        refine ⟨fun c1 => absurd c1 (nI_ge hpe (by omega)), fun c1 => ?_⟩
        refine ⟨nI_ne0 (by omega) (by omega), ?_⟩
        rw [hdiv]
        refine ⟨by decide, ?_⟩
        have hs3 : s 3 = r 3 := hs 3 (by decide) (by decide)
        refine ⟨_, _, x_isSilent d mb (mS (mS x 42 w) 41 s) a f (b := 42) (o := 0) (v := w) (ok42 mb a f _) rfl (s 3 + nI (p / u) / 100), Nat.le_refl _, ?_⟩
        refine ⟨fun c2 => ?_, fun c2 => ?_⟩
        · refine ab_W_lv (lv_pk [0, 4, 5, 6, 7, 8, 9, 10] rfl) (nxt s ?_)
          rw [if_neg]
          intro q
          exact c2 (by show silX (w 0) (s 3 + nI (p / u) / 100) (x 17 8) (a 21 3) (a 21 1) = 0; rw [hs3]; exact q.1)
        · have c2 : silX (w 0) (s 3 + nI (p / u) / 100) (x 17 8) (a 21 3) (a 21 1) = 0 := c2
          refine ⟨by decide, ?_⟩
          refine ⟨_, _, x_loadIn d mb (mS (mS x 42 w) 41 s) a f act _, Nat.le_refl _, ?_⟩
          refine ⟨_, _, f_limit d (b := 42) (o := 0) (v := w) (Nat.le_refl _) (ok42 mb a f _) rfl _, Nat.le_refl _, ?_⟩
          refine ⟨fun c3 => ?_, fun c3 => ?_⟩
          · have c3 : loadI act (ab_rem (nI (p / u)) 100) (a 21 0) < limX (w 0) (w 2) (s 3 + nI (p / u) / 100) := c3
            refine ab_W_lv (lv_pk [0, 4, 5, 6, 7, 8, 9, 10] rfl) (nxt s ?_)
            rw [if_neg]
            intro q
            rw [hs3] at c3
            exact le_nlt q.2 c3
          · have c3 : ¬ loadI act (ab_rem (nI (p / u)) 100) (a 21 0) < limX (w 0) (w 2) (s 3 + nI (p / u) / 100) := c3
            have hok : okP act (r 3) w (x 17 8) (a 21 3) (a 21 1) (a 21 0) (p / u) := by
              rw [hs3] at c2 c3
              exact ⟨c2, nlt_le c3⟩
            refine ⟨fun c4 => ?_, fun c4 => ?_⟩
            · have c4 : ¬ s 5 = s 6 := c4
              refine ab_W_lv (lv_pk [0, 4, 5, 6, 7, 8, 9, 10] rfl) (nxt (upd s 5 (s 5 + 1)) ?_)
              rw [if_pos hok, clkR, if_neg c4]
            · have c4 : s 5 = s 6 := c4
              refine ab_W_lv (lv_pk [0, 4, 5, 6, 7, 8, 9, 10] rfl) (nxt (upd (upd s 7 (s 4 + nI (p / u))) 5 (s 5 + 1)) ?_)
              rw [if_pos hok, clkR, if_pos c4]
      · refine ab_run [25] 100 oX2_listen.1 (Nat.le_refl _) 25 ?_
        refine ⟨fun c1 => ⟨rfl, ?_⟩, fun c1 => ?_⟩
        · rw [show lisR (okP act (r 3) w (x 17 8) (a 21 3) (a 21 1) (a 21 0)) u G (T * 100 * u) (n + 1) p s = s from if_neg hpe]
        · exact absurd (nI_le (by omega) (by omega)) c1
  refine ab_run [25] 100 oX2_listen.1 (Nat.le_refl _) 0 ?_
  refine ⟨fun c1 => ?_, fun c1 => ?_⟩
  · exact absurd c1 (nI_nlt (a := G) (b := 1) hG (by omega))
  refine ⟨fun c2 => ?_, fun c2 => ?_⟩
  · have h9 := loop n0 p0 r (fun _ _ _ => rfl) (by omega) hn0
    rw [← hend] at h9
    exact h9
  · exact absurd (nI_le (a := 1) (b := u) hu (by omega)) c2
end Rider41
section Rider43
variable (d : Nat) (mb : Nat → AB) (x a : mA) (f : mF) (w r : Nat → Int32)
theorem ok44 (x' : mA) : ab_ok (hX mb x' a f) 44 0 := ⟨Nat.le_of_ble_eq_true rfl, Nat.le_of_ble_eq_true rfl, Nat.le_of_ble_eq_true rfl⟩
theorem r_begin43 {i : Nat} (hi : i < 8) (wanted : Int32) : ab_Ex (d + 2) 0 yX2_begin [vR 43 0, vR 20 i, vI wanted] (hX mb (mS (mS x 44 w) 43 r) a f) none (hX mb (mS (mS x 44 (f 20 i)) 43 (rB (upI (f 20 i 0) (f 20 i 5) (x 17 0)) (x 17 7) wanted r)) a f) := by
  refine ab_meth oX2_begin (d + 1) _ _ _ _ (Nat.le_refl _) rfl (fun E => ?_)
  refine ab_run [] 100 oX2_begin.1 (Nat.le_refl _) 0 ?_
  refine ⟨_, _, f_copyFrom d (b := 44) (o := 0) (b2 := 20) (o2 := i) (v := w) (v2 := f 20 i) (Nat.le_refl _) rfl (ok44 mb a f _) rfl (hX_ok20 mb _ a f hi) rfl (by omega), Nat.le_refl _, ?_⟩
  have e : ab_set (hX mb (mS (mS x 44 w) 43 r) a f) 44 0 (xFt (f 20 i)) = (hX mb (mS (mS x 44 (f 20 i)) 43 r) a f) := rfl
  rw [e]
  refine ⟨_, _, x_upOf d mb _ a f (hX_ok20 mb _ a f hi) rfl, Nat.le_refl _, ?_⟩
  exact ⟨rfl, rfl⟩
theorem r_shift43 (hn : x 17 3 ≤ 5) (h8 : 0 < w 8) (gear : Int32) : ab_Ex (d + 2) 0 yX2_shiftTo [vR 43 0, vI gear] (hX mb (mS (mS x 44 w) 43 r) a f) none (hX mb (mS (mS x 44 (rW w (downX (w 0) (w 6) (x 17 1) gear (x 17 3) (a 18)))) 43 r) a f) := by
  refine ab_meth oX2_shiftTo (d + 1) _ _ _ _ (Nat.le_refl _) rfl (fun E => ?_)
  refine ab_run [] 100 oX2_shiftTo.1 (Nat.le_refl _) 0 ?_
  refine ⟨_, _, x_downOf d mb (mS (mS x 44 w) 43 r) a f (b := 44) (o := 0) (v := w) (ok44 mb a f _) rfl hn gear, Nat.le_refl _, ?_⟩
  refine ⟨_, _, f_scaleTo d (b := 44) (o := 0) (v := w) (Nat.le_refl _) rfl (ok44 mb a f _) rfl _ h8, Nat.le_refl _, ?_⟩
  exact ⟨rfl, rfl⟩
theorem r_partsInStep43 (act : Int32) : ab_Ex (d + 2) 0 yX2_partsInStep [vR 43 0, vI act] (hX mb (mS (mS x 44 w) 43 r) a f) (some (vI (paceI act (r 2) (w 0)))) (hX mb (mS (mS x 44 w) 43 r) a f) := by
  refine ab_meth oX2_partsInStep (d + 1) _ _ _ _ (Nat.le_refl _) rfl (fun E => ?_)
  refine ab_run [] 100 oX2_partsInStep.1 (Nat.le_refl _) 0 ?_
  unfold paceI
  refine ⟨fun c1 => ?_, fun c1 => ?_⟩
  · refine ⟨fun c2 => ?_, fun c2 => ?_⟩
    · refine ⟨?_, rfl⟩
      rw [if_neg (le_nlt c1), if_neg (fun q => c2 q.1)]
    · refine ⟨_, _, f_goesBack d (b := 44) (o := 0) (v := w) (Nat.le_refl _) (ok44 mb a f _) rfl, Nat.le_refl _, br_z (fun c3 => ?_) (fun c3 => ?_)⟩
      · refine ⟨?_, rfl⟩
        rw [if_neg (le_nlt c1), if_neg (fun q => c3 q.2)]
      · refine ⟨?_, rfl⟩
        rw [if_neg (le_nlt c1), if_pos ⟨c2, c3⟩]
        rfl
  · refine ⟨?_, rfl⟩
    rw [if_pos (nle_lt c1)]
    rfl
theorem r_comesByIn43 (step : Int32) : ab_Ex (d + 3) 0 yX2_comesByIn [vR 43 0, vI step] (hX mb (mS (mS x 44 w) 43 r) a f) (some (vI (bI (wrapI (wrapI (w 1 * w 8 - w 7 - 1) (100 * w 8) - step * r 2) (100 * w 8) < r 2)))) (hX mb (mS (mS x 44 w) 43 r) a f) := by
  refine ab_meth oX2_comesByIn (d + 2) _ _ _ _ (Nat.le_refl _) rfl (fun E => ?_)
  refine ab_run [] 100 oX2_comesByIn.1 (Nat.le_refl _) 0 ?_
  refine ⟨_, _, f_parts d (b := 44) (o := 0) (v := w) (Nat.le_refl _) (ok44 mb a f _) rfl, Nat.le_refl _, ?_⟩
  refine ⟨_, _, x_wrap (d + 1) _ (Nat.le_refl _) _ _, Nat.le_refl _, ?_⟩
  refine ⟨fun c1 => ?_, fun c1 => ?_⟩
  · exact ⟨Or.inl rfl, bI_fs (le_nlt c1), rfl⟩
  · exact ⟨Or.inr rfl, bI_ts (nle_lt c1), rfl⟩
set_option maxHeartbeats 1000000 in
theorem r_listen43 (act : Int32) (T p0 G u n0 : Nat) (hT : T ≤ 60) (hG : 1 ≤ G) (hG2 : G ≤ 14000) (hu : 1 ≤ u) (hu2 : u ≤ 60) (hp0 : p0 ≤ 14000) (hn0 : T * 100 * u < p0 + n0 * G) : ab_Ex (d + 2) 0 yX2_listen [vR 43 0, vI act, vI (nI T), vI (nI p0), vI (nI G), vI (nI u)] (hX mb (mS (mS x 44 w) 43 r) a f) none (hX mb (mS (mS x 44 w) 43 (lisR (okP act (r 3) w (x 17 8) (a 21 3) (a 21 1) (a 21 0)) u G (T * 100 * u) n0 p0 r)) a f) := by
  refine ab_meth oX2_listen (d + 1) _ _ _ _ (Nat.le_refl _) rfl (fun E => ?_)
  have hTu : T * 100 * u ≤ 360000 := Nat.mul_le_mul (Nat.mul_le_mul hT (Nat.le_refl 100)) hu2
  have hend : nI T * 100 * nI u = nI (T * 100 * u) := by
    rw [show (100 : Int32) = nI 100 from rfl, pk_mul, pk_mul]
  have loop : ∀ (n p : Nat) (s : Nat → Int32), (∀ k, k ≠ 5 → k ≠ 7 → s k = r k) → p ≤ 380000 → T * 100 * u < p + n * G →
      ab_W jX2_listen (d + 1) E (hX mb (mS (mS x 44 w) 43 r) a f) (hX mb (mS (mS x 44 w) 43 r) a f).1 (fun v1 h1 => v1 = none ∧ h1 = (hX mb (mS (mS x 44 w) 43 (lisR (okP act (r 3) w (x 17 8) (a 21 3) (a 21 1) (a 21 0)) u G (T * 100 * u) n p s)) a f)) (ab_at iX2_listen 25) [(7, vI (nI p)), (6, vI (nI (T * 100 * u))), (0, vR 43 0), (1, vI act), (2, vI (nI T)), (3, vI (nI p0)), (4, vI (nI G)), (5, vI (nI u))] [] (hX mb (mS (mS x 44 w) 43 s) a f) := by
    intro n
    induction n with
    | zero =>
      intro p s hs hp hn
      refine ab_run [25] 100 oX2_listen.1 (Nat.le_refl _) 25 ?_
      refine ⟨fun c1 => ⟨rfl, rfl⟩, fun c1 => ?_⟩
      exact absurd (nI_le (by omega) (by omega)) c1
    | succ n ih =>
      intro p s hs hp hn
      by_cases hpe : p < T * 100 * u
      · have hdiv : nI p / nI u = nI (p / u) := pk_div (by omega) (by omega) (by omega)
        have hpu : p / u ≤ p := Nat.div_le_self p u
        have hadd : nI p + nI G = nI (p + G) := nI_add p G
        have hmul : (n + 1) * G = n * G + G := Nat.succ_mul n G
        have nxt : ∀ s2 : Nat → Int32, s2 = @ite _ (okP act (r 3) w (x 17 8) (a 21 3) (a 21 1) (a 21 0) (p / u)) (Classical.propDecidable _) (clkR s (p / u)) s → ab_W jX2_listen (d + 1) E (hX mb (mS (mS x 44 w) 43 r) a f) (hX mb (mS (mS x 44 w) 43 r) a f).1 (fun v1 h1 => v1 = none ∧ h1 = (hX mb (mS (mS x 44 w) 43 (lisR (okP act (r 3) w (x 17 8) (a 21 3) (a 21 1) (a 21 0)) u G (T * 100 * u) (n + 1) p s)) a f)) (ab_at iX2_listen 25) [(7, vI (nI p + nI G)), (6, vI (nI (T * 100 * u))), (0, vR 43 0), (1, vI act), (2, vI (nI T)), (3, vI (nI p0)), (4, vI (nI G)), (5, vI (nI u))] [] (hX mb (mS (mS x 44 w) 43 s2) a f) := by
          intro s2 hs2
          have h2 : ∀ k, k ≠ 5 → k ≠ 7 → s2 k = r k := by
            intro k h5 h7
            rw [hs2]
            split
            · rw [clkR_lo s (p / u) h5 h7]
              exact hs k h5 h7
            · exact hs k h5 h7
          have h3 := ih (p + G) s2 h2 (by omega) (by omega)
          have e : lisR (okP act (r 3) w (x 17 8) (a 21 3) (a 21 1) (a 21 0)) u G (T * 100 * u) (n + 1) p s = lisR (okP act (r 3) w (x 17 8) (a 21 3) (a 21 1) (a 21 0)) u G (T * 100 * u) n (p + G) s2 := by
            rw [hs2]
            show (if p < T * 100 * u then _ else s) = _
            rw [if_pos hpe]
          rw [e, hadd]
          exact h3
        refine ab_run [25] 100 oX2_listen.1 (Nat.le_refl _) 25 ?_
        refine ⟨fun c1 => absurd c1 (nI_ge hpe (by omega)), fun c1 => ?_⟩
        refine ⟨nI_ne0 (by omega) (by omega), ?_⟩
        rw [hdiv]
        refine ⟨by decide, ?_⟩
        have hs3 : s 3 = r 3 := hs 3 (by decide) (by decide)
        refine ⟨_, _, x_isSilent d mb (mS (mS x 44 w) 43 s) a f (b := 44) (o := 0) (v := w) (ok44 mb a f _) rfl (s 3 + nI (p / u) / 100), Nat.le_refl _, ?_⟩
        refine ⟨fun c2 => ?_, fun c2 => ?_⟩
        · refine ab_W_lv (lv_pk [0, 4, 5, 6, 7, 8, 9, 10] rfl) (nxt s ?_)
          rw [if_neg]
          intro q
          exact c2 (by show silX (w 0) (s 3 + nI (p / u) / 100) (x 17 8) (a 21 3) (a 21 1) = 0; rw [hs3]; exact q.1)
        · have c2 : silX (w 0) (s 3 + nI (p / u) / 100) (x 17 8) (a 21 3) (a 21 1) = 0 := c2
          refine ⟨by decide, ?_⟩
          refine ⟨_, _, x_loadIn d mb (mS (mS x 44 w) 43 s) a f act _, Nat.le_refl _, ?_⟩
          refine ⟨_, _, f_limit d (b := 44) (o := 0) (v := w) (Nat.le_refl _) (ok44 mb a f _) rfl _, Nat.le_refl _, ?_⟩
          refine ⟨fun c3 => ?_, fun c3 => ?_⟩
          · have c3 : loadI act (ab_rem (nI (p / u)) 100) (a 21 0) < limX (w 0) (w 2) (s 3 + nI (p / u) / 100) := c3
            refine ab_W_lv (lv_pk [0, 4, 5, 6, 7, 8, 9, 10] rfl) (nxt s ?_)
            rw [if_neg]
            intro q
            rw [hs3] at c3
            exact le_nlt q.2 c3
          · have c3 : ¬ loadI act (ab_rem (nI (p / u)) 100) (a 21 0) < limX (w 0) (w 2) (s 3 + nI (p / u) / 100) := c3
            have hok : okP act (r 3) w (x 17 8) (a 21 3) (a 21 1) (a 21 0) (p / u) := by
              rw [hs3] at c2 c3
              exact ⟨c2, nlt_le c3⟩
            refine ⟨fun c4 => ?_, fun c4 => ?_⟩
            · have c4 : ¬ s 5 = s 6 := c4
              refine ab_W_lv (lv_pk [0, 4, 5, 6, 7, 8, 9, 10] rfl) (nxt (upd s 5 (s 5 + 1)) ?_)
              rw [if_pos hok, clkR, if_neg c4]
            · have c4 : s 5 = s 6 := c4
              refine ab_W_lv (lv_pk [0, 4, 5, 6, 7, 8, 9, 10] rfl) (nxt (upd (upd s 7 (s 4 + nI (p / u))) 5 (s 5 + 1)) ?_)
              rw [if_pos hok, clkR, if_pos c4]
      · refine ab_run [25] 100 oX2_listen.1 (Nat.le_refl _) 25 ?_
        refine ⟨fun c1 => ⟨rfl, ?_⟩, fun c1 => ?_⟩
        · rw [show lisR (okP act (r 3) w (x 17 8) (a 21 3) (a 21 1) (a 21 0)) u G (T * 100 * u) (n + 1) p s = s from if_neg hpe]
        · exact absurd (nI_le (by omega) (by omega)) c1
  refine ab_run [25] 100 oX2_listen.1 (Nat.le_refl _) 0 ?_
  refine ⟨fun c1 => ?_, fun c1 => ?_⟩
  · exact absurd c1 (nI_nlt (a := G) (b := 1) hG (by omega))
  refine ⟨fun c2 => ?_, fun c2 => ?_⟩
  · have h9 := loop n0 p0 r (fun _ _ _ => rfl) (by omega) hn0
    rw [← hend] at h9
    exact h9
  · exact absurd (nI_le (a := 1) (b := u) hu (by omega)) c2
end Rider43
end
section
theorem ti_add {x y : Int32} {a b : Int} (hx : x.toInt = a) (hy : y.toInt = b) (h1 : -2147483648 ≤ a + b) (h2 : a + b ≤ 2147483647) : (x + y).toInt = a + b := by
  rw [Int32.toInt_add, hx, hy]
  apply Int.bmod_eq_of_le <;> omega
theorem ti_sub {x y : Int32} {a b : Int} (hx : x.toInt = a) (hy : y.toInt = b) (h1 : -2147483648 ≤ a - b) (h2 : a - b ≤ 2147483647) : (x - y).toInt = a - b := by
  rw [Int32.toInt_sub, hx, hy]
  apply Int.bmod_eq_of_le <;> omega
theorem ti_mul {x y : Int32} {a b : Int} (hx : x.toInt = a) (hy : y.toInt = b) (h1 : -2147483648 ≤ a * b) (h2 : a * b ≤ 2147483647) : (x * y).toInt = a * b := by
  rw [Int32.toInt_mul, hx, hy]
  apply Int.bmod_eq_of_le <;> omega
theorem ti_neg {x : Int32} {a : Int} (hx : x.toInt = a) (h1 : -2147483647 ≤ a) : (-x).toInt = -a := by
  have h2 := x.toInt_lt
  rw [Int32.toInt_neg, hx]
  apply Int.bmod_eq_of_le <;> omega
theorem ti_div {x y : Int32} {a b : Int} (hx : x.toInt = a) (hy : y.toInt = b) (h1 : -2147483648 ≤ a.tdiv b) (h2 : a.tdiv b ≤ 2147483647) : (x / y).toInt = a.tdiv b := by
  rw [Int32.toInt_div, hx, hy]
  apply Int.bmod_eq_of_le <;> omega
theorem tdiv_abs {a b : Int} (h1 : -2147483647 ≤ a) (h2 : a ≤ 2147483647) (hb : 0 < b) : -2147483648 ≤ a.tdiv b ∧ a.tdiv b ≤ 2147483647 := by
  have h := Int.natAbs_tdiv a b
  have h3 : (a.tdiv b).natAbs ≤ a.natAbs := by
    rw [h]
    exact Nat.div_le_self _ _
  omega
theorem ti_rem {x y : Int32} {a b : Int} (hx : x.toInt = a) (hy : y.toInt = b) (h1 : -2147483647 ≤ a) (hb : 0 < b) : (ab_rem x y).toInt = a.tmod b := by
  have h2 : a ≤ 2147483647 := by
    have := x.toInt_lt
    omega
  have hd := tdiv_abs h1 h2 hb
  have e1 := ti_div hx hy hd.1 hd.2
  have e3 := Int.mul_tdiv_add_tmod a b
  have e5 : (a.tmod b).natAbs ≤ a.natAbs := by
    rw [Int.natAbs_tmod]
    exact Nat.mod_le _ _
  have e6 : (a.tdiv b * b) = a - a.tmod b := by
    rw [Int.mul_comm]
    omega
  have e7 : a - a.tmod b ≤ 2147483647 ∧ -2147483648 ≤ a - a.tmod b := by
    have h9 : (a.tdiv b * b).natAbs ≤ a.natAbs := by
      rw [Int.natAbs_mul, Int.natAbs_tdiv]
      exact Nat.div_mul_le_self _ _
    rw [e6] at h9
    omega
  have e2 := ti_mul e1 hy (by rw [e6]; omega) (by rw [e6]; omega)
  have e8 := ti_sub hx e2 (by rw [e6]; omega) (by rw [e6]; omega)
  unfold ab_rem
  rw [e8, e6]
  omega
theorem lt_ti {x y : Int32} {a b : Int} (hx : x.toInt = a) (hy : y.toInt = b) : x < y ↔ a < b := by rw [Int32.lt_iff_toInt_lt, hx, hy]
theorem le_ti {x y : Int32} {a b : Int} (hx : x.toInt = a) (hy : y.toInt = b) : x ≤ y ↔ a ≤ b := by rw [Int32.le_iff_toInt_le, hx, hy]
theorem eq_ti {x y : Int32} {a b : Int} (hx : x.toInt = a) (hy : y.toInt = b) : x = y ↔ a = b := by rw [← Int32.toInt_inj, hx, hy]
theorem ti_wrap {p r : Int32} {a b : Int} (hp : p.toInt = a) (hr : r.toInt = b) (h1 : -1000000000 ≤ a) (h2 : a ≤ 1000000000) (hb : 0 < b) (hb2 : b ≤ 1000000000) : (wrapI p r).toInt = a % b := by
  have e1 := ti_rem hp hr (by omega) hb
  unfold wrapI
  rw [if_neg (by rw [lt_ti hr (show (1 : Int32).toInt = 1 from rfl)]; omega)]
  have e2 := Int.emod_add_mul_ediv a b
  by_cases hneg : a.tmod b < 0
  · rw [if_pos (by rw [lt_ti e1 (show (0 : Int32).toInt = 0 from rfl)]; exact hneg)]
    have e3 : a.tmod b = a % b - b := by
      rw [Int.tmod_eq_emod] at hneg ⊢
      split at hneg
      · have := Int.emod_nonneg a (show b ≠ 0 by omega)
        omega
      · rename_i hc
        rw [if_neg hc]
        have : b.natAbs = b := by omega
        omega
    have h3 := Int.emod_nonneg a (show b ≠ 0 by omega)
    have h4 := Int.emod_lt_of_pos a hb
    rw [ti_add e1 hr (by omega) (by omega)]
    omega
  · rw [if_neg (by rw [lt_ti e1 (show (0 : Int32).toInt = 0 from rfl)]; exact hneg), e1]
    rw [Int.tmod_eq_emod] at hneg ⊢
    split
    · omega
    · rename_i hc
      rw [if_neg hc] at hneg
      have h4 := Int.emod_lt_of_pos a hb
      omega
theorem nI_ti {x : Int32} {n : Nat} (h : x.toInt = (n : Int)) : x = nI n := by
  have h1 := x.toInt_lt
  apply Int32.toInt_inj.mp
  rw [h, nI_toInt (by omega)]
theorem ti_nat {x : Int32} (h : 0 ≤ x.toInt) : x = nI x.toNatClampNeg := nI_ti (by show x.toInt = ((x.toInt.toNat : Nat) : Int); omega)
theorem ti_clamp {x : Int32} (h : 0 ≤ x.toInt) : (x.toNatClampNeg : Int) = x.toInt := by show ((x.toInt.toNat : Nat) : Int) = _; omega
end
section
noncomputable def psR (ok : Nat → Prop) (act : Int32) (T : Nat) (w r : Nat → Int32) : Nat → Int32 :=
  if w 0 = 4 then lisR ok 1 50 (T * 100 * 1) (T * 100 * 1 + 1) 25 r
  else if act < 4 then lisR ok (r 2).toNatClampNeg (100 * w 8).toNatClampNeg (T * 100 * (r 2).toNatClampNeg) (T * 100 * (r 2).toNatClampNeg + 1) (wrapI (w 1 * w 8 - w 7 - 1) (100 * w 8)).toNatClampNeg r
  else r
def psW (act : Int32) (T : Nat) (pace : Int32) (w : Nat → Int32) : Nat → Int32 := upd w 7 (wrapI (w 7 + paceI act pace (w 0) * 100 * nI T) (100 * w 8))
def psT (T : Nat) (r : Nat → Int32) : Nat → Int32 := upd (upd r 3 (r 3 + nI T)) 4 (r 4 + nI T * 100)
/-- the numbers of a rider that are as they must be -/
def RO (w r : Nat → Int32) : Prop := (1 ≤ (r 2).toInt ∧ (r 2).toInt ≤ 60) ∧ (1 ≤ (w 8).toInt ∧ (w 8).toInt ≤ 140) ∧ (0 ≤ (w 1).toInt ∧ (w 1).toInt ≤ 99) ∧ 0 ≤ (w 7).toInt ∧ (w 7).toInt < 100 * (w 8).toInt
theorem RO_wrap {w r : Nat → Int32} (h : RO w r) : (100 * w 8).toInt = 100 * (w 8).toInt ∧ (w 1 * w 8 - w 7 - 1).toInt = (w 1).toInt * (w 8).toInt - (w 7).toInt - 1 ∧ (wrapI (w 1 * w 8 - w 7 - 1) (100 * w 8)).toInt = ((w 1).toInt * (w 8).toInt - (w 7).toInt - 1) % (100 * (w 8).toInt) := by
  obtain ⟨⟨a1, a2⟩, ⟨b1, b2⟩, ⟨c1, c2⟩, d1, d2⟩ := h
  have m1 : (w 1).toInt * (w 8).toInt ≤ 99 * 140 := Int.mul_le_mul c2 b2 (by omega) (by omega)
  have m0 : 0 ≤ (w 1).toInt * (w 8).toInt := Int.mul_nonneg c1 (by omega)
  have e1 : (100 * w 8).toInt = 100 * (w 8).toInt := ti_mul (show (100 : Int32).toInt = 100 from rfl) rfl (by omega) (by omega)
  have e2 : (w 1 * w 8).toInt = (w 1).toInt * (w 8).toInt := ti_mul rfl rfl (by omega) (by omega)
  have e3 : (w 1 * w 8 - w 7).toInt = (w 1).toInt * (w 8).toInt - (w 7).toInt := ti_sub e2 rfl (by omega) (by omega)
  have e4 := ti_sub e3 (show (1 : Int32).toInt = 1 from rfl) (by omega) (by omega)
  exact ⟨e1, e4, ti_wrap e4 e1 (by omega) (by omega) (by omega) (by omega)⟩
theorem mul_ge (n G : Nat) (h : 1 ≤ G) : n ≤ n * G := by
  have := Nat.mul_le_mul (Nat.le_refl n) h
  omega

section Stage41
variable (d : Nat) (mb : Nat → AB) (x a : mA) (f : mF)
theorem p_listen41 (w r : Nat → Int32) (act : Int32) (T : Nat) (hT : T ≤ 60) (h : RO w r) : ab_Ex (d + 2) 0 yX2_listen [vR 41 0, vI act, vI (nI T), vI (wrapI (w 1 * w 8 - w 7 - 1) (100 * w 8)), vI (100 * w 8), vI (r 2)] (hX mb (mS (mS x 42 w) 41 r) a f) none (hX mb (mS (mS x 42 w) 41 (lisR (okP act (r 3) w (x 17 8) (a 21 3) (a 21 1) (a 21 0)) (r 2).toNatClampNeg (100 * w 8).toNatClampNeg (T * 100 * (r 2).toNatClampNeg) (T * 100 * (r 2).toNatClampNeg + 1) (wrapI (w 1 * w 8 - w 7 - 1) (100 * w 8)).toNatClampNeg r)) a f) := by
  obtain ⟨e1, e2, e3⟩ := RO_wrap h
  obtain ⟨⟨a1, a2⟩, ⟨b1, b2⟩, ⟨c1, c2⟩, d1, d2⟩ := h
  have h3 := Int.emod_nonneg ((w 1).toInt * (w 8).toInt - (w 7).toInt - 1) (show 100 * (w 8).toInt ≠ 0 by omega)
  have h4 := Int.emod_lt_of_pos ((w 1).toInt * (w 8).toInt - (w 7).toInt - 1) (show 0 < 100 * (w 8).toInt by omega)
  have n1 := ti_clamp (x := r 2) (by omega)
  have n2 := ti_clamp (x := 100 * w 8) (by omega)
  have n3 := ti_clamp (x := wrapI (w 1 * w 8 - w 7 - 1) (100 * w 8)) (by omega)
  have hG1 : 1 ≤ (100 * w 8).toNatClampNeg := by omega
  have L := r_listen41 d mb x a f w r act T (wrapI (w 1 * w 8 - w 7 - 1) (100 * w 8)).toNatClampNeg (100 * w 8).toNatClampNeg (r 2).toNatClampNeg (T * 100 * (r 2).toNatClampNeg + 1) hT hG1 (by omega) (by omega) (by omega) (by omega) (by
    have := mul_ge (T * 100 * (r 2).toNatClampNeg + 1) _ hG1
    omega)
  rw [← ti_nat (x := r 2) (by omega), ← ti_nat (x := 100 * w 8) (by omega), ← ti_nat (x := wrapI (w 1 * w 8 - w 7 - 1) (100 * w 8)) (by omega)] at L
  exact L
set_option maxRecDepth 100000 in
theorem p_stage41 (w0 w r : Nat → Int32) (act gear : Int32) (T : Nat) (hT : T ≤ 60) (hn : x 17 3 ≤ 5) (h8 : 0 < w0 8) (hw : w = rW w0 (downX (w0 0) (w0 6) (x 17 1) gear (x 17 3) (a 18))) (h : RO w r) : ab_Ex (d + 3) 0 yX2_passStage [vR 41 0, vI act, vI gear, vI (nI T)] (hX mb (mS (mS x 42 w0) 41 r) a f) none (hX mb (mS (mS x 42 (psW act T ((psR (okP act (r 3) w (x 17 8) (a 21 3) (a 21 1) (a 21 0)) act T w r) 2) w)) 41 (psT T (psR (okP act (r 3) w (x 17 8) (a 21 3) (a 21 1) (a 21 0)) act T w r))) a f) := by
  refine ab_meth oX2_passStage (d + 2) _ _ _ _ (Nat.le_refl _) rfl (fun E => ?_)
  have H62 : ∀ r1 : Nat → Int32, r1 = psR (okP act (r 3) w (x 17 8) (a 21 3) (a 21 1) (a 21 0)) act T w r → ab_W jX2_passStage (d + 2) E (hX mb (mS (mS x 42 w0) 41 r) a f) 70 (fun v1 h1 => v1 = none ∧ h1 = (hX mb (mS (mS x 42 (psW act T ((psR (okP act (r 3) w (x 17 8) (a 21 3) (a 21 1) (a 21 0)) act T w r) 2) w)) 41 (psT T (psR (okP act (r 3) w (x 17 8) (a 21 3) (a 21 1) (a 21 0)) act T w r))) a f)) (ab_at iX2_passStage 62) [(0, vR 41 0), (1, vI act), (2, vI gear), (3, vI (nI T))] [] (hX mb (mS (mS x 42 w) 41 r1) a f) := by
    intro r1 hr1
    refine ab_run [] 100 oX2_passStage.1 (Nat.le_refl _) 62 ?_
    refine ⟨_, _, r_partsInStep41 d mb x a f w r1 act, Nat.le_refl _, ?_⟩
    refine ⟨_, _, f_move d (b := 42) (o := 0) (v := w) (Nat.le_refl _) (ok42 mb a f _) rfl _, Nat.le_refl _, ?_⟩
    refine ⟨rfl, ?_⟩
    rw [← hr1]
    rfl
  refine ab_run [62] 100 oX2_passStage.1 (Nat.le_refl _) 0 ?_
  have hsh := r_shift41 (d) mb x a f w0 r hn h8 gear
  rw [← hw] at hsh
  refine ⟨_, _, hsh, Nat.le_refl _, ?_⟩
  refine ⟨fun c1 => ?_, fun c1 => ?_⟩
  · have c1 : ¬ w 0 = 4 := c1
    refine ⟨fun c2 => ?_, fun c2 => ?_⟩
    · refine H62 r ?_
      rw [psR, if_neg c1, if_neg (le_nlt c2)]
    · refine ⟨_, _, f_parts d (b := 42) (o := 0) (v := w) (Nat.le_refl _) (ok42 mb a f _) rfl, Nat.le_refl _, ?_⟩
      refine ⟨_, _, p_listen41 d mb x a f w r act T hT h, Nat.le_refl _, ?_⟩
      refine H62 _ ?_
      rw [psR, if_neg c1, if_pos (nle_lt c2)]
  · have c1 : w 0 = 4 := c1
    refine ⟨_, _, r_listen41 d mb x a f w r act T 25 50 1 (T * 100 * 1 + 1) hT (by decide) (by decide) (by decide) (by decide) (by decide) (by omega), Nat.le_refl _, ?_⟩
    refine H62 _ ?_
    rw [psR, if_pos c1]
end Stage41
section Stage43
variable (d : Nat) (mb : Nat → AB) (x a : mA) (f : mF)
theorem p_listen43 (w r : Nat → Int32) (act : Int32) (T : Nat) (hT : T ≤ 60) (h : RO w r) : ab_Ex (d + 2) 0 yX2_listen [vR 43 0, vI act, vI (nI T), vI (wrapI (w 1 * w 8 - w 7 - 1) (100 * w 8)), vI (100 * w 8), vI (r 2)] (hX mb (mS (mS x 44 w) 43 r) a f) none (hX mb (mS (mS x 44 w) 43 (lisR (okP act (r 3) w (x 17 8) (a 21 3) (a 21 1) (a 21 0)) (r 2).toNatClampNeg (100 * w 8).toNatClampNeg (T * 100 * (r 2).toNatClampNeg) (T * 100 * (r 2).toNatClampNeg + 1) (wrapI (w 1 * w 8 - w 7 - 1) (100 * w 8)).toNatClampNeg r)) a f) := by
  obtain ⟨e1, e2, e3⟩ := RO_wrap h
  obtain ⟨⟨a1, a2⟩, ⟨b1, b2⟩, ⟨c1, c2⟩, d1, d2⟩ := h
  have h3 := Int.emod_nonneg ((w 1).toInt * (w 8).toInt - (w 7).toInt - 1) (show 100 * (w 8).toInt ≠ 0 by omega)
  have h4 := Int.emod_lt_of_pos ((w 1).toInt * (w 8).toInt - (w 7).toInt - 1) (show 0 < 100 * (w 8).toInt by omega)
  have n1 := ti_clamp (x := r 2) (by omega)
  have n2 := ti_clamp (x := 100 * w 8) (by omega)
  have n3 := ti_clamp (x := wrapI (w 1 * w 8 - w 7 - 1) (100 * w 8)) (by omega)
  have hG1 : 1 ≤ (100 * w 8).toNatClampNeg := by omega
  have L := r_listen43 d mb x a f w r act T (wrapI (w 1 * w 8 - w 7 - 1) (100 * w 8)).toNatClampNeg (100 * w 8).toNatClampNeg (r 2).toNatClampNeg (T * 100 * (r 2).toNatClampNeg + 1) hT hG1 (by omega) (by omega) (by omega) (by omega) (by
    have := mul_ge (T * 100 * (r 2).toNatClampNeg + 1) _ hG1
    omega)
  rw [← ti_nat (x := r 2) (by omega), ← ti_nat (x := 100 * w 8) (by omega), ← ti_nat (x := wrapI (w 1 * w 8 - w 7 - 1) (100 * w 8)) (by omega)] at L
  exact L
set_option maxRecDepth 100000 in
theorem p_stage43 (w0 w r : Nat → Int32) (act gear : Int32) (T : Nat) (hT : T ≤ 60) (hn : x 17 3 ≤ 5) (h8 : 0 < w0 8) (hw : w = rW w0 (downX (w0 0) (w0 6) (x 17 1) gear (x 17 3) (a 18))) (h : RO w r) : ab_Ex (d + 3) 0 yX2_passStage [vR 43 0, vI act, vI gear, vI (nI T)] (hX mb (mS (mS x 44 w0) 43 r) a f) none (hX mb (mS (mS x 44 (psW act T ((psR (okP act (r 3) w (x 17 8) (a 21 3) (a 21 1) (a 21 0)) act T w r) 2) w)) 43 (psT T (psR (okP act (r 3) w (x 17 8) (a 21 3) (a 21 1) (a 21 0)) act T w r))) a f) := by
  refine ab_meth oX2_passStage (d + 2) _ _ _ _ (Nat.le_refl _) rfl (fun E => ?_)
  have H62 : ∀ r1 : Nat → Int32, r1 = psR (okP act (r 3) w (x 17 8) (a 21 3) (a 21 1) (a 21 0)) act T w r → ab_W jX2_passStage (d + 2) E (hX mb (mS (mS x 44 w0) 43 r) a f) 70 (fun v1 h1 => v1 = none ∧ h1 = (hX mb (mS (mS x 44 (psW act T ((psR (okP act (r 3) w (x 17 8) (a 21 3) (a 21 1) (a 21 0)) act T w r) 2) w)) 43 (psT T (psR (okP act (r 3) w (x 17 8) (a 21 3) (a 21 1) (a 21 0)) act T w r))) a f)) (ab_at iX2_passStage 62) [(0, vR 43 0), (1, vI act), (2, vI gear), (3, vI (nI T))] [] (hX mb (mS (mS x 44 w) 43 r1) a f) := by
    intro r1 hr1
    refine ab_run [] 100 oX2_passStage.1 (Nat.le_refl _) 62 ?_
    refine ⟨_, _, r_partsInStep43 d mb x a f w r1 act, Nat.le_refl _, ?_⟩
    refine ⟨_, _, f_move d (b := 44) (o := 0) (v := w) (Nat.le_refl _) (ok44 mb a f _) rfl _, Nat.le_refl _, ?_⟩
    refine ⟨rfl, ?_⟩
    rw [← hr1]
    rfl
  refine ab_run [62] 100 oX2_passStage.1 (Nat.le_refl _) 0 ?_
  have hsh := r_shift43 (d) mb x a f w0 r hn h8 gear
  rw [← hw] at hsh
  refine ⟨_, _, hsh, Nat.le_refl _, ?_⟩
  refine ⟨fun c1 => ?_, fun c1 => ?_⟩
  · have c1 : ¬ w 0 = 4 := c1
    refine ⟨fun c2 => ?_, fun c2 => ?_⟩
    · refine H62 r ?_
      rw [psR, if_neg c1, if_neg (le_nlt c2)]
    · refine ⟨_, _, f_parts d (b := 44) (o := 0) (v := w) (Nat.le_refl _) (ok44 mb a f _) rfl, Nat.le_refl _, ?_⟩
      refine ⟨_, _, p_listen43 d mb x a f w r act T hT h, Nat.le_refl _, ?_⟩
      refine H62 _ ?_
      rw [psR, if_neg c1, if_pos (nle_lt c2)]
  · have c1 : w 0 = 4 := c1
    refine ⟨_, _, r_listen43 d mb x a f w r act T 25 50 1 (T * 100 * 1 + 1) hT (by decide) (by decide) (by decide) (by decide) (by decide) (by omega), Nat.le_refl _, ?_⟩
    refine H62 _ ?_
    rw [psR, if_pos c1]
end Stage43
end
section
theorem mS_self (A : mA) (k i : Nat) : mS A k (upd (A k) i (A k i)) = A := by
  funext j
  unfold mS
  split
  · rename_i h
    subst h
    funext q
    by_cases hq : q = i <;> simp [upd, hq]
  · rfl
def ahdI (place by_ wh : Int32) : Int32 := if ab_rem (place * by_ - wh + 100 * by_) (100 * by_) = 0 then 100 * by_ else ab_rem (place * by_ - wh + 100 * by_) (100 * by_)
def cbW (act kind up by_ wh : Int32) : Int32 := if act = 5 then wh else if act = 4 then (if kind = 0 ∨ kind = 5 ∨ kind = 6 ∨ kind = 7 then ab_rem (wh + 100 * by_ - up) (100 * by_) else wh) else ab_rem (wh + up) (100 * by_)
def cbR (act place up by_ wh : Int32) : Int32 := if act = 5 then 0 else if act = 4 then 0 else bI (ahdI place by_ wh ≤ up)
theorem cbR_01 (act place up by_ wh : Int32) : cbR act place up by_ wh = 0 ∨ cbR act place up by_ wh = 1 := by
  unfold cbR
  split
  · exact Or.inl rfl
  · split
    · exact Or.inl rfl
    · exact bI_01 _
def silM (kind t oiled oil shoe : Int32) : Int32 := bI ((kind = 5 ∧ 0 ≤ oiled ∧ t - oiled < oil) ∨ (¬ kind = 5 ∧ kind = 7 ∧ shoe = 1))
def drwS (z : Int32) : Int32 := z * 1664525 + 1013904223
def drwM (z slips : Int32) : Int32 := if ab_rem ((z &&& 2147483647) / 256) 100 < slips then 1 else 0
section MStep
variable (d : Nat) (g : mG) (A : mA) (xs : List AB)
set_option maxRecDepth 100000 in
theorem m_comesBy (i : Nat) (hi : i < 8) (act : Int32) (hby : ¬ 100 * A 8 i = 0) : ab_Ex (d + 3) 0 yX5_comesBy [vR 0 0, vI (nI i), vI act] (hM g A xs) (some (vI (cbR act (A 2 (16 + 9 * i + 1)) (upI (A 2 (16 + 9 * i)) (A 2 (16 + 9 * i + 5)) (A 2 0)) (A 8 i) (A 7 i)))) (hM g (mS A 7 (upd (A 7) i (cbW act (A 2 (16 + 9 * i)) (upI (A 2 (16 + 9 * i)) (A 2 (16 + 9 * i + 5)) (A 2 0)) (A 8 i) (A 7 i)))) xs) := by
  have hci : (nI i).toNatClampNeg = i := nI_clamp (by omega)
  have hin : vp_in (nI i) 8 := vp_in_nI hi (by omega)
  refine ab_meth oX5_comesBy (d + 2) _ _ _ _ (Nat.le_refl _) rfl (fun E => ?_)
  refine ab_run [55, 118] 100 oX5_comesBy.1 (Nat.le_refl _) 0 ?_
  unfold cbR cbW
  refine ⟨fun c1 => ?_, fun c1 => ?_⟩
  · refine ⟨hin, ?_⟩
    rw [hci]
    refine ⟨_, _, m_get0 (d + 1) g A xs i (by omega), Nat.le_refl _, ?_⟩
    have done4 : act = 4 → (A 2 (16 + 9 * i) = 0 ∨ A 2 (16 + 9 * i) = 5 ∨ A 2 (16 + 9 * i) = 6 ∨ A 2 (16 + 9 * i) = 7) → ab_W jX5_comesBy (d + 2) E (hM g A xs) 70 (fun v1 h1 => v1 = some (vI (if act = 5 then 0 else if act = 4 then 0 else bI (ahdI (A 2 (16 + 9 * i + 1)) (A 8 i) (A 7 i) ≤ upI (A 2 (16 + 9 * i)) (A 2 (16 + 9 * i + 5)) (A 2 0)))) ∧ h1 = hM g (mS A 7 (upd (A 7) i (if act = 5 then A 7 i else if act = 4 then (if A 2 (16 + 9 * i) = 0 ∨ A 2 (16 + 9 * i) = 5 ∨ A 2 (16 + 9 * i) = 6 ∨ A 2 (16 + 9 * i) = 7 then ab_rem (A 7 i + 100 * A 8 i - upI (A 2 (16 + 9 * i)) (A 2 (16 + 9 * i + 5)) (A 2 0)) (100 * A 8 i) else A 7 i) else ab_rem (A 7 i + upI (A 2 (16 + 9 * i)) (A 2 (16 + 9 * i + 5)) (A 2 0)) (100 * A 8 i)))) xs) (ab_at iX5_comesBy 55) [(4, vI (A 2 (16 + 9 * i))), (3, vI (100 * A 8 i)), (0, vR 0 0), (1, vI (nI i)), (2, vI act)] [] (hM g A xs) := by
      intro h4 hk
      refine ab_run [] 100 oX5_comesBy.1 (Nat.le_refl _) 55 ?_
      refine ⟨hin, ?_⟩
      rw [hci]
      refine ⟨_, _, m_upOf d g A xs i hi, Nat.le_refl _, ?_⟩
      refine ⟨hby, ?_⟩
      refine ⟨hin, ?_⟩
      refine ⟨Or.inl rfl, ?_, ?_⟩
      · rw [if_neg c1, if_pos h4]
      · rw [if_neg c1, if_pos h4, if_pos hk, hci]
        rfl
    refine ⟨fun c2 => ?_, fun c2 => ?_⟩
    · refine ⟨_, _, m_get (d + 1) g A xs i 1 (by omega), Nat.le_refl _, ?_⟩
      refine ⟨hin, ?_⟩
      refine ⟨hin, ?_⟩
      rw [hci]
      refine ⟨hby, ?_⟩
      have fin : ∀ v : Int32, v = ahdI (A 2 (16 + 9 * i + 1)) (A 8 i) (A 7 i) → ab_W jX5_comesBy (d + 2) E (hM g A xs) 70 (fun v1 h1 => v1 = some (vI (if act = 5 then 0 else if act = 4 then 0 else bI (ahdI (A 2 (16 + 9 * i + 1)) (A 8 i) (A 7 i) ≤ upI (A 2 (16 + 9 * i)) (A 2 (16 + 9 * i + 5)) (A 2 0)))) ∧ h1 = hM g (mS A 7 (upd (A 7) i (if act = 5 then A 7 i else if act = 4 then (if A 2 (16 + 9 * i) = 0 ∨ A 2 (16 + 9 * i) = 5 ∨ A 2 (16 + 9 * i) = 6 ∨ A 2 (16 + 9 * i) = 7 then ab_rem (A 7 i + 100 * A 8 i - upI (A 2 (16 + 9 * i)) (A 2 (16 + 9 * i + 5)) (A 2 0)) (100 * A 8 i) else A 7 i) else ab_rem (A 7 i + upI (A 2 (16 + 9 * i)) (A 2 (16 + 9 * i + 5)) (A 2 0)) (100 * A 8 i)))) xs) (ab_at iX5_comesBy 118) [(5, vI v), (4, vI (A 2 (16 + 9 * i))), (3, vI (100 * A 8 i)), (0, vR 0 0), (1, vI (nI i)), (2, vI act)] [] (hM g A xs) := by
        intro v hv
        refine ab_run [] 100 oX5_comesBy.1 (Nat.le_refl _) 118 ?_
        refine ⟨hin, ?_⟩
        rw [hci]
        refine ⟨_, _, m_upOf d g A xs i hi, Nat.le_refl _, ?_⟩
        refine ⟨hby, ?_⟩
        refine ⟨hin, ?_⟩
        rw [hci]
        refine ⟨_, _, m_upOf d g (mS A 7 (upd (A 7) i (ab_rem (A 7 i + upI (A 2 (16 + 9 * i)) (A 2 (16 + 9 * i + 5)) (A 2 0)) (100 * A 8 i)))) xs i hi, Nat.le_refl _, ?_⟩
        refine ⟨fun c3 => ?_, fun c3 => ?_⟩
        · refine ⟨Or.inl rfl, ?_, ?_⟩
          · rw [if_neg c1, if_neg c2, ← hv]
            exact bI_fs (lt_nle c3)
          · rw [if_neg c1, if_neg c2]
        · refine ⟨Or.inr rfl, ?_, ?_⟩
          · rw [if_neg c1, if_neg c2, ← hv]
            exact bI_ts (nlt_le c3)
          · rw [if_neg c1, if_neg c2]
      refine ⟨fun c5 => ?_, fun c5 => ?_⟩
      · exact fin _ (by rw [ahdI, if_neg c5])
      · exact fin _ (by rw [ahdI, if_pos c5])
    · refine ⟨fun c3 => done4 c2 (Or.inl c3), fun c3 => ?_⟩
      refine ⟨fun c4 => done4 c2 (Or.inr (Or.inl c4)), fun c4 => ?_⟩
      refine ⟨fun c5 => done4 c2 (Or.inr (Or.inr (Or.inl c5))), fun c5 => ?_⟩
      refine ⟨fun c6 => ?_, fun c6 => done4 c2 (Or.inr (Or.inr (Or.inr c6)))⟩
      refine ⟨Or.inl rfl, ?_, ?_⟩
      · rw [if_neg c1, if_pos c2]
      · rw [if_neg c1, if_pos c2, if_neg (fun q => q.elim c3 (fun q => q.elim c4 (fun q => q.elim c5 c6))), mS_self]
  · refine ⟨Or.inl rfl, ?_, ?_⟩
    · rw [if_pos c1]
    · rw [if_pos c1, mS_self]
theorem m_isSilent (i : Nat) (hi : i < 8) : ab_Ex (d + 2) 0 yX5_isSilent [vR 0 0, vI (nI i)] (hM g A xs) (some (vI (silM (A 2 (16 + 9 * i)) (g 12) (A 2 6) (A 2 10) (A 2 8)))) (hM g A xs) := by
  refine ab_meth oX5_isSilent (d + 1) _ _ _ _ (Nat.le_refl _) rfl (fun E => ?_)
  refine ab_run [] 100 oX5_isSilent.1 (Nat.le_refl _) 0 ?_
  have g0 := m_get0 d g A xs i (by omega)
  unfold silM
  refine ⟨_, _, g0, Nat.le_refl _, fun c1 => ?_, fun c1 => ?_⟩
  · refine ⟨_, _, g0, Nat.le_refl _, fun c2 => ?_, fun c2 => ?_⟩
    · exact ⟨Or.inl rfl, bI_fs (fun q => q.elim (fun z => c1 z.1) (fun z => c2 z.2.1)), rfl⟩
    · refine ⟨vp_d rfl, fun c3 => ?_, fun c3 => ?_⟩
      · exact ⟨Or.inl rfl, bI_fs (fun q => q.elim (fun z => c1 z.1) (fun z => c3 z.2.2)), rfl⟩
      · exact ⟨Or.inr rfl, bI_ts (Or.inr ⟨c1, c2, c3⟩), rfl⟩
  · refine ⟨vp_d rfl, fun c2 => ?_, fun c2 => ?_⟩
    · exact ⟨Or.inl rfl, bI_fs (fun q => q.elim (fun z => le_nlt z.2.1 c2) (fun z => z.1 c1)), rfl⟩
    · refine ⟨vp_d rfl, vp_d rfl, fun c3 => ?_, fun c3 => ?_⟩
      · exact ⟨Or.inl rfl, bI_fs (fun q => q.elim (fun z => le_nlt c3 z.2.2) (fun z => z.1 c1)), rfl⟩
      · exact ⟨Or.inr rfl, bI_ts (Or.inl ⟨c1, nlt_le c2, nle_lt c3⟩), rfl⟩
/-- a click of the fault i -/
def ckG (g : mG) (A : mA) (i : Nat) : mG := if nI i = g 17 ∧ A 9 i = g 18 then upd g 19 (g 13) else g
def ckH (g : mG) (A : mA) (i : Nat) : mG := if g 16 = 0 then ckG g A i else upd (upd (ckG g A i) 14 (drwS (g 14))) 15 (g 15 + drwM (drwS (g 14)) (A 2 9))
def ckA (A : mA) (i : Nat) : mA := mS A 9 (upd (A 9) i (A 9 i + 1))
theorem ckG_n (g : mG) (A : mA) (i : Nat) {k : Nat} (h : k ≠ 19) : ckG g A i k = g k := by
  unfold ckG
  split <;> simp [upd, h]
set_option maxRecDepth 100000 in
theorem m_clicks (i : Nat) (hi : i < 8) : ab_Ex (d + 1) 0 yX5_clicks [vR 0 0, vI (nI i)] (hM g A xs) none (hM (ckH g A i) (ckA A i) xs) := by
  have hci : (nI i).toNatClampNeg = i := nI_clamp (by omega)
  have hin : vp_in (nI i) 8 := vp_in_nI hi (by omega)
  refine ab_meth oX5_clicks d _ _ _ _ (Nat.le_refl _) rfl (fun E => ?_)
  have H29 : ∀ g1 : mG, g1 = ckG g A i → ab_W jX5_clicks d E (hM g A xs) 70 (fun v1 h1 => v1 = none ∧ h1 = hM (ckH g A i) (ckA A i) xs) (ab_at iX5_clicks 29) [(0, vR 0 0), (1, vI (nI i))] [] (hM g1 A xs) := by
    intro g1 hg1
    have e16 : g1 16 = g 16 := by rw [hg1]; exact ckG_n g A i (by decide)
    have e14 : g1 14 = g 14 := by rw [hg1]; exact ckG_n g A i (by decide)
    have e15 : g1 15 = g 15 := by rw [hg1]; exact ckG_n g A i (by decide)
    refine ab_run [] 100 oX5_clicks.1 (Nat.le_refl _) 29 ?_
    refine ⟨hin, hin, ?_⟩
    rw [hci]
    refine ⟨fun c1 => ?_, fun c1 => ?_⟩
    · refine ⟨by decide, by decide, vp_d rfl, fun c2 => ?_, fun c2 => ?_⟩
      · refine ⟨rfl, ?_⟩
        have c1 : ¬ g1 16 = 0 := c1
        rw [e16] at c1
        have c2 : A 2 9 ≤ ab_rem ((drwS (g1 14) &&& 2147483647) / 256) 100 := c2
        have ed : drwM (drwS (g1 14)) (A 2 9) = 0 := by rw [drwM, if_neg (le_nlt c2)]
        rw [ckH, if_neg c1, ← hg1, ← e14, ← e15, ed]
        rfl
      · refine ⟨rfl, ?_⟩
        have c1 : ¬ g1 16 = 0 := c1
        rw [e16] at c1
        have c2 : ¬ A 2 9 ≤ ab_rem ((drwS (g1 14) &&& 2147483647) / 256) 100 := c2
        have ed : drwM (drwS (g1 14)) (A 2 9) = 1 := by rw [drwM, if_pos (nle_lt c2)]
        rw [ckH, if_neg c1, ← hg1, ← e14, ← e15, ed]
        rfl
    · refine ⟨rfl, ?_⟩
      have c1 : g1 16 = 0 := c1
      rw [e16] at c1
      rw [ckH, if_pos c1, ← hg1]
      rfl
  refine ab_run [29] 100 oX5_clicks.1 (Nat.le_refl _) 0 ?_
  refine ⟨fun c1 => ?_, fun c1 => ?_⟩
  · exact H29 g (by rw [ckG, if_neg (fun q => c1 q.1)])
  refine ⟨hin, ?_⟩
  rw [hci]
  refine ⟨fun c2 => ?_, fun c2 => ?_⟩
  · exact H29 g (by rw [ckG, if_neg (fun q => c2 q.2)])
  · exact H29 _ (by rw [ckG, if_pos ⟨c1, c2⟩])
end MStep
end
section
abbrev mGA : Type := mG × mA
def nowM (step kind cb : Int32) : Int32 := if kind = 4 then bI (step = 25 ∨ step = 75) else cb
def upM (A : mA) (i : Nat) : Int32 := upI (A 2 (16 + 9 * i)) (A 2 (16 + 9 * i + 5)) (A 2 0)
def ckP (act step : Int32) (g : mG) (A : mA) (i : Nat) : Prop := ¬ nowM step (A 2 (16 + 9 * i)) (cbR act (A 2 (16 + 9 * i + 1)) (upM A i) (A 8 i) (A 7 i)) = 0 ∧ limI (A 2 (16 + 9 * i)) (A 2 (16 + 9 * i + 2)) (g 12) ≤ loadI act step (A 2 7) ∧ silM (A 2 (16 + 9 * i)) (g 12) (A 2 6) (A 2 10) (A 2 8) = 0
def gsW (act : Int32) (A : mA) (i : Nat) : mA := mS A 7 (upd (A 7) i (cbW act (A 2 (16 + 9 * i)) (upM A i) (A 8 i) (A 7 i)))
noncomputable def gsF (act step : Int32) (i : Nat) (q : mGA) : mGA := @ite _ (ckP act step q.1 q.2 i) (Classical.propDecidable _) (ckH q.1 (gsW act q.2 i) i, ckA (gsW act q.2 i) i) (q.1, gsW act q.2 i)
noncomputable def gsN (act step : Int32) : Nat → mGA → mGA
  | 0, q => q
  | n + 1, q => gsF act step n (gsN act step n q)
theorem mS_ne (A : mA) (k : Nat) (f : Nat → Int32) {j : Nat} (h : j ≠ k) : mS A k f j = A j := if_neg h
theorem mS_eq (A : mA) (k : Nat) (f : Nat → Int32) : mS A k f k = f := if_pos rfl
theorem ckH_n (g : mG) (A : mA) (i : Nat) {k : Nat} (h : k ≠ 19) (h14 : k ≠ 14) (h15 : k ≠ 15) : ckH g A i k = g k := by
  unfold ckH
  split
  · exact ckG_n g A i h
  · simp [upd, h14, h15, ckG_n g A i h]
theorem gsF_A (act step : Int32) (i : Nat) (q : mGA) {j : Nat} (h7 : j ≠ 7) (h9 : j ≠ 9) : (gsF act step i q).2 j = q.2 j := by
  unfold gsF
  split
  · show mS (gsW act q.2 i) 9 _ j = _
    rw [mS_ne _ _ _ h9]
    exact mS_ne _ _ _ h7
  · exact mS_ne _ _ _ h7
theorem gsF_g (act step : Int32) (i : Nat) (q : mGA) {k : Nat} (h : k ≠ 19) (h14 : k ≠ 14) (h15 : k ≠ 15) : (gsF act step i q).1 k = q.1 k := by
  unfold gsF
  split
  · exact ckH_n _ _ _ h h14 h15
  · rfl
theorem gsN_A (act step : Int32) (n : Nat) (q : mGA) {j : Nat} (h7 : j ≠ 7) (h9 : j ≠ 9) : (gsN act step n q).2 j = q.2 j := by
  induction n with
  | zero => rfl
  | succ n ih => exact (gsF_A act step n _ h7 h9).trans ih
theorem gsN_g (act step : Int32) (n : Nat) (q : mGA) {k : Nat} (h : k ≠ 19) (h14 : k ≠ 14) (h15 : k ≠ 15) : (gsN act step n q).1 k = q.1 k := by
  induction n with
  | zero => rfl
  | succ n ih => exact (gsF_g act step n _ h h14 h15).trans ih
/-- a step of all faults -/
noncomputable def gsS (m : Nat) (act step : Int32) (q : mGA) : mGA := (upd (gsN act step m q).1 13 ((gsN act step m q).1 13 + 1), (gsN act step m q).2)
section MRide
variable (d : Nat) (xs : List AB)
set_option maxHeartbeats 2000000 in
set_option maxRecDepth 100000 in
theorem m_goesStep (g : mG) (A : mA) {m : Nat} (hm : A 2 3 = nI m) (hm8 : m ≤ 8) (act step : Int32) (hby : ∀ i, i < m → ¬ 100 * A 8 i = 0) : ab_Ex (d + 4) 0 yX5_goesStep [vR 0 0, vI act, vI step] (hM g A xs) none (hM (gsS m act step (g, A)).1 (gsS m act step (g, A)).2 xs) := by
  refine ab_meth oX5_goesStep (d + 3) _ _ _ _ (Nat.le_refl _) rfl (fun E => ?_)
  have loop : ∀ (k i : Nat) (gi : mG) (Ai : mA), i + k = m → (gi, Ai) = gsN act step i (g, A) → ab_W jX5_goesStep (d + 3) E (hM g A xs) 70 (fun v1 h1 => v1 = none ∧ h1 = hM (gsS m act step (g, A)).1 (gsS m act step (g, A)).2 xs) (ab_at iX5_goesStep 10) [(4, vI (nI i)), (3, vI (loadI act step (A 2 7))), (0, vR 0 0), (1, vI act), (2, vI step)] [] (hM gi Ai xs) := by
    intro k
    induction k with
    | zero =>
      intro i gi Ai hi hq
      have e2 : Ai 2 = A 2 := by
        have := gsN_A act step i (g, A) (j := 2) (by decide) (by decide)
        rw [← hq] at this
        exact this
      refine ab_run [10] 100 oX5_goesStep.1 (Nat.le_refl _) 10 ?_
      refine ⟨vp_d rfl, fun c1 => ?_, fun c1 => ?_⟩
      · refine ⟨rfl, ?_⟩
        have him : i = m := by omega
        subst him
        unfold gsS
        rw [← hq]
        rfl
      · have c1 : ¬ Ai 2 3 ≤ nI i := c1
        rw [e2, hm] at c1
        exact absurd (nI_le (by omega) (by omega)) c1
    | succ k ih =>
      intro i gi Ai hi hq
      have e2 : Ai 2 = A 2 := by
        have := gsN_A act step i (g, A) (j := 2) (by decide) (by decide)
        rw [← hq] at this
        exact this
      have e8 : Ai 8 = A 8 := by
        have := gsN_A act step i (g, A) (j := 8) (by decide) (by decide)
        rw [← hq] at this
        exact this
      have hi8 : i < 8 := by omega
      have nxt : ∀ (g2 : mG) (A2 : mA), (g2, A2) = gsF act step i (gi, Ai) → ab_W jX5_goesStep (d + 3) E (hM g A xs) 70 (fun v1 h1 => v1 = none ∧ h1 = hM (gsS m act step (g, A)).1 (gsS m act step (g, A)).2 xs) (ab_at iX5_goesStep 10) [(4, vI (nI i + 1)), (3, vI (loadI act step (A 2 7))), (0, vR 0 0), (1, vI act), (2, vI step)] [] (hM g2 A2 xs) := by
        intro g2 A2 h2
        rw [← nI_succ]
        refine ih (i + 1) g2 A2 (by omega) ?_
        rw [h2, hq]
        rfl
      have H63 : ∀ v cb : Int32, v = nowM step (Ai 2 (16 + 9 * i)) (cbR act (Ai 2 (16 + 9 * i + 1)) (upM Ai i) (Ai 8 i) (Ai 7 i)) → ab_W jX5_goesStep (d + 3) E (hM g A xs) 70 (fun v1 h1 => v1 = none ∧ h1 = hM (gsS m act step (g, A)).1 (gsS m act step (g, A)).2 xs) (ab_at iX5_goesStep 63) [(5, vI cb), (4, vI (nI i)), (3, vI (loadI act step (A 2 7))), (0, vR 0 0), (1, vI act), (2, vI step)] [vI v] (hM gi (gsW act Ai i) xs) := by
        intro v cb hv
        refine ab_run [10] 100 oX5_goesStep.1 (Nat.le_refl _) 63 ?_
        refine ⟨fun c1 => ?_, fun c1 => ?_⟩
        · refine ab_W_lv (lv_pk [0, 3, 4, 5, 6] rfl) (nxt gi (gsW act Ai i) ?_)
          rw [gsF, if_neg]
          intro q
          exact q.1 (hv.symm.trans c1)
        refine ⟨_, _, m_limitOf (d + 1) gi (gsW act Ai i) xs i hi8 (gi 12), Nat.le_refl _, ?_⟩
        refine ⟨fun c2 => ?_, fun c2 => ?_⟩
        · have c2 : loadI act step (A 2 7) < limI (Ai 2 (16 + 9 * i)) (Ai 2 (16 + 9 * i + 2)) (gi 12) := c2
          refine ab_W_lv (lv_pk [0, 3, 4, 5, 6] rfl) (nxt gi (gsW act Ai i) ?_)
          rw [gsF, if_neg]
          intro q
          rw [← e2] at c2
          exact le_nlt q.2.1 c2
        have c2 : ¬ loadI act step (A 2 7) < limI (Ai 2 (16 + 9 * i)) (Ai 2 (16 + 9 * i + 2)) (gi 12) := c2
        refine ⟨_, _, m_isSilent (d + 1) gi (gsW act Ai i) xs i hi8, Nat.le_refl _, ?_⟩
        refine ⟨fun c3 => ?_, fun c3 => ?_⟩
        · refine ab_W_lv (lv_pk [0, 3, 4, 5, 6] rfl) (nxt gi (gsW act Ai i) ?_)
          rw [gsF, if_neg]
          intro q
          exact c3 q.2.2
        · refine ⟨_, _, m_clicks (d + 2) gi (gsW act Ai i) xs i hi8, Nat.le_refl _, ?_⟩
          refine ab_W_lv (lv_pk [0, 3, 4, 5, 6] rfl) (nxt (ckH gi (gsW act Ai i) i) (ckA (gsW act Ai i) i) ?_)
          rw [gsF, if_pos]
          refine ⟨?_, ?_, c3⟩
          · rw [← hv]
            exact c1
          · rw [← e2] at c2
            exact nlt_le c2
      refine ab_run [10, 63] 100 oX5_goesStep.1 (Nat.le_refl _) 10 ?_
      refine ⟨vp_d rfl, fun c1 => ?_, fun c1 => ?_⟩
      · have c1 : Ai 2 3 ≤ nI i := c1
        rw [e2, hm] at c1
        exact absurd c1 (nI_lt_m (by omega) (by omega))
      refine ⟨_, _, m_comesBy d gi Ai xs i hi8 act (by rw [e8]; exact hby i (by omega)), Nat.le_refl _, ?_⟩
      refine ⟨_, _, m_get0 (d + 2) gi (gsW act Ai i) xs i (by omega), Nat.le_refl _, ?_⟩
      refine ⟨fun c2 => ?_, fun c2 => ?_⟩
      · have c2 : ¬ Ai 2 (16 + 9 * i) = 4 := c2
        exact H63 _ _ (by rw [nowM, if_neg c2]; rfl)
      · have c2 : Ai 2 (16 + 9 * i) = 4 := c2
        refine ⟨fun c3 => ?_, fun c3 => ?_⟩
        · exact H63 1 _ (by rw [nowM, if_pos c2, bI_t (Or.inl c3)])
        refine ⟨fun c4 => ?_, fun c4 => ?_⟩
        · exact H63 0 _ (by rw [nowM, if_pos c2, bI_f (fun q => q.elim c3 c4)])
        · exact H63 1 _ (by rw [nowM, if_pos c2, bI_t (Or.inr c4)])
  refine ab_run [10] 100 oX5_goesStep.1 (Nat.le_refl _) 0 ?_
  refine ⟨_, _, m_loadOf (d + 2) g A xs act step, Nat.le_refl _, ?_⟩
  exact loop m 0 g A (by omega) rfl
end MRide
end
section
def dnM (A : mA) (w i : Nat) : Int32 := downI (A 2 (16 + 9 * i)) (A 2 (16 + 9 * i + 6)) (A 2 1) (A 2 (11 + w))
def opF (w i : Nat) (A : mA) : mA := mS (mS A 7 (upd (A 7) i (A 7 i * dnM A w i / A 8 i))) 8 (upd (A 8) i (dnM A w i))
def opN (w : Nat) : Nat → mA → mA
  | 0, A => A
  | n + 1, A => opF w n (opN w n A)
theorem opF_n (w i : Nat) (A : mA) {j : Nat} (h7 : j ≠ 7) (h8 : j ≠ 8) : opF w i A j = A j := by
  unfold opF
  rw [mS_ne _ _ _ h8, mS_ne _ _ _ h7]
theorem opN_n (w n : Nat) (A : mA) {j : Nat} (h7 : j ≠ 7) (h8 : j ≠ 8) : opN w n A j = A j := by
  induction n with
  | zero => rfl
  | succ n ih => exact (opF_n w n _ h7 h8).trans ih
theorem opN_hi (w n : Nat) (A : mA) {i : Nat} (h : n ≤ i) : opN w n A 8 i = A 8 i ∧ opN w n A 7 i = A 7 i := by
  induction n with
  | zero => exact ⟨rfl, rfl⟩
  | succ n ih =>
    have h2 := ih (by omega)
    constructor
    · show opF w n (opN w n A) 8 i = _
      unfold opF
      rw [mS_eq]
      show (if i = n then _ else opN w n A 8 i) = _
      rw [if_neg (by omega)]
      exact h2.1
    · show opF w n (opN w n A) 7 i = _
      unfold opF
      rw [mS_ne _ _ _ (by decide), mS_eq]
      show (if i = n then _ else opN w n A 7 i) = _
      rw [if_neg (by omega)]
      exact h2.2
noncomputable def tuN (m : Nat) (act : Int32) : Nat → mGA → mGA
  | 0, q => q
  | n + 1, q => gsS m act (nI n) (tuN m act n q)
noncomputable def tuT (m : Nat) (act : Int32) (q : mGA) : mGA := (upd (tuN m act 100 q).1 12 ((tuN m act 100 q).1 12 + 1), (tuN m act 100 q).2)
noncomputable def sgN (m : Nat) (act : Int32) : Nat → mGA → mGA
  | 0, q => q
  | n + 1, q => tuT m act (sgN m act n q)
theorem gsS_A (m : Nat) (act step : Int32) (q : mGA) {j : Nat} (h7 : j ≠ 7) (h9 : j ≠ 9) : (gsS m act step q).2 j = q.2 j := gsN_A act step m q h7 h9
theorem tuN_A (m : Nat) (act : Int32) (n : Nat) (q : mGA) {j : Nat} (h7 : j ≠ 7) (h9 : j ≠ 9) : (tuN m act n q).2 j = q.2 j := by
  induction n with
  | zero => rfl
  | succ n ih => exact (gsS_A m act _ _ h7 h9).trans ih
theorem tuT_A (m : Nat) (act : Int32) (q : mGA) {j : Nat} (h7 : j ≠ 7) (h9 : j ≠ 9) : (tuT m act q).2 j = q.2 j := tuN_A m act 100 q h7 h9
theorem sgN_A (m : Nat) (act : Int32) (n : Nat) (q : mGA) {j : Nat} (h7 : j ≠ 7) (h9 : j ≠ 9) : (sgN m act n q).2 j = q.2 j := by
  induction n with
  | zero => rfl
  | succ n ih => exact (tuT_A m act _ h7 h9).trans ih
section MStage
variable (d : Nat) (xs : List AB)
set_option maxRecDepth 100000 in
theorem m_opensStage (g : mG) (A : mA) {m w : Nat} (hm : A 2 3 = nI m) (hm8 : m ≤ 8) (hw : w < 5) (hby : ∀ i, i < m → ¬ A 8 i = 0) : ab_Ex (d + 3) 0 yX5_opensStage [vR 0 0, vI (nI w)] (hM g A xs) none (hM g (opN w m A) xs) := by
  refine ab_meth oX5_opensStage (d + 2) _ _ _ _ (Nat.le_refl _) rfl (fun E => ?_)
  have loop : ∀ (k i : Nat), i + k = m → ∀ lv3 : Lv, ab_W jX5_opensStage (d + 2) E (hM g A xs) 70 (fun v1 h1 => v1 = none ∧ h1 = hM g (opN w m A) xs) (ab_at iX5_opensStage 2) ((2, vI (nI i)) :: (0, vR 0 0) :: (1, vI (nI w)) :: []) [] (hM g (opN w i A) xs) := by
    intro k
    induction k with
    | zero =>
      intro i hi _
      refine ab_run [2] 100 oX5_opensStage.1 (Nat.le_refl _) 2 ?_
      refine ⟨vp_d rfl, fun c1 => ?_, fun c1 => ?_⟩
      · refine ⟨rfl, ?_⟩
        rw [show i = m by omega]
      · have c1 : ¬ opN w i A 2 3 ≤ nI i := c1
        rw [opN_n w i A (by decide) (by decide), hm] at c1
        exact absurd (nI_le (by omega) (by omega)) c1
    | succ k ih =>
      intro i hi _
      have hci : (nI i).toNatClampNeg = i := nI_clamp (by omega)
      have hin : vp_in (nI i) 8 := vp_in_nI (by omega) (by omega)
      refine ab_run [2] 100 oX5_opensStage.1 (Nat.le_refl _) 2 ?_
      refine ⟨vp_d rfl, fun c1 => ?_, fun c1 => ?_⟩
      · have c1 : opN w i A 2 3 ≤ nI i := c1
        rw [opN_n w i A (by decide) (by decide), hm] at c1
        exact absurd c1 (nI_lt_m (by omega) (by omega))
      refine ⟨_, _, m_downOf d g (opN w i A) xs i (by omega) w hw, Nat.le_refl _, ?_⟩
      refine ⟨hin, hin, ?_, hin, hin, ?_⟩
      · rw [hci]
        show ¬ opN w i A 8 i = 0
        rw [(opN_hi w i A (Nat.le_refl i)).1]
        exact hby i (by omega)
      · have h9 := ih (i + 1) (by omega) []
        rw [nI_succ] at h9
        rw [hci]
        exact ab_W_lv (lv_pk [0, 2, 3] rfl) h9
  refine ab_run [2] 100 oX5_opensStage.1 (Nat.le_refl _) 0 ?_
  exact loop m 0 (by omega) []
set_option maxRecDepth 100000 in
theorem m_goesStage (g : mG) (A : mA) {m w n : Nat} (hm : A 2 3 = nI m) (hm8 : m ≤ 8) (hw : w < 5) (hn : n ≤ 60) (hby : ∀ i, i < m → ¬ A 8 i = 0) (hdn : ∀ i, i < m → ¬ 100 * opN w m A 8 i = 0) (act : Int32) : ab_Ex (d + 5) 0 yX5_goesStage [vR 0 0, vI act, vI (nI w), vI (nI n)] (hM g A xs) none (hM (sgN m act n (g, opN w m A)).1 (sgN m act n (g, opN w m A)).2 xs) := by
  refine ab_meth oX5_goesStage (d + 4) _ _ _ _ (Nat.le_refl _) rfl (fun E => ?_)
  have inner : ∀ (t : Nat), (∀ (gt : mG) (At : mA), (gt, At) = sgN m act (t + 1) (g, opN w m A) → ab_W jX5_goesStage (d + 4) E (hM g A xs) 70 (fun v1 h1 => v1 = none ∧ h1 = hM (sgN m act n (g, opN w m A)).1 (sgN m act n (g, opN w m A)).2 xs) (ab_at iX5_goesStage 8) [(4, vI (nI t + 1)), (0, vR 0 0), (1, vI act), (2, vI (nI w)), (3, vI (nI n))] [] (hM gt At xs)) →
      ∀ (k i : Nat) (gi : mG) (Ai : mA), i + k = 100 → (gi, Ai) = tuN m act i (sgN m act t (g, opN w m A)) → ab_W jX5_goesStage (d + 4) E (hM g A xs) 70 (fun v1 h1 => v1 = none ∧ h1 = hM (sgN m act n (g, opN w m A)).1 (sgN m act n (g, opN w m A)).2 xs) (ab_at iX5_goesStage 17) [(5, vI (nI i)), (4, vI (nI t)), (0, vR 0 0), (1, vI act), (2, vI (nI w)), (3, vI (nI n))] [] (hM gi Ai xs) := by
    intro t hout k
    induction k with
    | zero =>
      intro i gi Ai hi hq
      refine ab_run [8, 17] 100 oX5_goesStage.1 (Nat.le_refl _) 17 ?_
      refine ⟨fun c1 => ?_, fun c1 => ?_⟩
      · refine ab_W_lv (lv_pk [0, 2, 3, 4, 5] rfl) (hout (upd gi 12 (gi 12 + 1)) Ai ?_)
        have h100 : i = 100 := by omega
        subst h100
        show _ = tuT m act (sgN m act t (g, opN w m A))
        unfold tuT
        rw [← hq]
      · exact absurd (nI_le (a := 100) (b := i) (by omega) (by omega)) c1
    | succ k ih =>
      intro i gi Ai hi hq
      have e2 : Ai 2 = A 2 := by
        have h1 := tuN_A m act i (sgN m act t (g, opN w m A)) (j := 2) (by decide) (by decide)
        rw [← hq, sgN_A m act t (g, opN w m A) (j := 2) (by decide) (by decide)] at h1
        exact h1.trans (opN_n w m A (by decide) (by decide))
      have e8 : Ai 8 = opN w m A 8 := by
        have h1 := tuN_A m act i (sgN m act t (g, opN w m A)) (j := 8) (by decide) (by decide)
        rw [← hq, sgN_A m act t (g, opN w m A) (j := 8) (by decide) (by decide)] at h1
        exact h1
      refine ab_run [8, 17] 100 oX5_goesStage.1 (Nat.le_refl _) 17 ?_
      refine ⟨fun c1 => ?_, fun c1 => ?_⟩
      · exact absurd c1 (nI_ge (a := i) (b := 100) (by omega) (by omega))
      refine ⟨_, _, m_goesStep d xs gi Ai (m := m) (by rw [e2]; exact hm) hm8 act (nI i) (fun j hj => by rw [e8]; exact hdn j hj), Nat.le_refl _, ?_⟩
      have h9 := ih (i + 1) (gsS m act (nI i) (gi, Ai)).1 (gsS m act (nI i) (gi, Ai)).2 (by omega) (by rw [hq]; rfl)
      rw [nI_succ] at h9
      exact h9
  have outer : ∀ (k t : Nat) (gt : mG) (At : mA), t + k = n → (gt, At) = sgN m act t (g, opN w m A) → ab_W jX5_goesStage (d + 4) E (hM g A xs) 70 (fun v1 h1 => v1 = none ∧ h1 = hM (sgN m act n (g, opN w m A)).1 (sgN m act n (g, opN w m A)).2 xs) (ab_at iX5_goesStage 8) [(4, vI (nI t)), (0, vR 0 0), (1, vI act), (2, vI (nI w)), (3, vI (nI n))] [] (hM gt At xs) := by
    intro k
    induction k with
    | zero =>
      intro t gt At ht hq
      refine ab_run [8, 17] 100 oX5_goesStage.1 (Nat.le_refl _) 8 ?_
      refine ⟨fun c1 => ?_, fun c1 => ?_⟩
      · refine ⟨rfl, ?_⟩
        have htn : t = n := by omega
        subst htn
        rw [← hq]
      · exact absurd (nI_le (by omega) (by omega)) c1
    | succ k ih =>
      intro t gt At ht hq
      refine ab_run [8, 17] 100 oX5_goesStage.1 (Nat.le_refl _) 8 ?_
      refine ⟨fun c1 => ?_, fun c1 => ?_⟩
      · exact absurd c1 (nI_lt_m (by omega) (by omega))
      refine inner t ?_ 100 0 gt At (by omega) hq
      intro g2 A2 h2
      rw [← nI_succ]
      exact ih (t + 1) g2 A2 (by omega) h2
  refine ab_run [8, 17] 100 oX5_goesStage.1 (Nat.le_refl _) 0 ?_
  refine ⟨_, _, m_opensStage (d + 1) xs g A hm hm8 hw hby, Nat.le_refl _, ?_⟩
  exact outer n 0 g (opN w m A) (by omega) rfl
end MStage
end
section
theorem dnM_2 {A B : mA} (h : B 2 = A 2) (w i : Nat) : dnM B w i = dnM A w i := by
  unfold dnM
  rw [h]
theorem opN_lo (w n : Nat) (A : mA) {i : Nat} (h : i < n) : opN w n A 8 i = dnM A w i ∧ opN w n A 7 i = A 7 i * dnM A w i / A 8 i := by
  induction n with
  | zero => omega
  | succ n ih =>
    have e2 : dnM (opN w n A) w n = dnM A w n := dnM_2 (opN_n w n A (by decide) (by decide)) w n
    have h8 := opN_hi w n A (Nat.le_refl n)
    by_cases hin : i = n
    · subst hin
      constructor
      · show opF w i (opN w i A) 8 i = _
        unfold opF
        rw [mS_eq]
        show (if i = i then _ else _) = _
        rw [if_pos rfl, e2]
      · show opF w i (opN w i A) 7 i = _
        unfold opF
        rw [mS_ne _ _ _ (by decide), mS_eq]
        show (if i = i then _ else _) = _
        rw [if_pos rfl, e2, h8.1, h8.2]
    · have h2 := ih (by omega)
      constructor
      · show opF w n (opN w n A) 8 i = _
        unfold opF
        rw [mS_eq]
        show (if i = n then _ else opN w n A 8 i) = _
        rw [if_neg hin]
        exact h2.1
      · show opF w n (opN w n A) 7 i = _
        unfold opF
        rw [mS_ne _ _ _ (by decide), mS_eq]
        show (if i = n then _ else opN w n A 7 i) = _
        rw [if_neg hin]
        exact h2.2
def bgF (i : Nat) (A : mA) : mA := mS (mS (mS A 7 (upd (A 7) i (A 2 (16 + 9 * i + 7)))) 8 (upd (A 8) i (A 2 (16 + 9 * i + 8)))) 9 (upd (A 9) i 0)
def bgN : Nat → mA → mA
  | 0, A => A
  | n + 1, A => bgF n (bgN n A)
def bgG (g : mG) (A : mA) : mG := upd (upd (upd (upd (upd (upd g 12 (A 2 5)) 13 0) 15 0) 16 0) 17 (-9)) 19 (-9)
theorem bgF_n (i : Nat) (A : mA) {j : Nat} (h7 : j ≠ 7) (h8 : j ≠ 8) (h9 : j ≠ 9) : bgF i A j = A j := by
  unfold bgF
  rw [mS_ne _ _ _ h9, mS_ne _ _ _ h8, mS_ne _ _ _ h7]
theorem bgN_n (n : Nat) (A : mA) {j : Nat} (h7 : j ≠ 7) (h8 : j ≠ 8) (h9 : j ≠ 9) : bgN n A j = A j := by
  induction n with
  | zero => rfl
  | succ n ih => exact (bgF_n n _ h7 h8 h9).trans ih
theorem bgN_lo (n : Nat) (A : mA) {i : Nat} (h : i < n) : bgN n A 7 i = A 2 (16 + 9 * i + 7) ∧ bgN n A 8 i = A 2 (16 + 9 * i + 8) ∧ bgN n A 9 i = 0 := by
  induction n with
  | zero => omega
  | succ n ih =>
    have e2 : bgN n A 2 = A 2 := bgN_n n A (by decide) (by decide) (by decide)
    have p7 : bgN (n + 1) A 7 i = if i = n then A 2 (16 + 9 * n + 7) else bgN n A 7 i := by
      show bgF n (bgN n A) 7 i = _
      unfold bgF
      rw [mS_ne _ _ _ (by decide), mS_ne _ _ _ (by decide), mS_eq, e2]
      rfl
    have p8 : bgN (n + 1) A 8 i = if i = n then A 2 (16 + 9 * n + 8) else bgN n A 8 i := by
      show bgF n (bgN n A) 8 i = _
      unfold bgF
      rw [mS_ne _ _ _ (by decide), mS_eq, e2]
      rfl
    have p9 : bgN (n + 1) A 9 i = if i = n then 0 else bgN n A 9 i := by
      show bgF n (bgN n A) 9 i = _
      unfold bgF
      rw [mS_eq]
      rfl
    rw [p7, p8, p9]
    by_cases hin : i = n
    · subst hin
      simp
    · rw [if_neg hin, if_neg hin, if_neg hin]
      exact ih (by omega)
noncomputable def rsF (m i : Nat) (q : mGA) : mGA := sgN m (q.2 2 (88 + 3 * i)) (q.2 2 (88 + 3 * i + 2)).toNatClampNeg (q.1, opN (q.2 2 (88 + 3 * i + 1)).toNatClampNeg m q.2)
noncomputable def rsN (m : Nat) : Nat → mGA → mGA
  | 0, q => q
  | n + 1, q => rsF m n (rsN m n q)
theorem rsF_A (m i : Nat) (q : mGA) {j : Nat} (h7 : j ≠ 7) (h8 : j ≠ 8) (h9 : j ≠ 9) : (rsF m i q).2 j = q.2 j := by
  unfold rsF
  rw [sgN_A _ _ _ _ h7 h9]
  exact opN_n _ _ _ h7 h8
theorem rsN_A (m n : Nat) (q : mGA) {j : Nat} (h7 : j ≠ 7) (h8 : j ≠ 8) (h9 : j ≠ 9) : (rsN m n q).2 j = q.2 j := by
  induction n with
  | zero => rfl
  | succ n ih => exact (rsF_A m n _ h7 h8 h9).trans ih
/-- what a ride of the model needs of the numbers in s -/
def SOK (s : Nat → Int32) (m ns : Nat) (A : mA) : Prop := (∀ i, i < ns → ∃ w n : Nat, s (88 + 3 * i + 1) = nI w ∧ w < 5 ∧ s (88 + 3 * i + 2) = nI n ∧ n ≤ 60 ∧ ∀ j, j < m → ¬ dnM A w j = 0 ∧ ¬ 100 * dnM A w j = 0)
section MRides
variable (d : Nat) (xs : List AB)
set_option maxRecDepth 100000 in
theorem m_begins (g : mG) (A : mA) {m : Nat} (hm : A 2 3 = nI m) (hm8 : m ≤ 8) : ab_Ex (d + 2) 0 yX5_begins [vR 0 0] (hM g A xs) none (hM (bgG g A) (bgN m A) xs) := by
  refine ab_meth oX5_begins (d + 1) _ _ _ _ (Nat.le_refl _) rfl (fun E => ?_)
  have loop : ∀ (k i : Nat), i + k = m → ab_W jX5_begins (d + 1) E (hM g A xs) 70 (fun v1 h1 => v1 = none ∧ h1 = hM (bgG g A) (bgN m A) xs) (ab_at iX5_begins 2) [(1, vI (nI i)), (0, vR 0 0)] [] (hM g (bgN i A) xs) := by
    intro k
    induction k with
    | zero =>
      intro i hi
      have e2 : bgN i A 2 = A 2 := bgN_n i A (by decide) (by decide) (by decide)
      refine ab_run [2] 100 oX5_begins.1 (Nat.le_refl _) 2 ?_
      refine ⟨vp_d rfl, fun c1 => ?_, fun c1 => ?_⟩
      · refine ⟨vp_d rfl, Or.inl rfl, rfl, ?_⟩
        rw [show i = m by omega] at e2 ⊢
        unfold bgG
        rw [← e2]
        rfl
      · have c1 : ¬ bgN i A 2 3 ≤ nI i := c1
        rw [e2, hm] at c1
        exact absurd (nI_le (by omega) (by omega)) c1
    | succ k ih =>
      intro i hi
      have e2 : bgN i A 2 = A 2 := bgN_n i A (by decide) (by decide) (by decide)
      have hci : (nI i).toNatClampNeg = i := nI_clamp (by omega)
      have hin : vp_in (nI i) 8 := vp_in_nI (by omega) (by omega)
      refine ab_run [2] 100 oX5_begins.1 (Nat.le_refl _) 2 ?_
      refine ⟨vp_d rfl, fun c1 => ?_, fun c1 => ?_⟩
      · have c1 : bgN i A 2 3 ≤ nI i := c1
        rw [e2, hm] at c1
        exact absurd c1 (nI_lt_m (by omega) (by omega))
      refine ⟨_, _, m_get d g (bgN i A) xs i 7 (by omega), Nat.le_refl _, hin, ?_⟩
      rw [hci]
      refine ⟨_, _, m_get d g (mS (bgN i A) 7 (upd (bgN i A 7) i (bgN i A 2 (16 + 9 * i + 7)))) xs i 8 (by omega), Nat.le_refl _, hin, hin, ?_⟩
      rw [hci]
      have h9 := ih (i + 1) (by omega)
      rw [nI_succ] at h9
      exact h9
  refine ab_run [2] 100 oX5_begins.1 (Nat.le_refl _) 0 ?_
  exact loop m 0 (by omega)
theorem ix_s (i k : Nat) : (88 : Int32) + 3 * nI i + nI k = nI (88 + 3 * i + k) := by
  rw [show (88 : Int32) = nI 88 from rfl, show (3 : Int32) = nI 3 from rfl, pk_mul, nI_add, nI_add]
theorem ix_s0 (i : Nat) : (88 : Int32) + 3 * nI i = nI (88 + 3 * i) := by
  rw [show (88 : Int32) = nI 88 from rfl, show (3 : Int32) = nI 3 from rfl, pk_mul, nI_add]
set_option maxRecDepth 100000 in
theorem m_rides (g : mG) (A : mA) {m ns : Nat} (hm : A 2 3 = nI m) (hm8 : m ≤ 8) (hns : A 2 4 = nI ns) (hns8 : ns ≤ 8) (hb0 : ∀ j, j < m → ¬ A 8 j = 0) (hok : SOK (A 2) m ns A) : ab_Ex (d + 6) 0 yX5_rides [vR 0 0] (hM g A xs) none (hM (rsN m ns (g, A)).1 (rsN m ns (g, A)).2 xs) := by
  refine ab_meth oX5_rides (d + 5) _ _ _ _ (Nat.le_refl _) rfl (fun E => ?_)
  have loop : ∀ (k i : Nat) (gi : mG) (Ai : mA), i + k = ns → (gi, Ai) = rsN m i (g, A) → (∀ j, j < m → ¬ Ai 8 j = 0) → ab_W jX5_rides (d + 5) E (hM g A xs) 70 (fun v1 h1 => v1 = none ∧ h1 = hM (rsN m ns (g, A)).1 (rsN m ns (g, A)).2 xs) (ab_at iX5_rides 2) [(1, vI (nI i)), (0, vR 0 0)] [] (hM gi Ai xs) := by
    intro k
    induction k with
    | zero =>
      intro i gi Ai hi hq hb
      have e2 : Ai 2 = A 2 := by
        have h1 := rsN_A m i (g, A) (j := 2) (by decide) (by decide) (by decide)
        rw [← hq] at h1
        exact h1
      refine ab_run [2] 100 oX5_rides.1 (Nat.le_refl _) 2 ?_
      refine ⟨vp_d rfl, fun c1 => ?_, fun c1 => ?_⟩
      · refine ⟨rfl, ?_⟩
        rw [show ns = i by omega, ← hq]
      · have c1 : ¬ Ai 2 4 ≤ nI i := c1
        rw [e2, hns] at c1
        exact absurd (nI_le (by omega) (by omega)) c1
    | succ k ih =>
      intro i gi Ai hi hq hb
      have e2 : Ai 2 = A 2 := by
        have h1 := rsN_A m i (g, A) (j := 2) (by decide) (by decide) (by decide)
        rw [← hq] at h1
        exact h1
      obtain ⟨w, n, hw, hw5, hn, hn60, hdn⟩ := hok i (by omega)
      refine ab_run [2] 100 oX5_rides.1 (Nat.le_refl _) 2 ?_
      refine ⟨vp_d rfl, fun c1 => ?_, fun c1 => ?_⟩
      · have c1 : Ai 2 4 ≤ nI i := c1
        rw [e2, hns] at c1
        exact absurd c1 (nI_lt_m (by omega) (by omega))
      refine ⟨by rw [ix_s0]; exact vp_in_nI (by omega) (by omega), by rw [show (1 : Int32) = nI 1 from rfl, ix_s]; exact vp_in_nI (by omega) (by omega), by rw [show (2 : Int32) = nI 2 from rfl, ix_s]; exact vp_in_nI (by omega) (by omega), ?_⟩
      have d0 : (88 + 3 * nI i).toNatClampNeg = 88 + 3 * i := by rw [ix_s0, nI_clamp (by omega)]
      have d1 : (88 + 3 * nI i + 1).toNatClampNeg = 88 + 3 * i + 1 := by rw [show (1 : Int32) = nI 1 from rfl, ix_s, nI_clamp (by omega)]
      have d2 : (88 + 3 * nI i + 2).toNatClampNeg = 88 + 3 * i + 2 := by rw [show (2 : Int32) = nI 2 from rfl, ix_s, nI_clamp (by omega)]
      rw [d0, d1, d2]
      have hdn2 : ∀ j, j < m → ¬ 100 * opN w m Ai 8 j = 0 := by
        intro j hj
        rw [(opN_lo w m Ai hj).1, dnM_2 e2]
        exact (hdn j hj).2
      have hS := m_goesStage d xs gi Ai (m := m) (w := w) (n := n) (by rw [e2]; exact hm) hm8 hw5 hn60 hb hdn2 (Ai 2 (88 + 3 * i))
      have ew : Ai 2 (88 + 3 * i + 1) = nI w := by rw [e2]; exact hw
      have en : Ai 2 (88 + 3 * i + 2) = nI n := by rw [e2]; exact hn
      have eF : sgN m (Ai 2 (88 + 3 * i)) n (gi, opN w m Ai) = rsF m i (gi, Ai) := by
        unfold rsF
        dsimp only
        rw [ew, en, nI_clamp (by omega), nI_clamp (by omega)]
      rw [eF, ← ew, ← en] at hS
      refine ⟨_, _, hS, Nat.le_refl _, ?_⟩
      have h9 := ih (i + 1) (rsF m i (gi, Ai)).1 (rsF m i (gi, Ai)).2 (by omega) (by rw [hq]; rfl) (by
        intro j hj
        rw [← eF, sgN_A _ _ _ _ (by decide) (by decide)]
        show ¬ opN w m Ai 8 j = 0
        rw [(opN_lo w m Ai hj).1, dnM_2 e2]
        exact (hdn j hj).1)
      rw [nI_succ] at h9
      exact h9
  refine ab_run [2] 100 oX5_rides.1 (Nat.le_refl _) 0 ?_
  exact loop ns 0 g A (by omega) rfl hb0
end MRides
end
section
-- ONE FAULT'S SHARE OF THE MODEL'S STEPS
theorem gsW_7 (act : Int32) (A : mA) (i j : Nat) : gsW act A i 7 j = if j = i then cbW act (A 2 (16 + 9 * i)) (upM A i) (A 8 i) (A 7 i) else A 7 j := by
  unfold gsW
  rw [mS_eq]
  rfl
theorem gsF_7 (act step : Int32) (i j : Nat) (q : mGA) : (gsF act step i q).2 7 j = if j = i then cbW act (q.2 2 (16 + 9 * i)) (upM q.2 i) (q.2 8 i) (q.2 7 i) else q.2 7 j := by
  unfold gsF
  split
  · show ckA (gsW act q.2 i) i 7 j = _
    unfold ckA
    rw [mS_ne _ _ _ (by decide)]
    exact gsW_7 act q.2 i j
  · exact gsW_7 act q.2 i j
theorem gsF_9 (act step : Int32) (i j : Nat) (q : mGA) : (gsF act step i q).2 9 j = @ite _ (j = i ∧ ckP act step q.1 q.2 i) (Classical.propDecidable _) (q.2 9 j + 1) (q.2 9 j) := by
  have e9 : gsW act q.2 i 9 = q.2 9 := mS_ne _ _ _ (by decide)
  unfold gsF
  by_cases hc : ckP act step q.1 q.2 i
  · rw [if_pos hc]
    show ckA (gsW act q.2 i) i 9 j = _
    unfold ckA
    rw [mS_eq, e9]
    show (if j = i then q.2 9 i + 1 else q.2 9 j) = _
    by_cases hj : j = i
    · subst hj
      rw [if_pos rfl, if_pos ⟨rfl, hc⟩]
    · rw [if_neg hj, if_neg (fun z => hj z.1)]
  · rw [if_neg hc, if_neg (fun z => hc z.2)]
    show gsW act q.2 i 9 j = _
    rw [e9]
theorem upM_2 {A B : mA} (h : B 2 = A 2) (i : Nat) : upM B i = upM A i := by
  unfold upM
  rw [h]
theorem ckP_congr {act step : Int32} {g g' : mG} {A A' : mA} {i : Nat} (h12 : g' 12 = g 12) (h2 : A' 2 = A 2) (h8 : A' 8 = A 8) (h7 : A' 7 i = A 7 i) : ckP act step g' A' i ↔ ckP act step g A i := by
  unfold ckP
  rw [h12, h2, h8, h7, upM_2 h2]
theorem gsN_7 (act step : Int32) (n j : Nat) (q : mGA) : (gsN act step n q).2 7 j = if j < n then cbW act (q.2 2 (16 + 9 * j)) (upM q.2 j) (q.2 8 j) (q.2 7 j) else q.2 7 j := by
  induction n with
  | zero => rfl
  | succ n ih =>
    show (gsF act step n (gsN act step n q)).2 7 j = _
    rw [gsF_7]
    have e2 := gsN_A act step n q (j := 2) (by decide) (by decide)
    have e8 := gsN_A act step n q (j := 8) (by decide) (by decide)
    by_cases hj : j = n
    · subst hj
      rw [if_pos rfl, if_pos (Nat.lt_succ_self j), e2, e8, upM_2 e2, ih, if_neg (Nat.lt_irrefl j)]
    · rw [if_neg hj, ih]
      by_cases hl : j < n
      · rw [if_pos hl, if_pos (by omega)]
      · rw [if_neg hl, if_neg (by omega)]
theorem gsN_ck (act step : Int32) (n : Nat) (q : mGA) : ckP act step (gsN act step n q).1 (gsN act step n q).2 n ↔ ckP act step q.1 q.2 n := by
  refine ckP_congr (gsN_g act step n q (by decide) (by decide) (by decide)) (gsN_A act step n q (by decide) (by decide)) (gsN_A act step n q (by decide) (by decide)) ?_
  rw [gsN_7, if_neg (Nat.lt_irrefl n)]
theorem gsN_9 (act step : Int32) (n j : Nat) (q : mGA) : (gsN act step n q).2 9 j = @ite _ (j < n ∧ ckP act step q.1 q.2 j) (Classical.propDecidable _) (q.2 9 j + 1) (q.2 9 j) := by
  induction n with
  | zero =>
    rw [if_neg (fun z => Nat.not_lt_zero j z.1)]
    rfl
  | succ n ih =>
    show (gsF act step n (gsN act step n q)).2 9 j = _
    rw [gsF_9]
    by_cases hj : j = n
    · subst hj
      have ihv : (gsN act step j q).2 9 j = q.2 9 j := by rw [ih, if_neg (fun z => Nat.lt_irrefl j z.1)]
      rw [ihv]
      by_cases hc : ckP act step q.1 q.2 j
      · have h1 : j = j ∧ ckP act step (gsN act step j q).1 (gsN act step j q).2 j := ⟨rfl, (gsN_ck act step j q).mpr hc⟩
        have h2 : j < j + 1 ∧ ckP act step q.1 q.2 j := ⟨Nat.lt_succ_self j, hc⟩
        rw [if_pos h1, if_pos h2]
      · have h1 : ¬ (j = j ∧ ckP act step (gsN act step j q).1 (gsN act step j q).2 j) := fun z => hc ((gsN_ck act step j q).mp z.2)
        have h2 : ¬ (j < j + 1 ∧ ckP act step q.1 q.2 j) := fun z => hc z.2
        rw [if_neg h1, if_neg h2]
    · have h1 : ¬ (j = n ∧ ckP act step (gsN act step n q).1 (gsN act step n q).2 n) := fun z => hj z.1
      rw [if_neg h1, ih]
      by_cases hc : j < n ∧ ckP act step q.1 q.2 j
      · have h2 : j < n + 1 ∧ ckP act step q.1 q.2 j := ⟨by omega, hc.2⟩
        rw [if_pos hc, if_pos h2]
      · have h2 : ¬ (j < n + 1 ∧ ckP act step q.1 q.2 j) := fun z => hc ⟨by omega, z.2⟩
        rw [if_neg hc, if_neg h2]
theorem ckH_19 (g : mG) (A : mA) (i : Nat) : ckH g A i 19 = if nI i = g 17 ∧ A 9 i = g 18 then g 13 else g 19 := by
  have e : ckG g A i 19 = if nI i = g 17 ∧ A 9 i = g 18 then g 13 else g 19 := by
    unfold ckG
    by_cases h : nI i = g 17 ∧ A 9 i = g 18
    · rw [if_pos h, if_pos h]
      rfl
    · rw [if_neg h, if_neg h]
  unfold ckH
  by_cases h : g 16 = 0
  · rw [if_pos h]
    exact e
  · rw [if_neg h]
    exact e
theorem gsN_19 (act step : Int32) (n j : Nat) (q : mGA) (hj8 : j < 8) (hn8 : n ≤ 8) (hask : q.1 17 = nI j) : (gsN act step n q).1 19 = @ite _ (j < n ∧ ckP act step q.1 q.2 j ∧ q.2 9 j = q.1 18) (Classical.propDecidable _) (q.1 13) (q.1 19) := by
  induction n with
  | zero =>
    rw [if_neg (fun z => Nat.not_lt_zero j z.1)]
    rfl
  | succ n ih =>
    have ih := ih (by omega)
    have e17 := gsN_g act step n q (k := 17) (by decide) (by decide) (by decide)
    have e18 := gsN_g act step n q (k := 18) (by decide) (by decide) (by decide)
    have e13 := gsN_g act step n q (k := 13) (by decide) (by decide) (by decide)
    show (gsF act step n (gsN act step n q)).1 19 = _
    unfold gsF
    by_cases hc : ckP act step (gsN act step n q).1 (gsN act step n q).2 n
    · rw [if_pos hc]
      show ckH (gsN act step n q).1 (gsW act (gsN act step n q).2 n) n 19 = _
      rw [ckH_19, e17, e18, e13, hask]
      have e9 : gsW act (gsN act step n q).2 n 9 n = q.2 9 n := by
        unfold gsW
        rw [mS_ne _ _ _ (by decide), gsN_9]
        have h0 : ¬ (n < n ∧ ckP act step q.1 q.2 n) := fun z => Nat.lt_irrefl n z.1
        rw [if_neg h0]
      rw [e9]
      have hc2 := (gsN_ck act step n q).mp hc
      by_cases hjn : j = n
      · subst hjn
        have ihv : (gsN act step j q).1 19 = q.1 19 := by
          have h0 : ¬ (j < j ∧ ckP act step q.1 q.2 j ∧ q.2 9 j = q.1 18) := fun z => Nat.lt_irrefl j z.1
          rw [ih, if_neg h0]
        rw [ihv]
        by_cases ht : q.2 9 j = q.1 18
        · have h1 : nI j = nI j ∧ q.2 9 j = q.1 18 := ⟨rfl, ht⟩
          have h2 : j < j + 1 ∧ ckP act step q.1 q.2 j ∧ q.2 9 j = q.1 18 := ⟨Nat.lt_succ_self j, hc2, ht⟩
          rw [if_pos h1, if_pos h2]
        · have h1 : ¬ (nI j = nI j ∧ q.2 9 j = q.1 18) := fun z => ht z.2
          have h2 : ¬ (j < j + 1 ∧ ckP act step q.1 q.2 j ∧ q.2 9 j = q.1 18) := fun z => ht z.2.2
          rw [if_neg h1, if_neg h2]
      · have h1 : ¬ (nI n = nI j ∧ q.2 9 n = q.1 18) := fun z => hjn ((nI_eq (by omega) (by omega)).mp z.1).symm
        rw [if_neg h1, ih]
        by_cases hl : j < n ∧ ckP act step q.1 q.2 j ∧ q.2 9 j = q.1 18
        · have h2 : j < n + 1 ∧ ckP act step q.1 q.2 j ∧ q.2 9 j = q.1 18 := ⟨by omega, hl.2⟩
          rw [if_pos hl, if_pos h2]
        · have h2 : ¬ (j < n + 1 ∧ ckP act step q.1 q.2 j ∧ q.2 9 j = q.1 18) := fun z => hl ⟨by omega, z.2⟩
          rw [if_neg hl, if_neg h2]
    · rw [if_neg hc]
      show (gsN act step n q).1 19 = _
      rw [ih]
      by_cases hl : j < n ∧ ckP act step q.1 q.2 j ∧ q.2 9 j = q.1 18
      · have h2 : j < n + 1 ∧ ckP act step q.1 q.2 j ∧ q.2 9 j = q.1 18 := ⟨by omega, hl.2⟩
        rw [if_pos hl, if_pos h2]
      · have h2 : ¬ (j < n + 1 ∧ ckP act step q.1 q.2 j ∧ q.2 9 j = q.1 18) := by
          intro z
          by_cases hjn : j = n
          · subst hjn
            exact hc ((gsN_ck act step j q).mpr z.2.1)
          · exact hl ⟨by omega, z.2⟩
        rw [if_neg hl, if_neg h2]
/-- where the fault j is after t steps of an act -/
def whT (act kind up by_ w0 : Int32) : Nat → Int32
  | 0 => w0
  | t + 1 => cbW act kind up by_ (whT act kind up by_ w0 t)
/-- whether it clicks in the step t -/
def ckT (act : Int32) (g : mG) (A : mA) (j t : Nat) : Prop := ¬ nowM (nI (t % 100)) (A 2 (16 + 9 * j)) (cbR act (A 2 (16 + 9 * j + 1)) (upM A j) (A 8 j) (whT act (A 2 (16 + 9 * j)) (upM A j) (A 8 j) (A 7 j) t)) = 0 ∧ limI (A 2 (16 + 9 * j)) (A 2 (16 + 9 * j + 2)) (g 12 + nI (t / 100)) ≤ loadI act (nI (t % 100)) (A 2 7) ∧ silM (A 2 (16 + 9 * j)) (g 12 + nI (t / 100)) (A 2 6) (A 2 10) (A 2 8) = 0
noncomputable def fsR (ck : Nat → Prop) : Nat → (Nat → Int32) → (Nat → Int32)
  | 0, r => r
  | t + 1, r => @ite _ (ck t) (Classical.propDecidable _) (clkR (fsR ck t r) t) (fsR ck t r)
/-- the model's numbers of the fault j behind t steps -/
def PJ (act : Int32) (g : mG) (A : mA) (j n t : Nat) (r : Nat → Int32) (q : mGA) : Prop :=
  q.2 7 j = whT act (A 2 (16 + 9 * j)) (upM A j) (A 8 j) (A 7 j) t ∧ q.2 9 j = fsR (ckT act g A j) t r 5 ∧ q.1 12 = g 12 + nI n ∧ q.1 13 = g 13 + nI t ∧ q.1 17 = g 17 ∧ q.1 18 = g 18 ∧ q.2 2 = A 2 ∧ q.2 8 = A 8 ∧ (g 17 = nI j → q.1 19 = fsR (ckT act g A j) t r 7)
theorem clkR_5 (r : Nat → Int32) (t : Nat) : clkR r t 5 = r 5 + 1 := rfl
theorem clkR_7 (r : Nat → Int32) (t : Nat) : clkR r t 7 = if r 5 = r 6 then r 4 + nI t else r 7 := by
  unfold clkR
  by_cases h : r 5 = r 6
  · rw [if_pos h, if_pos h]
    rfl
  · rw [if_neg h, if_neg h]
    rfl
theorem fsR_lo (ck : Nat → Prop) (t : Nat) (r : Nat → Int32) {k : Nat} (h5 : k ≠ 5) (h7 : k ≠ 7) : fsR ck t r k = r k := by
  induction t with
  | zero => rfl
  | succ t ih =>
    unfold fsR
    split
    · rw [clkR_lo _ _ h5 h7]
      exact ih
    · exact ih
theorem PJ_step {act : Int32} {g : mG} {A : mA} {j n t m i : Nat} {r : Nat → Int32} {q : mGA} (hj : j < m) (hm8 : m ≤ 8) (ht : t = 100 * n + i) (hi : i < 100) (h4 : r 4 = g 13) (h6 : r 6 = g 18) (h : PJ act g A j n t r q) : PJ act g A j n (t + 1) r (gsS m act (nI i) q) := by
  obtain ⟨p7, p9, p12, p13, p17, p18, p2, p8, p19⟩ := h
  have e1 : t % 100 = i := by omega
  have e2 : t / 100 = n := by omega
  have hck : ckP act (nI i) q.1 q.2 j ↔ ckT act g A j t := by
    unfold ckP ckT
    rw [p2, p8, p12, p7, upM_2 p2, e1, e2]
  have s12 := gsN_g act (nI i) m q (k := 12) (by decide) (by decide) (by decide)
  have s13 := gsN_g act (nI i) m q (k := 13) (by decide) (by decide) (by decide)
  have s17 := gsN_g act (nI i) m q (k := 17) (by decide) (by decide) (by decide)
  have s18 := gsN_g act (nI i) m q (k := 18) (by decide) (by decide) (by decide)
  refine ⟨?_, ?_, s12.trans p12, ?_, s17.trans p17, s18.trans p18, (gsN_A act (nI i) m q (by decide) (by decide)).trans p2, (gsN_A act (nI i) m q (by decide) (by decide)).trans p8, ?_⟩
  · show (gsN act (nI i) m q).2 7 j = _
    rw [gsN_7, if_pos hj, p2, p8, p7, upM_2 p2]
    rfl
  · show (gsN act (nI i) m q).2 9 j = _
    rw [gsN_9]
    unfold fsR
    by_cases hc : ckT act g A j t
    · rw [if_pos ⟨hj, hck.mpr hc⟩, if_pos hc, clkR_5, p9]
    · rw [if_neg (fun z => hc (hck.mp z.2)), if_neg hc, p9]
  · show (gsN act (nI i) m q).1 13 + 1 = _
    rw [s13, p13, nI_succ, Int32.add_assoc]
  · intro hask
    show (gsN act (nI i) m q).1 19 = _
    rw [gsN_19 act (nI i) m j q (by omega) hm8 (p17.trans hask)]
    unfold fsR
    by_cases hc : ckT act g A j t
    · rw [if_pos hc, clkR_7, fsR_lo (ckT act g A j) t r (k := 6) (by decide) (by decide), fsR_lo (ckT act g A j) t r (k := 4) (by decide) (by decide), h4, h6, p9, p18, p13, p19 hask]
      by_cases h5 : fsR (ckT act g A j) t r 5 = g 18
      · have h1 : j < m ∧ ckP act (nI i) q.1 q.2 j ∧ fsR (ckT act g A j) t r 5 = g 18 := ⟨hj, hck.mpr hc, h5⟩
        rw [if_pos h1, if_pos h5]
      · have h1 : ¬ (j < m ∧ ckP act (nI i) q.1 q.2 j ∧ fsR (ckT act g A j) t r 5 = g 18) := fun z => h5 z.2.2
        rw [if_neg h1, if_neg h5]
    · have h1 : ¬ (j < m ∧ ckP act (nI i) q.1 q.2 j ∧ q.2 9 j = q.1 18) := fun z => hc (hck.mp z.2.1)
      rw [if_neg h1, if_neg hc, p19 hask]
theorem PJ_turn {act : Int32} {g : mG} {A : mA} {j n m : Nat} {r : Nat → Int32} {q : mGA} (hj : j < m) (hm8 : m ≤ 8) (h4 : r 4 = g 13) (h6 : r 6 = g 18) (h : PJ act g A j n (100 * n) r q) (i : Nat) (hi : i ≤ 100) : PJ act g A j n (100 * n + i) r (tuN m act i q) := by
  induction i with
  | zero => exact h
  | succ i ih => exact PJ_step hj hm8 rfl (by omega) h4 h6 (ih (by omega))
theorem PJ_stage {act : Int32} {g : mG} {A : mA} {j m : Nat} {r : Nat → Int32} (hj : j < m) (hm8 : m ≤ 8) (h4 : r 4 = g 13) (h5 : r 5 = A 9 j) (h6 : r 6 = g 18) (h7 : r 7 = g 19) (n : Nat) : PJ act g A j n (100 * n) r (sgN m act n (g, A)) := by
  induction n with
  | zero =>
    refine ⟨rfl, h5.symm, ?_, ?_, rfl, rfl, rfl, rfl, fun _ => h7.symm⟩
    · show g 12 = g 12 + nI 0
      rw [nI_0]
      simp
    · show g 13 = g 13 + nI (100 * 0)
      rw [show 100 * 0 = 0 from rfl, nI_0]
      simp
  | succ n ih =>
    have h1 := PJ_turn hj hm8 h4 h6 ih 100 (Nat.le_refl _)
    obtain ⟨p7, p9, p12, p13, p17, p18, p2, p8, p19⟩ := h1
    refine ⟨p7, p9, ?_, p13, p17, p18, p2, p8, p19⟩
    show (tuN m act 100 (sgN m act n (g, A))).1 12 + 1 = _
    rw [p12, nI_succ, Int32.add_assoc]
end
section
-- JUMPING FROM PART TO PART IS STEPPING
theorem lis_fs {ok ck : Nat → Prop} {u R N : Nat} (hu : 1 ≤ u) (huR : u ≤ R) {C : Nat → Prop} (hC : ∀ p, C p → C (p + R)) (hck : ∀ t p, t < N → t * u ≤ p → p < t * u + R → C p → (ck t ↔ (p < (t + 1) * u ∧ ok t))) (r0 : Nat → Int32) :
    ∀ (k t p n : Nat), t + k = N → t * u ≤ p → p < t * u + R → C p → N * u < p + n * R → lisR ok u R (N * u) n p (fsR ck t r0) = fsR ck N r0 := by
  intro k
  induction k with
  | zero =>
    intro t p n ht h1 h2 h3 h4
    have e : t = N := by omega
    subst e
    cases n with
    | zero => rfl
    | succ n => exact if_neg (by omega)
  | succ k ih =>
    intro t p n ht h1 h2 h3 h4
    have e1 : (t + 1) * u = t * u + u := Nat.succ_mul t u
    have hN : (t + 1) * u ≤ N * u := Nat.mul_le_mul (by omega) (Nat.le_refl u)
    have hc := hck t p (by omega) h1 h2 h3
    by_cases hp : p < (t + 1) * u
    · cases n with
      | zero => omega
      | succ n =>
        have e2 : (n + 1) * R = n * R + R := Nat.succ_mul n R
        have hdiv : p / u = t := Nat.div_eq_of_lt_le h1 hp
        have e3 : lisR ok u R (N * u) (n + 1) p (fsR ck t r0) = lisR ok u R (N * u) n (p + R) (fsR ck (t + 1) r0) := by
          have e4 : (@ite _ (ok (p / u)) (Classical.propDecidable _) (clkR (fsR ck t r0) (p / u)) (fsR ck t r0)) = fsR ck (t + 1) r0 := by
            rw [hdiv]
            show _ = @ite _ (ck t) (Classical.propDecidable _) (clkR (fsR ck t r0) t) (fsR ck t r0)
            by_cases ho : ok t
            · rw [if_pos ho, if_pos (hc.mpr ⟨hp, ho⟩)]
            · rw [if_neg ho, if_neg (fun z => ho (hc.mp z).2)]
          show (if p < N * u then _ else _) = _
          rw [if_pos (by omega), e4]
        rw [e3]
        exact ih (t + 1) (p + R) n (by omega) (by omega) (by omega) (hC p h3) (by omega)
    · have e4 : fsR ck (t + 1) r0 = fsR ck t r0 := if_neg (fun z => hp (hc.mp z).1)
      rw [← e4]
      exact ih (t + 1) p n (by omega) (by omega) (by omega) h3 h4
theorem whT_on {act kind up by_ w0 : Int32} {u D w : Nat} (h4 : ¬ act = 4) (h5 : ¬ act = 5) (hup : up.toInt = (u : Int)) (hby : by_.toInt = (D : Int)) (hw : w0.toInt = (w : Int)) (hu : u ≤ 60) (hD1 : 1 ≤ D) (hD : D ≤ 140) (hwl : w < 100 * D) (t : Nat) : (whT act kind up by_ w0 t).toInt = (((w + t * u) % (100 * D) : Nat) : Int) := by
  have eR : (100 * by_).toInt = ((100 * D : Nat) : Int) := by
    rw [ti_mul (show (100 : Int32).toInt = 100 from rfl) hby (by omega) (by omega)]
    omega
  induction t with
  | zero =>
    show w0.toInt = _
    rw [hw, Nat.zero_mul, Nat.add_zero, Nat.mod_eq_of_lt hwl]
  | succ t ih =>
    show (cbW act kind up by_ (whT act kind up by_ w0 t)).toInt = _
    unfold cbW
    rw [if_neg h5, if_neg h4]
    have hm : (w + t * u) % (100 * D) < 100 * D := Nat.mod_lt _ (by omega)
    have e1 := ti_add ih hup (by omega) (by omega)
    rw [ti_rem e1 eR (by omega) (by omega)]
    rw [Int.tmod_eq_emod_of_nonneg (by omega), ← Int.natCast_add, ← Int.natCast_emod]
    rw [Nat.mod_add_mod, show (t + 1) * u = t * u + u from Nat.succ_mul t u, ← Nat.add_assoc]
theorem ahd_eq {place by_ wh : Int32} {c D w u t p : Nat} {pl : Nat} (hpl : place.toInt = (pl : Int)) (hby : by_.toInt = (D : Int)) (hc : c = pl * D) (hpl99 : pl ≤ 99) (hD1 : 1 ≤ D) (hD : D ≤ 140) (hwh : wh.toInt = (((w + t * u) % (100 * D) : Nat) : Int)) (hC : ∃ b : Int, (p : Int) + 1 + w = c + (100 * D : Nat) * b) (h1 : t * u ≤ p) (h2 : p < t * u + 100 * D) : (ahdI place by_ wh).toInt = (p : Int) - (t * u : Nat) + 1 := by
  have eR : (100 * by_).toInt = ((100 * D : Nat) : Int) := by
    rw [ti_mul (show (100 : Int32).toInt = 100 from rfl) hby (by omega) (by omega)]
    omega
  have hc2 : pl * D ≤ 99 * 140 := Nat.mul_le_mul hpl99 hD
  have ec : (place * by_).toInt = (c : Int) := by
    rw [ti_mul hpl hby (by rw [← Int.natCast_mul]; omega) (by rw [← Int.natCast_mul]; omega), hc, Int.natCast_mul]
  have hm : (w + t * u) % (100 * D) < 100 * D := Nat.mod_lt _ (by omega)
  have e1 := ti_sub ec hwh (by omega) (by omega)
  have e2 := ti_add e1 eR (by omega) (by omega)
  have e3 := ti_rem e2 eR (by omega) (by omega)
  obtain ⟨b, hb⟩ := hC
  have hW := Nat.mod_add_div (w + t * u) (100 * D)
  have key : (c : Int) - ((w + t * u) % (100 * D) : Nat) + (100 * D : Nat) = ((p : Int) - (t * u : Nat) + 1) + ((100 * D : Nat) : Int) * ((((w + t * u) / (100 * D) : Nat) : Int) - b + 1) := by
    have hW2 : (((w + t * u) % (100 * D) : Nat) : Int) + ((100 * D : Nat) : Int) * (((w + t * u) / (100 * D) : Nat) : Int) = (w : Int) + (t * u : Nat) := by
      rw [← Int.natCast_mul, ← Int.natCast_add, hW, Int.natCast_add]
    rw [Int.mul_add, Int.mul_sub, Int.mul_one]
    omega
  have e4 : ((c : Int) - ((w + t * u) % (100 * D) : Nat) + (100 * D : Nat)).tmod (100 * D : Nat) = ((p : Int) - (t * u : Nat) + 1) % ((100 * D : Nat) : Int) := by
    rw [Int.tmod_eq_emod_of_nonneg (by omega), key, Int.add_mul_emod_self_left]
  rw [e4] at e3
  unfold ahdI
  by_cases hk : (p : Int) - (t * u : Nat) + 1 = ((100 * D : Nat) : Int)
  · rw [hk, Int.emod_self] at e3
    rw [if_pos ((eq_ti e3 (show (0 : Int32).toInt = 0 from rfl)).mpr rfl), eR, hk]
  · have hlt : (p : Int) - (t * u : Nat) + 1 < ((100 * D : Nat) : Int) := by omega
    rw [Int.emod_eq_of_lt (by omega) hlt] at e3
    rw [if_neg (fun z => by have := (eq_ti e3 (show (0 : Int32).toInt = 0 from rfl)).mp z; omega), e3]
theorem lim_eq {kind load t : Int32} (h1 : 0 ≤ load.toInt) (h2 : load.toInt ≤ 9) (h3 : 0 ≤ t.toInt) (h4 : t.toInt ≤ 100000) : limX kind load t = limI kind load t := by
  have e20 : (t / 20).toInt = t.toInt / 20 := by
    have hd := tdiv_abs (a := t.toInt) (b := 20) (by omega) (by omega) (by omega)
    rw [ti_div rfl (show (20 : Int32).toInt = 20 from rfl) hd.1 hd.2, Int.tdiv_eq_ediv_of_nonneg h3]
  unfold limX limI
  by_cases hk : kind = 6
  · rw [if_pos hk, if_pos hk]
    have es := ti_sub (x := load) (y := t / 20) rfl e20 (by omega) (by omega)
    by_cases hl : t / 20 < load
    · have hl2 := (lt_ti e20 rfl).mp hl
      rw [if_pos hl, if_neg]
      rw [lt_ti es (show (0 : Int32).toInt = 0 from rfl)]
      omega
    · have hl2 : ¬ t.toInt / 20 < load.toInt := fun z => hl ((lt_ti e20 rfl).mpr z)
      rw [if_neg hl]
      by_cases hn : load - t / 20 < 0
      · rw [if_pos hn]
      · rw [if_neg hn]
        have hn2 : ¬ load.toInt - t.toInt / 20 < 0 := fun z => hn ((lt_ti es (show (0 : Int32).toInt = 0 from rfl)).mpr z)
        exact ((eq_ti es (show (0 : Int32).toInt = 0 from rfl)).mpr (by omega)).symm
  · rw [if_neg hk, if_neg hk]
    by_cases hl : (0 : Int32) < load
    · rw [if_pos hl]
      simp
    · rw [if_neg hl]
      have hl2 : ¬ 0 < load.toInt := fun z => hl ((lt_ti (show (0 : Int32).toInt = 0 from rfl) rfl).mpr z)
      exact (eq_ti (show (0 : Int32).toInt = 0 from rfl) rfl).mpr (by omega)
theorem sil_eq {kind t oiled oil shoe : Int32} (hs : shoe = 0 ∨ shoe = 1) : silX kind t oiled oil shoe = silM kind t oiled oil shoe := by
  unfold silX silM bI
  have : (¬ shoe = 0) ↔ shoe = 1 := by
    rcases hs with rfl | rfl <;> decide
  simp only [this]
end
section
/-- the rider (w, r) and the model's fault j, as a stage begins -/
def SJ (g : mG) (A : mA) (j : Nat) (w r : Nat → Int32) : Prop :=
  (w 0 = A 2 (16 + 9 * j) ∧ w 1 = A 2 (16 + 9 * j + 1) ∧ w 2 = A 2 (16 + 9 * j + 2)) ∧ w 7 = A 7 j ∧ w 8 = A 8 j ∧ r 2 = upM A j ∧ r 3 = g 12 ∧ r 4 = g 13 ∧ r 5 = A 9 j
theorem ok_eq {act : Int32} {g : mG} {A : mA} {j : Nat} {w r : Nat → Int32} {oiled oil shoe hill : Int32} (hS : SJ g A j w r) (h1 : oiled = A 2 6) (h2 : oil = A 2 10) (h3 : shoe = A 2 8) (h4 : hill = A 2 7) (hs : A 2 8 = 0 ∨ A 2 8 = 1) (hl1 : 0 ≤ (w 2).toInt) (hl2 : (w 2).toInt ≤ 9) (ht1 : 0 ≤ (g 12).toInt) (ht2 : (g 12).toInt ≤ 20000) {t : Nat} (ht : t < 6000) : okP act (r 3) w oiled oil shoe hill t ↔ (limI (A 2 (16 + 9 * j)) (A 2 (16 + 9 * j + 2)) (g 12 + nI (t / 100)) ≤ loadI act (nI (t % 100)) (A 2 7) ∧ silM (A 2 (16 + 9 * j)) (g 12 + nI (t / 100)) (A 2 6) (A 2 10) (A 2 8) = 0) := by
  obtain ⟨⟨w0, w1, w2⟩, w7, w8, r2, r3, r4, r5⟩ := hS
  have e1 : nI t / 100 = nI (t / 100) := pk_div (d := 100) (by omega) (by omega) (by omega)
  have e2 : ab_rem (nI t) 100 = nI (t % 100) := pk_rem (d := 100) (by omega) (by omega) (by omega)
  have e3 : (g 12 + nI (t / 100)).toInt = (g 12).toInt + (t / 100 : Nat) := ti_add rfl (nI_toInt (by omega)) (by omega) (by omega)
  unfold okP
  rw [e1, e2, h1, h2, h3, h4, r3, sil_eq hs, lim_eq hl1 hl2 (by omega) (by omega), w0, w2]
  exact And.comm
theorem psR_eq {act : Int32} {g : mG} {A : mA} {j T : Nat} {w r : Nat → Int32} {oiled oil shoe hill : Int32} (hS : SJ g A j w r) (hRO : RO w r) (h1 : oiled = A 2 6) (h2 : oil = A 2 10) (h3 : shoe = A 2 8) (h4 : hill = A 2 7) (hs : A 2 8 = 0 ∨ A 2 8 = 1) (hl1 : 0 ≤ (w 2).toInt) (hl2 : (w 2).toInt ≤ 9) (ht1 : 0 ≤ (g 12).toInt) (ht2 : (g 12).toInt ≤ 20000) (hT : T ≤ 60) (ha1 : 0 ≤ act.toInt) (ha2 : act.toInt ≤ 5) : psR (okP act (r 3) w oiled oil shoe hill) act T w r = fsR (ckT act g A j) (100 * T) r := by
  have hok := fun {t : Nat} (ht : t < 6000) => ok_eq (act := act) (t := t) hS h1 h2 h3 h4 hs hl1 hl2 ht1 ht2 ht
  obtain ⟨⟨w0, w1, w2⟩, w7, w8, r2, r3, r4, r5⟩ := hS
  obtain ⟨e1, e2, e3⟩ := RO_wrap hRO
  obtain ⟨⟨a1, a2⟩, ⟨b1, b2⟩, ⟨c1, c2⟩, d1, d2⟩ := hRO
  unfold psR
  by_cases hk : w 0 = 4
  · rw [if_pos hk]
    have h := lis_fs (ok := okP act (r 3) w oiled oil shoe hill) (ck := ckT act g A j) (u := 1) (R := 50) (N := T * 100) (by decide) (by decide) (C := fun p => p % 50 = 25) (fun p hp => by omega) (fun t p ht q1 q2 q3 => by
      have hq := hok (t := t) (by omega)
      unfold ckT
      rw [hq, nowM, ← w0, if_pos hk]
      have hn : (¬ bI (nI (t % 100) = 25 ∨ nI (t % 100) = 75) = 0) ↔ p < (t + 1) * 1 := by
        have i1 : nI (t % 100) = 25 ↔ t % 100 = 25 := nI_eq (b := 25) (by omega) (by omega)
        have i2 : nI (t % 100) = 75 ↔ t % 100 = 75 := nI_eq (b := 75) (by omega) (by omega)
        by_cases hh : nI (t % 100) = 25 ∨ nI (t % 100) = 75
        · rw [bI_t hh]
          have hh2 : t % 100 = 25 ∨ t % 100 = 75 := hh.elim (fun z => Or.inl (i1.mp z)) (fun z => Or.inr (i2.mp z))
          exact ⟨fun _ => by omega, fun _ => by decide⟩
        · rw [bI_f hh]
          have hh2 : ¬ (t % 100 = 25 ∨ t % 100 = 75) := fun z => hh (z.elim (fun z => Or.inl (i1.mpr z)) (fun z => Or.inr (i2.mpr z)))
          exact ⟨fun z => absurd rfl z, fun z => by omega⟩
      rw [hn]) r (T * 100) 0 25 (T * 100 * 1 + 1) (by omega) (by omega) (by omega) (by decide) (by omega)
    rw [show 100 * T = T * 100 from Nat.mul_comm _ _]
    exact h
  · rw [if_neg hk]
    by_cases h4 : act < 4
    · rw [if_pos h4]
      have h4i := (lt_ti (x := act) rfl (show (4 : Int32).toInt = 4 from rfl)).mp h4
      have na4 : ¬ act = 4 := fun z => by rw [z] at h4i; exact absurd h4i (by decide)
      have na5 : ¬ act = 5 := fun z => by rw [z] at h4i; exact absurd h4i (by decide)
      have n1 := ti_clamp (x := r 2) (by omega)
      have n2 := ti_clamp (x := 100 * w 8) (by omega)
      have m8 := ti_clamp (x := w 8) (by omega)
      have m7 := ti_clamp (x := w 7) (by omega)
      have m1 := ti_clamp (x := w 1) (by omega)
      have q3 := Int.emod_nonneg ((w 1).toInt * (w 8).toInt - (w 7).toInt - 1) (show 100 * (w 8).toInt ≠ 0 by omega)
      have q4 := Int.emod_lt_of_pos ((w 1).toInt * (w 8).toInt - (w 7).toInt - 1) (show 0 < 100 * (w 8).toInt by omega)
      have n3 := ti_clamp (x := wrapI (w 1 * w 8 - w 7 - 1) (100 * w 8)) (by omega)
      have hR : (100 * w 8).toNatClampNeg = 100 * (w 8).toNatClampNeg := by omega
      rw [hR]
      generalize hu : (r 2).toNatClampNeg = u at n1 ⊢
      generalize hD : (w 8).toNatClampNeg = D at m8 ⊢
      generalize hW : (w 7).toNatClampNeg = W at m7
      generalize hP : (w 1).toNatClampNeg = P at m1
      generalize hp0 : (wrapI (w 1 * w 8 - w 7 - 1) (100 * w 8)).toNatClampNeg = p0 at n3 ⊢
      have hC0 : ∃ b : Int, (p0 : Int) + 1 + W = (P * D : Nat) + ((100 * D : Nat) : Int) * b := by
        refine ⟨-(((w 1).toInt * (w 8).toInt - (w 7).toInt - 1) / (100 * (w 8).toInt)), ?_⟩
        have h9 := Int.emod_add_mul_ediv ((w 1).toInt * (w 8).toInt - (w 7).toInt - 1) (100 * (w 8).toInt)
        rw [← e3, ← n3] at h9
        have hRR : ((100 * D : Nat) : Int) = 100 * (w 8).toInt := by omega
        rw [hRR, Int.mul_neg, Int.natCast_mul, m1, m8, m7]
        omega
      have h := lis_fs (ok := okP act (r 3) w oiled oil shoe hill) (ck := ckT act g A j) (u := u) (R := 100 * D) (N := T * 100) (by omega) (by omega) (C := fun p => ∃ b : Int, (p : Int) + 1 + W = (P * D : Nat) + ((100 * D : Nat) : Int) * b) (fun p hp => by
          obtain ⟨b, hb⟩ := hp
          refine ⟨b + 1, ?_⟩
          rw [Int.mul_add, Int.mul_one, ← Int.add_assoc, ← hb, Int.natCast_add]
          omega) (fun t p ht q1 q2 q3 => by
          have hq := hok (t := t) (by omega)
          have ew : (whT act (A 2 (16 + 9 * j)) (upM A j) (A 8 j) (A 7 j) t).toInt = (((W + t * u) % (100 * D) : Nat) : Int) := whT_on na4 na5 (by rw [← r2]; exact n1.symm) (by rw [← w8]; exact m8.symm) (by rw [← w7]; exact m7.symm) (by omega) (by omega) (by omega) (by omega) t
          have ea := ahd_eq (place := A 2 (16 + 9 * j + 1)) (by_ := A 8 j) (c := P * D) (pl := P) (by rw [← w1]; exact m1.symm) (by rw [← w8]; exact m8.symm) rfl (by omega) (by omega) (by omega) ew q3 q1 q2
          unfold ckT
          rw [hq, nowM, ← w0, if_neg hk, cbR, if_neg na5, if_neg na4]
          have hn : (¬ bI (ahdI (A 2 (16 + 9 * j + 1)) (A 8 j) (whT act (w 0) (upM A j) (A 8 j) (A 7 j) t) ≤ upM A j) = 0) ↔ p < (t + 1) * u := by
            rw [← w0] at ea
            have i1 := le_ti ea (show (upM A j).toInt = (u : Int) by rw [← r2]; exact n1.symm)
            have i2 : (t + 1) * u = t * u + u := Nat.succ_mul t u
            by_cases hh : ahdI (A 2 (16 + 9 * j + 1)) (A 8 j) (whT act (w 0) (upM A j) (A 8 j) (A 7 j) t) ≤ upM A j
            · rw [bI_t hh]
              have := i1.mp hh
              exact ⟨fun _ => by omega, fun _ => by decide⟩
            · rw [bI_f hh]
              exact ⟨fun z => absurd rfl z, fun z => absurd (i1.mpr (by omega)) hh⟩
          rw [hn]) r (T * 100) 0 p0 (T * 100 * u + 1) (by omega) (by omega) (by omega) hC0 (by
          have := mul_ge (T * 100 * u + 1) (100 * D) (by omega)
          omega)
      rw [show 100 * T = T * 100 from Nat.mul_comm _ _]
      exact h
    · rw [if_neg h4]
      have h4i : ¬ act.toInt < 4 := fun z => h4 ((lt_ti rfl (show (4 : Int32).toInt = 4 from rfl)).mpr z)
      have ha : act = 4 ∨ act = 5 := by
        rcases (show act.toInt = 4 ∨ act.toInt = 5 by omega) with z | z
        · exact Or.inl (Int32.toInt_inj.mp z)
        · exact Or.inr (Int32.toInt_inj.mp z)
      have hz : ∀ t, fsR (ckT act g A j) t r = r := by
        intro t
        induction t with
        | zero => rfl
        | succ t ih =>
          unfold fsR
          rw [if_neg, ih]
          intro hc
          refine hc.1 ?_
          rw [nowM, ← w0, if_neg hk, cbR]
          rcases ha with rfl | rfl
          · rw [if_neg (by decide), if_pos rfl]
          · rw [if_pos rfl]
      exact (hz _).symm
end
section
theorem fsR_5 {ck : Nat → Prop} {r r' : Nat → Int32} (h : r 5 = r' 5) (t : Nat) : fsR ck t r 5 = fsR ck t r' 5 := by
  induction t with
  | zero => exact h
  | succ t ih =>
    unfold fsR
    by_cases hc : ck t
    · rw [if_pos hc, if_pos hc, clkR_5, clkR_5, ih]
    · rw [if_neg hc, if_neg hc]
      exact ih
theorem whT_back {kind up by_ w0 : Int32} {u D w : Nat} (hk : kind = 0 ∨ kind = 5 ∨ kind = 6 ∨ kind = 7) (hup : up.toInt = (u : Int)) (hby : by_.toInt = (D : Int)) (hw : w0.toInt = (w : Int)) (hu : u ≤ 60) (hD1 : 1 ≤ D) (hD : D ≤ 140) (hwl : w < 100 * D) (t : Nat) : (whT 4 kind up by_ w0 t).toInt = ((w : Int) - (t * u : Nat)) % ((100 * D : Nat) : Int) := by
  have eR : (100 * by_).toInt = ((100 * D : Nat) : Int) := by
    rw [ti_mul (show (100 : Int32).toInt = 100 from rfl) hby (by omega) (by omega)]
    omega
  induction t with
  | zero =>
    show w0.toInt = _
    rw [hw, Nat.zero_mul, Int.emod_eq_of_lt (by omega) (by omega)]
    omega
  | succ t ih =>
    show (cbW 4 kind up by_ (whT 4 kind up by_ w0 t)).toInt = _
    unfold cbW
    rw [if_neg (by decide), if_pos rfl, if_pos hk]
    have h1 := Int.emod_nonneg ((w : Int) - (t * u : Nat)) (show ((100 * D : Nat) : Int) ≠ 0 by omega)
    have h2 := Int.emod_lt_of_pos ((w : Int) - (t * u : Nat)) (show (0 : Int) < ((100 * D : Nat) : Int) by omega)
    have e1 := ti_add ih eR (by omega) (by omega)
    have e2 := ti_sub e1 hup (by omega) (by omega)
    rw [ti_rem e2 eR (by omega) (by omega), Int.tmod_eq_emod_of_nonneg (by omega)]
    have h3 := Int.emod_add_mul_ediv ((w : Int) - (t * u : Nat)) ((100 * D : Nat) : Int)
    have e3 : ((w : Int) - ((t + 1) * u : Nat)) = ((w : Int) - (t * u : Nat)) % ((100 * D : Nat) : Int) + ((100 * D : Nat) : Int) - u + ((100 * D : Nat) : Int) * (((w : Int) - (t * u : Nat)) / ((100 * D : Nat) : Int) - 1) := by
      have i2 : (t + 1) * u = t * u + u := Nat.succ_mul t u
      rw [Int.mul_sub, Int.mul_one]
      omega
    rw [e3, Int.add_mul_emod_self_left]
theorem whT_still {act kind up by_ w0 : Int32} (h : act = 5 ∨ (act = 4 ∧ ¬ (kind = 0 ∨ kind = 5 ∨ kind = 6 ∨ kind = 7))) (t : Nat) : whT act kind up by_ w0 t = w0 := by
  induction t with
  | zero => rfl
  | succ t ih =>
    show cbW act kind up by_ (whT act kind up by_ w0 t) = w0
    rw [ih]
    unfold cbW
    rcases h with h | h
    · rw [if_pos h]
    · rw [if_neg (by rw [h.1]; decide), if_pos h.1, if_neg h.2]
theorem psW_eq {act kind up by_ w0 : Int32} {T : Nat} {w : Nat → Int32} (h0 : w 0 = kind) (h7 : w 7 = w0) (h8 : w 8 = by_) (hk1 : 0 ≤ kind.toInt) (hk2 : kind.toInt ≤ 7) (hu1 : 1 ≤ up.toInt) (hu2 : up.toInt ≤ 60) (hb1 : 1 ≤ by_.toInt) (hb2 : by_.toInt ≤ 140) (hw1 : 0 ≤ w0.toInt) (hw2 : w0.toInt < 100 * by_.toInt) (hT : T ≤ 60) (ha1 : 0 ≤ act.toInt) (ha2 : act.toInt ≤ 5) : psW act T up w 7 = whT act kind up by_ w0 (100 * T) ∧ 0 ≤ (psW act T up w 7).toInt ∧ (psW act T up w 7).toInt < 100 * by_.toInt := by
  have eR : (100 * by_).toInt = 100 * by_.toInt := ti_mul (show (100 : Int32).toInt = 100 from rfl) rfl (by omega) (by omega)
  have eT : (nI T).toInt = (T : Int) := nI_toInt (by omega)
  have m7 := ti_clamp (x := w0) hw1
  have m8 := ti_clamp (x := by_) (by omega)
  have mu := ti_clamp (x := up) (by omega)
  generalize hW : w0.toNatClampNeg = W at m7
  generalize hD : by_.toNatClampNeg = D at m8
  generalize hU : up.toNatClampNeg = u at mu
  have huT : T * u ≤ 60 * 60 := Nat.mul_le_mul hT (by omega)
  have e0 : psW act T up w 7 = wrapI (w0 + paceI act up kind * 100 * nI T) (100 * by_) := by
    show wrapI (w 7 + paceI act up (w 0) * 100 * nI T) (100 * w 8) = _
    rw [h0, h7, h8]
  have hcomm : 100 * T * u = T * u * 100 := by
    rw [Nat.mul_comm 100 T, Nat.mul_assoc, Nat.mul_comm 100 u, ← Nat.mul_assoc]
  have hbnd : ∀ v : Int, (psW act T up w 7).toInt = v % (100 * by_.toInt) → 0 ≤ (psW act T up w 7).toInt ∧ (psW act T up w 7).toInt < 100 * by_.toInt := by
    intro v hv
    rw [hv]
    exact ⟨Int.emod_nonneg _ (by omega), Int.emod_lt_of_pos _ (by omega)⟩
  have hRD : 100 * by_.toInt = ((100 * D : Nat) : Int) := by omega
  by_cases hlt : act < 4
  · have h4i := (lt_ti (x := act) rfl (show (4 : Int32).toInt = 4 from rfl)).mp hlt
    have na4 : ¬ act = 4 := fun z => by rw [z] at h4i; exact absurd h4i (by decide)
    have na5 : ¬ act = 5 := fun z => by rw [z] at h4i; exact absurd h4i (by decide)
    have ep : paceI act up kind = up := if_pos hlt
    have e1 : (up * 100).toInt = (u : Int) * 100 := ti_mul mu.symm (show (100 : Int32).toInt = 100 from rfl) (by omega) (by omega)
    have e2 : (up * 100 * nI T).toInt = ((T * u * 100 : Nat) : Int) := by
      have e3 : (u : Int) * 100 * (T : Int) = ((T * u * 100 : Nat) : Int) := by
        rw [Int.natCast_mul, Int.natCast_mul, Int.mul_comm ((u : Int) * 100) T, Int.mul_assoc]
        rfl
      rw [ti_mul e1 eT (by rw [e3]; omega) (by rw [e3]; omega), e3]
    have e4 := ti_add m7.symm e2 (by omega) (by omega)
    have e5 : (psW act T up w 7).toInt = ((W : Int) + ((T * u * 100 : Nat) : Int)) % (100 * by_.toInt) := by
      rw [e0, ep]
      exact ti_wrap e4 eR (by omega) (by omega) (by omega) (by omega)
    refine ⟨?_, hbnd _ e5⟩
    apply Int32.toInt_inj.mp
    rw [e5, whT_on na4 na5 mu.symm m8.symm m7.symm (by omega) (by omega) (by omega) (by omega) (100 * T), hcomm, hRD, ← Int.natCast_add, ← Int.natCast_emod]
  · have h4i : ¬ act.toInt < 4 := fun z => hlt ((lt_ti rfl (show (4 : Int32).toInt = 4 from rfl)).mpr z)
    have hz : paceI act up kind = 0 → psW act T up w 7 = w0 := by
      intro hp
      rw [e0, hp]
      have e1 : (w0 + 0 * 100 * nI T).toInt = (W : Int) := by
        have : (0 : Int32) * 100 * nI T = 0 := by simp
        rw [this]
        simp
        exact m7.symm
      have e5 := ti_wrap e1 eR (by omega) (by omega) (by omega) (by omega)
      apply Int32.toInt_inj.mp
      rw [e5, Int.emod_eq_of_lt (by omega) (by omega)]
      exact m7
    by_cases h4 : act = 4
    · by_cases hk : kind = 0 ∨ kind = 5 ∨ kind = 6 ∨ kind = 7
      · have hk4 : ¬ kind = 1 ∧ ¬ kind = 2 ∧ ¬ kind = 3 ∧ ¬ kind = 4 := by
          rcases hk with rfl | rfl | rfl | rfl <;> decide
        have ep : paceI act up kind = -up := by
          unfold paceI
          rw [if_neg hlt, if_pos ⟨h4, hk4⟩]
        have en : (-up).toInt = -(u : Int) := ti_neg mu.symm (by omega)
        have e1 : (-up * 100).toInt = -(u : Int) * 100 := ti_mul en (show (100 : Int32).toInt = 100 from rfl) (by omega) (by omega)
        have e2 : (-up * 100 * nI T).toInt = -((T * u * 100 : Nat) : Int) := by
          have e3 : -(u : Int) * 100 * (T : Int) = -((T * u * 100 : Nat) : Int) := by
            rw [Int.natCast_mul, Int.natCast_mul, Int.neg_mul, Int.neg_mul, Int.mul_comm ((u : Int) * 100) T, Int.mul_assoc]
            rfl
          rw [ti_mul e1 eT (by rw [e3]; omega) (by rw [e3]; omega), e3]
        have e4 := ti_add m7.symm e2 (by omega) (by omega)
        have e5 : (psW act T up w 7).toInt = ((W : Int) + -((T * u * 100 : Nat) : Int)) % (100 * by_.toInt) := by
          rw [e0, ep]
          exact ti_wrap e4 eR (by omega) (by omega) (by omega) (by omega)
        refine ⟨?_, hbnd _ e5⟩
        apply Int32.toInt_inj.mp
        rw [e5, h4, whT_back hk mu.symm m8.symm m7.symm (by omega) (by omega) (by omega) (by omega) (100 * T), hcomm, hRD]
        rfl
      · have hk4 : ¬ (¬ kind = 1 ∧ ¬ kind = 2 ∧ ¬ kind = 3 ∧ ¬ kind = 4) := by
          intro z
          have hki : kind.toInt = 0 ∨ kind.toInt = 1 ∨ kind.toInt = 2 ∨ kind.toInt = 3 ∨ kind.toInt = 4 ∨ kind.toInt = 5 ∨ kind.toInt = 6 ∨ kind.toInt = 7 := by omega
          rcases hki with q | q | q | q | q | q | q | q
          · exact hk (Or.inl (Int32.toInt_inj.mp q))
          · exact z.1 (Int32.toInt_inj.mp q)
          · exact z.2.1 (Int32.toInt_inj.mp q)
          · exact z.2.2.1 (Int32.toInt_inj.mp q)
          · exact z.2.2.2 (Int32.toInt_inj.mp q)
          · exact hk (Or.inr (Or.inl (Int32.toInt_inj.mp q)))
          · exact hk (Or.inr (Or.inr (Or.inl (Int32.toInt_inj.mp q))))
          · exact hk (Or.inr (Or.inr (Or.inr (Int32.toInt_inj.mp q))))
        have hp : paceI act up kind = 0 := by
          unfold paceI
          rw [if_neg hlt, if_neg (fun z => hk4 z.2)]
        rw [hz hp, whT_still (Or.inr ⟨h4, hk⟩)]
        exact ⟨rfl, hw1, hw2⟩
    · have h5 : act = 5 := Int32.toInt_inj.mp (show act.toInt = 5 by
        have : ¬ act.toInt = 4 := fun z => h4 (Int32.toInt_inj.mp z)
        omega)
      have hp : paceI act up kind = 0 := by
        unfold paceI
        rw [if_neg hlt, if_neg (fun z => h4 z.1)]
      rw [hz hp, whT_still (Or.inl h5)]
      exact ⟨rfl, hw1, hw2⟩
end
section
-- THE NUMBERS OF A BICYCLE ARE AS THEY MUST BE
def WFf (s : Nat → Int32) (j : Nat) : Prop :=
  (0 ≤ (s (16 + 9 * j)).toInt ∧ (s (16 + 9 * j)).toInt ≤ 7) ∧ (0 ≤ (s (16 + 9 * j + 1)).toInt ∧ (s (16 + 9 * j + 1)).toInt ≤ 99) ∧ (0 ≤ (s (16 + 9 * j + 2)).toInt ∧ (s (16 + 9 * j + 2)).toInt ≤ 9) ∧
  (1 ≤ (s (16 + 9 * j + 3)).toInt ∧ (s (16 + 9 * j + 3)).toInt ≤ 99) ∧ (1 ≤ (s (16 + 9 * j + 4)).toInt ∧ (s (16 + 9 * j + 4)).toInt ≤ 99) ∧
  (1 ≤ (s (16 + 9 * j + 5)).toInt ∧ (s (16 + 9 * j + 5)).toInt ≤ 20) ∧ (1 ≤ (s (16 + 9 * j + 6)).toInt ∧ (s (16 + 9 * j + 6)).toInt ≤ 20) ∧
  (1 ≤ (s (16 + 9 * j + 8)).toInt ∧ (s (16 + 9 * j + 8)).toInt ≤ 140) ∧ 0 ≤ (s (16 + 9 * j + 7)).toInt ∧ (s (16 + 9 * j + 7)).toInt < 100 * (s (16 + 9 * j + 8)).toInt
def WF (s : Nat → Int32) : Prop :=
  ((20 ≤ (s 0).toInt ∧ (s 0).toInt ≤ 60) ∧ (60 ≤ (s 1).toInt ∧ (s 1).toInt ≤ 140) ∧ (0 ≤ (s 2).toInt ∧ (s 2).toInt ≤ 5) ∧ (0 ≤ (s 3).toInt ∧ (s 3).toInt ≤ 8) ∧ (0 ≤ (s 4).toInt ∧ (s 4).toInt ≤ 8) ∧ (0 ≤ (s 5).toInt ∧ (s 5).toInt ≤ 9999) ∧ (-9 ≤ (s 6).toInt ∧ (s 6).toInt ≤ 9999)) ∧
  ((0 ≤ (s 7).toInt ∧ (s 7).toInt ≤ 9) ∧ (s 8 = 0 ∨ s 8 = 1) ∧ (0 ≤ (s 9).toInt ∧ (s 9).toInt ≤ 100) ∧ (0 ≤ (s 10).toInt ∧ (s 10).toInt ≤ 99)) ∧
  (∀ k : Nat, k < 5 → (k : Int) < (s 2).toInt → 10 ≤ (s (11 + k)).toInt ∧ (s (11 + k)).toInt ≤ 40) ∧
  (∀ j : Nat, j < 8 → (j : Int) < (s 3).toInt → WFf s j) ∧
  (∀ i : Nat, i < 8 → (i : Int) < (s 4).toInt → (0 ≤ (s (88 + 3 * i)).toInt ∧ (s (88 + 3 * i)).toInt ≤ 5) ∧ (0 ≤ (s (88 + 3 * i + 1)).toInt ∧ (s (88 + 3 * i + 1)).toInt < (s 2).toInt) ∧ (1 ≤ (s (88 + 3 * i + 2)).toInt ∧ (s (88 + 3 * i + 2)).toInt ≤ 60))
/-- the class's bicycle at the block b is the model's s -/
def BR (s : Nat → Int32) (x a : mA) (f : mF) (b : Nat) : Prop :=
  (s 0 = x b 0 ∧ s 1 = x b 1 ∧ s 2 = x b 3 ∧ s 3 = x b 5 ∧ s 4 = x b 12 ∧ s 5 = x b 7 ∧ s 6 = x b 8) ∧ (∀ k : Nat, k < 4 → s (7 + k) = a (b + 4) k) ∧
  (∀ k : Nat, k < 5 → (k : Int) < (s 2).toInt → s (11 + k) = a (b + 1) k) ∧
  (∀ j : Nat, j < 8 → (j : Int) < (s 3).toInt → ∀ k : Nat, k < 9 → s (16 + 9 * j + k) = f (b + 3) j k) ∧
  (∀ i : Nat, i < 8 → (i : Int) < (s 4).toInt → s (88 + 3 * i) = a (b + 5) i ∧ s (88 + 3 * i + 1) = a (b + 6) i ∧ s (88 + 3 * i + 2) = a (b + 7) i)
theorem up_rng {s : Nat → Int32} (h : WF s) {j : Nat} (hf : WFf s j) : 1 ≤ (upI (s (16 + 9 * j)) (s (16 + 9 * j + 5)) (s 0)).toInt ∧ (upI (s (16 + 9 * j)) (s (16 + 9 * j + 5)) (s 0)).toInt ≤ 60 := by
  obtain ⟨⟨h0, h1, h2, h3, h4, h5, h6⟩, -⟩ := h
  obtain ⟨k0, k1, k2, k3, k4, k5, k6, k8, k7, k9⟩ := hf
  unfold upI
  split
  · omega
  · split
    · omega
    · decide
theorem dn_rng {s : Nat → Int32} (h : WF s) {j w : Nat} (hf : WFf s j) (hw : w < 5) (hg : (w : Int) < (s 2).toInt) : 1 ≤ (downI (s (16 + 9 * j)) (s (16 + 9 * j + 6)) (s 1) (s (11 + w))).toInt ∧ (downI (s (16 + 9 * j)) (s (16 + 9 * j + 6)) (s 1) (s (11 + w))).toInt ≤ 140 := by
  obtain ⟨⟨h0, h1, h2, h3, h4, h5, h6⟩, -, hc, -⟩ := h
  obtain ⟨k0, k1, k2, k3, k4, k5, k6, k8, k7, k9⟩ := hf
  have hcw := hc w hw hg
  unfold downI
  split
  · omega
  · split
    · omega
    · split
      · omega
      · decide
theorem dn_eq {s : Nat → Int32} {x a : mA} {f : mF} (hB : BR s x a f 17) {kind dn : Int32} {w : Nat} (hw : w < 5) (hg : (w : Int) < (s 2).toInt) : downX kind dn (x 17 1) (nI w) (x 17 3) (a 18) = downI kind dn (s 1) (s (11 + w)) := by
  obtain ⟨⟨b0, b1, b2, b3, b4, b5, b6⟩, -, hc, -⟩ := hB
  have hcw := hc w hw hg
  have hin : 0 ≤ nI w ∧ nI w < x 17 3 := by
    refine ⟨nI_pos' (by omega), ?_⟩
    rw [Int32.lt_iff_toInt_lt, nI_toInt (by omega), ← b2]
    exact hg
  unfold downX downI
  rw [if_pos hin, nI_clamp (by omega), hcw, b1]
-- A STAGE OF THE CLASS'S RIDER, IN ONE PIECE
noncomputable def stX (x a : mA) (act gear : Int32) (T : Nat) (q : (Nat → Int32) × (Nat → Int32)) : (Nat → Int32) × (Nat → Int32) :=
  (psW act T (psR (okP act (q.2 3) (rW q.1 (downX (q.1 0) (q.1 6) (x 17 1) gear (x 17 3) (a 18))) (x 17 8) (a 21 3) (a 21 1) (a 21 0)) act T (rW q.1 (downX (q.1 0) (q.1 6) (x 17 1) gear (x 17 3) (a 18))) q.2 2) (rW q.1 (downX (q.1 0) (q.1 6) (x 17 1) gear (x 17 3) (a 18))),
   psT T (psR (okP act (q.2 3) (rW q.1 (downX (q.1 0) (q.1 6) (x 17 1) gear (x 17 3) (a 18))) (x 17 8) (a 21 3) (a 21 1) (a 21 0)) act T (rW q.1 (downX (q.1 0) (q.1 6) (x 17 1) gear (x 17 3) (a 18))) q.2))
/-- the rider (w, r) has come as far as the model's fault j -/
def RJ (g : mG) (A : mA) (j : Nat) (q : (Nat → Int32) × (Nat → Int32)) : Prop :=
  (∀ k, k < 7 → q.1 k = A 2 (16 + 9 * j + k)) ∧ q.1 7 = A 7 j ∧ q.1 8 = A 8 j ∧ q.2 2 = upM A j ∧ q.2 3 = g 12 ∧ q.2 4 = g 13 ∧ q.2 5 = A 9 j ∧ (1 ≤ (A 8 j).toInt ∧ (A 8 j).toInt ≤ 140) ∧ 0 ≤ (A 7 j).toInt ∧ (A 7 j).toInt < 100 * (A 8 j).toInt
theorem scale_rng {v dn b : Int32} (h1 : 0 ≤ v.toInt) (h2 : v.toInt < 100 * b.toInt) (hb1 : 1 ≤ b.toInt) (hb2 : b.toInt ≤ 140) (hd1 : 1 ≤ dn.toInt) (hd2 : dn.toInt ≤ 140) : 0 ≤ (v * dn / b).toInt ∧ (v * dn / b).toInt < 100 * dn.toInt := by
  have m1 : v.toInt * dn.toInt ≤ 13999 * 140 := Int.mul_le_mul (by omega) hd2 (by omega) (by omega)
  have m0 : 0 ≤ v.toInt * dn.toInt := Int.mul_nonneg h1 (by omega)
  have e1 : (v * dn).toInt = v.toInt * dn.toInt := ti_mul rfl rfl (by omega) (by omega)
  have hd := tdiv_abs (a := v.toInt * dn.toInt) (b := b.toInt) (by omega) (by omega) (by omega)
  have e2 := ti_div e1 (show b.toInt = b.toInt from rfl) hd.1 hd.2
  rw [Int.tdiv_eq_ediv_of_nonneg m0] at e2
  rw [e2]
  refine ⟨Int.ediv_nonneg m0 (by omega), ?_⟩
  apply Int.ediv_lt_of_lt_mul (by omega)
  have m3 : v.toInt * dn.toInt < 100 * b.toInt * dn.toInt := Int.mul_lt_mul_of_pos_right h2 (by omega)
  have m4 : 100 * b.toInt * dn.toInt = 100 * dn.toInt * b.toInt := by
    rw [Int.mul_assoc, Int.mul_comm b.toInt, ← Int.mul_assoc]
  omega
theorem psR_lo {ok : Nat → Prop} {act : Int32} {T : Nat} {w r : Nat → Int32} {k : Nat} (h5 : k ≠ 5) (h7 : k ≠ 7) : psR ok act T w r k = r k := by
  have hl : ∀ (u G e n p : Nat) (r : Nat → Int32), lisR ok u G e n p r k = r k := by
    intro u G e n
    induction n with
    | zero => intro p r; rfl
    | succ n ih =>
      intro p r
      unfold lisR
      split
      · rw [ih]
        split
        · exact clkR_lo _ _ h5 h7
        · rfl
      · rfl
  unfold psR
  split
  · exact hl _ _ _ _ _ _
  · split
    · exact hl _ _ _ _ _ _
    · rfl
theorem RJ_stage {g : mG} {A : mA} {x a : mA} {f : mF} {j m w T : Nat} {act : Int32} {q : (Nat → Int32) × (Nat → Int32)} (hW : WF (A 2)) (hB : BR (A 2) x a f 17) (hm : A 2 3 = nI m) (hj : j < m) (hm8 : m ≤ 8) (hw : w < 5) (hg : (w : Int) < (A 2 2).toInt) (hT : T ≤ 60) (ha1 : 0 ≤ act.toInt) (ha2 : act.toInt ≤ 5) (ht1 : 0 ≤ (g 12).toInt) (ht2 : (g 12).toInt ≤ 20000) (h : RJ g A j q) :
    RJ (sgN m act T (g, opN w m A)).1 (sgN m act T (g, opN w m A)).2 j (stX x a act (nI w) T q) ∧ (0 < q.1 8 ∧ RO (rW q.1 (downX (q.1 0) (q.1 6) (x 17 1) (nI w) (x 17 3) (a 18))) q.2) ∧ (g 17 = nI j → q.2 6 = g 18 → q.2 7 = g 19 → (stX x a act (nI w) T q).2 7 = (sgN m act T (g, opN w m A)).1 19) := by
  obtain ⟨r0, r7, r8, r2, r3, r4, r5, b1, b2, b3⟩ := h
  have hmj : (j : Int) < (A 2 3).toInt := by rw [hm, nI_toInt (by omega)]; omega
  have hf : WFf (A 2) j := hW.2.2.2.1 j (by omega) hmj
  have hup := up_rng hW hf
  have hdn := dn_rng hW hf hw hg
  have e0 : q.1 0 = A 2 (16 + 9 * j) := r0 0 (by decide)
  have ed : downX (q.1 0) (q.1 6) (x 17 1) (nI w) (x 17 3) (a 18) = dnM A w j := by
    rw [dn_eq hB hw hg, e0, r0 6 (by decide)]
    rfl
  have o78 := opN_lo w m A hj
  have o2 : opN w m A 2 = A 2 := opN_n w m A (by decide) (by decide)
  have o9 : opN w m A 9 = A 9 := opN_n w m A (by decide) (by decide)
  have hsc := scale_rng (v := A 7 j) (dn := dnM A w j) (b := A 8 j) b2 b3 b1.1 b1.2 hdn.1 hdn.2
  have eup : upM (opN w m A) j = upM A j := upM_2 o2 j
  have hw1 : rW q.1 (dnM A w j) 7 = opN w m A 7 j := by
    rw [o78.2, ← r7, ← r8]
    rfl
  have hw8 : rW q.1 (dnM A w j) 8 = opN w m A 8 j := o78.1.symm
  have hSJ : SJ g (opN w m A) j (rW q.1 (dnM A w j)) q.2 := by
    refine ⟨⟨?_, ?_, ?_⟩, hw1, hw8, ?_, r3, r4, ?_⟩
    · rw [o2]; exact e0
    · rw [o2]; exact r0 1 (by decide)
    · rw [o2]; exact r0 2 (by decide)
    · rw [eup]; exact r2
    · rw [o9]; exact r5
  have hRO : RO (rW q.1 (dnM A w j)) q.2 := by
    refine ⟨?_, ?_, ?_, ?_, ?_⟩
    · rw [r2]; exact hup
    · rw [hw8, o78.1]; exact hdn
    · rw [show rW q.1 (dnM A w j) 1 = q.1 1 from rfl, r0 1 (by decide)]; exact hf.2.1
    · rw [hw1, o78.2]; exact hsc.1
    · rw [hw1, hw8, o78.2, o78.1]; exact hsc.2
  have hB2 := hB
  obtain ⟨⟨-, -, -, -, -, -, b6⟩, bs, -⟩ := hB2
  have s7 := bs 0 (by decide)
  have s8 := bs 1 (by decide)
  have s10 := bs 3 (by decide)
  have hps := psR_eq (act := act) (T := T) hSJ hRO (oiled := x 17 8) (oil := a 21 3) (shoe := a 21 1) (hill := a 21 0) (by rw [o2]; exact b6.symm) (by rw [o2]; exact s10.symm) (by rw [o2]; exact s8.symm) (by rw [o2]; exact s7.symm) (by rw [o2]; exact hW.2.1.2.1) (by rw [show rW q.1 (dnM A w j) 2 = q.1 2 from rfl, r0 2 (by decide)]; exact hf.2.2.1.1) (by rw [show rW q.1 (dnM A w j) 2 = q.1 2 from rfl, r0 2 (by decide)]; exact hf.2.2.1.2) ht1 ht2 hT ha1 ha2
  have hq : ∀ k, k ≠ 5 → k ≠ 7 → fsR (ckT act g (opN w m A) j) (100 * T) q.2 k = q.2 k := fun k h5 h7 => fsR_lo _ _ _ h5 h7
  have hst : stX x a act (nI w) T q = (psW act T (q.2 2) (rW q.1 (dnM A w j)), psT T (fsR (ckT act g (opN w m A) j) (100 * T) q.2)) := by
    unfold stX
    rw [ed, hps, hq 2 (by decide) (by decide)]
  have hpw := psW_eq (act := act) (kind := A 2 (16 + 9 * j)) (up := q.2 2) (by_ := opN w m A 8 j) (w0 := opN w m A 7 j) (T := T) (w := rW q.1 (dnM A w j)) e0 hw1 hw8 hf.1.1 hf.1.2 (by rw [r2]; exact hup.1) (by rw [r2]; exact hup.2) (by rw [o78.1]; exact hdn.1) (by rw [o78.1]; exact hdn.2) (by rw [o78.2]; exact hsc.1) (by rw [o78.2, o78.1]; exact hsc.2) hT ha1 ha2
  -- the model's side, for counting, with numbers of its own for what is asked
  have pj := PJ_stage (act := act) (g := g) (A := opN w m A) (j := j) (m := m) (r := upd (upd q.2 6 (g 18)) 7 (g 19)) hj hm8 r4 (by rw [o9]; exact r5) rfl rfl T
  obtain ⟨p7, p9, p12, p13, p17, p18, p2, p8, p19⟩ := pj
  refine ⟨?_, ⟨?_, by rw [ed]; exact hRO⟩, ?_⟩
  · rw [hst]
    refine ⟨?_, ?_, ?_, ?_, ?_, ?_, ?_, ?_, ?_, ?_⟩
    · intro k hk
      rw [p2, o2, ← r0 k hk]
      show psW act T (q.2 2) (rW q.1 (dnM A w j)) k = q.1 k
      unfold psW rW upd
      rw [if_neg (by omega), if_neg (by omega), if_neg (by omega)]
    · rw [p7, o2, eup, ← r2]
      exact hpw.1
    · rw [p8]
      exact hw8
    · show fsR _ _ q.2 2 = _
      rw [hq 2 (by decide) (by decide), upM_2 (p2.trans o2)]
      exact r2
    · show fsR _ _ q.2 3 + nI T = _
      rw [hq 3 (by decide) (by decide), r3, p12]
    · show fsR _ _ q.2 4 + nI T * 100 = _
      rw [hq 4 (by decide) (by decide), r4, p13, show (100 : Int32) = nI 100 from rfl, pk_mul, Nat.mul_comm]
    · show fsR _ _ q.2 5 = _
      rw [p9]
      exact fsR_5 (r := q.2) (r' := upd (upd q.2 6 (g 18)) 7 (g 19)) rfl _
    · rw [p8, o78.1]
      exact hdn
    · rw [p7, o2, eup, ← r2, ← hpw.1]
      exact hpw.2.1
    · rw [p7, o2, eup, ← r2, ← hpw.1, p8]
      exact hpw.2.2
  · rw [r8, Int32.lt_iff_toInt_lt]
    show 0 < _
    omega
  · intro h17 h6 h7
    rw [hst, p19 h17]
    show fsR _ _ q.2 7 = _
    rw [← h6, ← h7]
    congr 1
    funext k
    unfold upd
    by_cases k7 : k = 7
    · rw [if_pos k7, k7]
    · rw [if_neg k7]
      by_cases k6 : k = 6
      · rw [if_pos k6, k6]
      · rw [if_neg k6]
end
section
abbrev rQ : Type := (Nat → Int32) × (Nat → Int32)
noncomputable def rdN (x a : mA) : Nat → rQ → rQ
  | 0, q => q
  | n + 1, q => stX x a (a 22 n) (a 23 n) (a 24 n).toNatClampNeg (rdN x a n q)
theorem stX_6 (x a : mA) (act gear : Int32) (T : Nat) (q : rQ) : (stX x a act gear T q).2 6 = q.2 6 := by
  show psT T _ 6 = _
  show psR _ act T _ q.2 6 = _
  exact psR_lo (by decide) (by decide)
theorem sgN_12 (m : Nat) (act : Int32) (n : Nat) (q : mGA) : (sgN m act n q).1 12 = q.1 12 + nI n ∧ (sgN m act n q).1 17 = q.1 17 ∧ (sgN m act n q).1 18 = q.1 18 ∧ (sgN m act n q).1 16 = q.1 16 := by
  have ht : ∀ (i : Nat) (q : mGA), (tuN m act i q).1 12 = q.1 12 ∧ (tuN m act i q).1 17 = q.1 17 ∧ (tuN m act i q).1 18 = q.1 18 ∧ (tuN m act i q).1 16 = q.1 16 := by
    intro i q
    induction i with
    | zero => exact ⟨rfl, rfl, rfl, rfl⟩
    | succ i ih =>
      refine ⟨?_, ?_, ?_, ?_⟩
      · exact (gsN_g act (nI i) m _ (k := 12) (by decide) (by decide) (by decide)).trans ih.1
      · exact (gsN_g act (nI i) m _ (k := 17) (by decide) (by decide) (by decide)).trans ih.2.1
      · exact (gsN_g act (nI i) m _ (k := 18) (by decide) (by decide) (by decide)).trans ih.2.2.1
      · exact (gsN_g act (nI i) m _ (k := 16) (by decide) (by decide) (by decide)).trans ih.2.2.2
  induction n with
  | zero =>
    refine ⟨?_, rfl, rfl, rfl⟩
    show q.1 12 = q.1 12 + nI 0
    rw [nI_0]
    simp
  | succ n ih =>
    obtain ⟨t1, t2, t3, t4⟩ := ht 100 (sgN m act n q)
    refine ⟨?_, t2.trans ih.2.1, t3.trans ih.2.2.1, t4.trans ih.2.2.2⟩
    show (tuN m act 100 (sgN m act n q)).1 12 + 1 = _
    rw [t1, ih.1, nI_succ, Int32.add_assoc]
theorem RJ_2 {g : mG} {A A' : mA} {j : Nat} {q : rQ} (h2 : A' 2 = A 2) (h7 : A' 7 = A 7) (h8 : A' 8 = A 8) (h9 : A' 9 = A 9) (h : RJ g A j q) : RJ g A' j q := by
  unfold RJ at *
  rw [h2, h7, h8, h9, upM_2 h2]
  exact h
/-- behind n stages -/
def RN (g : mG) (A : mA) (x a : mA) (m j n : Nat) (q : rQ) : Prop :=
  RJ (rsN m n (g, A)).1 (rsN m n (g, A)).2 j (rdN x a n q) ∧ (rsN m n (g, A)).2 2 = A 2 ∧ (0 ≤ ((rsN m n (g, A)).1 12).toInt ∧ ((rsN m n (g, A)).1 12).toInt ≤ 9999 + 60 * n) ∧ ((rsN m n (g, A)).1 17 = g 17 ∧ (rsN m n (g, A)).1 18 = g 18 ∧ (rsN m n (g, A)).1 16 = g 16) ∧ (rdN x a n q).2 6 = q.2 6 ∧ (g 17 = nI j → q.2 6 = g 18 → q.2 7 = g 19 → (rdN x a n q).2 7 = (rsN m n (g, A)).1 19)
theorem stage_nums {s : Nat → Int32} {x a : mA} {f : mF} (hW : WF s) (hB : BR s x a f 17) {i ns : Nat} (hns : s 4 = nI ns) (hi : i < ns) (hns8 : ns ≤ 8) : ∃ w T : Nat, w < 5 ∧ (w : Int) < (s 2).toInt ∧ 1 ≤ T ∧ T ≤ 60 ∧ s (88 + 3 * i + 1) = nI w ∧ a 23 i = nI w ∧ s (88 + 3 * i + 2) = nI T ∧ a 24 i = nI T ∧ s (88 + 3 * i) = a 22 i ∧ 0 ≤ (a 22 i).toInt ∧ (a 22 i).toInt ≤ 5 := by
  have hii : (i : Int) < (s 4).toInt := by rw [hns, nI_toInt (by omega)]; omega
  obtain ⟨⟨h1, h2⟩, ⟨h3, h4⟩, h5, h6⟩ := hW.2.2.2.2 i (by omega) hii
  obtain ⟨b1, b2, b3⟩ := hB.2.2.2.2 i (by omega) hii
  have h22 := hW.1.2.2.1
  have c1 := ti_clamp (x := s (88 + 3 * i + 1)) h3
  have c2 := ti_clamp (x := s (88 + 3 * i + 2)) (by omega)
  refine ⟨(s (88 + 3 * i + 1)).toNatClampNeg, (s (88 + 3 * i + 2)).toNatClampNeg, by omega, by omega, by omega, by omega, ti_nat h3, ?_, ti_nat (by omega), ?_, b1, ?_, ?_⟩
  · have b2' : s (88 + 3 * i + 1) = a 23 i := b2
    rw [← b2']
    exact ti_nat h3
  · have b3' : s (88 + 3 * i + 2) = a 24 i := b3
    rw [← b3']
    exact ti_nat (by omega)
  · have b1' : s (88 + 3 * i) = a 22 i := b1
    rw [← b1']
    exact h1
  · have b1' : s (88 + 3 * i) = a 22 i := b1
    rw [← b1']
    exact h2
theorem RN_step {g : mG} {A : mA} {x a : mA} {f : mF} {j m ns n : Nat} {q : rQ} (hW : WF (A 2)) (hB : BR (A 2) x a f 17) (hm : A 2 3 = nI m) (hm8 : m ≤ 8) (hns : A 2 4 = nI ns) (hns8 : ns ≤ 8) (hj : j < m) (hn : n < ns) (h : RN g A x a m j n q) : RN g A x a m j (n + 1) q ∧ 0 < (rdN x a n q).1 8 ∧ RO (rW (rdN x a n q).1 (downX ((rdN x a n q).1 0) ((rdN x a n q).1 6) (x 17 1) (a 23 n) (x 17 3) (a 18))) (rdN x a n q).2 := by
  obtain ⟨h1, h2, ⟨h3, h4⟩, ⟨h17, h18, h16⟩, h6, h7⟩ := h
  obtain ⟨w, T, hw, hwg, hT1, hT, ew, ew', eT, eT', ea, ha1, ha2⟩ := stage_nums hW hB hns hn hns8
  generalize hq : rsN m n (g, A) = Q at h1 h2 h3 h4 h17 h18 h16 h7
  obtain ⟨G, B⟩ := Q
  have hB2 : B 2 = A 2 := h2
  have h3 : 0 ≤ (G 12).toInt := h3
  have h4 : (G 12).toInt ≤ 9999 + 60 * n := h4
  have hst := RJ_stage (g := G) (A := B) (x := x) (a := a) (f := f) (j := j) (m := m) (w := w) (T := T) (act := a 22 n) (q := rdN x a n q) (by rw [hB2]; exact hW) (by rw [hB2]; exact hB) (by rw [hB2]; exact hm) hj hm8 hw (by rw [hB2]; exact hwg) hT ha1 ha2 h3 (by omega) h1
  obtain ⟨s1, s2, s3⟩ := hst
  have eF : rsN m (n + 1) (g, A) = sgN m (a 22 n) T (G, opN w m B) := by
    show rsF m n (rsN m n (g, A)) = _
    rw [hq]
    unfold rsF
    dsimp only
    rw [hB2, ea, ew, eT, nI_clamp (by omega), nI_clamp (by omega)]
  have eX : rdN x a (n + 1) q = stX x a (a 22 n) (nI w) T (rdN x a n q) := by
    show stX x a (a 22 n) (a 23 n) (a 24 n).toNatClampNeg (rdN x a n q) = _
    rw [ew', eT', nI_clamp (by omega)]
  obtain ⟨g12, g17, g18, g16⟩ := sgN_12 m (a 22 n) T (G, opN w m B)
  have e12 : (G 12 + nI T).toInt = (G 12).toInt + T := ti_add rfl (nI_toInt (by omega)) (by omega) (by omega)
  refine ⟨⟨?_, ?_, ?_, ⟨?_, ?_, ?_⟩, ?_, ?_⟩, ?_⟩
  · rw [eF, eX]
    exact s1
  · rw [eF, sgN_A _ _ _ _ (by decide) (by decide)]
    show opN w m B 2 = A 2
    rw [opN_n w m B (by decide) (by decide), hB2]
  · rw [eF, g12]
    show 0 ≤ (G 12 + nI T).toInt ∧ (G 12 + nI T).toInt ≤ _
    rw [e12]
    have h3' : 0 ≤ (G 12).toInt := h3
    have h4' : (G 12).toInt ≤ 9999 + 60 * n := h4
    omega
  · rw [eF, g17]
    exact h17
  · rw [eF, g18]
    exact h18
  · rw [eF, g16]
    exact h16
  · rw [eX, stX_6]
    exact h6
  · intro q1 q2 q3
    rw [eF, eX]
    refine s3 (h17.trans q1) ?_ ?_
    · rw [h6, q2]
      exact h18.symm
    · exact h7 q1 q2 q3
  · rw [ew']
    exact s2
theorem RN_all {g : mG} {A : mA} {x a : mA} {f : mF} {j m ns : Nat} {q : rQ} (hW : WF (A 2)) (hB : BR (A 2) x a f 17) (hm : A 2 3 = nI m) (hm8 : m ≤ 8) (hns : A 2 4 = nI ns) (hns8 : ns ≤ 8) (hj : j < m) (ht1 : 0 ≤ (g 12).toInt) (ht2 : (g 12).toInt ≤ 9999) (h : RJ g A j q) : ∀ n, n ≤ ns → RN g A x a m j n q := by
  intro n
  induction n with
  | zero => exact fun _ => ⟨h, rfl, ⟨ht1, by show (g 12).toInt ≤ _; omega⟩, ⟨rfl, rfl, rfl⟩, rfl, fun _ _ h7 => h7⟩
  | succ n ih => exact fun hn => (RN_step hW hB hm hm8 hns hns8 hj (by omega) (ih (by omega))).1
-- THE CLASS'S RIDE OF A FAULT
section PassRide
variable (d : Nat) (mb : Nat → AB) (x a : mA) (f : mF)
set_option maxRecDepth 100000 in
theorem p_ride {i ns : Nat} (hi : i < 8) (hns : x 17 12 = nI ns) (hns8 : ns ≤ 8) (hn : x 17 3 ≤ 5) (w r : Nat → Int32) (wanted : Int32) (q0 : rQ) (hq0 : q0 = (f 20 i, rB (upI (f 20 i 0) (f 20 i 5) (x 17 0)) (x 17 7) wanted r))
    (hall : ∀ n, n < ns → 0 < (rdN x a n q0).1 8 ∧ RO (rW (rdN x a n q0).1 (downX ((rdN x a n q0).1 0) ((rdN x a n q0).1 6) (x 17 1) (a 23 n) (x 17 3) (a 18))) (rdN x a n q0).2 ∧ ∃ T : Nat, T ≤ 60 ∧ a 24 n = nI T) :
    ab_Ex (d + 4) 0 yX2_passRide [vR 41 0, vR 20 i, vI wanted] (hX mb (mS (mS x 42 w) 41 r) a f) (some (vI ((rdN x a ns q0).2 5))) (hX mb (mS (mS x 42 (rdN x a ns q0).1) 41 (rdN x a ns q0).2) a f) := by
  refine ab_meth oX2_passRide (d + 3) _ _ _ _ (Nat.le_refl _) rfl (fun E => ?_)
  have loop : ∀ (k n : Nat), n + k = ns → ab_W jX2_passRide (d + 3) E (hX mb (mS (mS x 42 w) 41 r) a f) 70 (fun v1 h1 => v1 = some (vI ((rdN x a ns q0).2 5)) ∧ h1 = hX mb (mS (mS x 42 (rdN x a ns q0).1) 41 (rdN x a ns q0).2) a f) (ab_at iX2_passRide 8) [(3, vI (nI n)), (0, vR 41 0), (1, vR 20 i), (2, vI wanted)] [] (hX mb (mS (mS x 42 (rdN x a n q0).1) 41 (rdN x a n q0).2) a f) := by
    intro k
    induction k with
    | zero =>
      intro n hk
      refine ab_run [8] 100 oX2_passRide.1 (Nat.le_refl _) 8 ?_
      refine ⟨fun c1 => ?_, fun c1 => ?_⟩
      · rw [show ns = n by omega]
        exact ⟨rfl, rfl⟩
      · have c1 : ¬ x 17 12 ≤ nI n := c1
        rw [hns] at c1
        exact absurd (nI_le (by omega) (by omega)) c1
    | succ k ih =>
      intro n hk
      obtain ⟨o1, o2, T, hT, eT⟩ := hall n (by omega)
      have hin : vp_in (nI n) 8 := vp_in_nI (by omega) (by omega)
      have hcn : (nI n).toNatClampNeg = n := nI_clamp (by omega)
      refine ab_run [8] 100 oX2_passRide.1 (Nat.le_refl _) 8 ?_
      refine ⟨fun c1 => ?_, fun c1 => ?_⟩
      · have c1 : x 17 12 ≤ nI n := c1
        rw [hns] at c1
        exact absurd c1 (nI_lt_m (by omega) (by omega))
      refine ⟨hin, hin, hin, ?_⟩
      rw [hcn]
      have hS := p_stage41 d mb x a f (rdN x a n q0).1 (rW (rdN x a n q0).1 (downX ((rdN x a n q0).1 0) ((rdN x a n q0).1 6) (x 17 1) (a 23 n) (x 17 3) (a 18))) (rdN x a n q0).2 (a 22 n) (a 23 n) T hT hn o1 rfl o2
      rw [← eT] at hS
      refine ⟨_, _, hS, Nat.le_refl _, ?_⟩
      have h9 := ih (n + 1) (by omega)
      rw [nI_succ] at h9
      have eR : rdN x a (n + 1) q0 = stX x a (a 22 n) (a 23 n) T (rdN x a n q0) := by
        show stX x a (a 22 n) (a 23 n) (a 24 n).toNatClampNeg (rdN x a n q0) = _
        rw [eT, nI_clamp (by omega)]
      rw [eR] at h9
      exact h9
  refine ab_run [8] 100 oX2_passRide.1 (Nat.le_refl _) 0 ?_
  refine ⟨_, _, r_begin41 (d + 1) mb x a f w r hi wanted, Nat.le_refl _, ?_⟩
  have h9 := loop ns 0 (by omega)
  rw [show rdN x a 0 q0 = q0 from rfl, hq0] at h9
  rw [hq0]
  exact h9
end PassRide
end
section
-- THE INVARIANT BETWEEN THE CLASS AND THE MODEL
def IV : IT := fun g A x a f =>
  (∀ k : Nat, k < 7 → A 1 k = a 48 k) ∧ (∃ n : Nat, n ≤ 64 ∧ g 7 = nI n ∧ x 14 1 = nI n ∧ ∀ k : Nat, k < n → A 5 k = a 15 k) ∧ (∃ n : Nat, n ≤ 8 ∧ g 24 = nI n ∧ x 13 10 = nI n ∧ ∀ k : Nat, k < n → A 12 k = a 47 k) ∧
  (g 4 = x 13 4 ∧ (g 4 = 0 ∨ g 4 = 1)) ∧ WF (A 2) ∧ BR (A 2) x a f 17 ∧ (g 4 = 1 → WF (A 3) ∧ BR (A 3) x a f 33)
theorem BR_congr {s : Nat → Int32} {x x' a a' : mA} {f f' : mF} {b : Nat} (hx : x' b = x b) (h1 : a' (b + 1) = a (b + 1)) (h4 : a' (b + 4) = a (b + 4)) (h5 : a' (b + 5) = a (b + 5)) (h6 : a' (b + 6) = a (b + 6)) (h7 : a' (b + 7) = a (b + 7)) (hf : f' (b + 3) = f (b + 3)) (h : BR s x a f b) : BR s x' a' f' b := by
  unfold BR
  rw [hx, h1, h4, h5, h6, h7, hf]
  exact h
theorem IV_congr {g g' : mG} {A A' x x' a a' : mA} {f : mF} (hA : ∀ k, k = 1 ∨ k = 2 ∨ k = 3 ∨ k = 5 ∨ k = 12 → A' k = A k) (hg : ∀ k, k = 4 ∨ k = 7 ∨ k = 24 → g' k = g k) (hx : ∀ k, k = 13 ∨ k = 14 ∨ k = 17 ∨ k = 33 → x' k = x k) (ha : ∀ k, k ≠ 45 → k ≠ 46 → a' k = a k) (h : IV g A x a f) : IV g' A' x' a' f := by
  obtain ⟨h1, h2, h3, h4, h5, h6, h7⟩ := h
  have a1 := hA 1 (by decide)
  have a2 := hA 2 (by decide)
  have a3 := hA 3 (by decide)
  have a5 := hA 5 (by decide)
  have a12 := hA 12 (by decide)
  have g4 := hg 4 (by decide)
  have g7 := hg 7 (by decide)
  have g24 := hg 24 (by decide)
  have x13 := hx 13 (by decide)
  have x14 := hx 14 (by decide)
  have x17 := hx 17 (by decide)
  have x33 := hx 33 (by decide)
  have hb := fun k (h1 : k ≠ 45) (h2 : k ≠ 46) => ha k h1 h2
  unfold IV
  rw [a1, a2, a3, a5, a12, g4, g7, g24, x13, x14, hb 48 (by decide) (by decide), hb 15 (by decide) (by decide), hb 47 (by decide) (by decide)]
  exact ⟨h1, h2, h3, h4, h5, BR_congr x17 (hb _ (by decide) (by decide)) (hb _ (by decide) (by decide)) (hb _ (by decide) (by decide)) (hb _ (by decide) (by decide)) (hb _ (by decide) (by decide)) rfl h6, fun q => ⟨(h7 q).1, BR_congr x33 (hb _ (by decide) (by decide)) (hb _ (by decide) (by decide)) (hb _ (by decide) (by decide)) (hb _ (by decide) (by decide)) (hb _ (by decide) (by decide)) rfl (h7 q).2⟩⟩
def RC (c : Int32) : Prop := c = -1 ∨ c = -2 ∨ c = -3 ∨ c = -4 ∨ c = -6
def rfX (a : mA) (c : Int32) : mA := mS a 48 (upd (a 48) (-c).toNatClampNeg (a 48 (-c).toNatClampNeg + 1))
def rfM (A : mA) (c : Int32) : mA := mS A 1 (upd (A 1) (-c).toNatClampNeg (A 1 (-c).toNatClampNeg + 1))
theorem x_rf (d : Nat) (mb : Nat → AB) (x a : mA) (f : mF) {c : Int32} (hc : RC c) : ab_Ex (d + 1) 0 yX4_refuse [vR 13 0, vI c] (hX mb x a f) (some (vI c)) (hX mb x (rfX a c) f) := by
  refine x_refuse d mb x a f c ?_ ?_
  · rcases hc with rfl | rfl | rfl | rfl | rfl <;> decide
  · rcases hc with rfl | rfl | rfl | rfl | rfl <;> exact vp_d rfl
theorem m_rf (d : Nat) (g : mG) (A : mA) (xs : List AB) {c : Int32} (hc : RC c) : ab_Ex (d + 1) 0 yX5_refuse [vR 0 0, vI c] (hM g A xs) (some (vI c)) (hM g (rfM A c) xs) := by
  refine m_refuse d g A xs c ?_
  rcases hc with rfl | rfl | rfl | rfl | rfl <;> exact vp_d rfl
theorem IV_rf {g : mG} {A x a : mA} {f : mF} (h : IV g A x a f) {c : Int32} (hc : RC c) : IV g (rfM A c) x (rfX a c) f := by
  obtain ⟨h1, h2, h3, h4, h5, h6, h7⟩ := h
  have e : ∀ k : Nat, k < 7 → rfM A c 1 k = rfX a c 48 k := by
    intro k hk
    unfold rfM rfX
    rw [mS_eq, mS_eq]
    show (if k = (-c).toNatClampNeg then _ else _) = if k = (-c).toNatClampNeg then _ else _
    by_cases hq : k = (-c).toNatClampNeg
    · rw [if_pos hq, if_pos hq, ← hq, h1 k hk]
    · rw [if_neg hq, if_neg hq, h1 k hk]
  refine ⟨e, h2, h3, h4, h5, h6, h7⟩
theorem IV_m {g : mG} {A x a : mA} {f : mF} (h : IV g A x a f) : ∃ m : Nat, m ≤ 8 ∧ A 2 3 = nI m ∧ x 17 5 = nI m := by
  obtain ⟨-, -, -, -, h5, h6, -⟩ := h
  have h3 := h5.1.2.2.2.1
  have c := ti_clamp (x := A 2 3) h3.1
  exact ⟨(A 2 3).toNatClampNeg, by omega, ti_nat h3.1, by rw [← h6.1.2.2.2.1]; exact ti_nat h3.1⟩
theorem IV_ns {g : mG} {A x a : mA} {f : mF} (h : IV g A x a f) : ∃ m : Nat, m ≤ 8 ∧ A 2 4 = nI m ∧ x 17 12 = nI m := by
  obtain ⟨-, -, -, -, h5, h6, -⟩ := h
  have h3 := h5.1.2.2.2.2.1
  have c := ti_clamp (x := A 2 4) h3.1
  exact ⟨(A 2 4).toNatClampNeg, by omega, ti_nat h3.1, by rw [← h6.1.2.2.2.2.1]; exact ti_nat h3.1⟩
theorem IV_ng {g : mG} {A x a : mA} {f : mF} (h : IV g A x a f) : ∃ m : Nat, m ≤ 5 ∧ A 2 2 = nI m ∧ x 17 3 = nI m := by
  obtain ⟨-, -, -, -, h5, h6, -⟩ := h
  have h3 := h5.1.2.2.1
  have c := ti_clamp (x := A 2 2) h3.1
  exact ⟨(A 2 2).toNatClampNeg, by omega, ti_nat h3.1, by rw [← h6.1.2.2.1]; exact ti_nat h3.1⟩
theorem ix_of {v : Int32} {m : Nat} (hm : m ≤ 1000) (h : 0 ≤ v ∧ v < nI m) : ∃ i : Nat, i < m ∧ v = nI i := by
  have h1 := Int32.le_iff_toInt_le.mp h.1
  have h2 := Int32.lt_iff_toInt_lt.mp h.2
  rw [nI_toInt (by omega)] at h2
  have h0 : (0 : Int32).toInt = 0 := rfl
  have c := ti_clamp (x := v) (by omega)
  exact ⟨v.toNatClampNeg, by omega, ti_nat (by omega)⟩
/-- both refuse: what is left to show of a pair -/
theorem pr_rf {d : Nat} {yx ym : MethodName} {as : List AV} {g : mG} {A x a : mA} {f : mF} (h : IV g A x a f) {c : Int32} (hc : RC c) (e1 : ab_Ex d 0 yx (vR 13 0 :: as) (hX (mbl g A) x a f) (some (vI c)) (hX (mbl g A) x (rfX a c) f)) (e2 : ∀ xs, ab_Ex d 0 ym (vR 0 0 :: as) (hM g A xs) (some (vI c)) (hM g (rfM A c) xs)) : ∃ (r : Int32) (x' a' : mA) (f' : mF) (g' : mG) (A' : mA), ab_Ex d 0 yx (vR 13 0 :: as) (hM g A (xl x a f)) (some (vI r)) (hM g A (xl x' a' f')) ∧ ab_Ex d 0 ym (vR 0 0 :: as) (hM g A (xl x' a' f')) (some (vI r)) (hM g' A' (xl x' a' f')) ∧ IV g' A' x' a' f' :=
  ⟨c, x, rfX a c, f, g, rfM A c, e1, e2 _, IV_rf h hc⟩
/-- both answer, and nothing changes -/
theorem pr_rd {d : Nat} {yx ym : MethodName} {as : List AV} {g : mG} {A x a : mA} {f : mF} (h : IV g A x a f) {r : Int32} (e1 : ab_Ex d 0 yx (vR 13 0 :: as) (hX (mbl g A) x a f) (some (vI r)) (hX (mbl g A) x a f)) (e2 : ∀ xs, ab_Ex d 0 ym (vR 0 0 :: as) (hM g A xs) (some (vI r)) (hM g A xs)) : ∃ (r : Int32) (x' a' : mA) (f' : mF) (g' : mG) (A' : mA), ab_Ex d 0 yx (vR 13 0 :: as) (hM g A (xl x a f)) (some (vI r)) (hM g A (xl x' a' f')) ∧ ab_Ex d 0 ym (vR 0 0 :: as) (hM g A (xl x' a' f')) (some (vI r)) (hM g' A' (xl x' a' f')) ∧ IV g' A' x' a' f' :=
  ⟨r, x, a, f, g, A, e1, e2 _, h⟩
-- drop
theorem p_drop : P_drop IV 40 := by
  intro g A x a f h
  obtain ⟨h1, h2, h3, h4, h5, h6, h7⟩ := h
  refine ⟨A 2 4, mS x 17 (upd (x 17) 12 0), a, f, g, mS A 2 (upd (A 2) 4 0), ?_, ?_, ?_⟩
  · refine ex_r (r := x 17 12) ?_ h6.1.2.2.2.2.1.symm
    refine ab_meth oX4_drop 39 _ _ _ _ (Nat.le_refl _) rfl (fun E => ?_)
    refine ab_run [] 50 oX4_drop.1 (Nat.le_refl _) 0 ?_
    exact ⟨rfl, rfl⟩
  · refine ab_meth oX5_drop 39 _ _ _ _ (Nat.le_refl _) rfl (fun E => ?_)
    refine ab_run [] 50 oX5_drop.1 (Nat.le_refl _) 0 ?_
    refine ⟨vp_d rfl, vp_d rfl, ?_⟩
    exact ⟨rfl, rfl⟩
  · refine ⟨h1, h2, h3, h4, ?_, ?_, h7⟩
    · obtain ⟨⟨w0, w1, w2, w3, w4, w5, w6⟩, w7, w8, w9, w10⟩ := h5
      have e : ∀ k, k ≠ 4 → (mS A 2 (upd (A 2) 4 0)) 2 k = A 2 k := by
        intro k hk
        rw [mS_eq]
        exact if_neg hk
      refine ⟨⟨w0, w1, w2, w3, (by show 0 ≤ (0 : Int32).toInt ∧ (0 : Int32).toInt ≤ 8; decide), w5, w6⟩, w7, ?_, ?_, ?_⟩
      · intro k hk hk2
        rw [e _ (by omega)]
        exact w8 k hk hk2
      · intro j hj hj2
        have := w9 j hj hj2
        unfold WFf at this ⊢
        rw [e _ (by omega), e _ (by omega), e _ (by omega), e _ (by omega), e _ (by omega), e _ (by omega), e _ (by omega), e _ (by omega), e _ (by omega)]
        exact this
      · intro i hi hi2
        have hz : ((mS A 2 (upd (A 2) 4 0)) 2 4).toInt = 0 := rfl
        rw [hz] at hi2
        omega
    · obtain ⟨⟨w0, w1, w2, w3, w4, w5, w6⟩, w7, w8, w9, w10⟩ := h6
      have e : ∀ k, k ≠ 4 → (mS A 2 (upd (A 2) 4 0)) 2 k = A 2 k := by
        intro k hk
        rw [mS_eq]
        exact if_neg hk
      refine ⟨⟨w0, w1, w2, w3, rfl, w5, w6⟩, ?_, ?_, ?_, ?_⟩
      · intro k hk
        rw [e _ (by omega)]
        exact w7 k hk
      · intro k hk hk2
        rw [e _ (by omega)]
        exact w8 k hk hk2
      · intro j hj hj2 k hk
        rw [e _ (by omega)]
        exact w9 j hj hj2 k hk
      · intro i hi hi2
        have hz : ((mS A 2 (upd (A 2) 4 0)) 2 4).toInt = 0 := rfl
        rw [hz] at hi2
        omega
end
section
-- THE PAIRS THAT ASK OR SET
theorem p_part : P_part IV 40 := by
  intro p1 g A x a f h
  obtain ⟨ng, hng, eg, exg⟩ := IV_ng h
  have hb := h.2.2.2.2.2.1
  by_cases c0 : p1 = 0
  · subst c0
    refine pr_rd h (r := A 2 0) (ex_r (r := x 17 0) ?_ hb.1.1.symm) (fun xs => ?_)
    · refine ab_meth oX4_part 39 _ _ _ _ (Nat.le_refl _) rfl (fun E => ?_)
      refine ab_run [] 50 oX4_part.1 (Nat.le_refl _) 0 ?_
      refine ⟨fun c => absurd rfl c, fun c => ?_⟩
      exact ⟨rfl, rfl⟩
    · refine ab_meth oX5_part 39 _ _ _ _ (Nat.le_refl _) rfl (fun E => ?_)
      refine ab_run [] 50 oX5_part.1 (Nat.le_refl _) 0 ?_
      refine ⟨fun c => ⟨vp_d rfl, rfl, rfl⟩, fun c => absurd rfl c⟩
  by_cases c1 : p1 = 1
  · subst c1
    refine pr_rd h (r := A 2 1) (ex_r (r := x 17 1) ?_ hb.1.2.1.symm) (fun xs => ?_)
    · refine ab_meth oX4_part 39 _ _ _ _ (Nat.le_refl _) rfl (fun E => ?_)
      refine ab_run [] 50 oX4_part.1 (Nat.le_refl _) 0 ?_
      refine ⟨fun c => ⟨fun c => absurd rfl c, fun c => ⟨rfl, rfl⟩⟩, fun c => absurd c (by decide)⟩
    · refine ab_meth oX5_part 39 _ _ _ _ (Nat.le_refl _) rfl (fun E => ?_)
      refine ab_run [] 50 oX5_part.1 (Nat.le_refl _) 0 ?_
      refine ⟨fun c => absurd c (by decide), fun c => ⟨fun c => absurd rfl c, fun c => ⟨vp_d rfl, rfl, rfl⟩⟩⟩
  by_cases c2 : p1 < 10
  · refine pr_rf h (c := -2) (Or.inr (Or.inl rfl)) ?_ (fun xs => ?_)
    · refine ab_meth oX4_part 39 _ _ _ _ (Nat.le_refl _) rfl (fun E => ?_)
      refine ab_run [] 50 oX4_part.1 (Nat.le_refl _) 0 ?_
      refine ⟨fun c => ⟨fun c => ⟨fun c => absurd c2 (le_nlt c), fun c => ?_⟩, fun c => absurd c c1⟩, fun c => absurd c c0⟩
      refine ⟨_, _, x_rf _ _ x a f (Or.inr (Or.inl rfl)), Nat.le_refl _, ?_⟩
      exact ⟨rfl, rfl⟩
    · refine ab_meth oX5_part 39 _ _ _ _ (Nat.le_refl _) rfl (fun E => ?_)
      refine ab_run [] 50 oX5_part.1 (Nat.le_refl _) 0 ?_
      refine ⟨fun c => absurd c c0, fun c => ⟨fun c => ⟨fun c => absurd c2 (le_nlt c), fun c => ?_⟩, fun c => absurd c c1⟩⟩
      refine ⟨_, _, m_rf _ g A xs (Or.inr (Or.inl rfl)), Nat.le_refl _, ?_⟩
      exact ⟨rfl, rfl⟩
  by_cases c3 : 0 ≤ p1 - 10 ∧ p1 - 10 < x 17 3
  · have c4 : 0 ≤ p1 - 10 ∧ p1 - 10 < A 2 2 := by rw [eg, ← exg]; exact c3
    obtain ⟨i, hi, ei⟩ := ix_of (m := ng) (by omega) (by rw [← exg]; exact c3)
    have e2 : 11 + p1 - 10 = nI (11 + i) := by
      rw [← nI_add, ← ei, Int32.sub_eq_add_neg, Int32.sub_eq_add_neg, Int32.add_assoc]
      rfl
    have hv := hb.2.2.1 i (by omega) (by rw [eg, nI_toInt (by omega)]; omega)
    refine pr_rd h (r := A 2 (11 + i)) (ex_r (r := a 18 i) ?_ hv.symm) (fun xs => ?_)
    · refine ab_meth oX4_part 39 _ _ _ _ (Nat.le_refl _) rfl (fun E => ?_)
      refine ab_run [] 50 oX4_part.1 (Nat.le_refl _) 0 ?_
      refine ⟨fun c => ⟨fun c => ⟨fun c => ?_, fun c => absurd (nlt_le c2) c⟩, fun c => absurd c c1⟩, fun c => absurd c c0⟩
      refine ⟨_, _, x_isGear _ _ x a f _, Nat.le_refl _, ?_⟩
      refine br_z (fun c => absurd c3 c) (fun c => ?_)
      rw [ei]
      refine ⟨vp_in_nI (by omega) (by omega), ?_⟩
      rw [nI_clamp (by omega)]
      exact ⟨rfl, rfl⟩
    · refine ab_meth oX5_part 39 _ _ _ _ (Nat.le_refl _) rfl (fun E => ?_)
      refine ab_run [] 50 oX5_part.1 (Nat.le_refl _) 0 ?_
      refine ⟨fun c => absurd c c0, fun c => ⟨fun c => ⟨fun c => ?_, fun c => absurd (nlt_le c2) c⟩, fun c => absurd c c1⟩⟩
      refine ⟨_, _, m_isGear _ g A xs _, Nat.le_refl _, ?_⟩
      refine br_z (fun c => absurd c4 c) (fun c => ?_)
      refine ⟨(by rw [e2]; exact vp_in_nI (by omega) (by omega) : vp_in (11 + p1 - 10) 112), ?_⟩
      refine ⟨?_, rfl⟩
      show some (vI (A 2 (11 + p1 - 10).toNatClampNeg)) = _
      rw [e2, nI_clamp (by omega)]
  · have c4 : ¬ (0 ≤ p1 - 10 ∧ p1 - 10 < A 2 2) := by rw [eg, ← exg]; exact c3
    refine pr_rf h (c := -1) (Or.inl rfl) ?_ (fun xs => ?_)
    · refine ab_meth oX4_part 39 _ _ _ _ (Nat.le_refl _) rfl (fun E => ?_)
      refine ab_run [] 50 oX4_part.1 (Nat.le_refl _) 0 ?_
      refine ⟨fun c => ⟨fun c => ⟨fun c => ?_, fun c => absurd (nlt_le c2) c⟩, fun c => absurd c c1⟩, fun c => absurd c c0⟩
      refine ⟨_, _, x_isGear _ _ x a f _, Nat.le_refl _, ?_⟩
      refine br_z (fun c => ?_) (fun c => absurd c c3)
      refine ⟨_, _, x_rf _ _ x a f (Or.inl rfl), Nat.le_refl _, ?_⟩
      exact ⟨rfl, rfl⟩
    · refine ab_meth oX5_part 39 _ _ _ _ (Nat.le_refl _) rfl (fun E => ?_)
      refine ab_run [] 50 oX5_part.1 (Nat.le_refl _) 0 ?_
      refine ⟨fun c => absurd c c0, fun c => ⟨fun c => ⟨fun c => ?_, fun c => absurd (nlt_le c2) c⟩, fun c => absurd c c1⟩⟩
      refine ⟨_, _, m_isGear _ g A xs _, Nat.le_refl _, ?_⟩
      refine br_z (fun c => ?_) (fun c => absurd c c4)
      refine ⟨_, _, m_rf _ g A xs (Or.inl rfl), Nat.le_refl _, ?_⟩
      exact ⟨rfl, rfl⟩
end
section
theorem ld_lt (n m : Nat) (h : n < m) (hm : m ≤ 1000) : nI n < nI m := by
  rw [Int32.lt_iff_toInt_lt, nI_toInt (by omega), nI_toInt (by omega)]; omega
theorem p_row : P_row IV 40 := by
  intro p1 g A x a f h
  obtain ⟨n, hn, en, exn, hr⟩ := h.2.2.1
  by_cases c0 : p1 < 0
  · refine pr_rf h (c := -4) (Or.inr (Or.inr (Or.inr (Or.inl rfl)))) ?_ (fun xs => ?_)
    · refine ab_meth oX4_row 39 _ _ _ _ (Nat.le_refl _) rfl (fun E => ?_)
      refine ab_run [] 50 oX4_row.1 (Nat.le_refl _) 0 ?_
      refine ⟨fun c => absurd c0 (le_nlt c), fun c => ?_⟩
      refine ⟨_, _, x_rf _ _ x a f (Or.inr (Or.inr (Or.inr (Or.inl rfl)))), Nat.le_refl _, ?_⟩
      exact ⟨rfl, rfl⟩
    · refine ab_meth oX5_row 39 _ _ _ _ (Nat.le_refl _) rfl (fun E => ?_)
      refine ab_run [] 50 oX5_row.1 (Nat.le_refl _) 0 ?_
      refine ⟨_, _, m_within _ _ (Nat.le_refl _) _ _ _, Nat.le_refl _, ?_⟩
      have e : withI p1 0 32767 = -4 := if_pos c0
      rw [e]
      refine ⟨fun c => ?_, fun c => absurd c (by decide)⟩
      refine ⟨fun c => absurd c (by decide), fun c => ?_⟩
      refine ⟨_, _, m_rf _ g A xs (Or.inr (Or.inr (Or.inr (Or.inl rfl)))), Nat.le_refl _, ?_⟩
      exact ⟨rfl, rfl⟩
  by_cases c1 : 32767 < p1
  · refine pr_rf h (c := -6) (Or.inr (Or.inr (Or.inr (Or.inr rfl)))) ?_ (fun xs => ?_)
    · refine ab_meth oX4_row 39 _ _ _ _ (Nat.le_refl _) rfl (fun E => ?_)
      refine ab_run [] 50 oX4_row.1 (Nat.le_refl _) 0 ?_
      refine ⟨fun c => ⟨fun c => ?_, fun c => ?_⟩, fun c => absurd (nlt_le c0) c⟩
      · refine ⟨_, _, x_rf _ _ x a f (Or.inr (Or.inr (Or.inr (Or.inr rfl)))), Nat.le_refl _, ?_⟩
        exact ⟨rfl, rfl⟩
      · exact absurd c1 c
    · refine ab_meth oX5_row 39 _ _ _ _ (Nat.le_refl _) rfl (fun E => ?_)
      refine ab_run [] 50 oX5_row.1 (Nat.le_refl _) 0 ?_
      refine ⟨_, _, m_within _ _ (Nat.le_refl _) _ _ _, Nat.le_refl _, ?_⟩
      have e : withI p1 0 32767 = -6 := (if_neg c0).trans (if_pos c1)
      rw [e]
      refine ⟨fun c => ?_, fun c => absurd c (by decide)⟩
      refine ⟨fun c => absurd c (by decide), fun c => ?_⟩
      refine ⟨_, _, m_rf _ g A xs (Or.inr (Or.inr (Or.inr (Or.inr rfl)))), Nat.le_refl _, ?_⟩
      exact ⟨rfl, rfl⟩
  by_cases c2 : n = 8
  · subst c2
    refine pr_rf h (c := -6) (Or.inr (Or.inr (Or.inr (Or.inr rfl)))) ?_ (fun xs => ?_)
    · refine ab_meth oX4_row 39 _ _ _ _ (Nat.le_refl _) rfl (fun E => ?_)
      refine ab_run [] 50 oX4_row.1 (Nat.le_refl _) 0 ?_
      refine ⟨fun c => ⟨fun c => absurd c c1, fun c => ?_⟩, fun c => absurd (nlt_le c0) c⟩
      refine ⟨fun (c : x 13 10 < 8) => absurd c (by rw [exn]; decide), fun c => ?_⟩
      refine ⟨_, _, x_rf _ _ x a f (Or.inr (Or.inr (Or.inr (Or.inr rfl)))), Nat.le_refl _, ?_⟩
      exact ⟨rfl, rfl⟩
    · refine ab_meth oX5_row 39 _ _ _ _ (Nat.le_refl _) rfl (fun E => ?_)
      refine ab_run [] 50 oX5_row.1 (Nat.le_refl _) 0 ?_
      refine ⟨_, _, m_within _ _ (Nat.le_refl _) _ _ _, Nat.le_refl _, ?_⟩
      have e : withI p1 0 32767 = 0 := (if_neg c0).trans (if_neg c1)
      rw [e]
      refine ⟨fun c => absurd rfl c, fun c => ?_⟩
      refine ⟨fun (c : ¬ g 24 = 8) => absurd en c, fun c => ?_⟩
      refine ⟨fun c => absurd c (by decide), fun c => ?_⟩
      refine ⟨_, _, m_rf _ g A xs (Or.inr (Or.inr (Or.inr (Or.inr rfl)))), Nat.le_refl _, ?_⟩
      exact ⟨rfl, rfl⟩
  · have hn8 : n < 8 := by omega
    have hx8 : x 13 10 < 8 := by rw [exn]; exact ld_lt n 8 hn8 (by decide)
    have hg8 : ¬ g 24 = 8 := by
      rw [en]
      exact fun q => c2 (by have := congrArg Int32.toInt q; rw [nI_toInt (by omega)] at this; have e8 : (8 : Int32).toInt = 8 := rfl; omega)
    have ec : (x 13 10).toNatClampNeg = n := by rw [exn, nI_clamp (by omega)]
    have eg : (g 24).toNatClampNeg = n := by rw [en, nI_clamp (by omega)]
    have e1 : x 13 10 + 1 = nI (n + 1) := by rw [exn]; exact nI_add n 1
    have e2 : g 24 + 1 = nI (n + 1) := by rw [en]; exact nI_add n 1
    refine ⟨nI (n + 1), mS x 13 (upd (x 13) 10 (x 13 10 + 1)), mS a 47 (upd (a 47) (x 13 10).toNatClampNeg p1), f, upd g 24 (g 24 + 1), mS A 12 (upd (A 12) (g 24).toNatClampNeg p1), ex_r ?_ e1, ex_r ?_ e2, ?_⟩
    · refine ab_meth oX4_row 39 _ _ _ _ (Nat.le_refl _) rfl (fun E => ?_)
      refine ab_run [] 50 oX4_row.1 (Nat.le_refl _) 0 ?_
      refine ⟨fun c => ⟨fun c => absurd c c1, fun c => ?_⟩, fun c => absurd (nlt_le c0) c⟩
      refine ⟨fun c => ?_, fun c => absurd hx8 c⟩
      refine ⟨(by rw [exn]; exact vp_in_nI hn8 (by omega) : vp_in (x 13 10) 8), ?_⟩
      exact ⟨rfl, rfl⟩
    · refine ab_meth oX5_row 39 _ _ _ _ (Nat.le_refl _) rfl (fun E => ?_)
      refine ab_run [] 50 oX5_row.1 (Nat.le_refl _) 0 ?_
      refine ⟨_, _, m_within _ _ (Nat.le_refl _) _ _ _, Nat.le_refl _, ?_⟩
      have e : withI p1 0 32767 = 0 := (if_neg c0).trans (if_neg c1)
      rw [e]
      refine ⟨fun c => absurd rfl c, fun c => ?_⟩
      refine ⟨fun c => ?_, fun c => absurd c hg8⟩
      refine ⟨fun c => ?_, fun c => absurd rfl c⟩
      refine ⟨(by rw [en]; exact vp_in_nI hn8 (by omega) : vp_in (g 24) 8), ?_⟩
      exact ⟨rfl, rfl⟩
    · obtain ⟨h1, h2, h3, h4, h5, h6, h7⟩ := h
      refine ⟨h1, h2, ⟨n + 1, by omega, ?_, ?_, ?_⟩, h4, h5, h6, h7⟩
      · exact e2
      · exact e1
      · intro k hk
        rw [mS_eq, mS_eq, ec, eg]
        show (if k = n then _ else _) = if k = n then _ else _
        by_cases hq : k = n
        · rw [if_pos hq, if_pos hq]
        · rw [if_neg hq, if_neg hq, hr k (by omega)]
end
section
theorem rc1 : RC (-1) := Or.inl rfl
theorem rc2 : RC (-2) := Or.inr (Or.inl rfl)
theorem rc3 : RC (-3) := Or.inr (Or.inr (Or.inl rfl))
theorem rc4 : RC (-4) := Or.inr (Or.inr (Or.inr (Or.inl rfl)))
theorem rc6 : RC (-6) := Or.inr (Or.inr (Or.inr (Or.inr rfl)))
theorem p_load : P_load IV 40 := by
  intro p1 p2 g A x a f h
  have hb := h.2.2.2.2.2.1
  have hv : A 2 7 = a 21 0 := hb.2.1 0 (by decide)
  by_cases c0 : 0 ≤ p1 ∧ p1 < 6
  · by_cases c1 : p2 < 0
    · refine pr_rf h rc4 ?_ (fun xs => ?_)
      · refine ab_meth oX4_load 39 _ _ _ _ (Nat.le_refl _) rfl (fun E => ?_)
        refine ab_run [] 50 oX4_load.1 (Nat.le_refl _) 0 ?_
        refine ⟨_, _, x_isAct _ _ (Nat.le_refl _) _, Nat.le_refl _, ?_⟩
        refine br_n (fun c => ?_) (fun c => absurd c0 c)
        refine ⟨fun c => absurd c1 (le_nlt c), fun c => ?_⟩
        exact ⟨_, _, x_rf _ _ x a f rc4, Nat.le_refl _, rfl, rfl⟩
      · refine ab_meth oX5_load 39 _ _ _ _ (Nat.le_refl _) rfl (fun E => ?_)
        refine ab_run [] 50 oX5_load.1 (Nat.le_refl _) 0 ?_
        refine ⟨_, _, m_isAct _ _ (Nat.le_refl _) _, Nat.le_refl _, ?_⟩
        refine br_z (fun c => absurd c0 c) (fun c => ?_)
        refine ⟨_, _, m_within _ _ (Nat.le_refl _) _ _ _, Nat.le_refl _, ?_⟩
        have e : withI p2 0 99 = -4 := if_pos c1
        rw [e]
        refine ⟨fun c => absurd c (by decide), fun c => ?_⟩
        exact ⟨_, _, m_rf _ g A xs rc4, Nat.le_refl _, rfl, rfl⟩
    by_cases c2 : 100 ≤ p2
    · have c3 : 99 < p2 := by
        rw [Int32.lt_iff_toInt_lt]
        rw [Int32.le_iff_toInt_le] at c2
        have e1 : (100 : Int32).toInt = 100 := rfl
        have e2 : (99 : Int32).toInt = 99 := rfl
        omega
      refine pr_rf h rc6 ?_ (fun xs => ?_)
      · refine ab_meth oX4_load 39 _ _ _ _ (Nat.le_refl _) rfl (fun E => ?_)
        refine ab_run [] 50 oX4_load.1 (Nat.le_refl _) 0 ?_
        refine ⟨_, _, x_isAct _ _ (Nat.le_refl _) _, Nat.le_refl _, ?_⟩
        refine br_n (fun c => ?_) (fun c => absurd c0 c)
        refine ⟨fun c => ?_, fun c => absurd (nlt_le c1) c⟩
        refine ⟨fun c => absurd c (le_nlt c2), fun c => ?_⟩
        exact ⟨_, _, x_rf _ _ x a f rc6, Nat.le_refl _, rfl, rfl⟩
      · refine ab_meth oX5_load 39 _ _ _ _ (Nat.le_refl _) rfl (fun E => ?_)
        refine ab_run [] 50 oX5_load.1 (Nat.le_refl _) 0 ?_
        refine ⟨_, _, m_isAct _ _ (Nat.le_refl _) _, Nat.le_refl _, ?_⟩
        refine br_z (fun c => absurd c0 c) (fun c => ?_)
        refine ⟨_, _, m_within _ _ (Nat.le_refl _) _ _ _, Nat.le_refl _, ?_⟩
        have e : withI p2 0 99 = -6 := (if_neg c1).trans (if_pos c3)
        rw [e]
        refine ⟨fun c => absurd c (by decide), fun c => ?_⟩
        exact ⟨_, _, m_rf _ g A xs rc6, Nat.le_refl _, rfl, rfl⟩
    · have c3 : ¬ 99 < p2 := by
        rw [Int32.lt_iff_toInt_lt]
        rw [Int32.le_iff_toInt_le] at c2
        have e1 : (100 : Int32).toInt = 100 := rfl
        have e2 : (99 : Int32).toInt = 99 := rfl
        omega
      refine pr_rd h (r := loadI p1 p2 (A 2 7)) (ex_r (r := loadI p1 p2 (a 21 0)) ?_ (by rw [hv])) (fun xs => ?_)
      · refine ab_meth oX4_load 39 _ _ _ _ (Nat.le_refl _) rfl (fun E => ?_)
        refine ab_run [] 50 oX4_load.1 (Nat.le_refl _) 0 ?_
        refine ⟨_, _, x_isAct _ _ (Nat.le_refl _) _, Nat.le_refl _, ?_⟩
        refine br_n (fun c => ?_) (fun c => absurd c0 c)
        refine ⟨fun c => ?_, fun c => absurd (nlt_le c1) c⟩
        refine ⟨fun c => ?_, fun c => absurd (nle_lt c2) c⟩
        exact ⟨_, _, x_loadIn _ _ x a f _ _, Nat.le_refl _, rfl, rfl⟩
      · refine ab_meth oX5_load 39 _ _ _ _ (Nat.le_refl _) rfl (fun E => ?_)
        refine ab_run [] 50 oX5_load.1 (Nat.le_refl _) 0 ?_
        refine ⟨_, _, m_isAct _ _ (Nat.le_refl _) _, Nat.le_refl _, ?_⟩
        refine br_z (fun c => absurd c0 c) (fun c => ?_)
        refine ⟨_, _, m_within _ _ (Nat.le_refl _) _ _ _, Nat.le_refl _, ?_⟩
        have e : withI p2 0 99 = 0 := (if_neg c1).trans (if_neg c3)
        rw [e]
        refine ⟨fun c => ?_, fun c => absurd rfl c⟩
        exact ⟨_, _, m_loadOf _ g A xs _ _, Nat.le_refl _, rfl, rfl⟩
  · refine pr_rf h rc1 ?_ (fun xs => ?_)
    · refine ab_meth oX4_load 39 _ _ _ _ (Nat.le_refl _) rfl (fun E => ?_)
      refine ab_run [] 50 oX4_load.1 (Nat.le_refl _) 0 ?_
      refine ⟨_, _, x_isAct _ _ (Nat.le_refl _) _, Nat.le_refl _, ?_⟩
      refine br_n (fun c => absurd c c0) (fun c => ?_)
      exact ⟨_, _, x_rf _ _ x a f rc1, Nat.le_refl _, rfl, rfl⟩
    · refine ab_meth oX5_load 39 _ _ _ _ (Nat.le_refl _) rfl (fun E => ?_)
      refine ab_run [] 50 oX5_load.1 (Nat.le_refl _) 0 ?_
      refine ⟨_, _, m_isAct _ _ (Nat.le_refl _) _, Nat.le_refl _, ?_⟩
      refine br_z (fun c => ?_) (fun c => absurd c c0)
      refine ⟨fun c => absurd c (by decide), fun c => ?_⟩
      exact ⟨_, _, m_rf _ g A xs rc1, Nat.le_refl _, rfl, rfl⟩
-- stageOf
theorem ix_sk (i k : Nat) : (88 : Int32) + 3 * nI i + nI k = nI (88 + 3 * i + k) := by
  rw [show (88 : Int32) = nI 88 from rfl, show (3 : Int32) = nI 3 from rfl, pk_mul, nI_add, nI_add]
theorem m_stageOf (d : Nat) (g : mG) (A : mA) (xs : List AB) {i k n : Nat} (hi : i < n) (hn : n ≤ 8) (en : A 2 4 = nI n) (hk : k < 3) : ab_Ex (d + 2) 0 yX5_stageOf [vR 0 0, vI (nI i), vI (nI k)] (hM g A xs) (some (vI (A 2 (88 + 3 * i + k)))) (hM g A xs) := by
  have k2 : 0 ≤ nI i ∧ nI i < A 2 4 := by rw [en]; exact ⟨nI_pos' (by omega), ld_lt i n hi (by omega)⟩
  have k3 : 0 ≤ nI k ∧ nI k < 3 := ⟨nI_pos' (by omega), ld_lt k 3 hk (by omega)⟩
  refine ab_meth oX5_stageOf (d + 1) _ _ _ _ (Nat.le_refl _) rfl (fun E => ?_)
  refine ab_run [] 50 oX5_stageOf.1 (Nat.le_refl _) 0 ?_
  refine ⟨vp_d rfl, ?_⟩
  refine ⟨_, _, m_isIn _ _ (Nat.le_refl _) _ _, Nat.le_refl _, ?_⟩
  refine br_n (fun c => ?_) (fun c => absurd k2 c)
  refine ⟨_, _, m_isIn _ _ (Nat.le_refl _) _ _, Nat.le_refl _, ?_⟩
  refine br_z (fun c => absurd k3 c) (fun c => ?_)
  refine ⟨(by rw [ix_sk]; exact vp_in_nI (by omega) (by omega) : vp_in (88 + 3 * nI i + nI k) 112), ?_⟩
  refine ⟨?_, rfl⟩
  show some (vI (A 2 (88 + 3 * nI i + nI k).toNatClampNeg)) = _
  rw [ix_sk, nI_clamp (by omega)]
theorem p_stageOf : P_stageOf IV 40 := by
  intro p1 p2 g A x a f h
  have hb := h.2.2.2.2.2.1
  obtain ⟨n, hn, en, exn⟩ := IV_ns h
  by_cases c0 : 0 ≤ p1 ∧ p1 < nI n
  · obtain ⟨i, hi, rfl⟩ := ix_of (m := n) (by omega) c0
    have hv := hb.2.2.2.2 i (by omega) (by rw [en, nI_toInt (by omega)]; omega)
    have k0 : 0 ≤ nI i := c0.1
    have k1 : nI i < x 17 12 := by rw [exn]; exact c0.2
    have k2 : 0 ≤ nI i ∧ nI i < A 2 4 := by rw [en]; exact c0
    have hx : ∀ E : Nat × (Nat → Int32), vp_in (nI i) 8 := fun _ => vp_in_nI (by omega) (by omega)
    by_cases c1 : p2 = 0
    · subst c1
      refine pr_rd h (r := A 2 (88 + 3 * i)) (ex_r (r := a 22 i) ?_ hv.1.symm) (fun xs => m_stageOf 38 g A xs (k := 0) hi hn en (by decide))
      refine ab_meth oX4_stageOf 39 _ _ _ _ (Nat.le_refl _) rfl (fun E => ?_)
      refine ab_run [] 50 oX4_stageOf.1 (Nat.le_refl _) 0 ?_
      refine ⟨fun c => absurd c (le_nlt k0), fun c => ⟨fun c => ?_, fun c => absurd k1 c⟩⟩
      refine ⟨fun c => ?_, fun c => absurd rfl c⟩
      refine ⟨hx E, ?_, rfl⟩
      show some (vI (a 22 (nI i).toNatClampNeg)) = _
      rw [nI_clamp (by omega)]
    by_cases c2 : p2 = 1
    · subst c2
      refine pr_rd h (r := A 2 (88 + 3 * i + 1)) (ex_r (r := a 23 i) ?_ hv.2.1.symm) (fun xs => m_stageOf 38 g A xs (k := 1) hi hn en (by decide))
      refine ab_meth oX4_stageOf 39 _ _ _ _ (Nat.le_refl _) rfl (fun E => ?_)
      refine ab_run [] 50 oX4_stageOf.1 (Nat.le_refl _) 0 ?_
      refine ⟨fun c => absurd c (le_nlt k0), fun c => ⟨fun c => ?_, fun c => absurd k1 c⟩⟩
      refine ⟨fun c => absurd c (by decide), fun c => ⟨fun c => ?_, fun c => absurd rfl c⟩⟩
      refine ⟨hx E, ?_, rfl⟩
      show some (vI (a 23 (nI i).toNatClampNeg)) = _
      rw [nI_clamp (by omega)]
    by_cases c3 : p2 = 2
    · subst c3
      refine pr_rd h (r := A 2 (88 + 3 * i + 2)) (ex_r (r := a 24 i) ?_ hv.2.2.symm) (fun xs => m_stageOf 38 g A xs (k := 2) hi hn en (by decide))
      refine ab_meth oX4_stageOf 39 _ _ _ _ (Nat.le_refl _) rfl (fun E => ?_)
      refine ab_run [] 50 oX4_stageOf.1 (Nat.le_refl _) 0 ?_
      refine ⟨fun c => absurd c (le_nlt k0), fun c => ⟨fun c => ?_, fun c => absurd k1 c⟩⟩
      refine ⟨fun c => absurd c (by decide), fun c => ⟨fun c => absurd c (by decide), fun c => ⟨fun c => ?_, fun c => absurd rfl c⟩⟩⟩
      refine ⟨hx E, ?_, rfl⟩
      show some (vI (a 24 (nI i).toNatClampNeg)) = _
      rw [nI_clamp (by omega)]
    · have c4 : ¬ (0 ≤ p2 ∧ p2 < 3) := by
        intro q
        obtain ⟨j, hj, rfl⟩ := ix_of (v := p2) (m := 3) (by omega) q
        match j, hj with
        | 0, _ => exact c1 rfl
        | 1, _ => exact c2 rfl
        | 2, _ => exact c3 rfl
      refine pr_rf h rc2 ?_ (fun xs => ?_)
      · refine ab_meth oX4_stageOf 39 _ _ _ _ (Nat.le_refl _) rfl (fun E => ?_)
        refine ab_run [] 50 oX4_stageOf.1 (Nat.le_refl _) 0 ?_
        refine ⟨fun c => absurd c (le_nlt k0), fun c => ⟨fun c => ?_, fun c => absurd k1 c⟩⟩
        refine ⟨fun c => absurd c c1, fun c => ⟨fun c => absurd c c2, fun c => ⟨fun c => absurd c c3, fun c => ?_⟩⟩⟩
        exact ⟨_, _, x_rf _ _ x a f rc2, Nat.le_refl _, rfl, rfl⟩
      · refine ab_meth oX5_stageOf 39 _ _ _ _ (Nat.le_refl _) rfl (fun E => ?_)
        refine ab_run [] 50 oX5_stageOf.1 (Nat.le_refl _) 0 ?_
        refine ⟨vp_d rfl, ?_⟩
        refine ⟨_, _, m_isIn _ _ (Nat.le_refl _) _ _, Nat.le_refl _, ?_⟩
        refine br_n (fun c => ?_) (fun c => absurd k2 c)
        refine ⟨_, _, m_isIn _ _ (Nat.le_refl _) _ _, Nat.le_refl _, ?_⟩
        refine br_z (fun c => ?_) (fun c => absurd c c4)
        exact ⟨_, _, m_rf _ g A xs rc2, Nat.le_refl _, rfl, rfl⟩
  · have k2 : ¬ (0 ≤ p1 ∧ p1 < A 2 4) := by rw [en]; exact c0
    refine pr_rf h rc1 ?_ (fun xs => ?_)
    · refine ab_meth oX4_stageOf 39 _ _ _ _ (Nat.le_refl _) rfl (fun E => ?_)
      refine ab_run [] 50 oX4_stageOf.1 (Nat.le_refl _) 0 ?_
      refine ⟨fun c => ?_, fun c => ⟨fun c' => absurd ⟨nlt_le c, by rw [← exn]; exact c'⟩ c0, fun c => ?_⟩⟩
      · exact ⟨_, _, x_rf _ _ x a f rc1, Nat.le_refl _, rfl, rfl⟩
      · exact ⟨_, _, x_rf _ _ x a f rc1, Nat.le_refl _, rfl, rfl⟩
    · refine ab_meth oX5_stageOf 39 _ _ _ _ (Nat.le_refl _) rfl (fun E => ?_)
      refine ab_run [] 50 oX5_stageOf.1 (Nat.le_refl _) 0 ?_
      refine ⟨vp_d rfl, ?_⟩
      refine ⟨_, _, m_isIn _ _ (Nat.le_refl _) _ _, Nat.le_refl _, ?_⟩
      refine br_n (fun c => absurd c k2) (fun c => ?_)
      exact ⟨_, _, m_rf _ g A xs rc1, Nat.le_refl _, rfl, rfl⟩
end
section
theorem IV_flt {g : mG} {A x a : mA} {f : mF} (h : IV g A x a f) {m j : Nat} (em : A 2 3 = nI m) (hm : m ≤ 8) (hj : j < m) : WFf (A 2) j ∧ ∀ k, k < 9 → A 2 (16 + 9 * j + k) = f 20 j k := by
  have ht : (j : Int) < (A 2 3).toInt := by rw [em, nI_toInt (by omega)]; omega
  exact ⟨h.2.2.2.2.1.2.2.2.1 j (by omega) ht, h.2.2.2.2.2.1.2.2.2.1 j (by omega) ht⟩
-- fault
theorem p_fault : P_fault IV 40 := by
  intro p1 p2 g A x a f h
  have hb := h.2.2.2.2.2.1
  obtain ⟨m, hm, em, exm⟩ := IV_m h
  by_cases c0 : 0 ≤ p1 ∧ p1 < nI m
  · obtain ⟨j, hj, rfl⟩ := ix_of (m := m) (by omega) c0
    have ⟨hw, hv⟩ := IV_flt h em hm hj
    have k0 : 0 ≤ nI j ∧ nI j < x 17 5 := by rw [exm]; exact c0
    have k2 : 0 ≤ nI j ∧ nI j < A 2 3 := by rw [em]; exact c0
    have hx : vp_in (nI j) 8 := vp_in_nI (by omega) (by omega)
    have hf : ab_fa 20 (nI j).toNatClampNeg = vR 20 j := by rw [nI_clamp (by omega)]; exact ab_fa_at 20 (by omega)
    have hfa := fun k hk => (hv k hk).symm
    have hj8 : j < 8 := by omega
    have hl : limX (f 20 j 0) (f 20 j 2) (x 17 7) = limI (A 2 (16 + 9 * j)) (A 2 (16 + 9 * j + 2)) (A 2 5) := by
      rw [← hv 0 (by decide), ← hv 2 (by decide), ← hb.1.2.2.2.2.2.1]
      exact lim_eq hw.2.2.1.1 hw.2.2.1.2 h.2.2.2.2.1.1.2.2.2.2.2.1.1 (by have := h.2.2.2.2.1.1.2.2.2.2.2.1.2; omega)
    by_cases c10 : p2 = 0
    · subst c10
      refine pr_rd h (r := A 2 (16 + 9 * j)) (ex_r (r := f 20 j 0) ?_ (hfa 0 (by decide))) (fun xs => ?_)
      · refine ab_meth oX4_fault 39 _ _ _ _ (Nat.le_refl _) rfl (fun E => ?_)
        refine ab_run [] 50 oX4_fault.1 (Nat.le_refl _) 0 ?_
        refine ⟨_, _, x_isFault _ _ x a f _, Nat.le_refl _, ?_⟩
        refine br_n (fun c => ?_) (fun c => absurd k0 c)
        refine ⟨hx, ⟨(20, j), hf, ?_⟩⟩
        refine ⟨fun c => ?_, fun c => absurd rfl c⟩
        exact ⟨ck20 hj8, rfl, rfl⟩
      · refine ab_meth oX5_fault 39 _ _ _ _ (Nat.le_refl _) rfl (fun E => ?_)
        refine ab_run [] 50 oX5_fault.1 (Nat.le_refl _) 0 ?_
        refine ⟨_, _, m_isFault _ g A xs _, Nat.le_refl _, ?_⟩
        refine br_n (fun c => ?_) (fun c => absurd k2 c)
        refine ⟨fun c => ?_, fun c => absurd rfl c⟩
        exact ⟨_, _, m_get0 _ g A xs j (by omega), Nat.le_refl _, rfl, rfl⟩
    by_cases c11 : p2 = 1
    · subst c11
      refine pr_rd h (r := A 2 (16 + 9 * j + 1)) (ex_r (r := f 20 j 1) ?_ (hfa 1 (by decide))) (fun xs => ?_)
      · refine ab_meth oX4_fault 39 _ _ _ _ (Nat.le_refl _) rfl (fun E => ?_)
        refine ab_run [] 50 oX4_fault.1 (Nat.le_refl _) 0 ?_
        refine ⟨_, _, x_isFault _ _ x a f _, Nat.le_refl _, ?_⟩
        refine br_n (fun c => ?_) (fun c => absurd k0 c)
        refine ⟨hx, ⟨(20, j), hf, ?_⟩⟩
        refine ⟨fun c => absurd c (by decide), fun c => ⟨fun c => ?_, fun c => absurd rfl c⟩⟩
        exact ⟨ck20 hj8, rfl, rfl⟩
      · refine ab_meth oX5_fault 39 _ _ _ _ (Nat.le_refl _) rfl (fun E => ?_)
        refine ab_run [] 50 oX5_fault.1 (Nat.le_refl _) 0 ?_
        refine ⟨_, _, m_isFault _ g A xs _, Nat.le_refl _, ?_⟩
        refine br_n (fun c => ?_) (fun c => absurd k2 c)
        refine ⟨fun c => absurd c (by decide), fun c => ⟨fun c => ?_, fun c => absurd rfl c⟩⟩
        exact ⟨_, _, m_get _ g A xs j 1 (by omega), Nat.le_refl _, rfl, rfl⟩
    by_cases c12 : p2 = 2
    · subst c12
      refine pr_rd h (r := A 2 (16 + 9 * j + 2)) (ex_r (r := f 20 j 2) ?_ (hfa 2 (by decide))) (fun xs => ?_)
      · refine ab_meth oX4_fault 39 _ _ _ _ (Nat.le_refl _) rfl (fun E => ?_)
        refine ab_run [] 50 oX4_fault.1 (Nat.le_refl _) 0 ?_
        refine ⟨_, _, x_isFault _ _ x a f _, Nat.le_refl _, ?_⟩
        refine br_n (fun c => ?_) (fun c => absurd k0 c)
        refine ⟨hx, ⟨(20, j), hf, ?_⟩⟩
        refine ⟨fun c => absurd c (by decide), fun c => ⟨fun c => absurd c (by decide), fun c => ⟨fun c => ?_, fun c => absurd rfl c⟩⟩⟩
        exact ⟨ck20 hj8, rfl, rfl⟩
      · refine ab_meth oX5_fault 39 _ _ _ _ (Nat.le_refl _) rfl (fun E => ?_)
        refine ab_run [] 50 oX5_fault.1 (Nat.le_refl _) 0 ?_
        refine ⟨_, _, m_isFault _ g A xs _, Nat.le_refl _, ?_⟩
        refine br_n (fun c => ?_) (fun c => absurd k2 c)
        refine ⟨fun c => absurd c (by decide), fun c => ⟨fun c => absurd c (by decide), fun c => ⟨fun c => ?_, fun c => absurd rfl c⟩⟩⟩
        exact ⟨_, _, m_get _ g A xs j 2 (by omega), Nat.le_refl _, rfl, rfl⟩
    by_cases c13 : p2 = 3
    · subst c13
      refine pr_rd h (r := A 2 (16 + 9 * j + 3)) (ex_r (r := f 20 j 3) ?_ (hfa 3 (by decide))) (fun xs => ?_)
      · refine ab_meth oX4_fault 39 _ _ _ _ (Nat.le_refl _) rfl (fun E => ?_)
        refine ab_run [] 50 oX4_fault.1 (Nat.le_refl _) 0 ?_
        refine ⟨_, _, x_isFault _ _ x a f _, Nat.le_refl _, ?_⟩
        refine br_n (fun c => ?_) (fun c => absurd k0 c)
        refine ⟨hx, ⟨(20, j), hf, ?_⟩⟩
        refine ⟨fun c => absurd c (by decide), fun c => ⟨fun c => absurd c (by decide), fun c => ⟨fun c => absurd c (by decide), fun c => ⟨fun c => ?_, fun c => absurd rfl c⟩⟩⟩⟩
        exact ⟨ck20 hj8, rfl, rfl⟩
      · refine ab_meth oX5_fault 39 _ _ _ _ (Nat.le_refl _) rfl (fun E => ?_)
        refine ab_run [] 50 oX5_fault.1 (Nat.le_refl _) 0 ?_
        refine ⟨_, _, m_isFault _ g A xs _, Nat.le_refl _, ?_⟩
        refine br_n (fun c => ?_) (fun c => absurd k2 c)
        refine ⟨fun c => absurd c (by decide), fun c => ⟨fun c => absurd c (by decide), fun c => ⟨fun c => absurd c (by decide), fun c => ⟨fun c => ?_, fun c => absurd rfl c⟩⟩⟩⟩
        exact ⟨_, _, m_get _ g A xs j 3 (by omega), Nat.le_refl _, rfl, rfl⟩
    by_cases c14 : p2 = 4
    · subst c14
      refine pr_rd h (r := A 2 (16 + 9 * j + 4)) (ex_r (r := f 20 j 4) ?_ (hfa 4 (by decide))) (fun xs => ?_)
      · refine ab_meth oX4_fault 39 _ _ _ _ (Nat.le_refl _) rfl (fun E => ?_)
        refine ab_run [] 50 oX4_fault.1 (Nat.le_refl _) 0 ?_
        refine ⟨_, _, x_isFault _ _ x a f _, Nat.le_refl _, ?_⟩
        refine br_n (fun c => ?_) (fun c => absurd k0 c)
        refine ⟨hx, ⟨(20, j), hf, ?_⟩⟩
        refine ⟨fun c => absurd c (by decide), fun c => ⟨fun c => absurd c (by decide), fun c => ⟨fun c => absurd c (by decide), fun c => ⟨fun c => absurd c (by decide), fun c => ⟨fun c => ?_, fun c => absurd rfl c⟩⟩⟩⟩⟩
        exact ⟨ck20 hj8, rfl, rfl⟩
      · refine ab_meth oX5_fault 39 _ _ _ _ (Nat.le_refl _) rfl (fun E => ?_)
        refine ab_run [] 50 oX5_fault.1 (Nat.le_refl _) 0 ?_
        refine ⟨_, _, m_isFault _ g A xs _, Nat.le_refl _, ?_⟩
        refine br_n (fun c => ?_) (fun c => absurd k2 c)
        refine ⟨fun c => absurd c (by decide), fun c => ⟨fun c => absurd c (by decide), fun c => ⟨fun c => absurd c (by decide), fun c => ⟨fun c => absurd c (by decide), fun c => ⟨fun c => ?_, fun c => absurd rfl c⟩⟩⟩⟩⟩
        exact ⟨_, _, m_get _ g A xs j 4 (by omega), Nat.le_refl _, rfl, rfl⟩
    by_cases c15 : p2 = 5
    · subst c15
      refine pr_rd h (r := A 2 (16 + 9 * j + 7)) (ex_r (r := f 20 j 7) ?_ (hfa 7 (by decide))) (fun xs => ?_)
      · refine ab_meth oX4_fault 39 _ _ _ _ (Nat.le_refl _) rfl (fun E => ?_)
        refine ab_run [] 50 oX4_fault.1 (Nat.le_refl _) 0 ?_
        refine ⟨_, _, x_isFault _ _ x a f _, Nat.le_refl _, ?_⟩
        refine br_n (fun c => ?_) (fun c => absurd k0 c)
        refine ⟨hx, ⟨(20, j), hf, ?_⟩⟩
        refine ⟨fun c => absurd c (by decide), fun c => ⟨fun c => absurd c (by decide), fun c => ⟨fun c => absurd c (by decide), fun c => ⟨fun c => absurd c (by decide), fun c => ⟨fun c => absurd c (by decide), fun c => ⟨fun c => ?_, fun c => absurd rfl c⟩⟩⟩⟩⟩⟩
        exact ⟨ck20 hj8, rfl, rfl⟩
      · refine ab_meth oX5_fault 39 _ _ _ _ (Nat.le_refl _) rfl (fun E => ?_)
        refine ab_run [] 50 oX5_fault.1 (Nat.le_refl _) 0 ?_
        refine ⟨_, _, m_isFault _ g A xs _, Nat.le_refl _, ?_⟩
        refine br_n (fun c => ?_) (fun c => absurd k2 c)
        refine ⟨fun c => absurd c (by decide), fun c => ⟨fun c => absurd c (by decide), fun c => ⟨fun c => absurd c (by decide), fun c => ⟨fun c => absurd c (by decide), fun c => ⟨fun c => absurd c (by decide), fun c => ⟨fun c => ?_, fun c => absurd rfl c⟩⟩⟩⟩⟩⟩
        exact ⟨_, _, m_get _ g A xs j 7 (by omega), Nat.le_refl _, rfl, rfl⟩
    by_cases c16 : p2 = 6
    · subst c16
      refine pr_rd h (r := limI (A 2 (16 + 9 * j)) (A 2 (16 + 9 * j + 2)) (A 2 5)) (ex_r (r := limX (f 20 j 0) (f 20 j 2) (x 17 7)) ?_ (hl)) (fun xs => ?_)
      · refine ab_meth oX4_fault 39 _ _ _ _ (Nat.le_refl _) rfl (fun E => ?_)
        refine ab_run [] 50 oX4_fault.1 (Nat.le_refl _) 0 ?_
        refine ⟨_, _, x_isFault _ _ x a f _, Nat.le_refl _, ?_⟩
        refine br_n (fun c => ?_) (fun c => absurd k0 c)
        refine ⟨hx, ⟨(20, j), hf, ?_⟩⟩
        refine ⟨fun c => absurd c (by decide), fun c => ⟨fun c => absurd c (by decide), fun c => ⟨fun c => absurd c (by decide), fun c => ⟨fun c => absurd c (by decide), fun c => ⟨fun c => absurd c (by decide), fun c => ⟨fun c => absurd c (by decide), fun c => ⟨fun c => ?_, fun c => absurd rfl c⟩⟩⟩⟩⟩⟩⟩
        exact ⟨ck20 hj8, _, _, f_limit _ (Nat.le_refl _) (hX_ok20 _ _ _ _ hj8) (hX_get20 _ _ _ _ _) _, Nat.le_refl _, rfl, rfl⟩
      · refine ab_meth oX5_fault 39 _ _ _ _ (Nat.le_refl _) rfl (fun E => ?_)
        refine ab_run [] 50 oX5_fault.1 (Nat.le_refl _) 0 ?_
        refine ⟨_, _, m_isFault _ g A xs _, Nat.le_refl _, ?_⟩
        refine br_n (fun c => ?_) (fun c => absurd k2 c)
        refine ⟨fun c => absurd c (by decide), fun c => ⟨fun c => absurd c (by decide), fun c => ⟨fun c => absurd c (by decide), fun c => ⟨fun c => absurd c (by decide), fun c => ⟨fun c => absurd c (by decide), fun c => ⟨fun c => absurd c (by decide), fun c => ⟨fun c => ?_, fun c => absurd rfl c⟩⟩⟩⟩⟩⟩⟩
        refine ⟨vp_d rfl, ?_⟩
        exact ⟨_, _, m_limitOf _ g A xs j hj8 _, Nat.le_refl _, rfl, rfl⟩
    · refine pr_rf h rc2 ?_ (fun xs => ?_)
      · refine ab_meth oX4_fault 39 _ _ _ _ (Nat.le_refl _) rfl (fun E => ?_)
        refine ab_run [] 50 oX4_fault.1 (Nat.le_refl _) 0 ?_
        refine ⟨_, _, x_isFault _ _ x a f _, Nat.le_refl _, ?_⟩
        refine br_n (fun c => ?_) (fun c => absurd k0 c)
        refine ⟨hx, ⟨(20, j), hf, ?_⟩⟩
        refine ⟨fun c => absurd c c10, fun c => ⟨fun c => absurd c c11, fun c => ⟨fun c => absurd c c12, fun c => ⟨fun c => absurd c c13, fun c => ⟨fun c => absurd c c14, fun c => ⟨fun c => absurd c c15, fun c => ⟨fun c => absurd c c16, fun c => ?_⟩⟩⟩⟩⟩⟩⟩
        exact ⟨_, _, x_rf _ _ x a f rc2, Nat.le_refl _, rfl, rfl⟩
      · refine ab_meth oX5_fault 39 _ _ _ _ (Nat.le_refl _) rfl (fun E => ?_)
        refine ab_run [] 50 oX5_fault.1 (Nat.le_refl _) 0 ?_
        refine ⟨_, _, m_isFault _ g A xs _, Nat.le_refl _, ?_⟩
        refine br_n (fun c => ?_) (fun c => absurd k2 c)
        refine ⟨fun c => absurd c c10, fun c => ⟨fun c => absurd c c11, fun c => ⟨fun c => absurd c c12, fun c => ⟨fun c => absurd c c13, fun c => ⟨fun c => absurd c c14, fun c => ⟨fun c => absurd c c15, fun c => ⟨fun c => absurd c c16, fun c => ?_⟩⟩⟩⟩⟩⟩⟩
        exact ⟨_, _, m_rf _ g A xs rc2, Nat.le_refl _, rfl, rfl⟩
  · have k0 : ¬ (0 ≤ p1 ∧ p1 < x 17 5) := by rw [exm]; exact c0
    have k2 : ¬ (0 ≤ p1 ∧ p1 < A 2 3) := by rw [em]; exact c0
    refine pr_rf h rc1 ?_ (fun xs => ?_)
    · refine ab_meth oX4_fault 39 _ _ _ _ (Nat.le_refl _) rfl (fun E => ?_)
      refine ab_run [] 50 oX4_fault.1 (Nat.le_refl _) 0 ?_
      refine ⟨_, _, x_isFault _ _ x a f _, Nat.le_refl _, ?_⟩
      refine br_n (fun c => absurd c k0) (fun c => ?_)
      exact ⟨_, _, x_rf _ _ x a f rc1, Nat.le_refl _, rfl, rfl⟩
    · refine ab_meth oX5_fault 39 _ _ _ _ (Nat.le_refl _) rfl (fun E => ?_)
      refine ab_run [] 50 oX5_fault.1 (Nat.le_refl _) 0 ?_
      refine ⟨_, _, m_isFault _ g A xs _, Nat.le_refl _, ?_⟩
      refine br_n (fun c => absurd c k2) (fun c => ?_)
      exact ⟨_, _, m_rf _ g A xs rc1, Nat.le_refl _, rfl, rfl⟩
theorem p_danger : P_danger IV 40 := by
  intro p1 g A x a f h
  have hb := h.2.2.2.2.2.1
  obtain ⟨m, hm, em, exm⟩ := IV_m h
  by_cases c0 : 0 ≤ p1 ∧ p1 < nI m
  · obtain ⟨j, hj, rfl⟩ := ix_of (m := m) (by omega) c0
    have ⟨hw, hv⟩ := IV_flt h em hm hj
    have k0 : 0 ≤ nI j ∧ nI j < x 17 5 := by rw [exm]; exact c0
    have k2 : 0 ≤ nI j ∧ nI j < A 2 3 := by rw [em]; exact c0
    have hx : vp_in (nI j) 8 := vp_in_nI (by omega) (by omega)
    have hf : ab_fa 20 (nI j).toNatClampNeg = vR 20 j := by rw [nI_clamp (by omega)]; exact ab_fa_at 20 (by omega)
    have hj8 : j < 8 := by omega
    have e0 : A 2 (16 + 9 * j) = f 20 j 0 := hv 0 (by decide)
    by_cases c1 : A 2 (16 + 9 * j) = 6
    · refine pr_rd h (r := if 20 * A 2 (16 + 9 * j + 2) - A 2 5 < 0 then 0 else 20 * A 2 (16 + 9 * j + 2) - A 2 5) ?_ (fun xs => ?_)
      · refine ab_meth oX4_danger 39 _ _ _ _ (Nat.le_refl _) rfl (fun E => ?_)
        refine ab_run [] 50 oX4_danger.1 (Nat.le_refl _) 0 ?_
        refine ⟨_, _, x_isFault _ _ x a f _, Nat.le_refl _, ?_⟩
        refine br_n (fun c => ?_) (fun c => absurd k0 c)
        refine ⟨hx, ⟨(20, j), hf, ?_⟩⟩
        refine ⟨ck20 hj8, ?_⟩
        refine ⟨fun c => ?_, fun (c : ¬ f 20 j 0 = 6) => absurd (e0 ▸ c1) c⟩
        refine ⟨ck20 hj8, ?_⟩
        refine ⟨?_, rfl⟩
        show some (vI (if 0 < f 20 j 2 * 20 - x 17 7 then f 20 j 2 * 20 - x 17 7 else 0)) = _
        rw [hv 2 (by decide), hb.1.2.2.2.2.2.1, Int32.mul_comm]
        by_cases c5 : 0 < 20 * f 20 j 2 - x 17 7
        · rw [if_pos c5, if_neg (fun q => Int32.lt_irrefl (Int32.lt_trans c5 q))]
        · rw [if_neg c5]
          by_cases c6 : 20 * f 20 j 2 - x 17 7 < 0
          · rw [if_pos c6]
          · rw [if_neg c6, Int32.le_antisymm (nlt_le c5) (nlt_le c6)]
      · refine ab_meth oX5_danger 39 _ _ _ _ (Nat.le_refl _) rfl (fun E => ?_)
        refine ab_run [] 50 oX5_danger.1 (Nat.le_refl _) 0 ?_
        refine ⟨_, _, m_isFault _ g A xs _, Nat.le_refl _, ?_⟩
        refine br_n (fun c => ?_) (fun c => absurd k2 c)
        refine ⟨_, _, m_get0 _ g A xs j (by omega), Nat.le_refl _, ?_⟩
        refine ⟨fun c => ?_, fun c => absurd c1 c⟩
        refine ⟨_, _, m_get _ g A xs j 2 (by omega), Nat.le_refl _, ?_⟩
        refine ⟨vp_d rfl, ?_⟩
        refine ⟨fun c => ?_, fun c => ?_⟩
        · have c : 0 ≤ 20 * A 2 (16 + 9 * j + 2) - A 2 5 := c
          refine ⟨?_, rfl⟩
          show some (vI (20 * A 2 (16 + 9 * j + 2) - A 2 5)) = _
          rw [if_neg (le_nlt c)]
        · have c : ¬ 0 ≤ 20 * A 2 (16 + 9 * j + 2) - A 2 5 := c
          refine ⟨?_, rfl⟩
          rw [if_pos (nle_lt c)]
    · refine pr_rf h rc3 ?_ (fun xs => ?_)
      · refine ab_meth oX4_danger 39 _ _ _ _ (Nat.le_refl _) rfl (fun E => ?_)
        refine ab_run [] 50 oX4_danger.1 (Nat.le_refl _) 0 ?_
        refine ⟨_, _, x_isFault _ _ x a f _, Nat.le_refl _, ?_⟩
        refine br_n (fun c => ?_) (fun c => absurd k0 c)
        refine ⟨hx, ⟨(20, j), hf, ?_⟩⟩
        refine ⟨ck20 hj8, ?_⟩
        refine ⟨fun (c : f 20 j 0 = 6) => absurd (e0.trans c) c1, fun c => ?_⟩
        exact ⟨_, _, x_rf _ _ x a f rc3, Nat.le_refl _, rfl, rfl⟩
      · refine ab_meth oX5_danger 39 _ _ _ _ (Nat.le_refl _) rfl (fun E => ?_)
        refine ab_run [] 50 oX5_danger.1 (Nat.le_refl _) 0 ?_
        refine ⟨_, _, m_isFault _ g A xs _, Nat.le_refl _, ?_⟩
        refine br_n (fun c => ?_) (fun c => absurd k2 c)
        refine ⟨_, _, m_get0 _ g A xs j (by omega), Nat.le_refl _, ?_⟩
        refine ⟨fun c => absurd c c1, fun c => ?_⟩
        exact ⟨_, _, m_rf _ g A xs rc3, Nat.le_refl _, rfl, rfl⟩
  · have k0 : ¬ (0 ≤ p1 ∧ p1 < x 17 5) := by rw [exm]; exact c0
    have k2 : ¬ (0 ≤ p1 ∧ p1 < A 2 3) := by rw [em]; exact c0
    refine pr_rf h rc1 ?_ (fun xs => ?_)
    · refine ab_meth oX4_danger 39 _ _ _ _ (Nat.le_refl _) rfl (fun E => ?_)
      refine ab_run [] 50 oX4_danger.1 (Nat.le_refl _) 0 ?_
      refine ⟨_, _, x_isFault _ _ x a f _, Nat.le_refl _, ?_⟩
      refine br_n (fun c => absurd c k0) (fun c => ?_)
      exact ⟨_, _, x_rf _ _ x a f rc1, Nat.le_refl _, rfl, rfl⟩
    · refine ab_meth oX5_danger 39 _ _ _ _ (Nat.le_refl _) rfl (fun E => ?_)
      refine ab_run [] 50 oX5_danger.1 (Nat.le_refl _) 0 ?_
      refine ⟨_, _, m_isFault _ g A xs _, Nat.le_refl _, ?_⟩
      refine br_n (fun c => absurd c k2) (fun c => ?_)
      exact ⟨_, _, m_rf _ g A xs rc1, Nat.le_refl _, rfl, rfl⟩
end
section
theorem p_rounds : P_rounds IV 40 := by
  intro p1 p2 p3 g A x a f h
  have hb := h.2.2.2.2.2.1
  obtain ⟨m, hm, em, exm⟩ := IV_m h
  obtain ⟨ng, hng, eg, exg⟩ := IV_ng h
  have hx5 : x 17 3 ≤ 5 := by
    rw [exg, Int32.le_iff_toInt_le, nI_toInt (by omega)]
    have : (5 : Int32).toInt = 5 := rfl
    omega
  have rX : ∀ (hc : ¬ ((0 ≤ p1 ∧ p1 < nI m) ∧ (0 ≤ p2 ∧ p2 < nI ng))), ∃ (r : Int32) (x' a' : mA) (f' : mF) (g' : mG) (A' : mA), ab_Ex 40 0 yX4_rounds (vR 13 0 :: [vI p1, vI p2, vI p3]) (hM g A (xl x a f)) (some (vI r)) (hM g A (xl x' a' f')) ∧ ab_Ex 40 0 yX5_rounds (vR 0 0 :: [vI p1, vI p2, vI p3]) (hM g A (xl x' a' f')) (some (vI r)) (hM g' A' (xl x' a' f')) ∧ IV g' A' x' a' f' := by
    intro hc
    refine pr_rf h rc1 ?_ (fun xs => ?_)
    · refine ab_meth oX4_rounds 39 _ _ _ _ (Nat.le_refl _) rfl (fun E => ?_)
      refine ab_run [] 50 oX4_rounds.1 (Nat.le_refl _) 0 ?_
      refine ⟨_, _, x_isFault _ _ x a f _, Nat.le_refl _, ?_⟩
      refine br_z (fun c => ?_) (fun c => ?_)
      · exact ⟨_, _, x_rf _ _ x a f rc1, Nat.le_refl _, rfl, rfl⟩
      refine ⟨_, _, x_isGear _ _ x a f _, Nat.le_refl _, ?_⟩
      refine br_n (fun c' => absurd ⟨by rw [← exm]; exact c, by rw [← exg]; exact c'⟩ hc) (fun c => ?_)
      exact ⟨_, _, x_rf _ _ x a f rc1, Nat.le_refl _, rfl, rfl⟩
    · refine ab_meth oX5_rounds 39 _ _ _ _ (Nat.le_refl _) rfl (fun E => ?_)
      refine ab_run [] 50 oX5_rounds.1 (Nat.le_refl _) 0 ?_
      refine ⟨_, _, m_isFault _ g A xs _, Nat.le_refl _, ?_⟩
      refine br_z (fun c => ?_) (fun c => ?_)
      · exact ⟨_, _, m_rf _ g A xs rc1, Nat.le_refl _, rfl, rfl⟩
      refine ⟨_, _, m_isGear _ g A xs _, Nat.le_refl _, ?_⟩
      refine br_n (fun c' => absurd ⟨by rw [← em]; exact c, by rw [← eg]; exact c'⟩ hc) (fun c => ?_)
      exact ⟨_, _, m_rf _ g A xs rc1, Nat.le_refl _, rfl, rfl⟩
  by_cases c0 : (0 ≤ p1 ∧ p1 < nI m) ∧ (0 ≤ p2 ∧ p2 < nI ng)
  · obtain ⟨j, hj, rfl⟩ := ix_of (m := m) (by omega) c0.1
    obtain ⟨w, hw5, rfl⟩ := ix_of (m := ng) (by omega) c0.2
    have ⟨hw, hv⟩ := IV_flt h em hm hj
    have k0 : 0 ≤ nI j ∧ nI j < x 17 5 := by rw [exm]; exact c0.1
    have k1 : 0 ≤ nI w ∧ nI w < x 17 3 := by rw [exg]; exact c0.2
    have k2 : 0 ≤ nI j ∧ nI j < A 2 3 := by rw [em]; exact c0.1
    have k3 : 0 ≤ nI w ∧ nI w < A 2 2 := by rw [eg]; exact c0.2
    have hx : vp_in (nI j) 8 := vp_in_nI (by omega) (by omega)
    have hf : ab_fa 20 (nI j).toNatClampNeg = vR 20 j := by rw [nI_clamp (by omega)]; exact ab_fa_at 20 (by omega)
    have hj8 : j < 8 := by omega
    have e0 : f 20 j 0 = A 2 (16 + 9 * j) := (hv 0 (by decide)).symm
    have e5 := (hv 5 (by decide)).symm
    have e6 := (hv 6 (by decide)).symm
    by_cases c1 : p3 = 0
    · subst c1
      refine pr_rd h (r := upI (A 2 (16 + 9 * j)) (A 2 (16 + 9 * j + 5)) (A 2 0)) (ex_r (r := upI (f 20 j 0) (f 20 j 5) (x 17 0)) ?_ (by rw [e0, e5, hb.1.1])) (fun xs => ?_)
      · refine ab_meth oX4_rounds 39 _ _ _ _ (Nat.le_refl _) rfl (fun E => ?_)
        refine ab_run [] 50 oX4_rounds.1 (Nat.le_refl _) 0 ?_
        refine ⟨_, _, x_isFault _ _ x a f _, Nat.le_refl _, ?_⟩
        refine br_z (fun c => absurd k0 c) (fun c => ?_)
        refine ⟨_, _, x_isGear _ _ x a f _, Nat.le_refl _, ?_⟩
        refine br_n (fun c => ?_) (fun c => absurd k1 c)
        refine ⟨fun c => ?_, fun c => absurd rfl c⟩
        refine ⟨hx, ⟨(20, j), hf, ?_⟩⟩
        refine ⟨fun c => absurd rfl c, fun c => ?_⟩
        exact ⟨_, _, x_upOf _ _ x a f (hX_ok20 _ _ _ _ hj8) (hX_get20 _ _ _ _ _), Nat.le_refl _, rfl, rfl⟩
      · refine ab_meth oX5_rounds 39 _ _ _ _ (Nat.le_refl _) rfl (fun E => ?_)
        refine ab_run [] 50 oX5_rounds.1 (Nat.le_refl _) 0 ?_
        refine ⟨_, _, m_isFault _ g A xs _, Nat.le_refl _, ?_⟩
        refine br_z (fun c => absurd k2 c) (fun c => ?_)
        refine ⟨_, _, m_isGear _ g A xs _, Nat.le_refl _, ?_⟩
        refine br_n (fun c => ?_) (fun c => absurd k3 c)
        refine ⟨fun c => absurd rfl c, fun c => ?_⟩
        exact ⟨_, _, m_upOf _ g A xs j hj8, Nat.le_refl _, rfl, rfl⟩
    by_cases c2 : p3 = 1
    · subst c2
      refine pr_rd h (r := downI (A 2 (16 + 9 * j)) (A 2 (16 + 9 * j + 6)) (A 2 1) (A 2 (11 + w))) (ex_r (r := downX (f 20 j 0) (f 20 j 6) (x 17 1) (nI w) (x 17 3) (a 18)) ?_ (by rw [e0, e6]; exact dn_eq hb (by omega) (by rw [eg, nI_toInt (by omega)]; omega))) (fun xs => ?_)
      · refine ab_meth oX4_rounds 39 _ _ _ _ (Nat.le_refl _) rfl (fun E => ?_)
        refine ab_run [] 50 oX4_rounds.1 (Nat.le_refl _) 0 ?_
        refine ⟨_, _, x_isFault _ _ x a f _, Nat.le_refl _, ?_⟩
        refine br_z (fun c => absurd k0 c) (fun c => ?_)
        refine ⟨_, _, x_isGear _ _ x a f _, Nat.le_refl _, ?_⟩
        refine br_n (fun c => ?_) (fun c => absurd k1 c)
        refine ⟨fun c => absurd c (by decide), fun c => ⟨fun c => ?_, fun c => absurd rfl c⟩⟩
        refine ⟨hx, ⟨(20, j), hf, ?_⟩⟩
        refine ⟨fun c => ?_, fun c => absurd c (by decide)⟩
        exact ⟨_, _, x_downOf _ _ x a f (hX_ok20 _ _ _ _ hj8) (hX_get20 _ _ _ _ _) hx5 _, Nat.le_refl _, rfl, rfl⟩
      · refine ab_meth oX5_rounds 39 _ _ _ _ (Nat.le_refl _) rfl (fun E => ?_)
        refine ab_run [] 50 oX5_rounds.1 (Nat.le_refl _) 0 ?_
        refine ⟨_, _, m_isFault _ g A xs _, Nat.le_refl _, ?_⟩
        refine br_z (fun c => absurd k2 c) (fun c => ?_)
        refine ⟨_, _, m_isGear _ g A xs _, Nat.le_refl _, ?_⟩
        refine br_n (fun c => ?_) (fun c => absurd k3 c)
        refine ⟨fun c => ⟨fun c => absurd rfl c, fun c => ?_⟩, fun c => absurd c (by decide)⟩
        exact ⟨_, _, m_downOf _ g A xs j hj8 w (by omega), Nat.le_refl _, rfl, rfl⟩
    · refine pr_rf h rc2 ?_ (fun xs => ?_)
      · refine ab_meth oX4_rounds 39 _ _ _ _ (Nat.le_refl _) rfl (fun E => ?_)
        refine ab_run [] 50 oX4_rounds.1 (Nat.le_refl _) 0 ?_
        refine ⟨_, _, x_isFault _ _ x a f _, Nat.le_refl _, ?_⟩
        refine br_z (fun c => absurd k0 c) (fun c => ?_)
        refine ⟨_, _, x_isGear _ _ x a f _, Nat.le_refl _, ?_⟩
        refine br_n (fun c => ?_) (fun c => absurd k1 c)
        refine ⟨fun c => absurd c c1, fun c => ⟨fun c => absurd c c2, fun c => ?_⟩⟩
        exact ⟨_, _, x_rf _ _ x a f rc2, Nat.le_refl _, rfl, rfl⟩
      · refine ab_meth oX5_rounds 39 _ _ _ _ (Nat.le_refl _) rfl (fun E => ?_)
        refine ab_run [] 50 oX5_rounds.1 (Nat.le_refl _) 0 ?_
        refine ⟨_, _, m_isFault _ g A xs _, Nat.le_refl _, ?_⟩
        refine br_z (fun c => absurd k2 c) (fun c => ?_)
        refine ⟨_, _, m_isGear _ g A xs _, Nat.le_refl _, ?_⟩
        refine br_n (fun c => ?_) (fun c => absurd k3 c)
        refine ⟨fun c => ⟨fun c => ?_, fun c => absurd c c2⟩, fun c => absurd c c1⟩
        exact ⟨_, _, m_rf _ g A xs rc2, Nat.le_refl _, rfl, rfl⟩
  · exact rX c0
end
section
theorem bx_congr {u v : Nat → Int32} : ∀ (n : Nat), (∀ i, i < n → u i = v i) → bx_sum u n = bx_sum v n := by
  intro n
  induction n with
  | zero => intro _; rfl
  | succ n ih =>
    intro h
    show bx_sum u n + u n = bx_sum v n + v n
    rw [ih (fun i hi => h i (by omega)), h n (by omega)]
theorem sh_m1 (i : Nat) (hi : i < 8) : ((-1 : Int32) >>> (nI i &&& 31)) &&& 1 = 1 := by
  match i, hi with
  | 0, _ => decide
  | 1, _ => decide
  | 2, _ => decide
  | 3, _ => decide
  | 4, _ => decide
  | 5, _ => decide
  | 6, _ => decide
  | 7, _ => decide
theorem IV_wts {g : mG} {A x a : mA} {f : mF} (h : IV g A x a f) {m : Nat} (em : A 2 3 = nI m) (hm : m ≤ 8) : bx_sum (fun i => (((-1 : Int32) >>> (nI i &&& 31)) &&& 1) * f 20 i 3) m = bx_sum (fun i => A 2 (16 + 9 * i + 3)) m := by
  refine bx_congr m (fun i hi => ?_)
  rw [sh_m1 i (by omega), Int32.one_mul, (IV_flt h em hm hi).2 3 (by decide)]
theorem p_count : P_count IV 40 := by
  intro p1 g A x a f h
  have hb := h.2.2.2.2.2.1
  obtain ⟨m, hm, em, exm⟩ := IV_m h
  by_cases c0 : 10 < p1 ∧ p1 < 17
  · have d1 : 11 ≤ p1 := by
      have := Int32.lt_iff_toInt_lt.mp c0.1
      rw [Int32.le_iff_toInt_le]
      have e1 : (10 : Int32).toInt = 10 := rfl
      have e2 : (11 : Int32).toInt = 11 := rfl
      omega
    have d2 : p1 ≤ 16 := by
      have := Int32.lt_iff_toInt_lt.mp c0.2
      rw [Int32.le_iff_toInt_le]
      have e1 : (17 : Int32).toInt = 17 := rfl
      have e2 : (16 : Int32).toInt = 16 := rfl
      omega
    obtain ⟨k, hk, ek⟩ : ∃ k : Nat, k < 7 ∧ p1 - 10 = nI k := by
      have q1 := Int32.lt_iff_toInt_lt.mp c0.1
      have q2 := Int32.lt_iff_toInt_lt.mp c0.2
      have e1 : (10 : Int32).toInt = 10 := rfl
      have e2 : (17 : Int32).toInt = 17 := rfl
      have e3 : (p1 - 10).toInt = p1.toInt - 10 := ti_sub rfl rfl (by omega) (by omega)
      refine ⟨(p1.toInt - 10).toNat, by omega, nI_ti ?_⟩
      rw [e3]; omega
    refine pr_rd h (r := A 1 k) (ex_r (r := a 48 k) ?_ (h.1 k hk).symm) (fun xs => ?_)
    · refine ab_meth oX4_count 39 _ _ _ _ (Nat.le_refl _) rfl (fun E => ?_)
      refine ab_run [] 50 oX4_count.1 (Nat.le_refl _) 0 ?_
      refine ⟨fun c => absurd c (le_nlt d1), fun c => ⟨fun c => absurd c (le_nlt d2), fun c => ?_⟩⟩
      refine ⟨(by rw [ek]; exact vp_in_nI hk (by omega) : vp_in (p1 - 10) 7), ?_, rfl⟩
      show some (vI (a 48 (p1 - 10).toNatClampNeg)) = _
      rw [ek, nI_clamp (by omega)]
    · refine ab_meth oX5_count 39 _ _ _ _ (Nat.le_refl _) rfl (fun E => ?_)
      refine ab_run [] 50 oX5_count.1 (Nat.le_refl _) 0 ?_
      refine ⟨fun c => absurd c0.1 (le_nlt c), fun c => ⟨fun c => absurd c0.2 (le_nlt c), fun c => ?_⟩⟩
      refine ⟨(by rw [ek]; exact vp_in_nI hk (by omega) : vp_in (p1 - 10) 7), ?_, rfl⟩
      show some (vI (A 1 (p1 - 10).toNatClampNeg)) = _
      rw [ek, nI_clamp (by omega)]
  obtain ⟨n5, -, e51, e52, -⟩ := h.2.1
  obtain ⟨n6, -, e61, e62, -⟩ := h.2.2.1
  have h5 : x 14 1 = g 7 := e52.trans e51.symm
  have h6 : x 13 10 = g 24 := e62.trans e61.symm
  by_cases c10 : p1 = 0
  · subst c10
    refine pr_rd h (r := A 2 3) (ex_r (r := x 17 5) ?_ (hb.1.2.2.2.1.symm)) (fun xs => ?_)
    · refine ab_meth oX4_count 39 _ _ _ _ (Nat.le_refl _) rfl (fun E => ?_)
      refine ab_run [] 50 oX4_count.1 (Nat.le_refl _) 0 ?_
      refine ⟨fun c => ?_, fun c => absurd (by decide) c⟩
      refine ⟨fun c => ?_, fun c => absurd rfl c⟩
      exact ⟨rfl, rfl⟩
    · refine ab_meth oX5_count 39 _ _ _ _ (Nat.le_refl _) rfl (fun E => ?_)
      refine ab_run [] 50 oX5_count.1 (Nat.le_refl _) 0 ?_
      refine ⟨fun c => ?_, fun c => absurd (by decide) c⟩
      refine ⟨fun c => ?_, fun c => absurd rfl c⟩
      exact ⟨vp_d rfl, rfl, rfl⟩
  by_cases c11 : p1 = 1
  · subst c11
    refine pr_rd h (r := A 2 2) (ex_r (r := x 17 3) ?_ (hb.1.2.2.1.symm)) (fun xs => ?_)
    · refine ab_meth oX4_count 39 _ _ _ _ (Nat.le_refl _) rfl (fun E => ?_)
      refine ab_run [] 50 oX4_count.1 (Nat.le_refl _) 0 ?_
      refine ⟨fun c => ?_, fun c => absurd (by decide) c⟩
      refine ⟨fun c => absurd c (by decide), fun c => ⟨fun c => ?_, fun c => absurd rfl c⟩⟩
      exact ⟨rfl, rfl⟩
    · refine ab_meth oX5_count 39 _ _ _ _ (Nat.le_refl _) rfl (fun E => ?_)
      refine ab_run [] 50 oX5_count.1 (Nat.le_refl _) 0 ?_
      refine ⟨fun c => ?_, fun c => absurd (by decide) c⟩
      refine ⟨fun c => absurd c (by decide), fun c => ⟨fun c => ?_, fun c => absurd rfl c⟩⟩
      exact ⟨vp_d rfl, rfl, rfl⟩
  by_cases c12 : p1 = 2
  · subst c12
    refine pr_rd h (r := A 2 4) (ex_r (r := x 17 12) ?_ (hb.1.2.2.2.2.1.symm)) (fun xs => ?_)
    · refine ab_meth oX4_count 39 _ _ _ _ (Nat.le_refl _) rfl (fun E => ?_)
      refine ab_run [] 50 oX4_count.1 (Nat.le_refl _) 0 ?_
      refine ⟨fun c => ?_, fun c => absurd (by decide) c⟩
      refine ⟨fun c => absurd c (by decide), fun c => ⟨fun c => absurd c (by decide), fun c => ⟨fun c => ?_, fun c => absurd rfl c⟩⟩⟩
      exact ⟨rfl, rfl⟩
    · refine ab_meth oX5_count 39 _ _ _ _ (Nat.le_refl _) rfl (fun E => ?_)
      refine ab_run [] 50 oX5_count.1 (Nat.le_refl _) 0 ?_
      refine ⟨fun c => ?_, fun c => absurd (by decide) c⟩
      refine ⟨fun c => absurd c (by decide), fun c => ⟨fun c => absurd c (by decide), fun c => ⟨fun c => ?_, fun c => absurd rfl c⟩⟩⟩
      exact ⟨vp_d rfl, rfl, rfl⟩
  by_cases c13 : p1 = 3
  · subst c13
    refine pr_rd h (r := A 2 5) (ex_r (r := x 17 7) ?_ (hb.1.2.2.2.2.2.1.symm)) (fun xs => ?_)
    · refine ab_meth oX4_count 39 _ _ _ _ (Nat.le_refl _) rfl (fun E => ?_)
      refine ab_run [] 50 oX4_count.1 (Nat.le_refl _) 0 ?_
      refine ⟨fun c => ?_, fun c => absurd (by decide) c⟩
      refine ⟨fun c => absurd c (by decide), fun c => ⟨fun c => absurd c (by decide), fun c => ⟨fun c => absurd c (by decide), fun c => ⟨fun c => ?_, fun c => absurd rfl c⟩⟩⟩⟩
      exact ⟨rfl, rfl⟩
    · refine ab_meth oX5_count 39 _ _ _ _ (Nat.le_refl _) rfl (fun E => ?_)
      refine ab_run [] 50 oX5_count.1 (Nat.le_refl _) 0 ?_
      refine ⟨fun c => ?_, fun c => absurd (by decide) c⟩
      refine ⟨fun c => absurd c (by decide), fun c => ⟨fun c => absurd c (by decide), fun c => ⟨fun c => absurd c (by decide), fun c => ⟨fun c => ?_, fun c => absurd rfl c⟩⟩⟩⟩
      exact ⟨vp_d rfl, rfl, rfl⟩
  by_cases c14 : p1 = 4
  · subst c14
    refine pr_rd h (r := (if A 2 6 < 0 then -9 else A 2 5 - A 2 6)) (ex_r (r := (if A 2 6 < 0 then -9 else A 2 5 - A 2 6)) ?_ (rfl)) (fun xs => ?_)
    · refine ab_meth oX4_count 39 _ _ _ _ (Nat.le_refl _) rfl (fun E => ?_)
      refine ab_run [] 50 oX4_count.1 (Nat.le_refl _) 0 ?_
      refine ⟨fun c => ?_, fun c => absurd (by decide) c⟩
      refine ⟨fun c => absurd c (by decide), fun c => ⟨fun c => absurd c (by decide), fun c => ⟨fun c => absurd c (by decide), fun c => ⟨fun c => absurd c (by decide), fun c => ⟨fun c => ?_, fun c => absurd rfl c⟩⟩⟩⟩⟩
      refine ⟨_, _, x_wasOiled _ _ x a f, Nat.le_refl _, ?_⟩
      rw [hb.1.2.2.2.2.2.1, hb.1.2.2.2.2.2.2]
      refine br_z (fun c => ?_) (fun c => ?_)
      · rw [if_pos (nle_lt c)]
        exact ⟨rfl, rfl⟩
      · rw [if_neg (le_nlt c)]
        exact ⟨rfl, rfl⟩
    · refine ab_meth oX5_count 39 _ _ _ _ (Nat.le_refl _) rfl (fun E => ?_)
      refine ab_run [] 50 oX5_count.1 (Nat.le_refl _) 0 ?_
      refine ⟨fun c => ?_, fun c => absurd (by decide) c⟩
      refine ⟨fun c => absurd c (by decide), fun c => ⟨fun c => absurd c (by decide), fun c => ⟨fun c => absurd c (by decide), fun c => ⟨fun c => absurd c (by decide), fun c => ⟨fun c => ?_, fun c => absurd rfl c⟩⟩⟩⟩⟩
      refine ⟨vp_d rfl, ?_⟩
      refine ⟨fun c => ?_, fun c => ?_⟩
      · have c : 0 ≤ A 2 6 := c
        rw [if_neg (le_nlt c)]
        exact ⟨vp_d rfl, vp_d rfl, rfl, rfl⟩
      · have c : ¬ 0 ≤ A 2 6 := c
        rw [if_pos (nle_lt c)]
        exact ⟨rfl, rfl⟩
  by_cases c15 : p1 = 5
  · subst c15
    refine pr_rd h (r := g 7) (ex_r (r := x 14 1) ?_ (h5)) (fun xs => ?_)
    · refine ab_meth oX4_count 39 _ _ _ _ (Nat.le_refl _) rfl (fun E => ?_)
      refine ab_run [] 50 oX4_count.1 (Nat.le_refl _) 0 ?_
      refine ⟨fun c => ?_, fun c => absurd (by decide) c⟩
      refine ⟨fun c => absurd c (by decide), fun c => ⟨fun c => absurd c (by decide), fun c => ⟨fun c => absurd c (by decide), fun c => ⟨fun c => absurd c (by decide), fun c => ⟨fun c => absurd c (by decide), fun c => ⟨fun c => ?_, fun c => absurd rfl c⟩⟩⟩⟩⟩⟩
      exact ⟨rfl, rfl⟩
    · refine ab_meth oX5_count 39 _ _ _ _ (Nat.le_refl _) rfl (fun E => ?_)
      refine ab_run [] 50 oX5_count.1 (Nat.le_refl _) 0 ?_
      refine ⟨fun c => ?_, fun c => absurd (by decide) c⟩
      refine ⟨fun c => absurd c (by decide), fun c => ⟨fun c => absurd c (by decide), fun c => ⟨fun c => absurd c (by decide), fun c => ⟨fun c => absurd c (by decide), fun c => ⟨fun c => absurd c (by decide), fun c => ⟨fun c => ?_, fun c => absurd rfl c⟩⟩⟩⟩⟩⟩
      exact ⟨rfl, rfl⟩
  by_cases c16 : p1 = 6
  · subst c16
    refine pr_rd h (r := g 24) (ex_r (r := x 13 10) ?_ (h6)) (fun xs => ?_)
    · refine ab_meth oX4_count 39 _ _ _ _ (Nat.le_refl _) rfl (fun E => ?_)
      refine ab_run [] 50 oX4_count.1 (Nat.le_refl _) 0 ?_
      refine ⟨fun c => ?_, fun c => absurd (by decide) c⟩
      refine ⟨fun c => absurd c (by decide), fun c => ⟨fun c => absurd c (by decide), fun c => ⟨fun c => absurd c (by decide), fun c => ⟨fun c => absurd c (by decide), fun c => ⟨fun c => absurd c (by decide), fun c => ⟨fun c => absurd c (by decide), fun c => ⟨fun c => ?_, fun c => absurd rfl c⟩⟩⟩⟩⟩⟩⟩
      exact ⟨rfl, rfl⟩
    · refine ab_meth oX5_count 39 _ _ _ _ (Nat.le_refl _) rfl (fun E => ?_)
      refine ab_run [] 50 oX5_count.1 (Nat.le_refl _) 0 ?_
      refine ⟨fun c => ?_, fun c => absurd (by decide) c⟩
      refine ⟨fun c => absurd c (by decide), fun c => ⟨fun c => absurd c (by decide), fun c => ⟨fun c => absurd c (by decide), fun c => ⟨fun c => absurd c (by decide), fun c => ⟨fun c => absurd c (by decide), fun c => ⟨fun c => absurd c (by decide), fun c => ⟨fun c => ?_, fun c => absurd rfl c⟩⟩⟩⟩⟩⟩⟩
      exact ⟨rfl, rfl⟩
  by_cases c17 : p1 = 7
  · subst c17
    refine pr_rd h (r := bx_sum (fun i => A 2 (16 + 9 * i + 3)) m) (ex_r (r := bx_sum (fun i => (((-1 : Int32) >>> (nI i &&& 31)) &&& 1) * f 20 i 3) m) ?_ (IV_wts h em hm)) (fun xs => ?_)
    · refine ab_meth oX4_count 39 _ _ _ _ (Nat.le_refl _) rfl (fun E => ?_)
      refine ab_run [] 50 oX4_count.1 (Nat.le_refl _) 0 ?_
      refine ⟨fun c => ?_, fun c => absurd (by decide) c⟩
      refine ⟨fun c => absurd c (by decide), fun c => ⟨fun c => absurd c (by decide), fun c => ⟨fun c => absurd c (by decide), fun c => ⟨fun c => absurd c (by decide), fun c => ⟨fun c => absurd c (by decide), fun c => ⟨fun c => absurd c (by decide), fun c => ⟨fun c => absurd c (by decide), fun c => ⟨fun c => ?_, fun c => absurd rfl c⟩⟩⟩⟩⟩⟩⟩⟩
      exact ⟨_, _, x_weightOf _ _ x a f exm hm _, Nat.le_refl _, rfl, rfl⟩
    · refine ab_meth oX5_count 39 _ _ _ _ (Nat.le_refl _) rfl (fun E => ?_)
      refine ab_run [] 50 oX5_count.1 (Nat.le_refl _) 0 ?_
      refine ⟨fun c => ?_, fun c => absurd (by decide) c⟩
      refine ⟨fun c => absurd c (by decide), fun c => ⟨fun c => absurd c (by decide), fun c => ⟨fun c => absurd c (by decide), fun c => ⟨fun c => absurd c (by decide), fun c => ⟨fun c => absurd c (by decide), fun c => ⟨fun c => absurd c (by decide), fun c => ⟨fun c => absurd c (by decide), fun c => ⟨fun c => ?_, fun c => absurd rfl c⟩⟩⟩⟩⟩⟩⟩⟩
      exact ⟨_, _, m_weights _ g A xs em hm, Nat.le_refl _, rfl, rfl⟩
  · refine pr_rd h (r := -9) ?_ (fun xs => ?_)
    · refine ab_meth oX4_count 39 _ _ _ _ (Nat.le_refl _) rfl (fun E => ?_)
      refine ab_run [] 50 oX4_count.1 (Nat.le_refl _) 0 ?_
      refine ⟨fun c => ⟨fun c => absurd c c10, fun c => ⟨fun c => absurd c c11, fun c => ⟨fun c => absurd c c12, fun c => ⟨fun c => absurd c c13, fun c => ⟨fun c => absurd c c14, fun c => ⟨fun c => absurd c c15, fun c => ⟨fun c => absurd c c16, fun c => ⟨fun c => absurd c c17, fun c => ⟨rfl, rfl⟩⟩⟩⟩⟩⟩⟩⟩⟩, fun c1 => ⟨fun c => ⟨fun c => absurd c c10, fun c => ⟨fun c => absurd c c11, fun c => ⟨fun c => absurd c c12, fun c => ⟨fun c => absurd c c13, fun c => ⟨fun c => absurd c c14, fun c => ⟨fun c => absurd c c15, fun c => ⟨fun c => absurd c c16, fun c => ⟨fun c => absurd c c17, fun c => ⟨rfl, rfl⟩⟩⟩⟩⟩⟩⟩⟩⟩, fun c2 => absurd ?_ c0⟩⟩
      have c1 : ¬ p1 < 11 := c1
      have c2 : ¬ 16 < p1 := c2
      rw [Int32.lt_iff_toInt_lt] at c1 c2
      have e1 : (11 : Int32).toInt = 11 := rfl
      have e2 : (16 : Int32).toInt = 16 := rfl
      have e3 : (10 : Int32).toInt = 10 := rfl
      have e4 : (17 : Int32).toInt = 17 := rfl
      constructor
      · rw [Int32.lt_iff_toInt_lt]; omega
      · rw [Int32.lt_iff_toInt_lt]; omega
    · refine ab_meth oX5_count 39 _ _ _ _ (Nat.le_refl _) rfl (fun E => ?_)
      refine ab_run [] 50 oX5_count.1 (Nat.le_refl _) 0 ?_
      refine ⟨fun c => ⟨fun c => absurd c c10, fun c => ⟨fun c => absurd c c11, fun c => ⟨fun c => absurd c c12, fun c => ⟨fun c => absurd c c13, fun c => ⟨fun c => absurd c c14, fun c => ⟨fun c => absurd c c15, fun c => ⟨fun c => absurd c c16, fun c => ⟨fun c => absurd c c17, fun c => ⟨rfl, rfl⟩⟩⟩⟩⟩⟩⟩⟩⟩, fun c1 => ⟨fun c => ⟨fun c => absurd c c10, fun c => ⟨fun c => absurd c c11, fun c => ⟨fun c => absurd c c12, fun c => ⟨fun c => absurd c c13, fun c => ⟨fun c => absurd c c14, fun c => ⟨fun c => absurd c c15, fun c => ⟨fun c => absurd c c16, fun c => ⟨fun c => absurd c c17, fun c => ⟨rfl, rfl⟩⟩⟩⟩⟩⟩⟩⟩⟩, fun c2 => absurd ⟨nle_lt c1, nle_lt c2⟩ c0⟩⟩
end
section
theorem upd_ne {s : Nat → Int32} {i j : Nat} {v : Int32} (h : j ≠ i) : upd s i v j = s j := if_neg h
theorem upd_at {s : Nat → Int32} {i : Nat} {v : Int32} : upd s i v i = v := if_pos rfl
theorem WF_set {s : Nat → Int32} {k : Nat} {v : Int32} (hk : k < 4) (h0 : ¬ v < 0) (h1 : ¬ mstI (nI k) < v) (h : WF s) : WF (upd s (7 + k) v) := by
  obtain ⟨⟨w0, w1, w2, w3, w4, w5, w6⟩, w7, w8, w9, w10⟩ := h
  have e : ∀ j, j < 7 ∨ 11 ≤ j → upd s (7 + k) v j = s j := fun j hj => upd_ne (by omega)
  rw [Int32.lt_iff_toInt_lt] at h0 h1
  have z0 : (0 : Int32).toInt = 0 := rfl
  refine ⟨?_, ?_, ?_, ?_, ?_⟩
  · rw [e 0 (by omega), e 1 (by omega), e 2 (by omega), e 3 (by omega), e 4 (by omega), e 5 (by omega), e 6 (by omega)]
    exact ⟨w0, w1, w2, w3, w4, w5, w6⟩
  · obtain ⟨q0, q1, q2, q3⟩ := w7
    match k, hk, h1 with
    | 0, _, h1 =>
      have z1 : (mstI (nI 0)).toInt = 9 := rfl
      exact ⟨⟨by rw [upd_at]; omega, by rw [upd_at]; omega⟩, q1, q2, q3⟩
    | 1, _, h1 =>
      have z1 : (mstI (nI 1)).toInt = 1 := rfl
      refine ⟨q0, ?_, q2, q3⟩
      rw [upd_at]
      rcases (by omega : v.toInt = 0 ∨ v.toInt = 1) with q | q
      · exact Or.inl (Int32.toInt_inj.mp (by omega))
      · exact Or.inr (Int32.toInt_inj.mp (by have : (1 : Int32).toInt = 1 := rfl; omega))
    | 2, _, h1 =>
      have z1 : (mstI (nI 2)).toInt = 100 := rfl
      exact ⟨q0, q1, ⟨by rw [upd_at]; omega, by rw [upd_at]; omega⟩, q3⟩
    | 3, _, h1 =>
      have z1 : (mstI (nI 3)).toInt = 99 := rfl
      exact ⟨q0, q1, q2, ⟨by rw [upd_at]; omega, by rw [upd_at]; omega⟩⟩
  · intro j hj hj2
    rw [e 2 (by omega)] at hj2
    rw [e _ (by omega)]
    exact w8 j hj hj2
  · intro j hj hj2
    rw [e 3 (by omega)] at hj2
    have := w9 j hj hj2
    unfold WFf at this ⊢
    rw [e _ (by omega), e _ (by omega), e _ (by omega), e _ (by omega), e _ (by omega), e _ (by omega), e _ (by omega), e _ (by omega), e _ (by omega)]
    exact this
  · intro j hj hj2
    rw [e 4 (by omega)] at hj2
    rw [e _ (by omega), e _ (by omega), e _ (by omega), e _ (by omega)]
    exact w10 j hj hj2
theorem BR_set {s : Nat → Int32} {x a : mA} {f : mF} {k : Nat} {v : Int32} (hk : k < 4) (h : BR s x a f 17) : BR (upd s (7 + k) v) x (mS a 21 (upd (a 21) k v)) f 17 := by
  obtain ⟨⟨w0, w1, w2, w3, w4, w5, w6⟩, w7, w8, w9, w10⟩ := h
  have e : ∀ j, j < 7 ∨ 11 ≤ j → upd s (7 + k) v j = s j := fun j hj => upd_ne (by omega)
  refine ⟨?_, ?_, ?_, ?_, ?_⟩
  · rw [e 0 (by omega), e 1 (by omega), e 2 (by omega), e 3 (by omega), e 4 (by omega), e 5 (by omega), e 6 (by omega)]
    exact ⟨w0, w1, w2, w3, w4, w5, w6⟩
  · intro j hj
    show upd s (7 + k) v (7 + j) = upd (a 21) k v j
    by_cases q : j = k
    · subst q
      rw [upd_at, upd_at]
    · rw [upd_ne (by omega), upd_ne q]
      exact w7 j hj
  · intro j hj hj2
    rw [e 2 (by omega)] at hj2
    rw [e _ (by omega)]
    exact w8 j hj hj2
  · intro j hj hj2 c hc
    rw [e 3 (by omega)] at hj2
    rw [e _ (by omega)]
    exact w9 j hj hj2 c hc
  · intro j hj hj2
    rw [e 4 (by omega)] at hj2
    rw [e _ (by omega), e _ (by omega), e _ (by omega)]
    exact w10 j hj hj2
theorem ms_eq {k : Nat} (hk : k < 4) : ab_ms k = mstI (nI k) := by
  match k, hk with
  | 0, _ => rfl
  | 1, _ => rfl
  | 2, _ => rfl
  | 3, _ => rfl
theorem p_set : P_set IV 40 := by
  intro p1 p2 g A x a f h
  by_cases c0 : 0 ≤ p1 ∧ p1 < 4
  · obtain ⟨k, hk, rfl⟩ := ix_of (m := 4) (by omega) c0
    have ek : (nI k).toNatClampNeg = k := nI_clamp (by omega)
    have hm : ab_ms (nI k).toNatClampNeg = mstI (nI k) := by rw [ek]; exact ms_eq hk
    have e7 : (7 : Int32) + nI k = nI (7 + k) := nI_add 7 k
    by_cases c1 : p2 < 0
    · refine pr_rf h rc4 ?_ (fun xs => ?_)
      · refine ab_meth oX4_set 39 _ _ _ _ (Nat.le_refl _) rfl (fun E => ?_)
        refine ab_run [] 50 oX4_set.1 (Nat.le_refl _) 0 ?_
        refine ⟨fun c => absurd c (le_nlt c0.1), fun c => ⟨fun c => ?_, fun c => absurd c0.2 c⟩⟩
        refine ⟨fun c => absurd c1 (le_nlt c), fun c => ?_⟩
        exact ⟨_, _, x_rf _ _ x a f rc4, Nat.le_refl _, rfl, rfl⟩
      · refine ab_meth oX5_set 39 _ _ _ _ (Nat.le_refl _) rfl (fun E => ?_)
        refine ab_run [] 50 oX5_set.1 (Nat.le_refl _) 0 ?_
        refine ⟨_, _, m_isIn _ _ (Nat.le_refl _) _ _, Nat.le_refl _, ?_⟩
        refine br_n (fun c => ?_) (fun c => absurd c0 c)
        refine ⟨_, _, m_most _ _ (Nat.le_refl _) _, Nat.le_refl _, ?_⟩
        refine ⟨_, _, m_within _ _ (Nat.le_refl _) _ _ _, Nat.le_refl _, ?_⟩
        have e : withI p2 0 (mstI (nI k)) = -4 := if_pos c1
        rw [e]
        refine ⟨fun c => absurd c (by decide), fun c => ?_⟩
        exact ⟨_, _, m_rf _ g A xs rc4, Nat.le_refl _, rfl, rfl⟩
    by_cases c2 : mstI (nI k) < p2
    · refine pr_rf h rc6 ?_ (fun xs => ?_)
      · refine ab_meth oX4_set 39 _ _ _ _ (Nat.le_refl _) rfl (fun E => ?_)
        refine ab_run [] 50 oX4_set.1 (Nat.le_refl _) 0 ?_
        refine ⟨fun c => absurd c (le_nlt c0.1), fun c => ⟨fun c => ?_, fun c => absurd c0.2 c⟩⟩
        refine ⟨fun c => ?_, fun c => absurd (nlt_le c1) c⟩
        refine ⟨vp_in_nI hk (by omega), ?_⟩
        refine ⟨fun (c : p2 ≤ ab_ms (nI k).toNatClampNeg) => absurd c2 (by rw [← hm]; exact le_nlt c), fun c => ?_⟩
        exact ⟨_, _, x_rf _ _ x a f rc6, Nat.le_refl _, rfl, rfl⟩
      · refine ab_meth oX5_set 39 _ _ _ _ (Nat.le_refl _) rfl (fun E => ?_)
        refine ab_run [] 50 oX5_set.1 (Nat.le_refl _) 0 ?_
        refine ⟨_, _, m_isIn _ _ (Nat.le_refl _) _ _, Nat.le_refl _, ?_⟩
        refine br_n (fun c => ?_) (fun c => absurd c0 c)
        refine ⟨_, _, m_most _ _ (Nat.le_refl _) _, Nat.le_refl _, ?_⟩
        refine ⟨_, _, m_within _ _ (Nat.le_refl _) _ _ _, Nat.le_refl _, ?_⟩
        have e : withI p2 0 (mstI (nI k)) = -6 := (if_neg c1).trans (if_pos c2)
        rw [e]
        refine ⟨fun c => absurd c (by decide), fun c => ?_⟩
        exact ⟨_, _, m_rf _ g A xs rc6, Nat.le_refl _, rfl, rfl⟩
    · have h21 : A 2 (7 + k) = a 21 k := h.2.2.2.2.2.1.2.1 k hk
      refine ⟨A 2 (7 + k), x, mS a 21 (upd (a 21) k p2), f, g, mS A 2 (upd (A 2) (7 + k) p2), ex_r (r := a 21 k) ?_ h21.symm, ?_, ?_⟩
      · refine ab_meth oX4_set 39 _ _ _ _ (Nat.le_refl _) rfl (fun E => ?_)
        refine ab_run [] 50 oX4_set.1 (Nat.le_refl _) 0 ?_
        refine ⟨fun c => absurd c (le_nlt c0.1), fun c => ⟨fun c => ?_, fun c => absurd c0.2 c⟩⟩
        refine ⟨fun c => ?_, fun c => absurd (nlt_le c1) c⟩
        refine ⟨vp_in_nI hk (by omega), ?_⟩
        refine ⟨fun c => ?_, fun (c : ¬ p2 ≤ ab_ms (nI k).toNatClampNeg) => absurd (by rw [hm]; exact nlt_le c2) c⟩
        refine ⟨vp_in_nI hk (by omega), vp_in_nI hk (by omega), ?_⟩
        rw [ek]
        exact ⟨rfl, rfl⟩
      · refine ab_meth oX5_set 39 _ _ _ _ (Nat.le_refl _) rfl (fun E => ?_)
        refine ab_run [] 50 oX5_set.1 (Nat.le_refl _) 0 ?_
        refine ⟨_, _, m_isIn _ _ (Nat.le_refl _) _ _, Nat.le_refl _, ?_⟩
        refine br_n (fun c => ?_) (fun c => absurd c0 c)
        refine ⟨_, _, m_most _ _ (Nat.le_refl _) _, Nat.le_refl _, ?_⟩
        refine ⟨_, _, m_within _ _ (Nat.le_refl _) _ _ _, Nat.le_refl _, ?_⟩
        have e : withI p2 0 (mstI (nI k)) = 0 := (if_neg c1).trans (if_neg c2)
        rw [e]
        refine ⟨fun c => ?_, fun c => absurd rfl c⟩
        rw [← show ((7 : Int32) + nI k).toNatClampNeg = 7 + k by rw [e7]; exact nI_clamp (by omega)]
        refine ⟨(by rw [e7]; exact vp_in_nI (by omega) (by omega) : vp_in (7 + nI k) 112), (by rw [e7]; exact vp_in_nI (by omega) (by omega) : vp_in (7 + nI k) 112), ?_⟩
        exact ⟨rfl, rfl⟩
      · obtain ⟨h1, h2, h3, h4, h5, h6, h7⟩ := h
        exact ⟨h1, h2, h3, h4, WF_set hk c1 c2 h5, BR_set hk h6, h7⟩
  · refine pr_rf h rc2 ?_ (fun xs => ?_)
    · refine ab_meth oX4_set 39 _ _ _ _ (Nat.le_refl _) rfl (fun E => ?_)
      refine ab_run [] 50 oX4_set.1 (Nat.le_refl _) 0 ?_
      refine ⟨fun c => ?_, fun c => ⟨fun c' => absurd ⟨nlt_le c, c'⟩ c0, fun c => ?_⟩⟩
      · exact ⟨_, _, x_rf _ _ x a f rc2, Nat.le_refl _, rfl, rfl⟩
      · exact ⟨_, _, x_rf _ _ x a f rc2, Nat.le_refl _, rfl, rfl⟩
    · refine ab_meth oX5_set 39 _ _ _ _ (Nat.le_refl _) rfl (fun E => ?_)
      refine ab_run [] 50 oX5_set.1 (Nat.le_refl _) 0 ?_
      refine ⟨_, _, m_isIn _ _ (Nat.le_refl _) _ _, Nat.le_refl _, ?_⟩
      refine br_n (fun c => absurd c c0) (fun c => ?_)
      exact ⟨_, _, m_rf _ g A xs rc2, Nat.le_refl _, rfl, rfl⟩
end
section
def stS (s : Nat → Int32) (n : Nat) (u v w : Int32) : Nat → Int32 := upd (upd (upd (upd s (88 + 3 * n) u) (88 + 3 * n + 1) v) (88 + 3 * n + 2) w) 4 (s 4 + 1)
theorem stS_o {s : Nat → Int32} {n : Nat} {u v w : Int32} {j : Nat} (h4 : j ≠ 4) (h : j < 88 + 3 * n ∨ 88 + 3 * n + 2 < j) : stS s n u v w j = s j := by
  unfold stS
  rw [upd_ne h4, upd_ne (by omega), upd_ne (by omega), upd_ne (by omega)]
theorem stS_0 {s : Nat → Int32} {n : Nat} {u v w : Int32} : stS s n u v w (88 + 3 * n) = u := by
  unfold stS
  rw [upd_ne (by omega), upd_ne (by omega), upd_ne (by omega), upd_at]
theorem stS_1 {s : Nat → Int32} {n : Nat} {u v w : Int32} : stS s n u v w (88 + 3 * n + 1) = v := by
  unfold stS
  rw [upd_ne (by omega), upd_ne (by omega), upd_at]
theorem stS_2 {s : Nat → Int32} {n : Nat} {u v w : Int32} : stS s n u v w (88 + 3 * n + 2) = w := by
  unfold stS
  rw [upd_ne (by omega), upd_at]
theorem WF_stage {s : Nat → Int32} {n : Nat} {u v w : Int32} (hn : n < 8) (en : s 4 = nI n) (hu : 0 ≤ u.toInt ∧ u.toInt ≤ 5) (hv : 0 ≤ v.toInt ∧ v.toInt < (s 2).toInt) (hw : 1 ≤ w.toInt ∧ w.toInt ≤ 60) (h : WF s) : WF (stS s n u v w) := by
  obtain ⟨⟨w0, w1, w2, w3, w4, w5, w6⟩, w7, w8, w9, w10⟩ := h
  have e : ∀ j, j ≠ 4 → j < 88 ∨ 88 + 3 * n + 2 < j → stS s n u v w j = s j := fun j h4 hj => stS_o h4 (by omega)
  have e4 : stS s n u v w 4 = nI (n + 1) := by
    show s 4 + 1 = _
    rw [en]; exact nI_add n 1
  have t4 : (nI (n + 1)).toInt = ((n + 1 : Nat) : Int) := nI_toInt (by omega)
  refine ⟨?_, ?_, ?_, ?_, ?_⟩
  · rw [e 0 (by omega) (by omega), e 1 (by omega) (by omega), e 2 (by omega) (by omega), e 3 (by omega) (by omega), e4, e 5 (by omega) (by omega), e 6 (by omega) (by omega), t4]
    exact ⟨w0, w1, w2, w3, by omega, w5, w6⟩
  · rw [e 7 (by omega) (by omega), e 8 (by omega) (by omega), e 9 (by omega) (by omega), e 10 (by omega) (by omega)]
    exact w7
  · intro j hj hj2
    rw [e 2 (by omega) (by omega)] at hj2
    rw [e _ (by omega) (by omega)]
    exact w8 j hj hj2
  · intro j hj hj2
    rw [e 3 (by omega) (by omega)] at hj2
    have := w9 j hj hj2
    unfold WFf at this ⊢
    rw [e _ (by omega) (by omega), e _ (by omega) (by omega), e _ (by omega) (by omega), e _ (by omega) (by omega), e _ (by omega) (by omega), e _ (by omega) (by omega), e _ (by omega) (by omega), e _ (by omega) (by omega), e _ (by omega) (by omega)]
    exact this
  · intro j hj hj2
    rw [e4, t4] at hj2
    rw [e 2 (by omega) (by omega)]
    by_cases q : j = n
    · subst q
      rw [stS_0, stS_1, stS_2]
      exact ⟨hu, hv, hw⟩
    · have o : ∀ c, c < 3 → stS s n u v w (88 + 3 * j + c) = s (88 + 3 * j + c) := fun c hc => stS_o (by omega) (by omega)
      rw [show stS s n u v w (88 + 3 * j) = s (88 + 3 * j) from o 0 (by omega), o 1 (by omega), o 2 (by omega)]
      exact w10 j hj (by rw [en, nI_toInt (by omega)]; omega)
def stA (a : mA) (n : Nat) (u v w : Int32) : mA := mS (mS (mS a 22 (upd (a 22) n u)) 23 (upd (a 23) n v)) 24 (upd (a 24) n w)
theorem BR_stage {s : Nat → Int32} {x a : mA} {f : mF} {n : Nat} {u v w : Int32} (hn : n < 8) (en : s 4 = nI n) (h : BR s x a f 17) : BR (stS s n u v w) (mS x 17 (upd (x 17) 12 (x 17 12 + 1))) (stA a n u v w) f 17 := by
  obtain ⟨⟨w0, w1, w2, w3, w4, w5, w6⟩, w7, w8, w9, w10⟩ := h
  have e : ∀ j, j ≠ 4 → j < 88 ∨ 88 + 3 * n + 2 < j → stS s n u v w j = s j := fun j h4 hj => stS_o h4 (by omega)
  have e4 : stS s n u v w 4 = nI (n + 1) := by
    show s 4 + 1 = _
    rw [en]; exact nI_add n 1
  have t4 : (nI (n + 1)).toInt = ((n + 1 : Nat) : Int) := nI_toInt (by omega)
  refine ⟨?_, ?_, ?_, ?_, ?_⟩
  · rw [e 0 (by omega) (by omega), e 1 (by omega) (by omega), e 2 (by omega) (by omega), e 3 (by omega) (by omega), e 5 (by omega) (by omega), e 6 (by omega) (by omega)]
    refine ⟨w0, w1, w2, w3, ?_, w5, w6⟩
    show s 4 + 1 = x 17 12 + 1
    rw [w4]
  · intro k hk
    rw [e _ (by omega) (by omega)]
    exact w7 k hk
  · intro j hj hj2
    rw [e 2 (by omega) (by omega)] at hj2
    rw [e _ (by omega) (by omega)]
    exact w8 j hj hj2
  · intro j hj hj2 c hc
    rw [e 3 (by omega) (by omega)] at hj2
    rw [e _ (by omega) (by omega)]
    exact w9 j hj hj2 c hc
  · intro j hj hj2
    rw [e4, t4] at hj2
    show _ = upd (a 22) n u j ∧ _ = upd (a 23) n v j ∧ _ = upd (a 24) n w j
    by_cases q : j = n
    · subst q
      rw [stS_0, stS_1, stS_2, upd_at, upd_at, upd_at]
      exact ⟨rfl, rfl, rfl⟩
    · have o : ∀ c, c < 3 → stS s n u v w (88 + 3 * j + c) = s (88 + 3 * j + c) := fun c hc => stS_o (by omega) (by omega)
      rw [show stS s n u v w (88 + 3 * j) = s (88 + 3 * j) from o 0 (by omega), o 1 (by omega), o 2 (by omega), upd_ne q, upd_ne q, upd_ne q]
      exact w10 j hj (by rw [en, nI_toInt (by omega)]; omega)
theorem b_addStage (d : Nat) (mb : Nat → AB) (x a : mA) (f : mF) {n : Nat} (hn : n < 8) (en : x 17 12 = nI n) (u v w : Int32) : ab_Ex (d + 1) 0 yX0_addStage [vR 17 0, vI u, vI v, vI w] (hX mb x a f) none (hX mb (mS x 17 (upd (x 17) 12 (x 17 12 + 1))) (stA a n u v w) f) := by
  refine ab_meth oX0_addStage d _ _ _ _ (Nat.le_refl _) rfl (fun E => ?_)
  refine ab_run [] 100 oX0_addStage.1 (Nat.le_refl _) 0 ?_
  have hl : x 17 12 < 8 := by rw [en]; exact ld_lt n 8 hn (by decide)
  have hv : vp_in (x 17 12) 8 := by rw [en]; exact vp_in_nI hn (by omega)
  have hc : n = (x 17 12).toNatClampNeg := by rw [en, nI_clamp (by omega)]
  rw [hc]
  refine ⟨fun (c : 8 ≤ x 17 12) => absurd hl (le_nlt c), fun c => ?_⟩
  refine ⟨hv, hv, hv, ?_⟩
  exact ⟨rfl, rfl⟩
end
section
theorem pr_w {d : Nat} {yx ym : MethodName} {as : List AV} {g : mG} {A x a : mA} {f : mF} {r : Int32} {x' a' : mA} {f' : mF} {g' : mG} {A' : mA} (e1 : ab_Ex d 0 yx (vR 13 0 :: as) (hX (mbl g A) x a f) (some (vI r)) (hX (mbl g A) x' a' f')) (e2 : ∀ xs, ab_Ex d 0 ym (vR 0 0 :: as) (hM g A xs) (some (vI r)) (hM g' A' xs)) (hI : IV g' A' x' a' f') : ∃ (r : Int32) (x' a' : mA) (f' : mF) (g' : mG) (A' : mA), ab_Ex d 0 yx (vR 13 0 :: as) (hM g A (xl x a f)) (some (vI r)) (hM g A (xl x' a' f')) ∧ ab_Ex d 0 ym (vR 0 0 :: as) (hM g A (xl x' a' f')) (some (vI r)) (hM g' A' (xl x' a' f')) ∧ IV g' A' x' a' f' :=
  ⟨r, x', a', f', g', A', e1, e2 _, hI⟩
theorem p_stage : P_stage IV 40 := by
  intro p1 p2 p3 g A x a f h
  have hb := h.2.2.2.2.2.1
  obtain ⟨n, hn, en, exn⟩ := IV_ns h
  obtain ⟨ng, hng, eg, exg⟩ := IV_ng h
  have z1 : (1 : Int32).toInt = 1 := rfl
  have z60 : (60 : Int32).toInt = 60 := rfl
  have z6 : (6 : Int32).toInt = 6 := rfl
  have z0 : (0 : Int32).toInt = 0 := rfl
  by_cases c0 : (0 ≤ p1 ∧ p1 < 6) ∧ (0 ≤ p2 ∧ p2 < nI ng)
  · have k1 : 0 ≤ p2 ∧ p2 < x 17 3 := by rw [exg]; exact c0.2
    have k3 : 0 ≤ p2 ∧ p2 < A 2 2 := by rw [eg]; exact c0.2
    by_cases c1 : p3 < 1
    · refine pr_rf h rc4 ?_ (fun xs => ?_)
      · refine ab_meth oX4_stage 39 _ _ _ _ (Nat.le_refl _) rfl (fun E => ?_)
        refine ab_run [] 50 oX4_stage.1 (Nat.le_refl _) 0 ?_
        refine ⟨_, _, x_isAct _ _ (Nat.le_refl _) _, Nat.le_refl _, ?_⟩
        refine br_z (fun c => absurd c0.1 c) (fun c => ?_)
        refine ⟨_, _, x_isGear _ _ x a f _, Nat.le_refl _, ?_⟩
        refine br_n (fun c => ?_) (fun c => absurd k1 c)
        refine ⟨fun c => absurd c1 (le_nlt c), fun c => ?_⟩
        exact ⟨_, _, x_rf _ _ x a f rc4, Nat.le_refl _, rfl, rfl⟩
      · refine ab_meth oX5_stage 39 _ _ _ _ (Nat.le_refl _) rfl (fun E => ?_)
        refine ab_run [] 100 oX5_stage.1 (Nat.le_refl _) 0 ?_
        refine ⟨_, _, m_isAct _ _ (Nat.le_refl _) _, Nat.le_refl _, ?_⟩
        refine br_z (fun c => absurd c0.1 c) (fun c => ?_)
        refine ⟨_, _, m_isGear _ g A xs _, Nat.le_refl _, ?_⟩
        refine br_z (fun c => absurd k3 c) (fun c => ?_)
        refine ⟨_, _, m_within _ _ (Nat.le_refl _) _ _ _, Nat.le_refl _, ?_⟩
        have e : withI p3 1 60 = -4 := if_pos c1
        rw [e]
        refine ⟨fun c => ?_, fun c => absurd c (by decide)⟩
        refine ⟨fun c => absurd c (by decide), fun c => ?_⟩
        exact ⟨_, _, m_rf _ g A xs rc4, Nat.le_refl _, rfl, rfl⟩
    by_cases c2 : 60 < p3
    · refine pr_rf h rc6 ?_ (fun xs => ?_)
      · refine ab_meth oX4_stage 39 _ _ _ _ (Nat.le_refl _) rfl (fun E => ?_)
        refine ab_run [] 50 oX4_stage.1 (Nat.le_refl _) 0 ?_
        refine ⟨_, _, x_isAct _ _ (Nat.le_refl _) _, Nat.le_refl _, ?_⟩
        refine br_z (fun c => absurd c0.1 c) (fun c => ?_)
        refine ⟨_, _, x_isGear _ _ x a f _, Nat.le_refl _, ?_⟩
        refine br_n (fun c => ?_) (fun c => absurd k1 c)
        refine ⟨fun c => ?_, fun c => absurd (nlt_le c1) c⟩
        refine ⟨fun c => ?_, fun c => absurd c2 c⟩
        exact ⟨_, _, x_rf _ _ x a f rc6, Nat.le_refl _, rfl, rfl⟩
      · refine ab_meth oX5_stage 39 _ _ _ _ (Nat.le_refl _) rfl (fun E => ?_)
        refine ab_run [] 100 oX5_stage.1 (Nat.le_refl _) 0 ?_
        refine ⟨_, _, m_isAct _ _ (Nat.le_refl _) _, Nat.le_refl _, ?_⟩
        refine br_z (fun c => absurd c0.1 c) (fun c => ?_)
        refine ⟨_, _, m_isGear _ g A xs _, Nat.le_refl _, ?_⟩
        refine br_z (fun c => absurd k3 c) (fun c => ?_)
        refine ⟨_, _, m_within _ _ (Nat.le_refl _) _ _ _, Nat.le_refl _, ?_⟩
        have e : withI p3 1 60 = -6 := (if_neg c1).trans (if_pos c2)
        rw [e]
        refine ⟨fun c => ?_, fun c => absurd c (by decide)⟩
        refine ⟨fun c => absurd c (by decide), fun c => ?_⟩
        exact ⟨_, _, m_rf _ g A xs rc6, Nat.le_refl _, rfl, rfl⟩
    by_cases c3 : n = 8
    · subst c3
      refine pr_rf h rc6 ?_ (fun xs => ?_)
      · refine ab_meth oX4_stage 39 _ _ _ _ (Nat.le_refl _) rfl (fun E => ?_)
        refine ab_run [] 50 oX4_stage.1 (Nat.le_refl _) 0 ?_
        refine ⟨_, _, x_isAct _ _ (Nat.le_refl _) _, Nat.le_refl _, ?_⟩
        refine br_z (fun c => absurd c0.1 c) (fun c => ?_)
        refine ⟨_, _, x_isGear _ _ x a f _, Nat.le_refl _, ?_⟩
        refine br_n (fun c => ?_) (fun c => absurd k1 c)
        refine ⟨fun c => ?_, fun c => absurd (nlt_le c1) c⟩
        refine ⟨fun c => absurd c c2, fun c => ?_⟩
        refine ⟨fun (c : x 17 12 < 8) => absurd c (by rw [exn]; decide), fun c => ?_⟩
        exact ⟨_, _, x_rf _ _ x a f rc6, Nat.le_refl _, rfl, rfl⟩
      · refine ab_meth oX5_stage 39 _ _ _ _ (Nat.le_refl _) rfl (fun E => ?_)
        refine ab_run [] 100 oX5_stage.1 (Nat.le_refl _) 0 ?_
        refine ⟨_, _, m_isAct _ _ (Nat.le_refl _) _, Nat.le_refl _, ?_⟩
        refine br_z (fun c => absurd c0.1 c) (fun c => ?_)
        refine ⟨_, _, m_isGear _ g A xs _, Nat.le_refl _, ?_⟩
        refine br_z (fun c => absurd k3 c) (fun c => ?_)
        refine ⟨_, _, m_within _ _ (Nat.le_refl _) _ _ _, Nat.le_refl _, ?_⟩
        have e : withI p3 1 60 = 0 := (if_neg c1).trans (if_neg c2)
        rw [e]
        refine ⟨fun c => absurd rfl c, fun c => ?_⟩
        refine ⟨vp_d rfl, ?_⟩
        refine ⟨fun (c : ¬ A 2 4 = 8) => absurd en c, fun c => ?_⟩
        refine ⟨fun c => absurd c (by decide), fun c => ?_⟩
        exact ⟨_, _, m_rf _ g A xs rc6, Nat.le_refl _, rfl, rfl⟩
    · have hn8 : n < 8 := by omega
      have hx8 : x 17 12 < 8 := by rw [exn]; exact ld_lt n 8 hn8 (by decide)
      have hg8 : ¬ A 2 4 = 8 := by
        rw [en]
        exact fun q => c3 (by have := congrArg Int32.toInt q; rw [nI_toInt (by omega)] at this; have e8 : (8 : Int32).toInt = 8 := rfl; omega)
      have e1 : x 17 12 + 1 = nI (n + 1) := by rw [exn]; exact nI_add n 1
      have e2 : A 2 4 + 1 = nI (n + 1) := by rw [en]; exact nI_add n 1
      refine pr_w (r := nI (n + 1)) (x' := mS x 17 (upd (x 17) 12 (x 17 12 + 1))) (a' := stA a n p1 p2 p3) (f' := f) (g' := g) (A' := mS A 2 (stS (A 2) n p1 p2 p3)) (ex_r ?_ e1) (fun xs => ex_r ?_ e2) ?_
      · refine ab_meth oX4_stage 39 _ _ _ _ (Nat.le_refl _) rfl (fun E => ?_)
        refine ab_run [] 50 oX4_stage.1 (Nat.le_refl _) 0 ?_
        refine ⟨_, _, x_isAct _ _ (Nat.le_refl _) _, Nat.le_refl _, ?_⟩
        refine br_z (fun c => absurd c0.1 c) (fun c => ?_)
        refine ⟨_, _, x_isGear _ _ x a f _, Nat.le_refl _, ?_⟩
        refine br_n (fun c => ?_) (fun c => absurd k1 c)
        refine ⟨fun c => ?_, fun c => absurd (nlt_le c1) c⟩
        refine ⟨fun c => absurd c c2, fun c => ?_⟩
        refine ⟨fun c => ?_, fun c => absurd hx8 c⟩
        exact ⟨_, _, b_addStage _ _ x a f hn8 exn _ _ _, Nat.le_refl _, rfl, rfl⟩
      · refine ab_meth oX5_stage 39 _ _ _ _ (Nat.le_refl _) rfl (fun E => ?_)
        refine ab_run [] 100 oX5_stage.1 (Nat.le_refl _) 0 ?_
        refine ⟨_, _, m_isAct _ _ (Nat.le_refl _) _, Nat.le_refl _, ?_⟩
        refine br_z (fun c => absurd c0.1 c) (fun c => ?_)
        refine ⟨_, _, m_isGear _ g A xs _, Nat.le_refl _, ?_⟩
        refine br_z (fun c => absurd k3 c) (fun c => ?_)
        refine ⟨_, _, m_within _ _ (Nat.le_refl _) _ _ _, Nat.le_refl _, ?_⟩
        have e : withI p3 1 60 = 0 := (if_neg c1).trans (if_neg c2)
        rw [e]
        refine ⟨fun c => absurd rfl c, fun c => ?_⟩
        refine ⟨vp_d rfl, ?_⟩
        refine ⟨fun c => ?_, fun c => absurd c hg8⟩
        refine ⟨fun c => ?_, fun c => absurd rfl c⟩
        have i0 : (88 : Int32) + 3 * A 2 4 = nI (88 + 3 * n) := by rw [en]; exact ix_s0 n
        have i1 : (88 : Int32) + 3 * A 2 4 + 1 = nI (88 + 3 * n + 1) := by rw [en]; exact ix_s n 1
        have i2 : (88 : Int32) + 3 * A 2 4 + 2 = nI (88 + 3 * n + 2) := by rw [en]; exact ix_s n 2
        have v0 : vp_in ((88 : Int32) + 3 * A 2 4) 112 := by rw [i0]; exact vp_in_nI (by omega) (by omega)
        have v1 : vp_in ((88 : Int32) + 3 * A 2 4 + 1) 112 := by rw [i1]; exact vp_in_nI (by omega) (by omega)
        have v2 : vp_in ((88 : Int32) + 3 * A 2 4 + 2) 112 := by rw [i2]; exact vp_in_nI (by omega) (by omega)
        have n0 : ((88 : Int32) + 3 * A 2 4).toNatClampNeg = 88 + 3 * n := by rw [i0]; exact nI_clamp (by omega)
        have n1 : ((88 : Int32) + 3 * A 2 4 + 1).toNatClampNeg = 88 + 3 * n + 1 := by rw [i1]; exact nI_clamp (by omega)
        have n2 : ((88 : Int32) + 3 * A 2 4 + 2).toNatClampNeg = 88 + 3 * n + 2 := by rw [i2]; exact nI_clamp (by omega)
        refine ⟨vp_d rfl, v0, v1, v2, ?_⟩
        have hz : (upd (upd (upd (A 2) ((88 : Int32) + 3 * A 2 4).toNatClampNeg p1) ((88 : Int32) + 3 * A 2 4 + 1).toNatClampNeg p2) ((88 : Int32) + 3 * A 2 4 + 2).toNatClampNeg p3) 4 = A 2 4 := by
          rw [n0, n1, n2, upd_ne (by omega), upd_ne (by omega), upd_ne (by omega)]
        refine ⟨vp_d rfl, vp_d rfl, vp_d rfl, ?_, ?_⟩
        · show some (vI ((upd (upd (upd (A 2) ((88 : Int32) + 3 * A 2 4).toNatClampNeg p1) ((88 : Int32) + 3 * A 2 4 + 1).toNatClampNeg p2) ((88 : Int32) + 3 * A 2 4 + 2).toNatClampNeg p3) 4 + 1)) = some (vI (A 2 4 + 1))
          rw [hz]
        · show hM g (mS A 2 (upd (upd (upd (upd (A 2) ((88 : Int32) + 3 * A 2 4).toNatClampNeg p1) ((88 : Int32) + 3 * A 2 4 + 1).toNatClampNeg p2) ((88 : Int32) + 3 * A 2 4 + 2).toNatClampNeg p3) 4 ((upd (upd (upd (A 2) ((88 : Int32) + 3 * A 2 4).toNatClampNeg p1) ((88 : Int32) + 3 * A 2 4 + 1).toNatClampNeg p2) ((88 : Int32) + 3 * A 2 4 + 2).toNatClampNeg p3) 4 + 1))) xs = _
          rw [hz, n0, n1, n2]
          rfl
      · obtain ⟨h1, h2, h3, h4, h5, h6, h7⟩ := h
        have q1 := Int32.le_iff_toInt_le.mp c0.1.1
        have q2 := Int32.lt_iff_toInt_lt.mp c0.1.2
        have q3 := Int32.le_iff_toInt_le.mp k3.1
        have q4 := Int32.lt_iff_toInt_lt.mp k3.2
        rw [Int32.lt_iff_toInt_lt] at c1 c2
        exact ⟨h1, h2, h3, h4, WF_stage hn8 en (by omega) (by omega) (by omega) h5, BR_stage hn8 en h6, h7⟩
  · refine pr_rf h rc1 ?_ (fun xs => ?_)
    · refine ab_meth oX4_stage 39 _ _ _ _ (Nat.le_refl _) rfl (fun E => ?_)
      refine ab_run [] 50 oX4_stage.1 (Nat.le_refl _) 0 ?_
      refine ⟨_, _, x_isAct _ _ (Nat.le_refl _) _, Nat.le_refl _, ?_⟩
      refine br_z (fun c => ?_) (fun c => ?_)
      · exact ⟨_, _, x_rf _ _ x a f rc1, Nat.le_refl _, rfl, rfl⟩
      refine ⟨_, _, x_isGear _ _ x a f _, Nat.le_refl _, ?_⟩
      refine br_n (fun c' => absurd ⟨c, by rw [← exg]; exact c'⟩ c0) (fun c => ?_)
      exact ⟨_, _, x_rf _ _ x a f rc1, Nat.le_refl _, rfl, rfl⟩
    · refine ab_meth oX5_stage 39 _ _ _ _ (Nat.le_refl _) rfl (fun E => ?_)
      refine ab_run [] 100 oX5_stage.1 (Nat.le_refl _) 0 ?_
      refine ⟨_, _, m_isAct _ _ (Nat.le_refl _) _, Nat.le_refl _, ?_⟩
      refine br_z (fun c => ?_) (fun c => ?_)
      · refine ⟨fun c => ?_, fun c => absurd c (by decide)⟩
        refine ⟨fun c => absurd c (by decide), fun c => ?_⟩
        exact ⟨_, _, m_rf _ g A xs rc1, Nat.le_refl _, rfl, rfl⟩
      refine ⟨_, _, m_isGear _ g A xs _, Nat.le_refl _, ?_⟩
      refine br_z (fun c => ?_) (fun c' => absurd ⟨c, by rw [← eg]; exact c'⟩ c0)
      refine ⟨fun c => ?_, fun c => absurd c (by decide)⟩
      refine ⟨fun c => absurd c (by decide), fun c => ?_⟩
      exact ⟨_, _, m_rf _ g A xs rc1, Nat.le_refl _, rfl, rfl⟩
end
section
theorem WF_oil {s : Nat → Int32} (h : WF s) : WF (upd s 6 (s 5)) := by
  obtain ⟨⟨w0, w1, w2, w3, w4, w5, w6⟩, w7, w8, w9, w10⟩ := h
  have e : ∀ j, j ≠ 6 → upd s 6 (s 5) j = s j := fun j hj => upd_ne hj
  refine ⟨⟨w0, w1, w2, w3, w4, w5, ?_⟩, w7, ?_, ?_, ?_⟩
  · rw [upd_at]; omega
  · intro j hj hj2
    rw [e _ (by omega)]
    exact w8 j hj hj2
  · intro j hj hj2
    have := w9 j hj hj2
    unfold WFf at this ⊢
    rw [e _ (by omega), e _ (by omega), e _ (by omega), e _ (by omega), e _ (by omega), e _ (by omega), e _ (by omega), e _ (by omega), e _ (by omega)]
    exact this
  · intro j hj hj2
    rw [e _ (by omega), e _ (by omega), e _ (by omega), e _ (by omega)]
    exact w10 j hj hj2
theorem BR_oil {s : Nat → Int32} {x a : mA} {f : mF} (h : BR s x a f 17) : BR (upd s 6 (s 5)) (mS x 17 (upd (x 17) 8 (x 17 7))) a f 17 := by
  obtain ⟨⟨w0, w1, w2, w3, w4, w5, w6⟩, w7, w8, w9, w10⟩ := h
  have e : ∀ j, j ≠ 6 → upd s 6 (s 5) j = s j := fun j hj => upd_ne hj
  refine ⟨⟨w0, w1, w2, w3, w4, w5, ?_⟩, ?_, ?_, ?_, ?_⟩
  · exact w5
  · intro k hk
    rw [e _ (by omega)]
    exact w7 k hk
  · intro j hj hj2
    rw [e _ (by omega)]
    exact w8 j hj hj2
  · intro j hj hj2 c hc
    rw [e _ (by omega)]
    exact w9 j hj hj2 c hc
  · intro j hj hj2
    rw [e _ (by omega), e _ (by omega), e _ (by omega)]
    exact w10 j hj hj2
theorem p_oil : P_oil IV 40 := by
  intro g A x a f h
  obtain ⟨m, hm, em, exm⟩ := IV_m h
  have hs : bx_sum (fun i => if f 20 i 0 = 5 then 1 else 0) m = bx_sum (fun i => if A 2 (16 + 9 * i) = 5 then 1 else 0) m := by
    refine bx_congr m (fun i hi => ?_)
    rw [show A 2 (16 + 9 * i) = f 20 i 0 from (IV_flt h em hm hi).2 0 (by decide)]
  refine pr_w (r := bx_sum (fun i => if A 2 (16 + 9 * i) = 5 then 1 else 0) m) (x' := mS x 17 (upd (x 17) 8 (x 17 7))) (a' := a) (f' := f) (g' := g) (A' := mS A 2 (upd (A 2) 6 (A 2 5))) (ex_r ?_ hs) (fun xs => ?_) ?_
  · refine ab_meth oX4_oil 39 _ _ _ _ (Nat.le_refl _) rfl (fun E => ?_)
    have loop : ∀ (k i : Nat), i + k = m → ab_W jX4_oil 39 E (hX (mbl g A) x a f) (hX (mbl g A) x a f).1 (fun v1 h1 => v1 = some (vI (bx_sum (fun i => if f 20 i 0 = 5 then 1 else 0) m)) ∧ h1 = hX (mbl g A) (mS x 17 (upd (x 17) 8 (x 17 7))) a f) (ab_at iX4_oil 18) [(2, vI (nI i)), (1, vI (bx_sum (fun i => if f 20 i 0 = 5 then 1 else 0) i)), (0, vR 13 0)] [] (hX (mbl g A) (mS x 17 (upd (x 17) 8 (x 17 7))) a f) := by
      intro k
      induction k with
      | zero =>
        intro i hi
        refine ab_run [18] 100 oX4_oil.1 (Nat.le_refl _) 18 ?_
        refine ⟨fun c1 => ?_, fun (c1 : ¬ x 17 5 ≤ nI i) => ?_⟩
        · refine ⟨?_, rfl⟩
          rw [show i = m by omega]
        · rw [exm] at c1
          exact absurd (nI_le (by omega) (by omega)) c1
      | succ k ih =>
        intro i hi
        refine ab_run [18] 100 oX4_oil.1 (Nat.le_refl _) 18 ?_
        refine ⟨fun (c1 : x 17 5 ≤ nI i) => ?_, fun c1 => ?_⟩
        · rw [exm] at c1
          exact absurd c1 (nI_lt_m (by omega) (by omega))
        refine ⟨vp_in_nI (by omega) (by omega), ⟨(20, i), by rw [nI_clamp (by omega)]; exact ab_fa_at 20 (by omega), ?_⟩⟩
        refine ⟨ck20 (by omega), ?_⟩
        have := ih (i + 1) (by omega)
        rw [nI_succ, show bx_sum (fun i => if f 20 i 0 = 5 then (1 : Int32) else 0) (i + 1) = bx_sum (fun i => if f 20 i 0 = 5 then 1 else 0) i + (if f 20 i 0 = 5 then 1 else 0) from rfl] at this
        refine ⟨fun (c : ¬ f 20 i 0 = 5) => ?_, fun (c : f 20 i 0 = 5) => ?_⟩
        · rw [if_neg c] at this
          exact this
        · rw [if_pos c] at this
          exact this
    refine ab_run [18] 100 oX4_oil.1 (Nat.le_refl _) 0 ?_
    exact loop m 0 (by omega)
  · refine ab_meth oX5_oil 39 _ _ _ _ (Nat.le_refl _) rfl (fun E => ?_)
    have loop : ∀ (k i : Nat), i + k = m → ab_W jX5_oil 39 E (hM g A xs) (hM g A xs).1 (fun v1 h1 => v1 = some (vI (bx_sum (fun i => if A 2 (16 + 9 * i) = 5 then 1 else 0) m)) ∧ h1 = hM g (mS A 2 (upd (A 2) 6 (A 2 5))) xs) (ab_at iX5_oil 17) [(2, vI (nI i)), (1, vI (bx_sum (fun i => if A 2 (16 + 9 * i) = 5 then 1 else 0) i)), (0, vR 0 0)] [] (hM g (mS A 2 (upd (A 2) 6 (A 2 5))) xs) := by
      intro k
      induction k with
      | zero =>
        intro i hi
        refine ab_run [17] 100 oX5_oil.1 (Nat.le_refl _) 17 ?_
        refine ⟨vp_d rfl, ?_⟩
        refine ⟨fun c1 => ?_, fun (c1 : ¬ A 2 3 ≤ nI i) => ?_⟩
        · refine ⟨?_, rfl⟩
          rw [show i = m by omega]
        · rw [em] at c1
          exact absurd (nI_le (by omega) (by omega)) c1
      | succ k ih =>
        intro i hi
        refine ab_run [17] 100 oX5_oil.1 (Nat.le_refl _) 17 ?_
        refine ⟨vp_d rfl, ?_⟩
        refine ⟨fun (c1 : A 2 3 ≤ nI i) => ?_, fun c1 => ?_⟩
        · rw [em] at c1
          exact absurd c1 (nI_lt_m (by omega) (by omega))
        refine ⟨_, _, m_get0 _ g (mS A 2 (upd (A 2) 6 (A 2 5))) xs i (by omega), Nat.le_refl _, ?_⟩
        have eq : (mS A 2 (upd (A 2) 6 (A 2 5))) 2 (16 + 9 * i) = A 2 (16 + 9 * i) := by
          rw [mS_eq]
          exact upd_ne (by omega)
        rw [eq]
        have := ih (i + 1) (by omega)
        rw [nI_succ, show bx_sum (fun i => if A 2 (16 + 9 * i) = 5 then (1 : Int32) else 0) (i + 1) = bx_sum (fun i => if A 2 (16 + 9 * i) = 5 then 1 else 0) i + (if A 2 (16 + 9 * i) = 5 then 1 else 0) from rfl] at this
        refine ⟨fun (c : ¬ A 2 (16 + 9 * i) = 5) => ?_, fun (c : A 2 (16 + 9 * i) = 5) => ?_⟩
        · rw [if_neg c] at this
          exact this
        · rw [if_pos c] at this
          exact this
    refine ab_run [17] 100 oX5_oil.1 (Nat.le_refl _) 0 ?_
    refine ⟨vp_d rfl, vp_d rfl, ?_⟩
    exact loop m 0 (by omega)
  · obtain ⟨h1, h2, h3, h4, h5, h6, h7⟩ := h
    exact ⟨h1, h2, h3, h4, WF_oil h5, BR_oil h6, h7⟩
end
section
theorem t255 : ∀ j, j < 32 → (255#32).getLsbD j = decide (j < 8) := by decide +kernel
theorem t255l : ∀ j, j < 64 → (255#64).getLsbD j = decide (j < 8) := by decide +kernel
theorem by_bv (b : BitVec 64) (n : Nat) (hn : n ≤ 56) : (b >>> n).signExtend 32 &&& 255#32 = ((b.sshiftRight n) &&& 255#64).signExtend 32 := by
  refine BitVec.eq_of_getLsbD_eq (fun j hj => ?_)
  rw [BitVec.getLsbD_and, BitVec.getLsbD_signExtend, BitVec.getLsbD_signExtend, BitVec.getLsbD_and, BitVec.getLsbD_sshiftRight, BitVec.getLsbD_ushiftRight, t255 j hj, t255l j (by omega)]
  rw [if_pos (show j < 64 by omega), if_pos (show j < 64 by omega)]
  by_cases q : j < 8
  · rw [if_pos (show n + j < 64 by omega), decide_eq_true q, decide_eq_true hj, decide_eq_false (show ¬ 64 ≤ j by omega)]
    rfl
  · rw [decide_eq_false q, Bool.and_false, Bool.and_false, Bool.and_false]
theorem sh_u : ∀ i, i < 8 → (((8 * nI i).toInt64.toUInt64 &&& Int64.toUInt64 63).toBitVec % 64).toNat = 8 * i := by decide +kernel
theorem sh_s : ∀ i, i < 8 → (((8 * nI i).toInt64 &&& 63).toBitVec.smod 64).toNat = 8 * i := by decide +kernel
theorem by_eq (b : Int64) (i : Nat) (hi : i < 8) : ((b.toUInt64 >>> ((8 * nI i).toInt64.toUInt64 &&& Int64.toUInt64 63)).toInt64).toInt32 &&& 255 = ((b >>> ((8 * nI i).toInt64 &&& 63)) &&& 255).toInt32 := by
  refine Int32.toBitVec_inj.mp ?_
  rw [Int32.toBitVec_and, Int64.toBitVec_toInt32, Int64.toBitVec_toInt32, Int64.toBitVec_and, Int64.toBitVec_shiftRight]
  show BitVec.signExtend 32 (b.toUInt64 >>> ((8 * nI i).toInt64.toUInt64 &&& Int64.toUInt64 63)).toBitVec &&& 255#32 = _
  rw [UInt64.toBitVec_shiftRight, BitVec.ushiftRight_eq', BitVec.sshiftRight_eq', sh_u i hi, sh_s i hi]
  exact by_bv b.toBitVec (8 * i) (by omega)
theorem t_add (d : Nat) (mb : Nat → AB) (x a : mA) (f : mF) {n : Nat} (hn : n < 64) (en : x 14 1 = nI n) (v : Int32) : ab_Ex (d + 1) 0 yX3_add [vR 14 0, vI v] (hX mb x a f) none (hX mb (mS x 14 (upd (x 14) 1 (x 14 1 + 1))) (mS a 15 (upd (a 15) n v)) f) := by
  refine ab_meth oX3_add d _ _ _ _ (Nat.le_refl _) rfl (fun E => ?_)
  refine ab_run [] 100 oX3_add.1 (Nat.le_refl _) 0 ?_
  have hl : x 14 1 < 64 := by rw [en]; exact ld_lt n 64 hn (by decide)
  have hv : vp_in (x 14 1) 64 := by rw [en]; exact vp_in_nI hn (by omega)
  have hc : n = (x 14 1).toNatClampNeg := by rw [en, nI_clamp (by omega)]
  rw [hc]
  refine ⟨fun (c : 64 ≤ x 14 1) => absurd hl (le_nlt c), fun c => ?_⟩
  refine ⟨hv, ?_⟩
  exact ⟨rfl, rfl⟩
def fdA (s : Nat → Int32) (n : Nat) (B : Nat → Int32) : Nat → Nat → Int32
  | 0 => s
  | i + 1 => upd (fdA s n B i) (n + i) (B i)
theorem fdA_at (s : Nat → Int32) (n : Nat) (B : Nat → Int32) : ∀ i j, fdA s n B i j = if n ≤ j ∧ j < n + i then B (j - n) else s j := by
  intro i
  induction i with
  | zero => intro j; rw [if_neg (by omega)]; rfl
  | succ i ih =>
    intro j
    show upd (fdA s n B i) (n + i) (B i) j = _
    by_cases q : j = n + i
    · subst q
      rw [upd_at, if_pos (by omega), show n + i - n = i by omega]
    · rw [upd_ne q, ih j]
      by_cases q2 : n ≤ j ∧ j < n + i
      · rw [if_pos q2, if_pos (by omega)]
      · rw [if_neg q2, if_neg (by omega)]
end
section
def fdB (b : Int64) (i : Nat) : Int32 := ((b.toUInt64 >>> ((8 * nI i).toInt64.toUInt64 &&& Int64.toUInt64 63)).toInt64).toInt32 &&& 255
theorem x_feed (g : mG) (A x a : mA) (f : mF) {n k : Nat} (b : Int64) (hk : 1 ≤ k) (hk8 : k ≤ 8) (hn : n + k ≤ 64) (en : x 14 1 = nI n) : ab_Ex 40 0 yX4_feed [vR 13 0, vI (nI k), vL b] (hX (mbl g A) x a f) (some (vI (nI (n + k)))) (hX (mbl g A) (mS x 14 (upd (x 14) 1 (nI (n + k)))) (mS a 15 (fdA (a 15) n (fdB b) k)) f) := by
  refine ab_meth oX4_feed 39 _ _ _ _ (Nat.le_refl _) rfl (fun E => ?_)
  have loop : ∀ (r i : Nat), i + r = k → ab_W jX4_feed 39 E (hX (mbl g A) x a f) 70 (fun v1 h1 => v1 = some (vI (nI (n + k))) ∧ h1 = hX (mbl g A) (mS x 14 (upd (x 14) 1 (nI (n + k)))) (mS a 15 (fdA (a 15) n (fdB b) k)) f) (ab_at iX4_feed 42) [(4, vI (nI i)), (0, vR 13 0), (1, vI (nI k)), (2, vL b)] [] (hX (mbl g A) (mS x 14 (upd (x 14) 1 (nI (n + i)))) (mS a 15 (fdA (a 15) n (fdB b) i)) f) := by
    intro r
    induction r with
    | zero =>
      intro i hi
      refine ab_run [42] 100 oX4_feed.1 (Nat.le_refl _) 42 ?_
      refine ⟨fun c1 => ?_, fun c1 => absurd (nI_le (by omega) (by omega)) c1⟩
      rw [show i = k by omega]
      exact ⟨rfl, rfl⟩
    | succ r ih =>
      intro i hi
      refine ab_run [42] 100 oX4_feed.1 (Nat.le_refl _) 42 ?_
      refine ⟨fun c1 => absurd c1 (nI_lt_m (by omega) (by omega)), fun c1 => ?_⟩
      refine ⟨_, _, t_add _ _ _ _ f (n := n + i) (by omega) rfl _, Nat.le_refl _, ?_⟩
      have := ih (i + 1) (by omega)
      rw [show n + (i + 1) = n + i + 1 from rfl, nI_succ (n + i), nI_succ i] at this
      exact this
  refine ab_run [42] 100 oX4_feed.1 (Nat.le_refl _) 0 ?_
  have k1 : ¬ 8 < nI k := le_nlt (show nI k ≤ nI 8 from nI_le (by omega) (by omega))
  refine ⟨fun c => ?_, fun c => absurd (show nI 1 ≤ nI k from nI_le (by omega) (by omega)) c⟩
  refine ⟨fun c => absurd c k1, fun c => ?_⟩
  refine ⟨fun c => ?_, fun (c : ¬ x 14 1 + nI k ≤ 64) => absurd (by rw [en, nI_add]; exact (show nI (n + k) ≤ nI 64 from nI_le (by omega) (by omega))) c⟩
  have := loop k 0 (by omega)
  rw [show nI (n + 0) = x 14 1 from en.symm] at this
  exact this
end
section
theorem m_feed (g : mG) (A : mA) (xs : List AB) {n k : Nat} (b : Int64) (hk : 1 ≤ k) (hk8 : k ≤ 8) (hn : n + k ≤ 64) (en : g 7 = nI n) : ab_Ex 40 0 yX5_feed [vR 0 0, vI (nI k), vL b] (hM g A xs) (some (vI (nI (n + k)))) (hM (upd g 7 (nI (n + k))) (mS A 5 (fdA (A 5) n (fdB b) k)) xs) := by
  refine ab_meth oX5_feed 39 _ _ _ _ (Nat.le_refl _) rfl (fun E => ?_)
  have loop : ∀ (r i : Nat), i + r = k → ab_W jX5_feed 39 E (hM g A xs) 70 (fun v1 h1 => v1 = some (vI (nI (n + k))) ∧ h1 = hM (upd g 7 (nI (n + k))) (mS A 5 (fdA (A 5) n (fdB b) k)) xs) (ab_at iX5_feed 39) [(4, vI (nI i)), (0, vR 0 0), (1, vI (nI k)), (2, vL b)] [] (hM (upd g 7 (nI (n + i))) (mS A 5 (fdA (A 5) n (fdB b) i)) xs) := by
    intro r
    induction r with
    | zero =>
      intro i hi
      refine ab_run [39] 100 oX5_feed.1 (Nat.le_refl _) 39 ?_
      refine ⟨fun c1 => ?_, fun c1 => absurd (nI_le (by omega) (by omega)) c1⟩
      rw [show i = k by omega]
      exact ⟨rfl, rfl⟩
    | succ r ih =>
      intro i hi
      refine ab_run [39] 100 oX5_feed.1 (Nat.le_refl _) 39 ?_
      refine ⟨fun c1 => absurd c1 (nI_lt_m (by omega) (by omega)), fun c1 => ?_⟩
      refine ⟨(vp_in_nI (by omega) (by omega) : vp_in (nI (n + i)) 64), ?_⟩
      have := ih (i + 1) (by omega)
      rw [show fdA (A 5) n (fdB b) (i + 1) = upd (fdA (A 5) n (fdB b) i) (nI (n + i)).toNatClampNeg (((b >>> ((8 * nI i).toInt64 &&& 63)) &&& 255).toInt32) by rw [← by_eq b i (by omega), nI_clamp (by omega)]; rfl] at this
      rw [show n + (i + 1) = n + i + 1 from rfl, nI_succ (n + i), nI_succ i] at this
      exact this
  refine ab_run [39] 100 oX5_feed.1 (Nat.le_refl _) 0 ?_
  have k1 : ¬ 8 < nI k := le_nlt (show nI k ≤ nI 8 from nI_le (by omega) (by omega))
  refine ⟨fun c => ?_, fun c => absurd (show nI 1 ≤ nI k from nI_le (by omega) (by omega)) c⟩
  refine ⟨fun c => absurd c k1, fun c => ?_⟩
  refine ⟨fun c => ?_, fun (c : ¬ g 7 + nI k ≤ 64) => absurd (by rw [en, nI_add]; exact (show nI (n + k) ≤ nI 64 from nI_le (by omega) (by omega))) c⟩
  have := loop k 0 (by omega)
  rw [show nI (n + 0) = g 7 from en.symm] at this
  exact this
end
section
theorem p_feed : P_feed IV 40 := by
  intro p1 p2 g A x a f h
  obtain ⟨n, hn, en, exn, hr⟩ := h.2.1
  have z1 : (1 : Int32).toInt = 1 := rfl
  have z8 : (8 : Int32).toInt = 8 := rfl
  have z64 : (64 : Int32).toInt = 64 := rfl
  by_cases c1 : p1 < 1
  · refine pr_rf h rc4 ?_ (fun xs => ?_)
    · refine ab_meth oX4_feed 39 _ _ _ _ (Nat.le_refl _) rfl (fun E => ?_)
      refine ab_run [42] 50 oX4_feed.1 (Nat.le_refl _) 0 ?_
      refine ⟨fun c => absurd c1 (le_nlt c), fun c => ?_⟩
      exact ⟨_, _, x_rf _ _ x a f rc4, Nat.le_refl _, rfl, rfl⟩
    · refine ab_meth oX5_feed 39 _ _ _ _ (Nat.le_refl _) rfl (fun E => ?_)
      refine ab_run [39] 50 oX5_feed.1 (Nat.le_refl _) 0 ?_
      refine ⟨fun c => absurd c1 (le_nlt c), fun c => ?_⟩
      exact ⟨_, _, m_rf _ g A xs rc4, Nat.le_refl _, rfl, rfl⟩
  by_cases c2 : 8 < p1
  · refine pr_rf h rc6 ?_ (fun xs => ?_)
    · refine ab_meth oX4_feed 39 _ _ _ _ (Nat.le_refl _) rfl (fun E => ?_)
      refine ab_run [42] 50 oX4_feed.1 (Nat.le_refl _) 0 ?_
      refine ⟨fun c => ⟨fun c => ?_, fun c => absurd c2 c⟩, fun c => absurd (nlt_le c1) c⟩
      exact ⟨_, _, x_rf _ _ x a f rc6, Nat.le_refl _, rfl, rfl⟩
    · refine ab_meth oX5_feed 39 _ _ _ _ (Nat.le_refl _) rfl (fun E => ?_)
      refine ab_run [39] 50 oX5_feed.1 (Nat.le_refl _) 0 ?_
      refine ⟨fun c => ⟨fun c => ?_, fun c => absurd c2 c⟩, fun c => absurd (nlt_le c1) c⟩
      exact ⟨_, _, m_rf _ g A xs rc6, Nat.le_refl _, rfl, rfl⟩
  have q1 := Int32.le_iff_toInt_le.mp (nlt_le c1)
  have q2 := Int32.le_iff_toInt_le.mp (nlt_le c2)
  have cl := ti_clamp (x := p1) (by omega)
  obtain ⟨k, hk1, hk8, rfl⟩ : ∃ k : Nat, 1 ≤ k ∧ k ≤ 8 ∧ p1 = nI k := ⟨p1.toNatClampNeg, by omega, by omega, ti_nat (by omega)⟩
  by_cases c3 : n + k ≤ 64
  · refine pr_w (x_feed g A x a f p2 hk1 hk8 c3 exn) (fun xs => m_feed g A xs p2 hk1 hk8 c3 en) ?_
    obtain ⟨h1, h2, h3, h4, h5, h6, h7⟩ := h
    refine ⟨h1, ⟨n + k, c3, rfl, rfl, ?_⟩, h3, h4, h5, h6, h7⟩
    intro j hj
    rw [mS_eq, mS_eq, fdA_at, fdA_at]
    by_cases q : n ≤ j ∧ j < n + k
    · rw [if_pos q, if_pos q]
    · rw [if_neg q, if_neg q, hr j (by omega)]
  · have nn : ¬ nI (n + k) ≤ nI 64 := nI_ge (by omega) (by omega)
    refine pr_rf h rc6 ?_ (fun xs => ?_)
    · refine ab_meth oX4_feed 39 _ _ _ _ (Nat.le_refl _) rfl (fun E => ?_)
      refine ab_run [42] 50 oX4_feed.1 (Nat.le_refl _) 0 ?_
      refine ⟨fun c => ⟨fun c => absurd c c2, fun c => ?_⟩, fun c => absurd (nlt_le c1) c⟩
      refine ⟨fun (c : x 14 1 + nI k ≤ 64) => absurd (by rw [exn, nI_add] at c; exact c) nn, fun c => ?_⟩
      exact ⟨_, _, x_rf _ _ x a f rc6, Nat.le_refl _, rfl, rfl⟩
    · refine ab_meth oX5_feed 39 _ _ _ _ (Nat.le_refl _) rfl (fun E => ?_)
      refine ab_run [39] 50 oX5_feed.1 (Nat.le_refl _) 0 ?_
      refine ⟨fun c => ⟨fun c => absurd c c2, fun c => ?_⟩, fun c => absurd (nlt_le c1) c⟩
      refine ⟨fun (c : g 7 + nI k ≤ 64) => absurd (by rw [en, nI_add] at c; exact c) nn, fun c => ?_⟩
      exact ⟨_, _, m_rf _ g A xs rc6, Nat.le_refl _, rfl, rfl⟩
end
section
def fC (f : mF) (b c n : Nat) : mF := fun q => if q = b then (fun j => if j < n then f c j else f b j) else f q
theorem fC_0 (f : mF) (b c : Nat) : fC f b c 0 = f := by
  funext q j
  unfold fC
  by_cases hq : q = b
  · rw [if_pos hq, hq]
    rfl
  · rw [if_neg hq]
theorem fC_c {f : mF} {b c n i : Nat} (h : c ≠ b) : fC f b c n c i = f c i := by
  unfold fC
  rw [if_neg h]
theorem fC_s (f : mF) (b c n : Nat) : fS (fC f b c n) b n (f c n) = fC f b c (n + 1) := by
  funext q j
  unfold fS fC
  by_cases hq : q = b
  · rw [if_pos hq, if_pos hq]
    by_cases hj : j = n
    · rw [if_pos hj, if_pos (by omega), hj]
    · rw [if_neg hj, if_pos rfl]
      by_cases hl : j < n
      · rw [if_pos hl, if_pos (by omega)]
      · rw [if_neg hl, if_neg (by omega)]
  · rw [if_neg hq, if_neg hq, if_neg hq]
def aC (a : mA) (b c : Nat) : mA := mS (mS (mS (mS (mS a (b + 1) (va_cpy (a (c + 1)) (a (b + 1)) 0 0 5)) (b + 4) (va_cpy (a (c + 4)) (a (b + 4)) 0 0 4)) (b + 5) (va_cpy (a (c + 5)) (a (b + 5)) 0 0 8)) (b + 6) (va_cpy (a (c + 6)) (a (b + 6)) 0 0 8)) (b + 7) (va_cpy (a (c + 7)) (a (b + 7)) 0 0 8)
theorem cp4 : ¬ (0 : Int32) < 0 ∧ ¬ (0 : Int32) < 0 ∧ ¬ (4 : Int32) < 0 ∧ (0 : Int32).toNatClampNeg + (4 : Int32).toNatClampNeg ≤ 4 ∧ (0 : Int32).toNatClampNeg + (4 : Int32).toNatClampNeg ≤ 4 := by decide
theorem cp5 : ¬ (0 : Int32) < 0 ∧ ¬ (0 : Int32) < 0 ∧ ¬ (5 : Int32) < 0 ∧ (0 : Int32).toNatClampNeg + (5 : Int32).toNatClampNeg ≤ 5 ∧ (0 : Int32).toNatClampNeg + (5 : Int32).toNatClampNeg ≤ 5 := by decide
theorem cp8 : ¬ (0 : Int32) < 0 ∧ ¬ (0 : Int32) < 0 ∧ ¬ (8 : Int32) < 0 ∧ (0 : Int32).toNatClampNeg + (8 : Int32).toNatClampNeg ≤ 8 ∧ (0 : Int32).toNatClampNeg + (8 : Int32).toNatClampNeg ≤ 8 := by decide
theorem hX_ok28 (mb : Nat → AB) (x a : mA) (f : mF) {i : Nat} (hi : i < 8) : ab_ok (hX mb x a f) 28 i := ⟨by decide, hi, by show 22 + i < 70; omega⟩
theorem hX_set28 (mb : Nat → AB) (x a : mA) (f : mF) (i : Nat) (w : Nat → Int32) : ab_set (hX mb x a f) 28 i (xFt w) = hX mb x a (fS f 28 i w) := by
  have e : (fun j => if j = i then xFt w else xFt (f 28 j)) = fun o => xFt (fS f 28 i w 28 o) := by
    funext q
    by_cases hq : q = i
    · simp [fS, hq]
    · simp [fS, hq]
  show (70, (hX mb x a f).2.set 28 (fun j => if j = i then xFt w else xFt (f 28 j))) = _
  rw [e]
  rfl
theorem hX_ok36 (mb : Nat → AB) (x a : mA) (f : mF) {i : Nat} (hi : i < 8) : ab_ok (hX mb x a f) 36 i := ⟨by decide, hi, by show 37 + i < 70; omega⟩
theorem hX_set36 (mb : Nat → AB) (x a : mA) (f : mF) (i : Nat) (w : Nat → Int32) : ab_set (hX mb x a f) 36 i (xFt w) = hX mb x a (fS f 36 i w) := by
  have e : (fun j => if j = i then xFt w else xFt (f 36 j)) = fun o => xFt (fS f 36 i w 36 o) := by
    funext q
    by_cases hq : q = i
    · simp [fS, hq]
    · simp [fS, hq]
  show (70, (hX mb x a f).2.set 36 (fun j => if j = i then xFt w else xFt (f 36 j))) = _
  rw [e]
  rfl
theorem b_copy33_17 (d : Nat) (mb : Nat → AB) (x a : mA) (f : mF) : ab_Ex (d + 2) 0 yX0_copyFrom [vR 33 0, vR 17 0] (hX mb x a f) none (hX mb (mS x 33 (x 17)) (aC a 33 17) (fC f 36 20 8)) := by
  refine ab_meth oX0_copyFrom (d + 1) _ _ _ _ (Nat.le_refl _) rfl (fun E => ?_)
  have loop : ∀ (r i : Nat), i + r = 8 → ab_W jX0_copyFrom (d + 1) E (hX mb x a f) 70 (fun v1 h1 => v1 = none ∧ h1 = hX mb (mS x 33 (x 17)) (aC a 33 17) (fC f 36 20 8)) (ab_at iX0_copyFrom 40) [(2, vI (nI i)), (0, vR 33 0), (1, vR 17 0)] [] (hX mb (mS x 33 (upd (upd (upd (x 33) 0 (x 17 0)) 1 (x 17 1)) 3 (x 17 3))) (mS a 34 (va_cpy (a 18) (a 34) 0 0 5)) (fC f 36 20 i)) := by
    intro r
    induction r with
    | zero =>
      intro i hi
      refine ab_run [40] 200 oX0_copyFrom.1 (Nat.le_refl _) 40 ?_
      refine ⟨fun c1 => ?_, fun c1 => absurd (show nI 8 ≤ nI i from nI_le (by omega) (by omega)) c1⟩
      rw [show i = 8 by omega]
      refine ⟨cp4, ?_⟩
      refine ⟨cp8, ?_⟩
      refine ⟨cp8, ?_⟩
      refine ⟨cp8, ?_⟩
      exact ⟨rfl, rfl⟩
    | succ r ih =>
      intro i hi
      refine ab_run [40] 200 oX0_copyFrom.1 (Nat.le_refl _) 40 ?_
      refine ⟨fun c1 => absurd c1 (nI_lt_m (m := 8) (by omega) (by omega)), fun c1 => ?_⟩
      refine ⟨vp_in_nI (by omega) (by omega), ⟨(36, i), by rw [nI_clamp (by omega)]; exact ab_fa_at 36 (by omega), ?_⟩⟩
      refine ⟨vp_in_nI (by omega) (by omega), ⟨(20, i), by rw [nI_clamp (by omega)]; exact ab_fa_at 20 (by omega), ?_⟩⟩
      have hc := f_copyFrom d (h := hX mb (mS x 33 (upd (upd (upd (x 33) 0 (x 17 0)) 1 (x 17 1)) 3 (x 17 3))) (mS a 34 (va_cpy (a 18) (a 34) 0 0 5)) (fC f 36 20 i)) (b := 36) (o := i) (b2 := 20) (o2 := i) (v := fC f 36 20 i 36 i) (v2 := f 20 i) (Nat.le_refl _) rfl (hX_ok36 _ _ _ _ (by omega)) rfl (hX_ok20 _ _ _ _ (by omega)) (show xFt (fC f 36 20 i 20 i) = _ by rw [fC_c (by decide)]) (by omega)
      rw [hX_set36, fC_s] at hc
      refine ⟨(⟨by omega, by omega⟩ : i < 8 ∧ 37 + i < 70), ?_⟩
      refine ⟨_, _, hc, Nat.le_refl _, ?_⟩
      have := ih (i + 1) (by omega)
      rw [nI_succ] at this
      exact this
  refine ab_run [40] 100 oX0_copyFrom.1 (Nat.le_refl _) 0 ?_
  refine ⟨cp5, ?_⟩
  have := loop 8 0 (by omega)
  rw [fC_0] at this
  exact this
theorem b_copy17_33 (d : Nat) (mb : Nat → AB) (x a : mA) (f : mF) : ab_Ex (d + 2) 0 yX0_copyFrom [vR 17 0, vR 33 0] (hX mb x a f) none (hX mb (mS x 17 (x 33)) (aC a 17 33) (fC f 20 36 8)) := by
  refine ab_meth oX0_copyFrom (d + 1) _ _ _ _ (Nat.le_refl _) rfl (fun E => ?_)
  have loop : ∀ (r i : Nat), i + r = 8 → ab_W jX0_copyFrom (d + 1) E (hX mb x a f) 70 (fun v1 h1 => v1 = none ∧ h1 = hX mb (mS x 17 (x 33)) (aC a 17 33) (fC f 20 36 8)) (ab_at iX0_copyFrom 40) [(2, vI (nI i)), (0, vR 17 0), (1, vR 33 0)] [] (hX mb (mS x 17 (upd (upd (upd (x 17) 0 (x 33 0)) 1 (x 33 1)) 3 (x 33 3))) (mS a 18 (va_cpy (a 34) (a 18) 0 0 5)) (fC f 20 36 i)) := by
    intro r
    induction r with
    | zero =>
      intro i hi
      refine ab_run [40] 200 oX0_copyFrom.1 (Nat.le_refl _) 40 ?_
      refine ⟨fun c1 => ?_, fun c1 => absurd (show nI 8 ≤ nI i from nI_le (by omega) (by omega)) c1⟩
      rw [show i = 8 by omega]
      refine ⟨cp4, ?_⟩
      refine ⟨cp8, ?_⟩
      refine ⟨cp8, ?_⟩
      refine ⟨cp8, ?_⟩
      exact ⟨rfl, rfl⟩
    | succ r ih =>
      intro i hi
      refine ab_run [40] 200 oX0_copyFrom.1 (Nat.le_refl _) 40 ?_
      refine ⟨fun c1 => absurd c1 (nI_lt_m (m := 8) (by omega) (by omega)), fun c1 => ?_⟩
      refine ⟨vp_in_nI (by omega) (by omega), ⟨(20, i), by rw [nI_clamp (by omega)]; exact ab_fa_at 20 (by omega), ?_⟩⟩
      refine ⟨vp_in_nI (by omega) (by omega), ⟨(36, i), by rw [nI_clamp (by omega)]; exact ab_fa_at 36 (by omega), ?_⟩⟩
      have hc := f_copyFrom d (h := hX mb (mS x 17 (upd (upd (upd (x 17) 0 (x 33 0)) 1 (x 33 1)) 3 (x 33 3))) (mS a 18 (va_cpy (a 34) (a 18) 0 0 5)) (fC f 20 36 i)) (b := 20) (o := i) (b2 := 36) (o2 := i) (v := fC f 20 36 i 20 i) (v2 := f 36 i) (Nat.le_refl _) rfl (hX_ok20 _ _ _ _ (by omega)) rfl (hX_ok36 _ _ _ _ (by omega)) (show xFt (fC f 20 36 i 36 i) = _ by rw [fC_c (by decide)]) (by omega)
      rw [hX_set20, fC_s] at hc
      refine ⟨(⟨by omega, by omega⟩ : i < 8 ∧ 7 + i < 70), ?_⟩
      refine ⟨_, _, hc, Nat.le_refl _, ?_⟩
      have := ih (i + 1) (by omega)
      rw [nI_succ] at this
      exact this
  refine ab_run [40] 100 oX0_copyFrom.1 (Nat.le_refl _) 0 ?_
  refine ⟨cp5, ?_⟩
  have := loop 8 0 (by omega)
  rw [fC_0] at this
  exact this
theorem b_copy25_17 (d : Nat) (mb : Nat → AB) (x a : mA) (f : mF) : ab_Ex (d + 2) 0 yX0_copyFrom [vR 25 0, vR 17 0] (hX mb x a f) none (hX mb (mS x 25 (x 17)) (aC a 25 17) (fC f 28 20 8)) := by
  refine ab_meth oX0_copyFrom (d + 1) _ _ _ _ (Nat.le_refl _) rfl (fun E => ?_)
  have loop : ∀ (r i : Nat), i + r = 8 → ab_W jX0_copyFrom (d + 1) E (hX mb x a f) 70 (fun v1 h1 => v1 = none ∧ h1 = hX mb (mS x 25 (x 17)) (aC a 25 17) (fC f 28 20 8)) (ab_at iX0_copyFrom 40) [(2, vI (nI i)), (0, vR 25 0), (1, vR 17 0)] [] (hX mb (mS x 25 (upd (upd (upd (x 25) 0 (x 17 0)) 1 (x 17 1)) 3 (x 17 3))) (mS a 26 (va_cpy (a 18) (a 26) 0 0 5)) (fC f 28 20 i)) := by
    intro r
    induction r with
    | zero =>
      intro i hi
      refine ab_run [40] 200 oX0_copyFrom.1 (Nat.le_refl _) 40 ?_
      refine ⟨fun c1 => ?_, fun c1 => absurd (show nI 8 ≤ nI i from nI_le (by omega) (by omega)) c1⟩
      rw [show i = 8 by omega]
      refine ⟨cp4, ?_⟩
      refine ⟨cp8, ?_⟩
      refine ⟨cp8, ?_⟩
      refine ⟨cp8, ?_⟩
      exact ⟨rfl, rfl⟩
    | succ r ih =>
      intro i hi
      refine ab_run [40] 200 oX0_copyFrom.1 (Nat.le_refl _) 40 ?_
      refine ⟨fun c1 => absurd c1 (nI_lt_m (m := 8) (by omega) (by omega)), fun c1 => ?_⟩
      refine ⟨vp_in_nI (by omega) (by omega), ⟨(28, i), by rw [nI_clamp (by omega)]; exact ab_fa_at 28 (by omega), ?_⟩⟩
      refine ⟨vp_in_nI (by omega) (by omega), ⟨(20, i), by rw [nI_clamp (by omega)]; exact ab_fa_at 20 (by omega), ?_⟩⟩
      have hc := f_copyFrom d (h := hX mb (mS x 25 (upd (upd (upd (x 25) 0 (x 17 0)) 1 (x 17 1)) 3 (x 17 3))) (mS a 26 (va_cpy (a 18) (a 26) 0 0 5)) (fC f 28 20 i)) (b := 28) (o := i) (b2 := 20) (o2 := i) (v := fC f 28 20 i 28 i) (v2 := f 20 i) (Nat.le_refl _) rfl (hX_ok28 _ _ _ _ (by omega)) rfl (hX_ok20 _ _ _ _ (by omega)) (show xFt (fC f 28 20 i 20 i) = _ by rw [fC_c (by decide)]) (by omega)
      rw [hX_set28, fC_s] at hc
      refine ⟨(⟨by omega, by omega⟩ : i < 8 ∧ 22 + i < 70), ?_⟩
      refine ⟨_, _, hc, Nat.le_refl _, ?_⟩
      have := ih (i + 1) (by omega)
      rw [nI_succ] at this
      exact this
  refine ab_run [40] 100 oX0_copyFrom.1 (Nat.le_refl _) 0 ?_
  refine ⟨cp5, ?_⟩
  have := loop 8 0 (by omega)
  rw [fC_0] at this
  exact this
theorem b_copy17_25 (d : Nat) (mb : Nat → AB) (x a : mA) (f : mF) : ab_Ex (d + 2) 0 yX0_copyFrom [vR 17 0, vR 25 0] (hX mb x a f) none (hX mb (mS x 17 (x 25)) (aC a 17 25) (fC f 20 28 8)) := by
  refine ab_meth oX0_copyFrom (d + 1) _ _ _ _ (Nat.le_refl _) rfl (fun E => ?_)
  have loop : ∀ (r i : Nat), i + r = 8 → ab_W jX0_copyFrom (d + 1) E (hX mb x a f) 70 (fun v1 h1 => v1 = none ∧ h1 = hX mb (mS x 17 (x 25)) (aC a 17 25) (fC f 20 28 8)) (ab_at iX0_copyFrom 40) [(2, vI (nI i)), (0, vR 17 0), (1, vR 25 0)] [] (hX mb (mS x 17 (upd (upd (upd (x 17) 0 (x 25 0)) 1 (x 25 1)) 3 (x 25 3))) (mS a 18 (va_cpy (a 26) (a 18) 0 0 5)) (fC f 20 28 i)) := by
    intro r
    induction r with
    | zero =>
      intro i hi
      refine ab_run [40] 200 oX0_copyFrom.1 (Nat.le_refl _) 40 ?_
      refine ⟨fun c1 => ?_, fun c1 => absurd (show nI 8 ≤ nI i from nI_le (by omega) (by omega)) c1⟩
      rw [show i = 8 by omega]
      refine ⟨cp4, ?_⟩
      refine ⟨cp8, ?_⟩
      refine ⟨cp8, ?_⟩
      refine ⟨cp8, ?_⟩
      exact ⟨rfl, rfl⟩
    | succ r ih =>
      intro i hi
      refine ab_run [40] 200 oX0_copyFrom.1 (Nat.le_refl _) 40 ?_
      refine ⟨fun c1 => absurd c1 (nI_lt_m (m := 8) (by omega) (by omega)), fun c1 => ?_⟩
      refine ⟨vp_in_nI (by omega) (by omega), ⟨(20, i), by rw [nI_clamp (by omega)]; exact ab_fa_at 20 (by omega), ?_⟩⟩
      refine ⟨vp_in_nI (by omega) (by omega), ⟨(28, i), by rw [nI_clamp (by omega)]; exact ab_fa_at 28 (by omega), ?_⟩⟩
      have hc := f_copyFrom d (h := hX mb (mS x 17 (upd (upd (upd (x 17) 0 (x 25 0)) 1 (x 25 1)) 3 (x 25 3))) (mS a 18 (va_cpy (a 26) (a 18) 0 0 5)) (fC f 20 28 i)) (b := 20) (o := i) (b2 := 28) (o2 := i) (v := fC f 20 28 i 20 i) (v2 := f 28 i) (Nat.le_refl _) rfl (hX_ok20 _ _ _ _ (by omega)) rfl (hX_ok28 _ _ _ _ (by omega)) (show xFt (fC f 20 28 i 28 i) = _ by rw [fC_c (by decide)]) (by omega)
      rw [hX_set20, fC_s] at hc
      refine ⟨(⟨by omega, by omega⟩ : i < 8 ∧ 7 + i < 70), ?_⟩
      refine ⟨_, _, hc, Nat.le_refl _, ?_⟩
      have := ih (i + 1) (by omega)
      rw [nI_succ] at this
      exact this
  refine ab_run [40] 100 oX0_copyFrom.1 (Nat.le_refl _) 0 ?_
  refine ⟨cp5, ?_⟩
  have := loop 8 0 (by omega)
  rw [fC_0] at this
  exact this
end
section
theorem WF_congr {s t : Nat → Int32} (e : ∀ k, k < 112 → t k = s k) (h : WF s) : WF t := by
  obtain ⟨⟨w0, w1, w2, w3, w4, w5, w6⟩, w7, w8, w9, w10⟩ := h
  refine ⟨?_, ?_, ?_, ?_, ?_⟩
  · rw [e 0 (by omega), e 1 (by omega), e 2 (by omega), e 3 (by omega), e 4 (by omega), e 5 (by omega), e 6 (by omega)]
    exact ⟨w0, w1, w2, w3, w4, w5, w6⟩
  · rw [e 7 (by omega), e 8 (by omega), e 9 (by omega), e 10 (by omega)]
    exact w7
  · intro j hj hj2
    rw [e 2 (by omega)] at hj2
    rw [e _ (by omega)]
    exact w8 j hj hj2
  · intro j hj hj2
    rw [e 3 (by omega)] at hj2
    have := w9 j hj hj2
    unfold WFf at this ⊢
    rw [e _ (by omega), e _ (by omega), e _ (by omega), e _ (by omega), e _ (by omega), e _ (by omega), e _ (by omega), e _ (by omega), e _ (by omega)]
    exact this
  · intro j hj hj2
    rw [e 4 (by omega)] at hj2
    rw [e 2 (by omega), e _ (by omega), e _ (by omega), e _ (by omega)]
    exact w10 j hj hj2
theorem BR_copy {s t : Nat → Int32} {x a x' a' : mA} {f f' : mF} {b c : Nat} (e : ∀ k, k < 112 → t k = s k) (hx : x' c = x b) (h1 : ∀ k, k < 5 → a' (c + 1) k = a (b + 1) k) (h4 : ∀ k, k < 4 → a' (c + 4) k = a (b + 4) k) (h5 : ∀ k, k < 8 → a' (c + 5) k = a (b + 5) k) (h6 : ∀ k, k < 8 → a' (c + 6) k = a (b + 6) k) (h7 : ∀ k, k < 8 → a' (c + 7) k = a (b + 7) k) (hf : ∀ j, j < 8 → f' (c + 3) j = f (b + 3) j) (h : BR s x a f b) : BR t x' a' f' c := by
  obtain ⟨w6, w7, w8, w9, w10⟩ := h
  refine ⟨?_, ?_, ?_, ?_, ?_⟩
  · rw [e 0 (by omega), e 1 (by omega), e 2 (by omega), e 3 (by omega), e 4 (by omega), e 5 (by omega), e 6 (by omega), hx]
    exact w6
  · intro k hk
    rw [e _ (by omega), h4 k hk]
    exact w7 k hk
  · intro j hj hj2
    rw [e 2 (by omega)] at hj2
    rw [e _ (by omega), h1 j hj]
    exact w8 j hj hj2
  · intro j hj hj2 k hk
    rw [e 3 (by omega)] at hj2
    rw [e _ (by omega), hf j hj]
    exact w9 j hj hj2 k hk
  · intro j hj hj2
    rw [e 4 (by omega)] at hj2
    rw [e _ (by omega), e _ (by omega), e _ (by omega), h5 j hj, h6 j hj, h7 j hj]
    exact w10 j hj hj2
theorem cpy_lt {u v : Nat → Int32} {n k : Nat} (h : k < n) : va_cpy u v 0 0 n k = u k := by
  unfold va_cpy
  rw [if_pos ⟨Nat.zero_le _, by omega⟩]
  congr 1
  omega
theorem fC_lt {f : mF} {b c n j : Nat} (h : j < n) : fC f b c n b j = f c j := by
  unfold fC
  rw [if_pos rfl, if_pos h]
/-- the first i of u, the rest of v -/
def mcp (v u : Nat → Int32) (i : Nat) : Nat → Int32 := fun k => if k < i then u k else v k
theorem mcp_lt {v u : Nat → Int32} {i k : Nat} (h : k < i) : mcp v u i k = u k := if_pos h
theorem mcp_0 (v u : Nat → Int32) : mcp v u 0 = v := by
  funext k
  exact if_neg (Nat.not_lt_zero k)
theorem mcp_s (v u : Nat → Int32) (i : Nat) : upd (mcp v u i) i (u i) = mcp v u (i + 1) := by
  funext k
  by_cases q : k = i
  · rw [q, upd_at, mcp_lt (by omega)]
  · rw [upd_ne q]
    unfold mcp
    by_cases q2 : k < i
    · rw [if_pos q2, if_pos (by omega)]
    · rw [if_neg q2, if_neg (by omega)]
theorem mS_mS (A : mA) (k : Nat) (u v : Nat → Int32) : mS (mS A k u) k v = mS A k v := by
  funext j
  unfold mS
  by_cases q : j = k
  · rw [if_pos q, if_pos q]
  · rw [if_neg q, if_neg q, if_neg q]
theorem mS_id (A : mA) (k : Nat) : mS A k (A k) = A := by
  funext j
  unfold mS
  by_cases q : j = k
  · rw [if_pos q, q]
  · rw [if_neg q]
theorem p_image : P_image IV 40 := by
  intro g A x a f h
  have hb := h.2.2.2.2.2.1
  refine pr_w (r := A 2 3) (x' := mS (mS x 33 (x 17)) 13 (upd (x 13) 4 1)) (a' := aC a 33 17) (f' := fC f 36 20 8) (g' := upd g 4 1) (A' := mS A 3 (mcp (A 3) (A 2) 112)) (ex_r (r := x 17 5) ?_ hb.1.2.2.2.1.symm) (fun xs => ?_) ?_
  · refine ab_meth oX4_image 39 _ _ _ _ (Nat.le_refl _) rfl (fun E => ?_)
    refine ab_run [] 100 oX4_image.1 (Nat.le_refl _) 0 ?_
    refine ⟨_, _, b_copy33_17 37 _ x a f, Nat.le_refl _, ?_⟩
    exact ⟨Or.inr rfl, rfl, rfl⟩
  · refine ab_meth oX5_image 39 _ _ _ _ (Nat.le_refl _) rfl (fun E => ?_)
    have loop : ∀ (r i : Nat), i + r = 112 → ab_W jX5_image 39 E (hM g A xs) 70 (fun v1 h1 => v1 = some (vI (A 2 3)) ∧ h1 = hM (upd g 4 1) (mS A 3 (mcp (A 3) (A 2) 112)) xs) (ab_at iX5_image 2) [(1, vI (nI i)), (0, vR 0 0)] [] (hM g (mS A 3 (mcp (A 3) (A 2) i)) xs) := by
      intro r
      induction r with
      | zero =>
        intro i hi
        refine ab_run [2] 100 oX5_image.1 (Nat.le_refl _) 2 ?_
        refine ⟨fun c1 => ?_, fun c1 => absurd (show nI 112 ≤ nI i from nI_le (by omega) (by omega)) c1⟩
        rw [show i = 112 by omega]
        exact ⟨Or.inr rfl, vp_d rfl, rfl, rfl⟩
      | succ r ih =>
        intro i hi
        refine ab_run [2] 100 oX5_image.1 (Nat.le_refl _) 2 ?_
        refine ⟨fun c1 => absurd c1 (nI_lt_m (m := 112) (by omega) (by omega)), fun c1 => ?_⟩
        refine ⟨vp_in_nI (by omega) (by omega), vp_in_nI (by omega) (by omega), ?_⟩
        have := ih (i + 1) (by omega)
        rw [nI_succ, ← mcp_s (A 3) (A 2) i] at this
        rw [nI_clamp (by omega)]
        exact this

    refine ab_run [2] 100 oX5_image.1 (Nat.le_refl _) 0 ?_
    have := loop 112 0 (by omega)
    rw [mcp_0, mS_id] at this
    exact this
  · obtain ⟨h1, h2, h3, h4, h5, h6, h7⟩ := h
    have e : ∀ k, k < 112 → (mS A 3 (mcp (A 3) (A 2) 112)) 3 k = A 2 k := fun k hk => by rw [mS_eq, mcp_lt hk]
    refine ⟨h1, h2, h3, ⟨rfl, Or.inr rfl⟩, h5, BR_congr (by rfl) (by rfl) (by rfl) (by rfl) (by rfl) (by rfl) (by rfl) h6, fun _ => ⟨WF_congr e h5, ?_⟩⟩
    exact BR_copy (b := 17) (c := 33) e rfl (fun k hk => cpy_lt hk) (fun k hk => cpy_lt hk) (fun k hk => cpy_lt hk) (fun k hk => cpy_lt hk) (fun k hk => cpy_lt hk) (fun k hk => fC_lt hk) h6
theorem p_on : P_on IV 40 := by
  intro g A x a f h
  have hb := h.2.2.2.2.2.1
  have h4 := h.2.2.2.1
  by_cases c0 : g 4 = 0
  · have c0x : x 13 4 = 0 := by rw [← h4.1]; exact c0
    refine pr_rf h rc3 ?_ (fun xs => ?_)
    · refine ab_meth oX4_on 39 _ _ _ _ (Nat.le_refl _) rfl (fun E => ?_)
      refine ab_run [] 50 oX4_on.1 (Nat.le_refl _) 0 ?_
      refine ⟨fun c => absurd c0x c, fun c => ?_⟩
      exact ⟨_, _, x_rf _ _ x a f rc3, Nat.le_refl _, rfl, rfl⟩
    · refine ab_meth oX5_on 39 _ _ _ _ (Nat.le_refl _) rfl (fun E => ?_)
      refine ab_run [16] 50 oX5_on.1 (Nat.le_refl _) 0 ?_
      refine ⟨fun c => absurd c0 c, fun c => ?_⟩
      exact ⟨_, _, m_rf _ g A xs rc3, Nat.le_refl _, rfl, rfl⟩
  have c1 : g 4 = 1 := h4.2.resolve_left c0
  have c1x : ¬ x 13 4 = 0 := by rw [← h4.1]; exact c0
  obtain ⟨i1, i2⟩ := h.2.2.2.2.2.2 c1
  refine pr_w (r := A 3 3) (x' := mS x 17 (x 33)) (a' := aC a 17 33) (f' := fC f 20 36 8) (g' := g) (A' := mS A 2 (mcp (A 2) (A 3) 112)) (ex_r (r := x 33 5) ?_ i2.1.2.2.2.1.symm) (fun xs => ?_) ?_
  · refine ab_meth oX4_on 39 _ _ _ _ (Nat.le_refl _) rfl (fun E => ?_)
    refine ab_run [] 100 oX4_on.1 (Nat.le_refl _) 0 ?_
    refine ⟨fun c => ?_, fun c => absurd c c1x⟩
    refine ⟨_, _, b_copy17_33 37 _ x a f, Nat.le_refl _, ?_⟩
    exact ⟨rfl, rfl⟩
  · refine ab_meth oX5_on 39 _ _ _ _ (Nat.le_refl _) rfl (fun E => ?_)
    have loop : ∀ (r i : Nat), i + r = 112 → ab_W jX5_on 39 E (hM g A xs) 70 (fun v1 h1 => v1 = some (vI (A 3 3)) ∧ h1 = hM g (mS A 2 (mcp (A 2) (A 3) 112)) xs) (ab_at iX5_on 16) [(1, vI (nI i)), (0, vR 0 0)] [] (hM g (mS A 2 (mcp (A 2) (A 3) i)) xs) := by
      intro r
      induction r with
      | zero =>
        intro i hi
        refine ab_run [16] 100 oX5_on.1 (Nat.le_refl _) 16 ?_
        refine ⟨fun c1 => ?_, fun c1 => absurd (show nI 112 ≤ nI i from nI_le (by omega) (by omega)) c1⟩
        rw [show i = 112 by omega]
        exact ⟨vp_d rfl, rfl, rfl⟩
      | succ r ih =>
        intro i hi
        refine ab_run [16] 100 oX5_on.1 (Nat.le_refl _) 16 ?_
        refine ⟨fun c1 => absurd c1 (nI_lt_m (m := 112) (by omega) (by omega)), fun c1 => ?_⟩
        refine ⟨vp_in_nI (by omega) (by omega), vp_in_nI (by omega) (by omega), ?_⟩
        have := ih (i + 1) (by omega)
        rw [nI_succ, ← mcp_s (A 2) (A 3) i] at this
        rw [nI_clamp (by omega)]
        exact this

    refine ab_run [16] 100 oX5_on.1 (Nat.le_refl _) 0 ?_
    refine ⟨fun c => ?_, fun c => absurd c c0⟩
    have := loop 112 0 (by omega)
    rw [mcp_0, mS_id] at this
    exact this
  · obtain ⟨h1, h2, h3, h4, h5, h6, h7⟩ := h
    have e : ∀ k, k < 112 → (mS A 2 (mcp (A 2) (A 3) 112)) 2 k = A 3 k := fun k hk => by rw [mS_eq, mcp_lt hk]
    refine ⟨h1, h2, h3, h4, WF_congr e i1, ?_, fun q => ⟨(h7 q).1, BR_congr (by rfl) (by rfl) (by rfl) (by rfl) (by rfl) (by rfl) (by rfl) i2⟩⟩
    exact BR_copy (b := 33) (c := 17) e rfl (fun k hk => cpy_lt hk) (fun k hk => cpy_lt hk) (fun k hk => cpy_lt hk) (fun k hk => cpy_lt hk) (fun k hk => cpy_lt hk) (fun k hk => fC_lt hk) i2
end
section
theorem rX (x : mA) : mS (mS x 42 (x 42)) 41 (x 41) = x := by rw [mS_id, mS_id]
theorem stX_congr {x x' a a' : mA} (hx : x' 17 = x 17) (h18 : a' 18 = a 18) (h21 : a' 21 = a 21) : stX x' a' = stX x a := by
  funext act gear T q
  unfold stX
  rw [hx, h18, h21]
theorem rdN_congr {x x' a a' : mA} (hx : x' 17 = x 17) (h18 : a' 18 = a 18) (h21 : a' 21 = a 21) (h22 : a' 22 = a 22) (h23 : a' 23 = a 23) (h24 : a' 24 = a 24) (n : Nat) (q : rQ) : rdN x' a' n q = rdN x a n q := by
  induction n with
  | zero => rfl
  | succ n ih =>
    show stX x' a' (a' 22 n) (a' 23 n) (a' 24 n).toNatClampNeg (rdN x' a' n q) = stX x a (a 22 n) (a 23 n) (a 24 n).toNatClampNeg (rdN x a n q)
    rw [stX_congr hx h18 h21, h22, h23, h24, ih]
def bgQ (x : mA) (f : mF) (j : Nat) (wanted : Int32) (r : Nat → Int32) : rQ := (f 20 j, rB (upI (f 20 j 0) (f 20 j 5) (x 17 0)) (x 17 7) wanted r)
theorem RJ_begin {g : mG} {A x a : mA} {f : mF} (h : IV g A x a f) {m j : Nat} (em : A 2 3 = nI m) (hm : m ≤ 8) (hj : j < m) {G : mG} (h12 : G 12 = A 2 5) (h13 : G 13 = 0) (wanted : Int32) (r : Nat → Int32) : RJ G (bgN m A) j (bgQ x f j wanted r) := by
  have e2 : bgN m A 2 = A 2 := bgN_n m A (by decide) (by decide) (by decide)
  obtain ⟨b7, b8, b9⟩ := bgN_lo m A hj
  obtain ⟨hw, hv⟩ := IV_flt h em hm hj
  have hb := h.2.2.2.2.2.1.1
  unfold RJ
  rw [e2, b7, b8, b9, upM_2 e2]
  refine ⟨fun k hk => (hv k (by omega)).symm, (hv 7 (by decide)).symm, (hv 8 (by decide)).symm, ?_, ?_, h13.symm, rfl, hw.2.2.2.2.2.2.2.1, hw.2.2.2.2.2.2.2.2⟩
  · show upI (f 20 j 0) (f 20 j 5) (x 17 0) = upI (A 2 (16 + 9 * j + 0)) (A 2 (16 + 9 * j + 5)) (A 2 0)
    rw [hv 0 (by decide), hv 5 (by decide), hb.1]
  · show x 17 7 = G 12
    rw [h12, hb.2.2.2.2.2.1]
theorem IV_r0 {g : mG} {A x a : mA} {f : mF} (h : IV g A x a f) : 0 ≤ (A 2 5).toInt ∧ (A 2 5).toInt ≤ 9999 := h.2.2.2.2.1.1.2.2.2.2.2.1
theorem IV_x5 {g : mG} {A x a : mA} {f : mF} (h : IV g A x a f) : x 17 3 ≤ 5 := by
  obtain ⟨ng, hng, eg, exg⟩ := IV_ng h
  rw [exg]
  exact (show nI ng ≤ nI 5 from nI_le hng (by omega))
theorem ride_RN {g : mG} {A x a : mA} {f : mF} (h : IV g A x a f) {m ns j : Nat} (em : A 2 3 = nI m) (hm : m ≤ 8) (en : A 2 4 = nI ns) (hn : ns ≤ 8) (hj : j < m) {G : mG} (h12 : G 12 = A 2 5) (h13 : G 13 = 0) (wanted : Int32) (r : Nat → Int32) : ∀ n, n ≤ ns → RN G (bgN m A) x a m j n (bgQ x f j wanted r) := by
  have e2 : bgN m A 2 = A 2 := bgN_n m A (by decide) (by decide) (by decide)
  have h0 := IV_r0 h
  exact RN_all (f := f) (by rw [e2]; exact h.2.2.2.2.1) (by rw [e2]; exact h.2.2.2.2.2.1) (by rw [e2]; exact em) hm (by rw [e2]; exact en) hn hj (by rw [h12]; exact h0.1) (by rw [h12]; exact h0.2) (RJ_begin h em hm hj h12 h13 wanted r)
theorem x_ride {g : mG} {A x a : mA} {f : mF} (h : IV g A x a f) {m ns j : Nat} (em : A 2 3 = nI m) (hm : m ≤ 8) (en : A 2 4 = nI ns) (hn : ns ≤ 8) (hj : j < m) {G : mG} (h12 : G 12 = A 2 5) (h13 : G 13 = 0) (d : Nat) (mb : Nat → AB) (w r : Nat → Int32) (wanted : Int32) : ab_Ex (d + 4) 0 yX2_passRide [vR 41 0, vR 20 j, vI wanted] (hX mb (mS (mS x 42 w) 41 r) a f) (some (vI ((rsN m ns (G, bgN m A)).2 9 j))) (hX mb (mS (mS x 42 (rdN x a ns (bgQ x f j wanted r)).1) 41 (rdN x a ns (bgQ x f j wanted r)).2) a f) := by
  have e2 : bgN m A 2 = A 2 := bgN_n m A (by decide) (by decide) (by decide)
  have hR := ride_RN h em hm en hn hj h12 h13 wanted r
  have exn : x 17 12 = nI ns := by rw [← h.2.2.2.2.2.1.1.2.2.2.2.1]; exact en
  refine ex_r (p_ride d mb x a f (i := j) (by omega) exn hn (IV_x5 h) w r wanted (bgQ x f j wanted r) rfl (fun n hlt => ?_)) ?_
  · obtain ⟨-, s1, s2⟩ := RN_step (f := f) (by rw [e2]; exact h.2.2.2.2.1) (by rw [e2]; exact h.2.2.2.2.2.1) (by rw [e2]; exact em) hm (by rw [e2]; exact en) hn hj hlt (hR n (by omega))
    obtain ⟨w', T, -, -, -, hT, -, -, -, eT, -⟩ := stage_nums h.2.2.2.2.1 h.2.2.2.2.2.1 en hlt hn
    exact ⟨s1, s2, T, hT, eT⟩
  · exact (hR ns (Nat.le_refl _)).1.2.2.2.2.2.2.1
theorem IV_cl {g : mG} {A x a : mA} {f : mF} (h : IV g A x a f) (c : Nat → Int32) : IV g A x (mS a 45 c) f := IV_congr (fun _ _ => rfl) (fun _ _ => rfl) (fun _ _ => rfl) (fun k h1 _ => mS_ne _ _ _ h1) h
theorem x41_ne (x : mA) (w r : Nat → Int32) {k : Nat} (h : k = 13 ∨ k = 14 ∨ k = 17 ∨ k = 33) : mS (mS x 42 w) 41 r k = x k := by rw [mS_ne _ _ _ (by omega), mS_ne _ _ _ (by omega)]
theorem IV_wr {g : mG} {A x a : mA} {f : mF} (h : IV g A x a f) (w r : Nat → Int32) : IV g A (mS (mS x 42 w) 41 r) a f := IV_congr (fun _ _ => rfl) (fun _ _ => rfl) (fun k hk => x41_ne x w r hk) (fun _ _ _ => rfl) h
set_option maxRecDepth 100000 in
theorem x_listen {g : mG} {A x a : mA} {f : mF} (h : IV g A x a f) {m ns : Nat} (em : A 2 3 = nI m) (hm : m ≤ 8) (en : A 2 4 = nI ns) (hn : ns ≤ 8) (d : Nat) (mb : Nat → AB) : ∃ w r c : Nat → Int32, (∀ j, j < m → c j = (rsN m ns (bgG g A, bgN m A)).2 9 j) ∧ ab_Ex (d + 5) 0 yX4_listenToRide [vR 13 0] (hX mb x a f) none (hX mb (mS (mS x 42 w) 41 r) (mS a 45 c) f) := by
  have exm : x 17 5 = nI m := by rw [← h.2.2.2.2.2.1.1.2.2.2.1]; exact em
  have loop : ∀ (k i : Nat) (w r c : Nat → Int32), i + k = m → (∀ j, j < i → c j = (rsN m ns (bgG g A, bgN m A)).2 9 j) → ∃ w' r' c' : Nat → Int32, (∀ j, j < m → c' j = (rsN m ns (bgG g A, bgN m A)).2 9 j) ∧ ∀ E, ab_W jX4_listenToRide (d + 4) E (hX mb x a f) 70 (fun v1 h1 => v1 = none ∧ h1 = hX mb (mS (mS x 42 w') 41 r') (mS a 45 c') f) (ab_at iX4_listenToRide 2) [(1, vI (nI i)), (0, vR 13 0)] [] (hX mb (mS (mS x 42 w) 41 r) (mS a 45 c) f) := by
    intro k
    induction k with
    | zero =>
      intro i w r c hi hc
      refine ⟨w, r, c, fun j hj => hc j (by omega), fun E => ?_⟩
      refine ab_run [2] 100 oX4_listenToRide.1 (Nat.le_refl _) 2 ?_
      refine ⟨fun c1 => ⟨rfl, rfl⟩, fun (c1 : ¬ x 17 5 ≤ nI i) => ?_⟩
      rw [exm] at c1
      exact absurd (nI_le (by omega) (by omega)) c1
    | succ k ih =>
      intro i w r c hi hc
      have hR := x_ride (IV_cl h c) em hm en hn (j := i) (by omega) (G := bgG g A) rfl rfl d mb w r (-9)
      obtain ⟨w', r', c', hc', hw⟩ := ih (i + 1) (rdN x (mS a 45 c) ns (bgQ x f i (-9) r)).1 (rdN x (mS a 45 c) ns (bgQ x f i (-9) r)).2 (upd c i ((rsN m ns (bgG g A, bgN m A)).2 9 i)) (by omega) (by
        intro j hj
        by_cases q : j = i
        · rw [q, upd_at]
        · rw [upd_ne q]
          exact hc j (by omega))
      refine ⟨w', r', c', hc', fun E => ?_⟩
      refine ab_run [2] 100 oX4_listenToRide.1 (Nat.le_refl _) 2 ?_
      refine ⟨fun (c1 : x 17 5 ≤ nI i) => ?_, fun c1 => ?_⟩
      · rw [exm] at c1
        exact absurd c1 (nI_lt_m (by omega) (by omega))
      refine ⟨vp_in_nI (by omega) (by omega), ⟨(20, i), by rw [nI_clamp (by omega)]; exact ab_fa_at 20 (by omega), ?_⟩⟩
      refine ⟨_, _, hR, Nat.le_refl _, ?_⟩
      refine ⟨(vp_in_nI (by omega) (by omega) : vp_in (nI i) 8), ?_⟩
      have := hw E
      rw [nI_succ] at this
      rw [nI_clamp (by omega)]
      exact this
  obtain ⟨w, r, c, hc, hw⟩ := loop m 0 (x 42) (x 41) (a 45) (by omega) (fun j hj => absurd hj (Nat.not_lt_zero j))
  refine ⟨w, r, c, hc, ?_⟩
  refine ab_meth oX4_listenToRide (d + 4) _ _ _ _ (Nat.le_refl _) rfl (fun E => ?_)
  refine ab_run [2] 100 oX4_listenToRide.1 (Nat.le_refl _) 0 ?_
  have := hw E
  rw [rX, mS_id] at this
  exact this
-- the model
theorem SOK_of {s : Nat → Int32} {A : mA} (e2 : A 2 = s) (hW : WF s) {m ns : Nat} (em : s 3 = nI m) (hm : m ≤ 8) (en : s 4 = nI ns) (hn : ns ≤ 8) : SOK s m ns A := by
  intro i hi
  have h2 := hW.1.2.2.1
  have hii : (i : Int) < (s 4).toInt := by rw [en, nI_toInt (by omega)]; omega
  obtain ⟨⟨h1, h1'⟩, ⟨h3, h4⟩, h5, h6⟩ := hW.2.2.2.2 i (by omega) hii
  have c1 := ti_clamp (x := s (88 + 3 * i + 1)) h3
  have c2 := ti_clamp (x := s (88 + 3 * i + 2)) (by omega)
  refine ⟨(s (88 + 3 * i + 1)).toNatClampNeg, (s (88 + 3 * i + 2)).toNatClampNeg, ti_nat h3, by omega, ti_nat (by omega), by omega, fun j hj => ?_⟩
  have hmj : (j : Int) < (s 3).toInt := by rw [em, nI_toInt (by omega)]; omega
  have hdn := dn_rng hW (hW.2.2.2.1 j (by omega) hmj) (w := (s (88 + 3 * i + 1)).toNatClampNeg) (by omega) (by omega)
  have e1 : (dnM A (s (88 + 3 * i + 1)).toNatClampNeg j).toInt = (downI (s (16 + 9 * j)) (s (16 + 9 * j + 6)) (s 1) (s (11 + (s (88 + 3 * i + 1)).toNatClampNeg))).toInt := by unfold dnM; rw [e2]
  rw [← e1] at hdn
  have z0 : (0 : Int32).toInt = 0 := rfl
  have e3 : (100 * dnM A (s (88 + 3 * i + 1)).toNatClampNeg j).toInt = 100 * (dnM A (s (88 + 3 * i + 1)).toNatClampNeg j).toInt := ti_mul (show (100 : Int32).toInt = 100 from rfl) rfl (by omega) (by omega)
  constructor
  · intro q
    rw [q] at hdn
    omega
  · intro q
    rw [q] at e3
    omega
theorem IV_dn {g : mG} {A x a : mA} {f : mF} (h : IV g A x a f) {m : Nat} (em : A 2 3 = nI m) (hm : m ≤ 8) {j w : Nat} (hj : j < m) (hw : w < 5) (hg : (w : Int) < (A 2 2).toInt) : 1 ≤ (dnM A w j).toInt ∧ (dnM A w j).toInt ≤ 140 ∧ ¬ dnM A w j = 0 ∧ ¬ 100 * dnM A w j = 0 := by
  have hdn := dn_rng h.2.2.2.2.1 (IV_flt h em hm hj).1 hw hg
  have hdn : 1 ≤ (dnM A w j).toInt ∧ (dnM A w j).toInt ≤ 140 := hdn
  have z0 : (0 : Int32).toInt = 0 := rfl
  have e3 : (100 * dnM A w j).toInt = 100 * (dnM A w j).toInt := ti_mul (show (100 : Int32).toInt = 100 from rfl) rfl (by omega) (by omega)
  refine ⟨hdn.1, hdn.2, fun q => ?_, fun q => ?_⟩
  · rw [q] at hdn
    omega
  · rw [q] at e3
    omega
theorem bgN_8 {g : mG} {A x a : mA} {f : mF} (h : IV g A x a f) {m : Nat} (em : A 2 3 = nI m) (hm : m ≤ 8) : ∀ j, j < m → ¬ bgN m A 8 j = 0 := by
  intro j hj q
  rw [(bgN_lo m A hj).2.1] at q
  have := (IV_flt h em hm hj).1.2.2.2.2.2.2.2.1
  rw [q] at this
  have z0 : (0 : Int32).toInt = 0 := rfl
  omega
set_option maxRecDepth 100000 in
theorem m_counted {g : mG} {A x a : mA} {f : mF} (h : IV g A x a f) {m ns : Nat} (em : A 2 3 = nI m) (hm : m ≤ 8) (en : A 2 4 = nI ns) (hn : ns ≤ 8) (d : Nat) (xs : List AB) : ab_Ex (d + 7) 0 yX5_counted [vR 0 0] (hM g A xs) none (hM (rsN m ns (bgG g A, bgN m A)).1 (rsN m ns (bgG g A, bgN m A)).2 xs) := by
  have e2 : bgN m A 2 = A 2 := bgN_n m A (by decide) (by decide) (by decide)
  refine ab_meth oX5_counted (d + 6) _ _ _ _ (Nat.le_refl _) rfl (fun E => ?_)
  refine ab_run [] 100 oX5_counted.1 (Nat.le_refl _) 0 ?_
  refine ⟨_, _, m_begins (d + 4) xs g A em hm, Nat.le_refl _, ?_⟩
  refine ⟨_, _, m_rides d xs (bgG g A) (bgN m A) (m := m) (ns := ns) (by rw [e2]; exact em) hm (by rw [e2]; exact en) hn (bgN_8 h em hm) (by rw [e2]; exact SOK_of e2 h.2.2.2.2.1 em hm en hn), Nat.le_refl _, ?_⟩
  exact ⟨rfl, rfl⟩
theorem tuN_g (m : Nat) (act : Int32) (n : Nat) (q : mGA) {k : Nat} (h13 : k ≠ 13) (h14 : k ≠ 14) (h15 : k ≠ 15) (h19 : k ≠ 19) : (tuN m act n q).1 k = q.1 k := by
  induction n with
  | zero => rfl
  | succ n ih =>
    show (upd (gsN act (nI n) m (tuN m act n q)).1 13 _) k = _
    rw [upd_ne h13, gsN_g _ _ _ _ h19 h14 h15]
    exact ih
theorem sgN_g (m : Nat) (act : Int32) (n : Nat) (q : mGA) {k : Nat} (h12 : k ≠ 12) (h13 : k ≠ 13) (h14 : k ≠ 14) (h15 : k ≠ 15) (h19 : k ≠ 19) : (sgN m act n q).1 k = q.1 k := by
  induction n with
  | zero => rfl
  | succ n ih =>
    show (upd (tuN m act 100 (sgN m act n q)).1 12 _) k = _
    rw [upd_ne h12, tuN_g _ _ _ _ h13 h14 h15 h19]
    exact ih
theorem rsN_g (m n : Nat) (q : mGA) {k : Nat} (h12 : k ≠ 12) (h13 : k ≠ 13) (h14 : k ≠ 14) (h15 : k ≠ 15) (h19 : k ≠ 19) : (rsN m n q).1 k = q.1 k := by
  induction n with
  | zero => rfl
  | succ n ih =>
    show (rsF m n (rsN m n q)).1 k = _
    unfold rsF
    rw [sgN_g _ _ _ _ h12 h13 h14 h15 h19]
    exact ih
/-- the invariant sees of the model's ride nothing -/
theorem IV_md {g G : mG} {A B x a : mA} {f : mF} (hA : ∀ k, k ≠ 7 → k ≠ 8 → k ≠ 9 → B k = A k) (hG : ∀ k, k = 4 ∨ k = 7 ∨ k = 24 → G k = g k) (h : IV g A x a f) : IV G B x a f := IV_congr (fun k hk => hA k (by omega) (by omega) (by omega)) hG (fun _ _ => rfl) (fun _ _ _ => rfl) h
theorem IV_rs {g : mG} {A x a : mA} {f : mF} (m ns : Nat) (h : IV g A x a f) : IV (rsN m ns (bgG g A, bgN m A)).1 (rsN m ns (bgG g A, bgN m A)).2 x a f := by
  refine IV_md (fun k h7 h8 h9 => ?_) (fun k hk => ?_) h
  · rw [rsN_A _ _ _ h7 h8 h9]
    exact bgN_n m A h7 h8 h9
  · rw [rsN_g _ _ _ (by omega) (by omega) (by omega) (by omega) (by omega)]
    rcases hk with rfl | rfl | rfl <;> rfl
end
section
set_option maxRecDepth 100000 in
theorem x_cis {g : mG} {A x a : mA} {f : mF} (h : IV g A x a f) {m j w T : Nat} (em : A 2 3 = nI m) (hm : m ≤ 8) (hj : j < m) (hw : w < 5) (hg : (w : Int) < (A 2 2).toInt) (hT : T ≤ 60) {act : Int32} (ha1 : 0 ≤ act.toInt) (ha2 : act.toInt ≤ 5) (d : Nat) (mb : Nat → AB) (u r : Nat → Int32) : ab_Ex (d + 4) 0 yX4_clicksInStage [vR 13 0, vI (nI j), vI act, vI (nI w), vI (nI T)] (hX mb (mS (mS x 42 u) 41 r) a f) (some (vI ((sgN m act T (bgG g A, opN w m (bgN m A))).2 9 j))) (hX mb (mS (mS x 42 (stX x a act (nI w) T (bgQ x f j (-9) r)).1) 41 (stX x a act (nI w) T (bgQ x f j (-9) r)).2) a f) := by
  have e2 : bgN m A 2 = A 2 := bgN_n m A (by decide) (by decide) (by decide)
  have h0 := IV_r0 h
  have hRJ := RJ_begin h em hm hj (G := bgG g A) rfl rfl (-9) r
  obtain ⟨s1, ⟨s2, s3⟩, -⟩ := RJ_stage (f := f) (x := x) (a := a) (w := w) (T := T) (act := act) (by rw [e2]; exact h.2.2.2.2.1) (by rw [e2]; exact h.2.2.2.2.2.1) (by rw [e2]; exact em) hj hm hw (by rw [e2]; exact hg) hT ha1 ha2 h0.1 (by show (A 2 5).toInt ≤ 20000; omega) hRJ
  refine ab_meth oX4_clicksInStage (d + 3) _ _ _ _ (Nat.le_refl _) rfl (fun E => ?_)
  refine ab_run [] 100 oX4_clicksInStage.1 (Nat.le_refl _) 0 ?_
  refine ⟨vp_in_nI (by omega) (by omega), ⟨(20, j), by rw [nI_clamp (by omega)]; exact ab_fa_at 20 (by omega), ?_⟩⟩
  refine ⟨_, _, r_begin41 (d + 1) mb x a f u r (i := j) (by omega) (-9), Nat.le_refl _, ?_⟩
  refine ⟨_, _, p_stage41 d mb x a f (bgQ x f j (-9) r).1 _ (bgQ x f j (-9) r).2 act (nI w) T hT (IV_x5 h) s2 rfl s3, Nat.le_refl _, ?_⟩
  refine ⟨?_, rfl⟩
  show some (vI ((stX x a act (nI w) T (bgQ x f j (-9) r)).2 5)) = _
  rw [s1.2.2.2.2.2.2.1]
set_option maxRecDepth 100000 in
theorem m_stageAlone {g : mG} {A x a : mA} {f : mF} (h : IV g A x a f) {m w T : Nat} (em : A 2 3 = nI m) (hm : m ≤ 8) (hw : w < 5) (hg : (w : Int) < (A 2 2).toInt) (hT : T ≤ 60) (act : Int32) (d : Nat) (xs : List AB) : ab_Ex (d + 6) 0 yX5_stageAlone [vR 0 0, vI act, vI (nI w), vI (nI T)] (hM g A xs) none (hM (sgN m act T (bgG g A, opN w m (bgN m A))).1 (sgN m act T (bgG g A, opN w m (bgN m A))).2 xs) := by
  have e2 : bgN m A 2 = A 2 := bgN_n m A (by decide) (by decide) (by decide)
  refine ab_meth oX5_stageAlone (d + 5) _ _ _ _ (Nat.le_refl _) rfl (fun E => ?_)
  refine ab_run [] 100 oX5_stageAlone.1 (Nat.le_refl _) 0 ?_
  refine ⟨_, _, m_begins (d + 3) xs g A em hm, Nat.le_refl _, ?_⟩
  refine ⟨_, _, m_goesStage d xs (bgG g A) (bgN m A) (m := m) (w := w) (n := T) (by rw [e2]; exact em) hm hw hT (bgN_8 h em hm) (fun i hi => by rw [(opN_lo w m _ hi).1, dnM_2 e2]; exact (IV_dn h em hm hi hw hg).2.2.2) act, Nat.le_refl _, ?_⟩
  exact ⟨rfl, rfl⟩
theorem IV_rsG {g G : mG} {A x a : mA} {f : mF} (m ns : Nat) (hG : ∀ k, k = 4 ∨ k = 7 ∨ k = 24 → G k = g k) (h : IV g A x a f) : IV (rsN m ns (G, bgN m A)).1 (rsN m ns (G, bgN m A)).2 x a f := by
  refine IV_md (fun k h7 h8 h9 => ?_) (fun k hk => ?_) h
  · rw [rsN_A _ _ _ h7 h8 h9]
    exact bgN_n m A h7 h8 h9
  · rw [rsN_g _ _ _ (by omega) (by omega) (by omega) (by omega) (by omega)]
    exact hG k hk
theorem bgG_k (g : mG) (A : mA) {k : Nat} (hk : k = 4 ∨ k = 7 ∨ k = 24) : bgG g A k = g k := by
  rcases hk with rfl | rfl | rfl <;> rfl
theorem IV_sg {g : mG} {A x a : mA} {f : mF} (m w T : Nat) (act : Int32) (h : IV g A x a f) : IV (sgN m act T (bgG g A, opN w m (bgN m A))).1 (sgN m act T (bgG g A, opN w m (bgN m A))).2 x a f := by
  refine IV_md (fun k h7 h8 h9 => ?_) (fun k hk => ?_) h
  · rw [sgN_A _ _ _ _ h7 h9]
    show opN w m (bgN m A) k = A k
    rw [opN_n _ _ _ h7 h8]
    exact bgN_n m A h7 h8 h9
  · rw [sgN_g _ _ _ _ (by omega) (by omega) (by omega) (by omega) (by omega)]
    exact bgG_k g A hk
theorem p_counts : P_counts IV 40 := by
  intro p1 g A x a f h
  obtain ⟨m, hm, em, exm⟩ := IV_m h
  obtain ⟨ns, hn, en, exn⟩ := IV_ns h
  by_cases c0 : 0 ≤ p1 ∧ p1 < nI m
  · obtain ⟨j, hj, rfl⟩ := ix_of (m := m) (by omega) c0
    have k0 : 0 ≤ nI j ∧ nI j < x 17 5 := by rw [exm]; exact c0
    have k2 : 0 ≤ nI j ∧ nI j < A 2 3 := by rw [em]; exact c0
    have hR := x_ride h em hm en hn hj (G := bgG g A) rfl rfl 35 (mbl g A) (x 42) (x 41) (-9)
    rw [rX] at hR
    refine pr_w (r := (rsN m ns (bgG g A, bgN m A)).2 9 j) (x' := mS (mS x 42 (rdN x a ns (bgQ x f j (-9) (x 41))).1) 41 (rdN x a ns (bgQ x f j (-9) (x 41))).2) (a' := a) (f' := f) (g' := (rsN m ns (bgG g A, bgN m A)).1) (A' := (rsN m ns (bgG g A, bgN m A)).2) ?_ (fun xs => ?_) (IV_wr (IV_rs m ns h) _ _)
    · refine ab_meth oX4_counts 39 _ _ _ _ (Nat.le_refl _) rfl (fun E => ?_)
      refine ab_run [] 100 oX4_counts.1 (Nat.le_refl _) 0 ?_
      refine ⟨_, _, x_isFault _ _ x a f _, Nat.le_refl _, ?_⟩
      refine br_n (fun c => ?_) (fun c => absurd k0 c)
      refine ⟨vp_in_nI (by omega) (by omega), ⟨(20, j), by rw [nI_clamp (by omega)]; exact ab_fa_at 20 (by omega), ?_⟩⟩
      exact ⟨_, _, hR, Nat.le_refl _, rfl, rfl⟩
    · refine ab_meth oX5_counts 39 _ _ _ _ (Nat.le_refl _) rfl (fun E => ?_)
      refine ab_run [] 100 oX5_counts.1 (Nat.le_refl _) 0 ?_
      refine ⟨_, _, m_isFault _ g A xs _, Nat.le_refl _, ?_⟩
      refine br_n (fun c => ?_) (fun c => absurd k2 c)
      refine ⟨_, _, m_counted h em hm en hn 32 xs, Nat.le_refl _, ?_⟩
      refine ⟨(vp_in_nI (by omega) (by omega) : vp_in (nI j) 8), ?_⟩
      rw [nI_clamp (by omega)]
      exact ⟨rfl, rfl⟩
  · have k0 : ¬ (0 ≤ p1 ∧ p1 < x 17 5) := by rw [exm]; exact c0
    have k2 : ¬ (0 ≤ p1 ∧ p1 < A 2 3) := by rw [em]; exact c0
    refine pr_rf h rc1 ?_ (fun xs => ?_)
    · refine ab_meth oX4_counts 39 _ _ _ _ (Nat.le_refl _) rfl (fun E => ?_)
      refine ab_run [] 100 oX4_counts.1 (Nat.le_refl _) 0 ?_
      refine ⟨_, _, x_isFault _ _ x a f _, Nat.le_refl _, ?_⟩
      refine br_n (fun c => absurd c k0) (fun c => ?_)
      exact ⟨_, _, x_rf _ _ x a f rc1, Nat.le_refl _, rfl, rfl⟩
    · refine ab_meth oX5_counts 39 _ _ _ _ (Nat.le_refl _) rfl (fun E => ?_)
      refine ab_run [] 100 oX5_counts.1 (Nat.le_refl _) 0 ?_
      refine ⟨_, _, m_isFault _ g A xs _, Nat.le_refl _, ?_⟩
      refine br_n (fun c => absurd c k2) (fun c => ?_)
      exact ⟨_, _, m_rf _ g A xs rc1, Nat.le_refl _, rfl, rfl⟩
theorem p_stageCounts : P_stageCounts IV 40 := by
  intro p1 p2 p3 p4 g A x a f h
  obtain ⟨m, hm, em, exm⟩ := IV_m h
  obtain ⟨ng, hng, eg, exg⟩ := IV_ng h
  have z1 : (1 : Int32).toInt = 1 := rfl
  have z60 : (60 : Int32).toInt = 60 := rfl
  have z6 : (6 : Int32).toInt = 6 := rfl
  have z0 : (0 : Int32).toInt = 0 := rfl
  by_cases c0 : (0 ≤ p1 ∧ p1 < nI m) ∧ (0 ≤ p2 ∧ p2 < 6) ∧ (0 ≤ p3 ∧ p3 < nI ng)
  · obtain ⟨j, hj, rfl⟩ := ix_of (m := m) (by omega) c0.1
    obtain ⟨w, hw5, rfl⟩ := ix_of (m := ng) (by omega) c0.2.2
    have k0 : 0 ≤ nI j ∧ nI j < x 17 5 := by rw [exm]; exact c0.1
    have k2 : 0 ≤ nI j ∧ nI j < A 2 3 := by rw [em]; exact c0.1
    have k1 : 0 ≤ nI w ∧ nI w < x 17 3 := by rw [exg]; exact c0.2.2
    have k3 : 0 ≤ nI w ∧ nI w < A 2 2 := by rw [eg]; exact c0.2.2
    by_cases c1 : p4 < 1
    · refine pr_rf h rc4 ?_ (fun xs => ?_)
      · refine ab_meth oX4_stageCounts 39 _ _ _ _ (Nat.le_refl _) rfl (fun E => ?_)
        refine ab_run [] 100 oX4_stageCounts.1 (Nat.le_refl _) 0 ?_
        refine ⟨_, _, x_isFault _ _ x a f _, Nat.le_refl _, ?_⟩
        refine br_z (fun c => absurd k0 c) (fun c => ?_)
        refine ⟨_, _, x_isAct _ _ (Nat.le_refl _) _, Nat.le_refl _, ?_⟩
        refine br_z (fun c => absurd c0.2.1 c) (fun c => ?_)
        refine ⟨_, _, x_isGear _ _ x a f _, Nat.le_refl _, ?_⟩
        refine br_n (fun c => ?_) (fun c => absurd k1 c)
        refine ⟨fun c => absurd c1 (le_nlt c), fun c => ?_⟩
        exact ⟨_, _, x_rf _ _ x a f rc4, Nat.le_refl _, rfl, rfl⟩
      · refine ab_meth oX5_stageCounts 39 _ _ _ _ (Nat.le_refl _) rfl (fun E => ?_)
        refine ab_run [] 100 oX5_stageCounts.1 (Nat.le_refl _) 0 ?_
        refine ⟨_, _, m_isFault _ g A xs _, Nat.le_refl _, ?_⟩
        refine br_z (fun c => absurd k2 c) (fun c => ?_)
        refine ⟨_, _, m_isAct _ _ (Nat.le_refl _) _, Nat.le_refl _, ?_⟩
        refine br_z (fun c => absurd c0.2.1 c) (fun c => ?_)
        refine ⟨_, _, m_isGear _ g A xs _, Nat.le_refl _, ?_⟩
        refine br_z (fun c => absurd k3 c) (fun c => ?_)
        refine ⟨_, _, m_within _ _ (Nat.le_refl _) _ _ _, Nat.le_refl _, ?_⟩
        rw [show withI p4 1 60 = -4 from if_pos c1]
        refine ⟨fun c => absurd c (by decide), fun c => ?_⟩
        exact ⟨_, _, m_rf _ g A xs rc4, Nat.le_refl _, rfl, rfl⟩
    by_cases c2 : 60 < p4
    · refine pr_rf h rc6 ?_ (fun xs => ?_)
      · refine ab_meth oX4_stageCounts 39 _ _ _ _ (Nat.le_refl _) rfl (fun E => ?_)
        refine ab_run [] 100 oX4_stageCounts.1 (Nat.le_refl _) 0 ?_
        refine ⟨_, _, x_isFault _ _ x a f _, Nat.le_refl _, ?_⟩
        refine br_z (fun c => absurd k0 c) (fun c => ?_)
        refine ⟨_, _, x_isAct _ _ (Nat.le_refl _) _, Nat.le_refl _, ?_⟩
        refine br_z (fun c => absurd c0.2.1 c) (fun c => ?_)
        refine ⟨_, _, x_isGear _ _ x a f _, Nat.le_refl _, ?_⟩
        refine br_n (fun c => ?_) (fun c => absurd k1 c)
        refine ⟨fun c => ?_, fun c => absurd (nlt_le c1) c⟩
        refine ⟨fun c => absurd c2 (le_nlt c), fun c => ?_⟩
        exact ⟨_, _, x_rf _ _ x a f rc6, Nat.le_refl _, rfl, rfl⟩
      · refine ab_meth oX5_stageCounts 39 _ _ _ _ (Nat.le_refl _) rfl (fun E => ?_)
        refine ab_run [] 100 oX5_stageCounts.1 (Nat.le_refl _) 0 ?_
        refine ⟨_, _, m_isFault _ g A xs _, Nat.le_refl _, ?_⟩
        refine br_z (fun c => absurd k2 c) (fun c => ?_)
        refine ⟨_, _, m_isAct _ _ (Nat.le_refl _) _, Nat.le_refl _, ?_⟩
        refine br_z (fun c => absurd c0.2.1 c) (fun c => ?_)
        refine ⟨_, _, m_isGear _ g A xs _, Nat.le_refl _, ?_⟩
        refine br_z (fun c => absurd k3 c) (fun c => ?_)
        refine ⟨_, _, m_within _ _ (Nat.le_refl _) _ _ _, Nat.le_refl _, ?_⟩
        rw [show withI p4 1 60 = -6 from (if_neg c1).trans (if_pos c2)]
        refine ⟨fun c => absurd c (by decide), fun c => ?_⟩
        exact ⟨_, _, m_rf _ g A xs rc6, Nat.le_refl _, rfl, rfl⟩
    have q1 := Int32.le_iff_toInt_le.mp (nlt_le c1)
    have q2 := Int32.le_iff_toInt_le.mp (nlt_le c2)
    have cl := ti_clamp (x := p4) (by omega)
    obtain ⟨T, hT1, hT60, rfl⟩ : ∃ T : Nat, 1 ≤ T ∧ T ≤ 60 ∧ p4 = nI T := ⟨p4.toNatClampNeg, by omega, by omega, ti_nat (by omega)⟩
    have a1 := Int32.le_iff_toInt_le.mp c0.2.1.1
    have a2 := Int32.lt_iff_toInt_lt.mp c0.2.1.2
    have hgw : (w : Int) < (A 2 2).toInt := by rw [eg, nI_toInt (by omega)]; omega
    have hR := x_cis h em hm hj (w := w) (T := T) (by omega) hgw hT60 (act := p2) (by omega) (by omega) 35 (mbl g A) (x 42) (x 41)
    rw [rX] at hR
    refine pr_w (r := (sgN m p2 T (bgG g A, opN w m (bgN m A))).2 9 j) (x' := mS (mS x 42 (stX x a p2 (nI w) T (bgQ x f j (-9) (x 41))).1) 41 (stX x a p2 (nI w) T (bgQ x f j (-9) (x 41))).2) (a' := a) (f' := f) (g' := (sgN m p2 T (bgG g A, opN w m (bgN m A))).1) (A' := (sgN m p2 T (bgG g A, opN w m (bgN m A))).2) ?_ (fun xs => ?_) (IV_wr (IV_sg m w T p2 h) _ _)
    · refine ab_meth oX4_stageCounts 39 _ _ _ _ (Nat.le_refl _) rfl (fun E => ?_)
      refine ab_run [] 100 oX4_stageCounts.1 (Nat.le_refl _) 0 ?_
      refine ⟨_, _, x_isFault _ _ x a f _, Nat.le_refl _, ?_⟩
      refine br_z (fun c => absurd k0 c) (fun c => ?_)
      refine ⟨_, _, x_isAct _ _ (Nat.le_refl _) _, Nat.le_refl _, ?_⟩
      refine br_z (fun c => absurd c0.2.1 c) (fun c => ?_)
      refine ⟨_, _, x_isGear _ _ x a f _, Nat.le_refl _, ?_⟩
      refine br_n (fun c => ?_) (fun c => absurd k1 c)
      refine ⟨fun c => ?_, fun c => absurd (nlt_le c1) c⟩
      refine ⟨fun c => ?_, fun c => absurd (nlt_le c2) c⟩
      exact ⟨_, _, hR, Nat.le_refl _, rfl, rfl⟩
    · refine ab_meth oX5_stageCounts 39 _ _ _ _ (Nat.le_refl _) rfl (fun E => ?_)
      refine ab_run [] 100 oX5_stageCounts.1 (Nat.le_refl _) 0 ?_
      refine ⟨_, _, m_isFault _ g A xs _, Nat.le_refl _, ?_⟩
      refine br_z (fun c => absurd k2 c) (fun c => ?_)
      refine ⟨_, _, m_isAct _ _ (Nat.le_refl _) _, Nat.le_refl _, ?_⟩
      refine br_z (fun c => absurd c0.2.1 c) (fun c => ?_)
      refine ⟨_, _, m_isGear _ g A xs _, Nat.le_refl _, ?_⟩
      refine br_z (fun c => absurd k3 c) (fun c => ?_)
      refine ⟨_, _, m_within _ _ (Nat.le_refl _) _ _ _, Nat.le_refl _, ?_⟩
      rw [show withI (nI T) 1 60 = 0 from (if_neg c1).trans (if_neg c2)]
      refine ⟨fun c => ?_, fun c => absurd rfl c⟩
      refine ⟨_, _, m_stageAlone h em hm (by omega) hgw hT60 p2 33 xs, Nat.le_refl _, ?_⟩
      refine ⟨(vp_in_nI (by omega) (by omega) : vp_in (nI j) 8), ?_⟩
      rw [nI_clamp (by omega)]
      exact ⟨rfl, rfl⟩
  · refine pr_rf h rc1 ?_ (fun xs => ?_)
    · refine ab_meth oX4_stageCounts 39 _ _ _ _ (Nat.le_refl _) rfl (fun E => ?_)
      refine ab_run [] 100 oX4_stageCounts.1 (Nat.le_refl _) 0 ?_
      refine ⟨_, _, x_isFault _ _ x a f _, Nat.le_refl _, ?_⟩
      refine br_z (fun _ => ⟨_, _, x_rf _ _ x a f rc1, Nat.le_refl _, rfl, rfl⟩) (fun b1 => ?_)
      refine ⟨_, _, x_isAct _ _ (Nat.le_refl _) _, Nat.le_refl _, ?_⟩
      refine br_z (fun _ => ⟨_, _, x_rf _ _ x a f rc1, Nat.le_refl _, rfl, rfl⟩) (fun b2 => ?_)
      refine ⟨_, _, x_isGear _ _ x a f _, Nat.le_refl _, ?_⟩
      refine br_n (fun b3 => ?_) (fun _ => ⟨_, _, x_rf _ _ x a f rc1, Nat.le_refl _, rfl, rfl⟩)
      rw [exm] at b1
      rw [exg] at b3
      exact absurd ⟨b1, b2, b3⟩ c0
    · refine ab_meth oX5_stageCounts 39 _ _ _ _ (Nat.le_refl _) rfl (fun E => ?_)
      refine ab_run [] 100 oX5_stageCounts.1 (Nat.le_refl _) 0 ?_
      have fin : (¬ (-1 : Int32) = 0) := by decide
      refine ⟨_, _, m_isFault _ g A xs _, Nat.le_refl _, ?_⟩
      refine br_z (fun _ => ⟨fun q => absurd q fin, fun _ => ⟨_, _, m_rf _ g A xs rc1, Nat.le_refl _, rfl, rfl⟩⟩) (fun b1 => ?_)
      refine ⟨_, _, m_isAct _ _ (Nat.le_refl _) _, Nat.le_refl _, ?_⟩
      refine br_z (fun _ => ⟨fun q => absurd q fin, fun _ => ⟨_, _, m_rf _ g A xs rc1, Nat.le_refl _, rfl, rfl⟩⟩) (fun b2 => ?_)
      refine ⟨_, _, m_isGear _ g A xs _, Nat.le_refl _, ?_⟩
      refine br_z (fun _ => ⟨fun q => absurd q fin, fun _ => ⟨_, _, m_rf _ g A xs rc1, Nat.le_refl _, rfl, rfl⟩⟩) (fun b3 => ?_)
      rw [em] at b1
      rw [eg] at b3
      exact absurd ⟨b1, b2, b3⟩ c0
theorem p_when : P_when IV 40 := by
  intro p1 p2 g A x a f h
  obtain ⟨m, hm, em, exm⟩ := IV_m h
  obtain ⟨ns, hn, en, exn⟩ := IV_ns h
  by_cases c0 : 0 ≤ p1 ∧ p1 < nI m
  · obtain ⟨j, hj, rfl⟩ := ix_of (m := m) (by omega) c0
    have k0 : 0 ≤ nI j ∧ nI j < x 17 5 := by rw [exm]; exact c0
    have k2 : 0 ≤ nI j ∧ nI j < A 2 3 := by rw [em]; exact c0
    by_cases c1 : p2 < 0
    · refine pr_rf h rc4 ?_ (fun xs => ?_)
      · refine ab_meth oX4_when 39 _ _ _ _ (Nat.le_refl _) rfl (fun E => ?_)
        refine ab_run [] 100 oX4_when.1 (Nat.le_refl _) 0 ?_
        refine ⟨_, _, x_isFault _ _ x a f _, Nat.le_refl _, ?_⟩
        refine br_n (fun c => ?_) (fun c => absurd k0 c)
        refine ⟨fun c => absurd c1 (le_nlt c), fun c => ?_⟩
        exact ⟨_, _, x_rf _ _ x a f rc4, Nat.le_refl _, rfl, rfl⟩
      · refine ab_meth oX5_when 39 _ _ _ _ (Nat.le_refl _) rfl (fun E => ?_)
        refine ab_run [] 100 oX5_when.1 (Nat.le_refl _) 0 ?_
        refine ⟨_, _, m_isFault _ g A xs _, Nat.le_refl _, ?_⟩
        refine br_n (fun c => ?_) (fun c => absurd k2 c)
        refine ⟨fun c => absurd c1 (le_nlt c), fun c => ?_⟩
        exact ⟨_, _, m_rf _ g A xs rc4, Nat.le_refl _, rfl, rfl⟩
    have e2 : bgN m A 2 = A 2 := bgN_n m A (by decide) (by decide) (by decide)
    have hN := (ride_RN h em hm en hn hj (G := (upd (upd (bgG g A) 17 (nI j)) 18 p2)) rfl rfl p2 (x 41) ns (Nat.le_refl _)).2.2.2.2.2 rfl rfl rfl
    have hR := x_ride h em hm en hn hj (G := (upd (upd (bgG g A) 17 (nI j)) 18 p2)) rfl rfl 35 (mbl g A) (x 42) (x 41) p2
    rw [rX] at hR
    refine pr_w (r := (rsN m ns ((upd (upd (bgG g A) 17 (nI j)) 18 p2), bgN m A)).1 19) (x' := mS (mS x 42 (rdN x a ns (bgQ x f j p2 (x 41))).1) 41 (rdN x a ns (bgQ x f j p2 (x 41))).2) (a' := a) (f' := f) (g' := (rsN m ns ((upd (upd (bgG g A) 17 (nI j)) 18 p2), bgN m A)).1) (A' := (rsN m ns ((upd (upd (bgG g A) 17 (nI j)) 18 p2), bgN m A)).2) (ex_r (r := (rdN x a ns (bgQ x f j p2 (x 41))).2 7) ?_ hN) (fun xs => ?_) (IV_wr (IV_rsG m ns (fun k hk => by rcases hk with rfl | rfl | rfl <;> rfl) h) _ _)
    · refine ab_meth oX4_when 39 _ _ _ _ (Nat.le_refl _) rfl (fun E => ?_)
      refine ab_run [] 100 oX4_when.1 (Nat.le_refl _) 0 ?_
      refine ⟨_, _, x_isFault _ _ x a f _, Nat.le_refl _, ?_⟩
      refine br_n (fun c => ?_) (fun c => absurd k0 c)
      refine ⟨fun c => ?_, fun c => absurd (nlt_le c1) c⟩
      refine ⟨vp_in_nI (by omega) (by omega), ⟨(20, j), by rw [nI_clamp (by omega)]; exact ab_fa_at 20 (by omega), ?_⟩⟩
      refine ⟨_, _, hR, Nat.le_refl _, ?_⟩
      exact ⟨rfl, rfl⟩
    · refine ab_meth oX5_when 39 _ _ _ _ (Nat.le_refl _) rfl (fun E => ?_)
      refine ab_run [] 100 oX5_when.1 (Nat.le_refl _) 0 ?_
      refine ⟨_, _, m_isFault _ g A xs _, Nat.le_refl _, ?_⟩
      refine br_n (fun c => ?_) (fun c => absurd k2 c)
      refine ⟨fun c => ?_, fun c => absurd (nlt_le c1) c⟩
      refine ⟨_, _, m_begins 37 xs g A em hm, Nat.le_refl _, ?_⟩
      refine ⟨_, _, m_rides 33 xs (upd (upd (bgG g A) 17 (nI j)) 18 p2) (bgN m A) (m := m) (ns := ns) (by rw [e2]; exact em) hm (by rw [e2]; exact en) hn (bgN_8 h em hm) (by rw [e2]; exact SOK_of e2 h.2.2.2.2.1 em hm en hn), Nat.le_refl _, ?_⟩
      exact ⟨rfl, rfl⟩
  · have k0 : ¬ (0 ≤ p1 ∧ p1 < x 17 5) := by rw [exm]; exact c0
    have k2 : ¬ (0 ≤ p1 ∧ p1 < A 2 3) := by rw [em]; exact c0
    refine pr_rf h rc1 ?_ (fun xs => ?_)
    · refine ab_meth oX4_when 39 _ _ _ _ (Nat.le_refl _) rfl (fun E => ?_)
      refine ab_run [] 100 oX4_when.1 (Nat.le_refl _) 0 ?_
      refine ⟨_, _, x_isFault _ _ x a f _, Nat.le_refl _, ?_⟩
      refine br_n (fun c => absurd c k0) (fun c => ?_)
      exact ⟨_, _, x_rf _ _ x a f rc1, Nat.le_refl _, rfl, rfl⟩
    · refine ab_meth oX5_when 39 _ _ _ _ (Nat.le_refl _) rfl (fun E => ?_)
      refine ab_run [] 100 oX5_when.1 (Nat.le_refl _) 0 ?_
      refine ⟨_, _, m_isFault _ g A xs _, Nat.le_refl _, ?_⟩
      refine br_n (fun c => absurd c k2) (fun c => ?_)
      exact ⟨_, _, m_rf _ g A xs rc1, Nat.le_refl _, rfl, rfl⟩
end
section
theorem abs_eq (v : Int32) : (if 0 ≤ v then v else 0 - v) = absI v := by
  unfold absI
  by_cases q : v < 0
  · rw [if_pos q, if_neg (lt_nle q), Int32.zero_sub]
  · rw [if_neg q, if_pos (nlt_le q)]
def ftN (c : Nat → Int32) (told off : Int32) : Nat → Int32
  | 0 => 0
  | i + 1 => if absI (c i - told) ≤ off then ftN c told off i ||| ((1 : Int32) <<< (nI i &&& 31)) else ftN c told off i
set_option maxRecDepth 100000 in
theorem x_fit {g : mG} {A x a : mA} {f : mF} (h : IV g A x a f) {m ns : Nat} (em : A 2 3 = nI m) (hm : m ≤ 8) (en : A 2 4 = nI ns) (hn : ns ≤ 8) (told off : Int32) (d : Nat) (mb : Nat → AB) : ∃ w r c : Nat → Int32, ab_Ex (d + 6) 0 yX4_fittingBits [vR 13 0, vI told, vI off] (hX mb x a f) (some (vI (ftN ((rsN m ns (bgG g A, bgN m A)).2 9) told off m))) (hX mb (mS (mS x 42 w) 41 r) (mS a 45 c) f) := by
  obtain ⟨w, r, c, hc, hl⟩ := x_listen h em hm en hn d mb
  have exm : x 17 5 = nI m := by rw [← h.2.2.2.2.2.1.1.2.2.2.1]; exact em
  refine ⟨w, r, c, ?_⟩
  refine ab_meth oX4_fittingBits (d + 5) _ _ _ _ (Nat.le_refl _) rfl (fun E => ?_)
  have loop : ∀ (k i : Nat), i + k = m → ab_W jX4_fittingBits (d + 5) E (hX mb x a f) 70 (fun v1 h1 => v1 = some (vI (ftN ((rsN m ns (bgG g A, bgN m A)).2 9) told off m)) ∧ h1 = hX mb (mS (mS x 42 w) 41 r) (mS a 45 c) f) (ab_at iX4_fittingBits 9) [(4, vI (nI i)), (3, vI (ftN ((rsN m ns (bgG g A, bgN m A)).2 9) told off i)), (0, vR 13 0), (1, vI told), (2, vI off)] [] (hX mb (mS (mS x 42 w) 41 r) (mS a 45 c) f) := by
    intro k
    induction k with
    | zero =>
      intro i hi
      refine ab_run [9] 100 oX4_fittingBits.1 (Nat.le_refl _) 9 ?_
      refine ⟨fun c1 => ?_, fun (c1 : ¬ x 17 5 ≤ nI i) => ?_⟩
      · refine ⟨?_, rfl⟩
        rw [show i = m by omega]
      · rw [exm] at c1
        exact absurd (nI_le (by omega) (by omega)) c1
    | succ k ih =>
      intro i hi
      have hnx := ih (i + 1) (by omega)
      rw [nI_succ] at hnx
      refine ab_run [9] 100 oX4_fittingBits.1 (Nat.le_refl _) 9 ?_
      refine ⟨fun (c1 : x 17 5 ≤ nI i) => ?_, fun c1 => ?_⟩
      · rw [exm] at c1
        exact absurd c1 (nI_lt_m (by omega) (by omega))
      refine ⟨(vp_in_nI (by omega) (by omega) : vp_in (nI i) 8), ?_⟩
      rw [nI_clamp (by omega)]
      refine ⟨_, _, x_isWithin _ _ (Nat.le_refl _) (c i) told off, Nat.le_refl _, ?_⟩
      rw [abs_eq, hc i (by omega)]
      refine br_z (fun c2 => ?_) (fun c2 => ?_)
      · rw [show ftN ((rsN m ns (bgG g A, bgN m A)).2 9) told off (i + 1) = ftN ((rsN m ns (bgG g A, bgN m A)).2 9) told off i from if_neg c2] at hnx
        exact hnx
      · rw [show ftN ((rsN m ns (bgG g A, bgN m A)).2 9) told off (i + 1) = ftN ((rsN m ns (bgG g A, bgN m A)).2 9) told off i ||| ((1 : Int32) <<< (nI i &&& 31)) from if_pos c2] at hnx
        exact hnx
  refine ab_run [9] 100 oX4_fittingBits.1 (Nat.le_refl _) 0 ?_
  refine ⟨_, _, hl, Nat.le_refl _, ?_⟩
  exact loop m 0 (by omega)
set_option maxRecDepth 100000 in
theorem m_fit {g : mG} {A x a : mA} {f : mF} (h : IV g A x a f) {m ns : Nat} (em : A 2 3 = nI m) (hm : m ≤ 8) (en : A 2 4 = nI ns) (hn : ns ≤ 8) (told off : Int32) (d : Nat) (xs : List AB) : ab_Ex (d + 8) 0 yX5_fitOf [vR 0 0, vI told, vI off] (hM g A xs) (some (vI (ftN ((rsN m ns (bgG g A, bgN m A)).2 9) told off m))) (hM (rsN m ns (bgG g A, bgN m A)).1 (rsN m ns (bgG g A, bgN m A)).2 xs) := by
  have hcd := m_counted h em hm en hn d xs
  have e2 : (rsN m ns (bgG g A, bgN m A)).2 2 = A 2 := by
    rw [rsN_A _ _ _ (by decide) (by decide) (by decide)]
    exact bgN_n m A (by decide) (by decide) (by decide)
  generalize hQ : rsN m ns (bgG g A, bgN m A) = Q at hcd e2 ⊢
  refine ab_meth oX5_fitOf (d + 7) _ _ _ _ (Nat.le_refl _) rfl (fun E => ?_)
  have loop : ∀ (k i : Nat), i + k = m → ab_W jX5_fitOf (d + 7) E (hM g A xs) 70 (fun v1 h1 => v1 = some (vI (ftN (Q.2 9) told off m)) ∧ h1 = hM Q.1 Q.2 xs) (ab_at iX5_fitOf 9) [(4, vI (nI i)), (3, vI (ftN (Q.2 9) told off i)), (0, vR 0 0), (1, vI told), (2, vI off)] [] (hM Q.1 Q.2 xs) := by
    intro k
    induction k with
    | zero =>
      intro i hi
      refine ab_run [9] 100 oX5_fitOf.1 (Nat.le_refl _) 9 ?_
      refine ⟨vp_d rfl, fun c1 => ?_, fun (c1 : ¬ Q.2 2 3 ≤ nI i) => ?_⟩
      · refine ⟨?_, rfl⟩
        rw [show i = m by omega]
      · rw [e2, em] at c1
        exact absurd (nI_le (by omega) (by omega)) c1
    | succ k ih =>
      intro i hi
      have hnx := ih (i + 1) (by omega)
      rw [nI_succ] at hnx
      refine ab_run [9] 100 oX5_fitOf.1 (Nat.le_refl _) 9 ?_
      refine ⟨vp_d rfl, fun (c1 : Q.2 2 3 ≤ nI i) => ?_, fun c1 => ?_⟩
      · rw [e2, em] at c1
        exact absurd c1 (nI_lt_m (by omega) (by omega))
      refine ⟨(vp_in_nI (by omega) (by omega) : vp_in (nI i) 8), ?_⟩
      rw [nI_clamp (by omega)]
      refine ⟨_, _, m_amount _ _ (Nat.le_refl _) (Q.2 9 i - told), Nat.le_refl _, ?_⟩
      refine ⟨fun c2 => ?_, fun c2 => ?_⟩
      · rw [show ftN (Q.2 9) told off (i + 1) = ftN (Q.2 9) told off i from if_neg (lt_nle c2), ← Int32.or_zero (a := ftN (Q.2 9) told off i)] at hnx
        exact hnx
      · rw [show ftN (Q.2 9) told off (i + 1) = ftN (Q.2 9) told off i ||| ((1 : Int32) <<< (nI i &&& 31)) from if_pos (nlt_le c2)] at hnx
        exact hnx
  refine ab_run [9] 100 oX5_fitOf.1 (Nat.le_refl _) 0 ?_
  refine ⟨_, _, hcd, Nat.le_refl _, ?_⟩
  exact loop m 0 (by omega)
theorem p_fit : P_fit IV 40 := by
  intro p1 p2 g A x a f h
  obtain ⟨m, hm, em, exm⟩ := IV_m h
  obtain ⟨ns, hn, en, exn⟩ := IV_ns h
  by_cases c0 : p1 < 0 ∨ p2 < 0
  · refine pr_rf h rc4 ?_ (fun xs => ?_)
    · refine ab_meth oX4_fit 39 _ _ _ _ (Nat.le_refl _) rfl (fun E => ?_)
      refine ab_run [] 100 oX4_fit.1 (Nat.le_refl _) 0 ?_
      exact ⟨fun c => ⟨_, _, x_rf _ _ x a f rc4, Nat.le_refl _, rfl, rfl⟩, fun c => ⟨fun c' => absurd c0 (fun q => q.elim c (le_nlt c')), fun c' => ⟨_, _, x_rf _ _ x a f rc4, Nat.le_refl _, rfl, rfl⟩⟩⟩
    · refine ab_meth oX5_fit 39 _ _ _ _ (Nat.le_refl _) rfl (fun E => ?_)
      refine ab_run [] 100 oX5_fit.1 (Nat.le_refl _) 0 ?_
      refine ⟨_, _, m_wrongCount _ _ (Nat.le_refl _) _ _, Nat.le_refl _, ?_⟩
      rw [show wrongI p1 p2 = -4 from if_pos c0]
      refine ⟨fun c => absurd c (by decide), fun c => ?_⟩
      exact ⟨_, _, m_rf _ g A xs rc4, Nat.le_refl _, rfl, rfl⟩
  by_cases c1 : 9999 < p1 ∨ 9999 < p2
  · refine pr_rf h rc6 ?_ (fun xs => ?_)
    · refine ab_meth oX4_fit 39 _ _ _ _ (Nat.le_refl _) rfl (fun E => ?_)
      refine ab_run [] 100 oX4_fit.1 (Nat.le_refl _) 0 ?_
      refine ⟨fun c => absurd (Or.inl c) c0, fun c => ⟨fun c' => ?_, fun c' => absurd (Or.inr (nle_lt c')) c0⟩⟩
      exact ⟨fun c => ⟨_, _, x_rf _ _ x a f rc6, Nat.le_refl _, rfl, rfl⟩, fun c => ⟨fun c' => absurd c1 (fun q => q.elim c (le_nlt c')), fun c' => ⟨_, _, x_rf _ _ x a f rc6, Nat.le_refl _, rfl, rfl⟩⟩⟩
    · refine ab_meth oX5_fit 39 _ _ _ _ (Nat.le_refl _) rfl (fun E => ?_)
      refine ab_run [] 100 oX5_fit.1 (Nat.le_refl _) 0 ?_
      refine ⟨_, _, m_wrongCount _ _ (Nat.le_refl _) _ _, Nat.le_refl _, ?_⟩
      rw [show wrongI p1 p2 = -6 from (if_neg c0).trans (if_pos c1)]
      refine ⟨fun c => absurd c (by decide), fun c => ?_⟩
      exact ⟨_, _, m_rf _ g A xs rc6, Nat.le_refl _, rfl, rfl⟩
  obtain ⟨w, r, c, hx⟩ := x_fit h em hm en hn p1 p2 33 (mbl g A)
  refine pr_w (r := ftN ((rsN m ns (bgG g A, bgN m A)).2 9) p1 p2 m) (x' := mS (mS x 42 w) 41 r) (a' := mS a 45 c) (f' := f) (g' := (rsN m ns (bgG g A, bgN m A)).1) (A' := (rsN m ns (bgG g A, bgN m A)).2) ?_ (fun xs => ?_) (IV_wr (IV_cl (IV_rs m ns h) c) w r)
  · refine ab_meth oX4_fit 39 _ _ _ _ (Nat.le_refl _) rfl (fun E => ?_)
    refine ab_run [] 100 oX4_fit.1 (Nat.le_refl _) 0 ?_
    refine ⟨fun c => absurd (Or.inl c) c0, fun c => ⟨fun c' => ?_, fun c' => absurd (Or.inr (nle_lt c')) c0⟩⟩
    refine ⟨fun c => absurd (Or.inl c) c1, fun c => ⟨fun c' => ?_, fun c' => absurd (Or.inr (nle_lt c')) c1⟩⟩
    exact ⟨_, _, hx, Nat.le_refl _, rfl, rfl⟩
  · refine ab_meth oX5_fit 39 _ _ _ _ (Nat.le_refl _) rfl (fun E => ?_)
    refine ab_run [] 100 oX5_fit.1 (Nat.le_refl _) 0 ?_
    refine ⟨_, _, m_wrongCount _ _ (Nat.le_refl _) _ _, Nat.le_refl _, ?_⟩
    rw [show wrongI p1 p2 = 0 from (if_neg c0).trans (if_neg c1)]
    refine ⟨fun c => ?_, fun c => absurd rfl c⟩
    exact ⟨_, _, m_fit h em hm en hn p1 p2 31 xs, Nat.le_refl _, rfl, rfl⟩
def twF (i : Int32) (n : Nat) : Int32 := if i = -1 then nI n else -9
def twI (Q : Nat → Int32) (told off i : Int32) (u : Nat) (nx : Nat → Int32) : Nat → Nat → Nat → Int32
  | 0, _, n => nx n
  | k + 1, v, n => if absI (Q u + Q v - told) ≤ off then (if nI n = i then 10 * nI u + nI v else twI Q told off i u nx k (v + 1) (n + 1)) else twI Q told off i u nx k (v + 1) n
def twO (Q : Nat → Int32) (told off i : Int32) (m : Nat) : Nat → Nat → Nat → Int32
  | 0, _, n => twF i n
  | k + 1, u, n => twI Q told off i u (twO Q told off i m k (u + 1)) (m - (u + 1)) (u + 1) n
set_option maxRecDepth 100000 in
theorem x_twos {m : Nat} {x a : mA} {f : mF} (exm : x 17 5 = nI m) (hm : m ≤ 8) (d : Nat) (mb : Nat → AB) (p1 p2 p3 : Int32) (R : Int32) (h0 : AH) (Q c : Nat → Int32) (hc : ∀ j, j < m → c j = Q j) (E : Nat × (Nat → Int32)) : ∀ (k u n : Nat), u + k = m → R = twO Q p1 p2 p3 m k u n → ab_W jX4_twos (d + 3) E h0 70 (fun v1 h1 => v1 = some (vI R) ∧ h1 = hX mb x (mS a 45 c) f) (ab_at iX4_twos 51) [(5, vI (nI u)), (4, vI (nI n)), (0, vR 13 0), (1, vI p1), (2, vI p2), (3, vI p3)] [] (hX mb x (mS a 45 c) f) := by
  intro k
  induction k with
  | zero =>
    intro u n hu hR
    refine ab_run [51, 69] 100 oX4_twos.1 (Nat.le_refl _) 51 ?_
    refine ⟨fun c1 => ?_, fun (c1 : ¬ x 17 5 ≤ nI u) => ?_⟩
    · rw [hR]
      show _ ∧ _
      unfold twO twF
      refine ⟨fun c2 => ?_, fun c2 => ?_⟩
      · rw [if_neg c2]
        exact ⟨rfl, rfl⟩
      · rw [if_pos c2]
        exact ⟨rfl, rfl⟩
    · rw [exm] at c1
      exact absurd (nI_le (by omega) (by omega)) c1
  | succ k ih =>
    intro u n hu hR
    have inner : ∀ (l v n : Nat), v + l = m → R = twI Q p1 p2 p3 u (twO Q p1 p2 p3 m k (u + 1)) l v n → ab_W jX4_twos (d + 3) E h0 70 (fun v1 h1 => v1 = some (vI R) ∧ h1 = hX mb x (mS a 45 c) f) (ab_at iX4_twos 69) [(6, vI (nI v)), (5, vI (nI u)), (4, vI (nI n)), (0, vR 13 0), (1, vI p1), (2, vI p2), (3, vI p3)] [] (hX mb x (mS a 45 c) f) := by
      intro l
      induction l with
      | zero =>
        intro v n hv hR
        refine ab_run [51, 69] 100 oX4_twos.1 (Nat.le_refl _) 69 ?_
        refine ⟨fun c1 => ?_, fun (c1 : ¬ x 17 5 ≤ nI v) => ?_⟩
        · have h9 := ih (u + 1) n (by omega) hR
          rw [nI_succ] at h9
          exact ab_W_lv (lv_pk [0, 2, 3, 4, 5, 6] rfl) h9
        · rw [exm] at c1
          exact absurd (nI_le (by omega) (by omega)) c1
      | succ l ihl =>
        intro v n hv hR
        refine ab_run [51, 69] 100 oX4_twos.1 (Nat.le_refl _) 69 ?_
        refine ⟨fun (c1 : x 17 5 ≤ nI v) => ?_, fun c1 => ?_⟩
        · rw [exm] at c1
          exact absurd c1 (nI_lt_m (by omega) (by omega))
        refine ⟨(vp_in_nI (by omega) (by omega) : vp_in (nI u) 8), (vp_in_nI (by omega) (by omega) : vp_in (nI v) 8), ?_⟩
        rw [nI_clamp (by omega), nI_clamp (by omega)]
        refine ⟨_, _, x_isWithin _ _ (Nat.le_refl _) (c u + c v) p1 p2, Nat.le_refl _, ?_⟩
        rw [abs_eq, hc u (by omega), hc v (by omega)]
        unfold twI at hR
        refine br_z (fun c2 => ?_) (fun c2 => ?_)
        · rw [if_neg c2] at hR
          have h9 := ihl (v + 1) n (by omega) hR
          rw [nI_succ] at h9
          exact h9
        · rw [if_pos c2] at hR
          refine ⟨fun c3 => ?_, fun c3 => ?_⟩
          · rw [if_neg c3] at hR
            have h9 := ihl (v + 1) (n + 1) (by omega) hR
            rw [nI_succ, nI_succ] at h9
            exact ab_W_lv (lv_pk [0, 2, 1, 3, 4, 5, 6] rfl) h9
          · rw [if_pos c3] at hR
            rw [hR]
            exact ⟨rfl, rfl⟩
    refine ab_run [51, 69] 100 oX4_twos.1 (Nat.le_refl _) 51 ?_
    refine ⟨fun (c1 : x 17 5 ≤ nI u) => ?_, fun c1 => ?_⟩
    · rw [exm] at c1
      exact absurd c1 (nI_lt_m (by omega) (by omega))
    have h9 := inner (m - (u + 1)) (u + 1) n (by omega) hR
    rw [nI_succ] at h9
    exact h9
set_option maxRecDepth 100000 in
theorem m_twos {m : Nat} (hm : m ≤ 8) (d : Nat) (xs : List AB) (p1 p2 p3 : Int32) (h3 : ¬ p3 < -1) (R : Int32) (h0 : AH) (G : mG) (B : mA) (em : B 2 3 = nI m) (E : Nat × (Nat → Int32)) (w4 : Int32) : ∀ (k u n : Nat), u + k = m → R = twO (B 9) p1 p2 p3 m k u n → ab_W jX5_twos (d + 3) E h0 70 (fun v1 h1 => v1 = some (vI R) ∧ h1 = hM G B xs) (ab_at iX5_twos 38) [(6, vI (nI u)), (5, vI (nI n)), (4, vI w4), (0, vR 0 0), (1, vI p1), (2, vI p2), (3, vI p3)] [] (hM G B xs) := by
  intro k
  induction k with
  | zero =>
    intro u n hu hR
    refine ab_run [38, 55] 100 oX5_twos.1 (Nat.le_refl _) 38 ?_
    refine ⟨vp_d rfl, fun c1 => ?_, fun (c1 : ¬ B 2 3 ≤ nI u) => ?_⟩
    · rw [hR]
      unfold twO twF
      refine ⟨fun c2 => ?_, fun c2 => ?_⟩
      · rw [if_neg (fun q => by rw [q] at c2; exact absurd c2 (by decide))]
        exact ⟨rfl, rfl⟩
      · have c2 := Int32.lt_iff_toInt_lt.mp (nle_lt c2)
        have c3 := Int32.le_iff_toInt_le.mp (nlt_le h3)
        have z0 : (0 : Int32).toInt = 0 := rfl
        have z1 : (-1 : Int32).toInt = -1 := rfl
        rw [if_pos (Int32.toInt_inj.mp (by omega))]
        exact ⟨rfl, rfl⟩
    · rw [em] at c1
      exact absurd (nI_le (by omega) (by omega)) c1
  | succ k ih =>
    intro u n hu hR
    have inner : ∀ (l v n : Nat), v + l = m → R = twI (B 9) p1 p2 p3 u (twO (B 9) p1 p2 p3 m k (u + 1)) l v n → ab_W jX5_twos (d + 3) E h0 70 (fun v1 h1 => v1 = some (vI R) ∧ h1 = hM G B xs) (ab_at iX5_twos 55) [(7, vI (nI v)), (6, vI (nI u)), (5, vI (nI n)), (4, vI w4), (0, vR 0 0), (1, vI p1), (2, vI p2), (3, vI p3)] [] (hM G B xs) := by
      intro l
      induction l with
      | zero =>
        intro v n hv hR
        refine ab_run [38, 55] 100 oX5_twos.1 (Nat.le_refl _) 55 ?_
        refine ⟨vp_d rfl, fun c1 => ?_, fun (c1 : ¬ B 2 3 ≤ nI v) => ?_⟩
        · have h9 := ih (u + 1) n (by omega) hR
          rw [nI_succ] at h9
          exact ab_W_lv (lv_pk [0, 2, 3, 4, 5, 6, 7] rfl) h9
        · rw [em] at c1
          exact absurd (nI_le (by omega) (by omega)) c1
      | succ l ihl =>
        intro v n hv hR
        refine ab_run [38, 55] 100 oX5_twos.1 (Nat.le_refl _) 55 ?_
        refine ⟨vp_d rfl, fun (c1 : B 2 3 ≤ nI v) => ?_, fun c1 => ?_⟩
        · rw [em] at c1
          exact absurd c1 (nI_lt_m (by omega) (by omega))
        refine ⟨(vp_in_nI (by omega) (by omega) : vp_in (nI u) 8), (vp_in_nI (by omega) (by omega) : vp_in (nI v) 8), ?_⟩
        rw [nI_clamp (by omega), nI_clamp (by omega)]
        refine ⟨_, _, m_amount _ _ (Nat.le_refl _) (B 9 u + B 9 v - p1), Nat.le_refl _, ?_⟩
        unfold twI at hR
        refine ⟨fun c2 => ?_, fun c2 => ?_⟩
        · rw [if_pos c2] at hR
          refine ⟨fun c3 => ?_, fun c3 => ?_⟩
          · rw [if_neg c3] at hR
            have h9 := ihl (v + 1) (n + 1) (by omega) hR
            rw [nI_succ, nI_succ] at h9
            exact ab_W_lv (lv_pk [0, 2, 1, 3, 4, 5, 6, 7] rfl) h9
          · rw [if_pos c3] at hR
            rw [hR]
            exact ⟨rfl, rfl⟩
        · rw [if_neg c2] at hR
          have h9 := ihl (v + 1) n (by omega) hR
          rw [nI_succ] at h9
          exact h9
    refine ab_run [38, 55] 100 oX5_twos.1 (Nat.le_refl _) 38 ?_
    refine ⟨vp_d rfl, fun (c1 : B 2 3 ≤ nI u) => ?_, fun c1 => ?_⟩
    · rw [em] at c1
      exact absurd c1 (nI_lt_m (by omega) (by omega))
    have h9 := inner (m - (u + 1)) (u + 1) n (by omega) hR
    rw [nI_succ] at h9
    exact h9
theorem p_twos : P_twos IV 40 := by
  intro p1 p2 p3 g A x a f h
  obtain ⟨m, hm, em, exm⟩ := IV_m h
  obtain ⟨ns, hn, en, exn⟩ := IV_ns h
  by_cases c0 : p1 < 0 ∨ p2 < 0 ∨ p3 < -1
  · refine pr_rf h rc4 ?_ (fun xs => ?_)
    · refine ab_meth oX4_twos 39 _ _ _ _ (Nat.le_refl _) rfl (fun E => ?_)
      refine ab_run [51, 69] 100 oX4_twos.1 (Nat.le_refl _) 0 ?_
      exact ⟨fun c => ⟨_, _, x_rf _ _ x a f rc4, Nat.le_refl _, rfl, rfl⟩, fun c => ⟨fun c' => ⟨_, _, x_rf _ _ x a f rc4, Nat.le_refl _, rfl, rfl⟩, fun c' => ⟨fun d' => absurd c0 (fun q => q.elim c (fun q => q.elim c' (le_nlt d'))), fun d' => ⟨_, _, x_rf _ _ x a f rc4, Nat.le_refl _, rfl, rfl⟩⟩⟩⟩
    · refine ab_meth oX5_twos 39 _ _ _ _ (Nat.le_refl _) rfl (fun E => ?_)
      refine ab_run [38, 55] 100 oX5_twos.1 (Nat.le_refl _) 0 ?_
      refine ⟨_, _, m_wrongCount _ _ (Nat.le_refl _) _ _, Nat.le_refl _, ?_⟩
      refine ⟨fun c => ?_, fun c => ?_⟩
      · have e4 : wrongI p1 p2 = -4 := if_pos (c0.elim Or.inl (fun q => q.elim Or.inr (fun q => absurd q (le_nlt c))))
        rw [e4]
        refine ⟨fun c => absurd c (by decide), fun c => ?_⟩
        exact ⟨_, _, m_rf _ g A xs rc4, Nat.le_refl _, rfl, rfl⟩
      · refine ⟨fun c => absurd c (by decide), fun c => ?_⟩
        exact ⟨_, _, m_rf _ g A xs rc4, Nat.le_refl _, rfl, rfl⟩
  have n3 : ¬ p3 < -1 := fun q => c0 (Or.inr (Or.inr q))
  have n0 : ¬ (p1 < 0 ∨ p2 < 0) := fun q => c0 (q.elim Or.inl (fun q => Or.inr (Or.inl q)))
  by_cases c1 : 9999 < p1 ∨ 9999 < p2
  · refine pr_rf h rc6 ?_ (fun xs => ?_)
    · refine ab_meth oX4_twos 39 _ _ _ _ (Nat.le_refl _) rfl (fun E => ?_)
      refine ab_run [51, 69] 100 oX4_twos.1 (Nat.le_refl _) 0 ?_
      refine ⟨fun c => absurd (Or.inl c) c0, fun c => ⟨fun c' => absurd (Or.inr (Or.inl c')) c0, fun c' => ⟨fun d' => ?_, fun d' => absurd (Or.inr (Or.inr (nle_lt d'))) c0⟩⟩⟩
      exact ⟨fun c => ⟨_, _, x_rf _ _ x a f rc6, Nat.le_refl _, rfl, rfl⟩, fun c => ⟨fun c' => absurd c1 (fun q => q.elim c (le_nlt c')), fun c' => ⟨_, _, x_rf _ _ x a f rc6, Nat.le_refl _, rfl, rfl⟩⟩⟩
    · refine ab_meth oX5_twos 39 _ _ _ _ (Nat.le_refl _) rfl (fun E => ?_)
      refine ab_run [38, 55] 100 oX5_twos.1 (Nat.le_refl _) 0 ?_
      refine ⟨_, _, m_wrongCount _ _ (Nat.le_refl _) _ _, Nat.le_refl _, ?_⟩
      rw [show wrongI p1 p2 = -6 from (if_neg n0).trans (if_pos c1)]
      refine ⟨fun c => ?_, fun c => absurd (nle_lt c) n3⟩
      refine ⟨fun c => absurd c (by decide), fun c => ?_⟩
      exact ⟨_, _, m_rf _ g A xs rc6, Nat.le_refl _, rfl, rfl⟩
  obtain ⟨w, r, ca, hc, hl⟩ := x_listen h em hm en hn 34 (mbl g A)
  refine pr_w (r := twO ((rsN m ns (bgG g A, bgN m A)).2 9) p1 p2 p3 m m 0 0) (x' := mS (mS x 42 w) 41 r) (a' := mS a 45 ca) (f' := f) (g' := (rsN m ns (bgG g A, bgN m A)).1) (A' := (rsN m ns (bgG g A, bgN m A)).2) ?_ (fun xs => ?_) (IV_wr (IV_cl (IV_rs m ns h) ca) w r)
  · refine ab_meth oX4_twos 39 _ _ _ _ (Nat.le_refl _) rfl (fun E => ?_)
    refine ab_run [51, 69] 100 oX4_twos.1 (Nat.le_refl _) 0 ?_
    refine ⟨fun c => absurd (Or.inl c) c0, fun c => ⟨fun c' => absurd (Or.inr (Or.inl c')) c0, fun c' => ⟨fun d' => ?_, fun d' => absurd (Or.inr (Or.inr (nle_lt d'))) c0⟩⟩⟩
    refine ⟨fun c => absurd (Or.inl c) c1, fun c => ⟨fun c' => ?_, fun c' => absurd (Or.inr (nle_lt c')) c1⟩⟩
    refine ⟨_, _, hl, Nat.le_refl _, ?_⟩
    exact x_twos (x := mS (mS x 42 w) 41 r) (a := a) (f := f) exm hm 36 (mbl g A) p1 p2 p3 _ _ _ ca hc E m 0 0 (by omega) rfl
  · have e2 : (rsN m ns (bgG g A, bgN m A)).2 2 = A 2 := by
      rw [rsN_A _ _ _ (by decide) (by decide) (by decide)]
      exact bgN_n m A (by decide) (by decide) (by decide)
    refine ab_meth oX5_twos 39 _ _ _ _ (Nat.le_refl _) rfl (fun E => ?_)
    refine ab_run [38, 55] 100 oX5_twos.1 (Nat.le_refl _) 0 ?_
    refine ⟨_, _, m_wrongCount _ _ (Nat.le_refl _) _ _, Nat.le_refl _, ?_⟩
    rw [show wrongI p1 p2 = 0 from (if_neg n0).trans (if_neg c1)]
    refine ⟨fun c => ?_, fun c => absurd (nle_lt c) n3⟩
    refine ⟨fun c => ?_, fun c => absurd rfl c⟩
    refine ⟨_, _, m_counted h em hm en hn 32 xs, Nat.le_refl _, ?_⟩
    exact m_twos hm 36 xs p1 p2 p3 n3 _ _ _ _ (by rw [e2]; exact em) E 0 m 0 0 (by omega) rfl
end
section
theorem m_areTwo (d : Nat) (g : mG) (A : mA) (xs : List AB) (u v : Int32) : ab_Ex (d + 3) 0 yX5_areTwo [vR 0 0, vI u, vI v] (hM g A xs) (some (vI (bI ((0 ≤ u ∧ u < A 2 3) ∧ (0 ≤ v ∧ v < A 2 3) ∧ ¬ u = v)))) (hM g A xs) := by
  refine ab_meth oX5_areTwo (d + 2) _ _ _ _ (Nat.le_refl _) rfl (fun E => ?_)
  refine ab_run [] 50 oX5_areTwo.1 (Nat.le_refl _) 0 ?_
  refine ⟨_, _, m_isFault d g A xs u, Nat.le_refl _, br_z (fun c1 => ?_) (fun c1 => ?_)⟩
  · refine ⟨Or.inl rfl, ?_, rfl⟩
    rw [bI_f (fun q => c1 q.1)]
  refine ⟨_, _, m_isFault d g A xs v, Nat.le_refl _, br_z (fun c2 => ?_) (fun c2 => ?_)⟩
  · refine ⟨Or.inl rfl, ?_, rfl⟩
    rw [bI_f (fun q => c2 q.2.1)]
  refine ⟨fun c3 => ?_, fun c3 => ?_⟩
  · refine ⟨Or.inl rfl, ?_, rfl⟩
    rw [bI_f (fun q => q.2.2 c3)]
  · refine ⟨Or.inr rfl, ?_, rfl⟩
    rw [bI_t ⟨c1, c2, c3⟩]
-- judge
def jdN (t C : Nat → Int32) (n m : Nat) : Nat → Nat → Int32
  | 0, _ => if n = m then -9 else nI (min n m)
  | k + 1, i => if t i = C i then jdN t C n m k (i + 1) else nI i
set_option maxRecDepth 100000 in
theorem p_judge : P_judge IV 40 := by
  intro g A x a f h
  obtain ⟨m, hm, em, exm⟩ := IV_m h
  obtain ⟨ns, hn, en, exn⟩ := IV_ns h
  obtain ⟨n, hn8, e6, ex6, hr⟩ := h.2.2.1
  have h1 : IV (upd g 24 0) A (mS x 13 (upd (x 13) 10 0)) a f := ⟨h.1, h.2.1, ⟨0, by omega, nI_0.symm, nI_0.symm, fun k hk => absurd hk (Nat.not_lt_zero k)⟩, h.2.2.2⟩
  obtain ⟨w, r, ca, hc, hl⟩ := x_listen h1 em hm en hn 34 (mbl g A)
  have e2 : (rsN m ns (bgG (upd g 24 0) A, bgN m A)).2 2 = A 2 := by
    rw [rsN_A _ _ _ (by decide) (by decide) (by decide)]
    exact bgN_n m A (by decide) (by decide) (by decide)
  have e12 : (rsN m ns (bgG (upd g 24 0) A, bgN m A)).2 12 = A 12 := by
    rw [rsN_A _ _ _ (by decide) (by decide) (by decide)]
    exact bgN_n m A (by decide) (by decide) (by decide)
  have hcd := fun xs => m_counted h1 em hm en hn 32 xs
  have hIV := IV_wr (IV_cl (IV_rs m ns h1) ca) w r
  generalize rsN m ns (bgG (upd g 24 0) A, bgN m A) = Q at hc e2 e12 hcd hIV
  obtain ⟨R, hR0⟩ : ∃ R : Int32, R = jdN (A 12) (Q.2 9) n m (min n m) 0 := ⟨_, rfl⟩
  refine pr_w (r := R) (x' := mS (mS (mS x 13 (upd (x 13) 10 0)) 42 w) 41 r) (a' := mS a 45 ca) (f' := f) (g' := Q.1) (A' := Q.2) ?_ (fun xs => ?_) hIV
  · refine ab_meth oX4_judge 39 _ _ _ _ (Nat.le_refl _) rfl (fun E => ?_)
    have loop : ∀ (k i : Nat) (mn : Int32), mn = nI (min n m) → i + k = min n m → R = jdN (A 12) (Q.2 9) n m k i → ab_W jX4_judge 39 E (hX (mbl g A) x a f) 70 (fun v1 h1 => v1 = some (vI R) ∧ h1 = hX (mbl g A) (mS (mS (mS x 13 (upd (x 13) 10 0)) 42 w) 41 r) (mS a 45 ca) f) (ab_at iX4_judge 28) [(3, vI (nI i)), (2, vI mn), (1, vI (x 13 10)), (0, vR 13 0)] [] (hX (mbl g A) (mS (mS (mS x 13 (upd (x 13) 10 0)) 42 w) 41 r) (mS a 45 ca) f) := by
      intro k
      induction k with
      | zero =>
        intro i mn hmn hi hR
        refine ab_run [28] 100 oX4_judge.1 (Nat.le_refl _) 28 ?_
        rw [hmn]
        refine ⟨fun c1 => ?_, fun c1 => absurd (nI_le (by omega) (by omega)) c1⟩
        unfold jdN at hR
        refine ⟨fun (c2 : ¬ x 13 10 = x 17 5) => ?_, fun (c2 : x 13 10 = x 17 5) => ?_⟩
        · rw [ex6, exm] at c2
          rw [if_neg (fun q => c2 (by rw [q]))] at hR
          rw [hR]
          exact ⟨rfl, rfl⟩
        · rw [ex6, exm] at c2
          rw [if_pos ((nI_eq (by omega) (by omega)).mp c2)] at hR
          rw [hR]
          exact ⟨rfl, rfl⟩
      | succ k ih =>
        intro i mn hmn hi hR
        refine ab_run [28] 100 oX4_judge.1 (Nat.le_refl _) 28 ?_
        refine ⟨fun c1 => ?_, fun c1 => ?_⟩
        · rw [hmn] at c1
          exact absurd c1 (nI_ge (by omega) (by omega))
        refine ⟨(vp_in_nI (by omega) (by omega) : vp_in (nI i) 8), (vp_in_nI (by omega) (by omega) : vp_in (nI i) 8), ?_⟩
        rw [nI_clamp (by omega)]
        have hx : a 47 i = A 12 i := (hr i (by omega)).symm
        have hy : ca i = Q.2 9 i := hc i (by omega)
        unfold jdN at hR
        refine ⟨fun (c2 : a 47 i = ca i) => ?_, fun (c2 : ¬ a 47 i = ca i) => ?_⟩
        · rw [hx, hy] at c2
          rw [if_pos c2] at hR
          have h9 := ih (i + 1) mn hmn (by omega) hR
          rw [nI_succ] at h9
          exact h9
        · rw [hx, hy] at c2
          rw [if_neg c2] at hR
          have hR : R = nI i := hR
          rw [hR]
          exact ⟨rfl, rfl⟩
    refine ab_run [28] 100 oX4_judge.1 (Nat.le_refl _) 0 ?_
    refine ⟨_, _, hl, Nat.le_refl _, ?_⟩
    have hmn : (if x 17 5 < x 13 10 then x 17 5 else x 13 10) = nI (min n m) := by
      rw [ex6, exm]
      by_cases q : nI m < nI n
      · have q2 := (nI_ltI (by omega) (by omega)).mp q
        rw [if_pos q, show min n m = m by omega]
      · have q2 : ¬ m < n := fun z => q ((nI_ltI (by omega) (by omega)).mpr z)
        rw [if_neg q, show min n m = n by omega]
    exact loop (min n m) 0 _ hmn (by omega) hR0
  · refine ab_meth oX5_judge 39 _ _ _ _ (Nat.le_refl _) rfl (fun E => ?_)
    have loop : ∀ (k i : Nat), i + k = min n m → R = jdN (A 12) (Q.2 9) n m k i → ab_W jX5_judge 39 E (hM g A xs) 70 (fun v1 h1 => v1 = some (vI R) ∧ h1 = hM Q.1 Q.2 xs) (ab_at iX5_judge 16) [(2, vI (nI i)), (1, vI (g 24)), (0, vR 0 0)] [] (hM Q.1 Q.2 xs) := by
      intro k
      induction k with
      | zero =>
        intro i hi hR
        refine ab_run [16] 100 oX5_judge.1 (Nat.le_refl _) 16 ?_
        unfold jdN at hR
        refine ⟨vp_d rfl, fun (c1 : Q.2 2 3 ≤ nI i) => ?_, fun (c1 : ¬ Q.2 2 3 ≤ nI i) => ?_⟩
        · rw [e2, em] at c1
          have c1 := (nI_leI (by omega) (by omega)).mp c1
          refine ⟨vp_d rfl, fun (c2 : g 24 ≤ Q.2 2 3) => ?_, fun (c2 : ¬ g 24 ≤ Q.2 2 3) => ?_⟩
          · rw [e2, em, e6] at c2
            have c2 := (nI_leI (by omega) (by omega)).mp c2
            rw [if_pos (show n = m by omega)] at hR
            rw [hR]
            exact ⟨rfl, rfl⟩
          · rw [e2, em, e6] at c2
            rw [if_neg (fun q => c2 (by rw [q]; exact nI_le (Nat.le_refl _) (by omega)))] at hR
            refine ⟨vp_d rfl, ?_, rfl⟩
            rw [hR]
            show some (vI (Q.2 2 3)) = _
            rw [e2, em, show min n m = m by omega]
        · rw [e2, em] at c1
          have c1 : i < m := Nat.lt_of_not_le (fun z => c1 (nI_le z (by omega)))
          have hin : i = n := by omega
          refine ⟨fun c2 => absurd (by rw [e6, hin]) c2, fun c2 => ?_⟩
          rw [if_neg (show ¬ n = m by omega)] at hR
          refine ⟨?_, rfl⟩
          rw [hR, e6, show min n m = n by omega]
      | succ k ih =>
        intro i hi hR
        refine ab_run [16] 100 oX5_judge.1 (Nat.le_refl _) 16 ?_
        refine ⟨vp_d rfl, fun (c1 : Q.2 2 3 ≤ nI i) => ?_, fun c1 => ?_⟩
        · rw [e2, em] at c1
          exact absurd c1 (nI_lt_m (by omega) (by omega))
        refine ⟨fun c2 => ?_, fun c2 => ?_⟩
        · refine ⟨(vp_in_nI (by omega) (by omega) : vp_in (nI i) 8), (vp_in_nI (by omega) (by omega) : vp_in (nI i) 8), ?_⟩
          rw [nI_clamp (by omega)]
          unfold jdN at hR
          refine ⟨fun (c3 : Q.2 12 i = Q.2 9 i) => ?_, fun (c3 : ¬ Q.2 12 i = Q.2 9 i) => ?_⟩
          · rw [e12] at c3
            rw [if_pos c3] at hR
            have h9 := ih (i + 1) (by omega) hR
            rw [nI_succ] at h9
            exact h9
          · rw [e12] at c3
            rw [if_neg c3] at hR
            have hR : R = nI i := hR
            rw [hR]
            exact ⟨rfl, rfl⟩
        · rw [e6] at c2
          have := (nI_eq (by omega) (by omega)).mp c2
          omega
    refine ab_run [16] 100 oX5_judge.1 (Nat.le_refl _) 0 ?_
    refine ⟨_, _, hcd xs, Nat.le_refl _, ?_⟩
    exact loop (min n m) 0 (by omega) hR0
-- what a stage counts, said of the class's numbers alone
noncomputable def cvV (x a : mA) (f : mF) (act : Int32) (w T j : Nat) : Int32 := (stX x a act (nI w) T (bgQ x f j (-9) (fun _ => 0))).2 5
theorem cis_val {g : mG} {A x a : mA} {f : mF} (h : IV g A x a f) {m j w T : Nat} (em : A 2 3 = nI m) (hm : m ≤ 8) (hj : j < m) (hw : w < 5) (hg : (w : Int) < (A 2 2).toInt) (hT : T ≤ 60) {act : Int32} (ha1 : 0 ≤ act.toInt) (ha2 : act.toInt ≤ 5) : (sgN m act T (bgG g A, opN w m (bgN m A))).2 9 j = cvV x a f act w T j := by
  have e2 : bgN m A 2 = A 2 := bgN_n m A (by decide) (by decide) (by decide)
  have h0 := IV_r0 h
  have hRJ := RJ_begin h em hm hj (G := bgG g A) rfl rfl (-9) (fun _ => 0)
  obtain ⟨s1, -, -⟩ := RJ_stage (f := f) (x := x) (a := a) (w := w) (T := T) (act := act) (by rw [e2]; exact h.2.2.2.2.1) (by rw [e2]; exact h.2.2.2.2.2.1) (by rw [e2]; exact em) hj hm hw (by rw [e2]; exact hg) hT ha1 ha2 h0.1 (by show (A 2 5).toInt ≤ 20000; omega) hRJ
  exact s1.2.2.2.2.2.2.1.symm
theorem act_rng {k : Nat} (hk : k < 4) : 0 ≤ (nI k).toInt ∧ (nI k).toInt ≤ 5 := by
  rw [nI_toInt (by omega)]
  omega
end
section
noncomputable def cvU (x a : mA) (f : mF) (T i : Nat) : Nat → Nat → Int32 := fun act w => cvV x a f (nI act) w T i
theorem x_cisV {g : mG} {A x a : mA} {f : mF} (h : IV g A x a f) {m ng j w T act : Nat} (em : A 2 3 = nI m) (hm : m ≤ 8) (eg : A 2 2 = nI ng) (hng : ng ≤ 5) (hj : j < m) (hw : w < ng) (hT : T ≤ 60) (ha : act < 4) (d : Nat) (mb : Nat → AB) (u r : Nat → Int32) : ∃ u' r' : Nat → Int32, ab_Ex (d + 4) 0 yX4_clicksInStage [vR 13 0, vI (nI j), vI (nI act), vI (nI w), vI (nI T)] (hX mb (mS (mS x 42 u) 41 r) a f) (some (vI (cvU x a f T j act w))) (hX mb (mS (mS x 42 u') 41 r') a f) := by
  have hg : (w : Int) < (A 2 2).toInt := by rw [eg, nI_toInt (by omega)]; omega
  have hr := act_rng ha
  exact ⟨_, _, ex_r (x_cis h em hm hj (by omega) hg hT hr.1 hr.2 d mb u r) (cis_val h em hm hj (by omega) hg hT hr.1 hr.2)⟩
theorem sg_2 {G : mG} {B : mA} {m w T : Nat} {act : Int32} : (sgN m act T (bgG G B, opN w m (bgN m B))).2 2 = B 2 := by
  rw [sgN_A _ _ _ _ (by decide) (by decide)]
  show opN w m (bgN m B) 2 = B 2
  rw [opN_n _ _ _ (by decide) (by decide)]
  exact bgN_n m B (by decide) (by decide) (by decide)
def apI (u v : Nat → Nat → Int32) (act : Nat) (nx : Int32) : Nat → Nat → Int32
  | 0, _ => nx
  | k + 1, w => if u act w = v act w then apI u v act nx k (w + 1) else 10 * nI act + nI w
def apO (u v : Nat → Nat → Int32) (ng : Nat) : Nat → Nat → Int32
  | 0, _ => -9
  | k + 1, act => apI u v act (apO u v ng k (act + 1)) ng 0
set_option maxRecDepth 100000 in
theorem x_apart {g : mG} {A x a : mA} {f : mF} (h : IV g A x a f) {m ng i j : Nat} (em : A 2 3 = nI m) (hm : m ≤ 8) (eg : A 2 2 = nI ng) (hng : ng ≤ 5) (hi : i < m) (hj : j < m) (d : Nat) (mb : Nat → AB) (h0 : AH) (R : Int32) : ∀ (k act : Nat) (u r : Nat → Int32), act + k = 4 → R = apO (cvU x a f 20 i) (cvU x a f 20 j) ng k act → ∃ u' r' : Nat → Int32, ∀ E, ab_W jX4_apart (d + 4) E h0 70 (fun v1 h1 => v1 = some (vI R) ∧ h1 = hX mb (mS (mS x 42 u') 41 r') a f) (ab_at iX4_apart 17) [(3, vI (nI act)), (0, vR 13 0), (1, vI (nI i)), (2, vI (nI j))] [] (hX mb (mS (mS x 42 u) 41 r) a f) := by
  have exg : x 17 3 = nI ng := by rw [← h.2.2.2.2.2.1.1.2.2.1]; exact eg
  intro k
  induction k with
  | zero =>
    intro act u r ha hR
    refine ⟨u, r, fun E => ?_⟩
    refine ab_run [17, 25] 100 oX4_apart.1 (Nat.le_refl _) 17 ?_
    refine ⟨fun c1 => ?_, fun c1 => absurd (show nI 4 ≤ nI act from nI_le (by omega) (by omega)) c1⟩
    have hR : R = -9 := hR
    rw [hR]
    exact ⟨rfl, rfl⟩
  | succ k ih =>
    intro act u r ha hR
    have inner : ∀ (l w : Nat) (u r : Nat → Int32), w + l = ng → R = apI (cvU x a f 20 i) (cvU x a f 20 j) act (apO (cvU x a f 20 i) (cvU x a f 20 j) ng k (act + 1)) l w → ∃ u' r' : Nat → Int32, ∀ E, ab_W jX4_apart (d + 4) E h0 70 (fun v1 h1 => v1 = some (vI R) ∧ h1 = hX mb (mS (mS x 42 u') 41 r') a f) (ab_at iX4_apart 25) [(4, vI (nI w)), (3, vI (nI act)), (0, vR 13 0), (1, vI (nI i)), (2, vI (nI j))] [] (hX mb (mS (mS x 42 u) 41 r) a f) := by
      intro l
      induction l with
      | zero =>
        intro w u r hw hR
        obtain ⟨u', r', hW⟩ := ih (act + 1) u r (by omega) hR
        refine ⟨u', r', fun E => ?_⟩
        refine ab_run [17, 25] 100 oX4_apart.1 (Nat.le_refl _) 25 ?_
        refine ⟨fun c1 => ?_, fun (c1 : ¬ x 17 3 ≤ nI w) => ?_⟩
        · have h9 := hW E
          rw [nI_succ] at h9
          exact ab_W_lv (lv_pk [0, 2, 3, 4] rfl) h9
        · rw [exg] at c1
          exact absurd (nI_le (by omega) (by omega)) c1
      | succ l ihl =>
        intro w u r hw hR
        obtain ⟨u1, r1, e1⟩ := x_cisV h em hm eg hng hi (w := w) (T := 20) (act := act) (by omega) (by omega) (by omega) d mb u r
        obtain ⟨u2, r2, e2⟩ := x_cisV h em hm eg hng hj (w := w) (T := 20) (act := act) (by omega) (by omega) (by omega) d mb u1 r1
        by_cases c2 : cvU x a f 20 i act w = cvU x a f 20 j act w
        · obtain ⟨u', r', hW⟩ := ihl (w + 1) u2 r2 (by omega) (by rw [hR]; exact if_pos c2)
          refine ⟨u', r', fun E => ?_⟩
          refine ab_run [17, 25] 100 oX4_apart.1 (Nat.le_refl _) 25 ?_
          refine ⟨fun (c1 : x 17 3 ≤ nI w) => ?_, fun c1 => ?_⟩
          · rw [exg] at c1
            exact absurd c1 (nI_lt_m (by omega) (by omega))
          refine ⟨_, _, e1, Nat.le_refl _, _, _, e2, Nat.le_refl _, fun c3 => ?_, fun c3 => absurd c2 c3⟩
          have h9 := hW E
          rw [nI_succ] at h9
          exact ab_W_lv (lv_pk [0, 2, 3, 4, 5] rfl) h9
        · have hR : R = 10 * nI act + nI w := by rw [hR]; exact if_neg c2
          refine ⟨u2, r2, fun E => ?_⟩
          refine ab_run [17, 25] 100 oX4_apart.1 (Nat.le_refl _) 25 ?_
          refine ⟨fun (c1 : x 17 3 ≤ nI w) => ?_, fun c1 => ?_⟩
          · rw [exg] at c1
            exact absurd c1 (nI_lt_m (by omega) (by omega))
          refine ⟨_, _, e1, Nat.le_refl _, _, _, e2, Nat.le_refl _, fun c3 => absurd c3 c2, fun c3 => ?_⟩
          rw [hR]
          exact ⟨rfl, rfl⟩
    obtain ⟨u', r', hW⟩ := inner ng 0 u r (by omega) hR
    refine ⟨u', r', fun E => ?_⟩
    refine ab_run [17, 25] 100 oX4_apart.1 (Nat.le_refl _) 17 ?_
    refine ⟨fun c1 => absurd c1 (nI_ge (a := act) (b := 4) (by omega) (by omega)), fun c1 => ?_⟩
    exact hW E
set_option maxRecDepth 100000 in
theorem m_apart {g : mG} {A x a : mA} {f : mF} (s : Nat → Int32) {m ng i j : Nat} (em : s 3 = nI m) (hm : m ≤ 8) (eg : s 2 = nI ng) (hng : ng ≤ 5) (hi : i < m) (hj : j < m) (d : Nat) (R : Int32) : ∀ (k act : Nat) (G : mG) (B : mA), act + k = 4 → R = apO (cvU x a f 20 i) (cvU x a f 20 j) ng k act → IV G B x a f → B 2 = s → ∃ (G' : mG) (B' : mA), IV G' B' x a f ∧ ∀ xs E, ab_W jX5_apart (d + 6) E (hM g A xs) 70 (fun v1 h1 => v1 = some (vI R) ∧ h1 = hM G' B' xs) (ab_at iX5_apart 17) [(3, vI (nI act)), (0, vR 0 0), (1, vI (nI i)), (2, vI (nI j))] [] (hM G B xs) := by
  intro k
  induction k with
  | zero =>
    intro act G B ha hR hI hB
    refine ⟨G, B, hI, fun xs E => ?_⟩
    refine ab_run [17, 25] 100 oX5_apart.1 (Nat.le_refl _) 17 ?_
    refine ⟨fun c1 => ?_, fun c1 => absurd (show nI 4 ≤ nI act from nI_le (by omega) (by omega)) c1⟩
    have hR : R = -9 := hR
    rw [hR]
    exact ⟨rfl, rfl⟩
  | succ k ih =>
    intro act G B ha hR hI hB
    have inner : ∀ (l w : Nat) (G : mG) (B : mA), w + l = ng → R = apI (cvU x a f 20 i) (cvU x a f 20 j) act (apO (cvU x a f 20 i) (cvU x a f 20 j) ng k (act + 1)) l w → IV G B x a f → B 2 = s → ∃ (G' : mG) (B' : mA), IV G' B' x a f ∧ ∀ xs E, ab_W jX5_apart (d + 6) E (hM g A xs) 70 (fun v1 h1 => v1 = some (vI R) ∧ h1 = hM G' B' xs) (ab_at iX5_apart 25) [(4, vI (nI w)), (3, vI (nI act)), (0, vR 0 0), (1, vI (nI i)), (2, vI (nI j))] [] (hM G B xs) := by
      intro l
      induction l with
      | zero =>
        intro w G B hw hR hI hB
        obtain ⟨G', B', hI', hW⟩ := ih (act + 1) G B (by omega) hR hI hB
        refine ⟨G', B', hI', fun xs E => ?_⟩
        refine ab_run [17, 25] 100 oX5_apart.1 (Nat.le_refl _) 25 ?_
        refine ⟨vp_d rfl, fun c1 => ?_, fun (c1 : ¬ B 2 2 ≤ nI w) => ?_⟩
        · have h9 := hW xs E
          rw [nI_succ] at h9
          exact ab_W_lv (lv_pk [0, 2, 3, 4] rfl) h9
        · rw [hB, eg] at c1
          exact absurd (nI_le (by omega) (by omega)) c1
      | succ l ihl =>
        intro w G B hw hR hI hB
        have emB : B 2 3 = nI m := by rw [hB]; exact em
        have hgB : (w : Int) < (B 2 2).toInt := by rw [hB, eg, nI_toInt (by omega)]; omega
        have hr := act_rng (k := act) (by omega)
        have hS := fun xs => m_stageAlone hI emB hm (w := w) (T := 20) (by omega) hgB (by omega) (nI act) d xs
        have hI2 := IV_sg m w 20 (nI act) hI
        have hB2 : (sgN m (nI act) 20 (bgG G B, opN w m (bgN m B))).2 2 = s := sg_2.trans hB
        have v1 := cis_val hI emB hm hi (w := w) (T := 20) (by omega) hgB (by omega) hr.1 hr.2
        have v2 := cis_val hI emB hm hj (w := w) (T := 20) (by omega) hgB (by omega) hr.1 hr.2
        generalize sgN m (nI act) 20 (bgG G B, opN w m (bgN m B)) = Q at hS hI2 hB2 v1 v2
        by_cases c2 : cvU x a f 20 i act w = cvU x a f 20 j act w
        · obtain ⟨G', B', hI', hW⟩ := ihl (w + 1) Q.1 Q.2 (by omega) (by rw [hR]; exact if_pos c2) hI2 hB2
          refine ⟨G', B', hI', fun xs E => ?_⟩
          refine ab_run [17, 25] 100 oX5_apart.1 (Nat.le_refl _) 25 ?_
          refine ⟨vp_d rfl, fun (c1 : B 2 2 ≤ nI w) => ?_, fun c1 => ?_⟩
          · rw [hB, eg] at c1
            exact absurd c1 (nI_lt_m (by omega) (by omega))
          refine ⟨_, _, hS xs, Nat.le_refl _, (vp_in_nI (by omega) (by omega) : vp_in (nI i) 8), (vp_in_nI (by omega) (by omega) : vp_in (nI j) 8), ?_⟩
          rw [nI_clamp (by omega), nI_clamp (by omega)]
          refine ⟨fun c3 => ?_, fun (c3 : ¬ Q.2 9 i = Q.2 9 j) => absurd (v1.trans (Eq.trans c2 v2.symm)) c3⟩
          have h9 := hW xs E
          rw [nI_succ] at h9
          exact h9
        · have hR : R = 10 * nI act + nI w := by rw [hR]; exact if_neg c2
          refine ⟨Q.1, Q.2, hI2, fun xs E => ?_⟩
          refine ab_run [17, 25] 100 oX5_apart.1 (Nat.le_refl _) 25 ?_
          refine ⟨vp_d rfl, fun (c1 : B 2 2 ≤ nI w) => ?_, fun c1 => ?_⟩
          · rw [hB, eg] at c1
            exact absurd c1 (nI_lt_m (by omega) (by omega))
          refine ⟨_, _, hS xs, Nat.le_refl _, (vp_in_nI (by omega) (by omega) : vp_in (nI i) 8), (vp_in_nI (by omega) (by omega) : vp_in (nI j) 8), ?_⟩
          rw [nI_clamp (by omega), nI_clamp (by omega)]
          refine ⟨fun (c3 : Q.2 9 i = Q.2 9 j) => absurd (v1.symm.trans (Eq.trans c3 v2)) c2, fun c3 => ?_⟩
          rw [hR]
          exact ⟨rfl, rfl⟩
    obtain ⟨G', B', hI', hW⟩ := inner ng 0 G B (by omega) hR hI hB
    refine ⟨G', B', hI', fun xs E => ?_⟩
    refine ab_run [17, 25] 100 oX5_apart.1 (Nat.le_refl _) 17 ?_
    refine ⟨fun c1 => absurd c1 (nI_ge (a := act) (b := 4) (by omega) (by omega)), fun c1 => ?_⟩
    exact hW xs E
theorem p_apart : P_apart IV 40 := by
  intro p1 p2 g A x a f h
  obtain ⟨m, hm, em, exm⟩ := IV_m h
  obtain ⟨ng, hng, eg, exg⟩ := IV_ng h
  by_cases c0 : (0 ≤ p1 ∧ p1 < nI m) ∧ (0 ≤ p2 ∧ p2 < nI m) ∧ ¬ p1 = p2
  · have k0 : (0 ≤ p1 ∧ p1 < x 17 5) ∧ (0 ≤ p2 ∧ p2 < x 17 5) ∧ ¬ p1 = p2 := by rw [exm]; exact c0
    have k2 : (0 ≤ p1 ∧ p1 < A 2 3) ∧ (0 ≤ p2 ∧ p2 < A 2 3) ∧ ¬ p1 = p2 := by rw [em]; exact c0
    obtain ⟨i, hi, rfl⟩ := ix_of (m := m) (by omega) c0.1
    obtain ⟨j, hj, rfl⟩ := ix_of (m := m) (by omega) c0.2.1
    obtain ⟨R, hR⟩ : ∃ R : Int32, R = apO (cvU x a f 20 i) (cvU x a f 20 j) ng 4 0 := ⟨_, rfl⟩
    obtain ⟨u', r', hX⟩ := x_apart h em hm eg hng hi hj 35 (mbl g A) (hX (mbl g A) x a f) R 4 0 (x 42) (x 41) (by omega) hR
    obtain ⟨G', B', hI', hM⟩ := m_apart (g := g) (A := A) (A 2) em hm eg hng hi hj 33 R 4 0 g A (by omega) hR h rfl
    rw [rX] at hX
    refine pr_w (r := R) (x' := mS (mS x 42 u') 41 r') (a' := a) (f' := f) (g' := G') (A' := B') ?_ (fun xs => ?_) (IV_wr hI' u' r')
    · refine ab_meth oX4_apart 39 _ _ _ _ (Nat.le_refl _) rfl (fun E => ?_)
      refine ab_run [17, 25] 100 oX4_apart.1 (Nat.le_refl _) 0 ?_
      refine ⟨_, _, x_areTwo _ _ x a f _ _, Nat.le_refl _, ?_⟩
      refine br_n (fun c => ?_) (fun c => absurd k0 c)
      exact hX E
    · refine ab_meth oX5_apart 39 _ _ _ _ (Nat.le_refl _) rfl (fun E => ?_)
      refine ab_run [17, 25] 100 oX5_apart.1 (Nat.le_refl _) 0 ?_
      refine ⟨_, _, m_areTwo _ g A xs _ _, Nat.le_refl _, ?_⟩
      refine br_n (fun c => ?_) (fun c => absurd k2 c)
      exact hM xs E
  · have k0 : ¬ ((0 ≤ p1 ∧ p1 < x 17 5) ∧ (0 ≤ p2 ∧ p2 < x 17 5) ∧ ¬ p1 = p2) := by rw [exm]; exact c0
    have k2 : ¬ ((0 ≤ p1 ∧ p1 < A 2 3) ∧ (0 ≤ p2 ∧ p2 < A 2 3) ∧ ¬ p1 = p2) := by rw [em]; exact c0
    refine pr_rf h rc1 ?_ (fun xs => ?_)
    · refine ab_meth oX4_apart 39 _ _ _ _ (Nat.le_refl _) rfl (fun E => ?_)
      refine ab_run [17, 25] 100 oX4_apart.1 (Nat.le_refl _) 0 ?_
      refine ⟨_, _, x_areTwo _ _ x a f _ _, Nat.le_refl _, ?_⟩
      refine br_n (fun c => absurd c k0) (fun c => ?_)
      exact ⟨_, _, x_rf _ _ x a f rc1, Nat.le_refl _, rfl, rfl⟩
    · refine ab_meth oX5_apart 39 _ _ _ _ (Nat.le_refl _) rfl (fun E => ?_)
      refine ab_run [17, 25] 100 oX5_apart.1 (Nat.le_refl _) 0 ?_
      refine ⟨_, _, m_areTwo _ g A xs _ _, Nat.le_refl _, ?_⟩
      refine br_n (fun c => absurd c k2) (fun c => ?_)
      exact ⟨_, _, m_rf _ g A xs rc1, Nat.le_refl _, rfl, rfl⟩
end
section
/-- whether the count i is unlike the first j ones -/
def nwN (V : Nat → Int32) (i : Nat) : Nat → Int32
  | 0 => 1
  | j + 1 => if nwN V i j = 0 then 0 else if V j = V i then 0 else 1
def ulN (V : Nat → Int32) : Nat → Int32
  | 0 => 0
  | i + 1 => ulN V i + (if nwN V i i = 0 then 0 else 1)
theorem nwN_congr {V U : Nat → Int32} {i : Nat} : ∀ j, j ≤ i → (∀ k, k ≤ i → V k = U k) → nwN V i j = nwN U i j := by
  intro j
  induction j with
  | zero => intro _ _; rfl
  | succ j ih =>
    intro hj h
    show (if nwN V i j = 0 then (0 : Int32) else if V j = V i then 0 else 1) = if nwN U i j = 0 then 0 else if U j = U i then 0 else 1
    rw [ih (by omega) h, h j (by omega), h i (by omega)]
theorem ulN_congr {V U : Nat → Int32} : ∀ m, (∀ k, k < m → V k = U k) → ulN V m = ulN U m := by
  intro m
  induction m with
  | zero => intro _; rfl
  | succ m ih =>
    intro h
    show ulN V m + (if nwN V m m = 0 then 0 else 1) = ulN U m + (if nwN U m m = 0 then 0 else 1)
    rw [ih (fun k hk => h k (by omega)), nwN_congr m (Nat.le_refl _) (fun k hk => h k (by omega))]
theorem cvU_cl (x a : mA) (f : mF) (T i : Nat) (c : Nat → Int32) : cvU x (mS a 45 c) f T i = cvU x a f T i := by
  funext act w
  unfold cvU cvV
  rw [stX_congr (x := x) (a := a) (x' := x) (a' := mS a 45 c) rfl (mS_ne _ _ _ (by decide)) (mS_ne _ _ _ (by decide))]
set_option maxRecDepth 100000 in
theorem x_unlike {g : mG} {A x a : mA} {f : mF} (h : IV g A x a f) {m ng w T act : Nat} (em : A 2 3 = nI m) (hm : m ≤ 8) (eg : A 2 2 = nI ng) (hng : ng ≤ 5) (hw : w < ng) (hT : T ≤ 60) (ha : act < 4) (d : Nat) (mb : Nat → AB) (u r c : Nat → Int32) : ∃ u' r' c' : Nat → Int32, ab_Ex (d + 5) 0 yX4_unlikeCounts [vR 13 0, vI (nI act), vI (nI w), vI (nI T)] (hX mb (mS (mS x 42 u) 41 r) (mS a 45 c) f) (some (vI (ulN (fun j => cvU x a f T j act w) m))) (hX mb (mS (mS x 42 u') 41 r') (mS a 45 c') f) := by
  have exm : x 17 5 = nI m := by rw [← h.2.2.2.2.2.1.1.2.2.2.1]; exact em
  obtain ⟨V, hV⟩ : ∃ V : Nat → Int32, V = fun j => cvU x a f T j act w := ⟨_, rfl⟩
  rw [← hV]
  have loop : ∀ (k i : Nat) (u2 r2 c2 : Nat → Int32), i + k = m → (∀ j, j < i → c2 j = V j) → ∃ u' r' c' : Nat → Int32, ∀ E, ab_W jX4_unlikeCounts (d + 4) E (hX mb (mS (mS x 42 u) 41 r) (mS a 45 c) f) 70 (fun v1 h1 => v1 = some (vI (ulN V m)) ∧ h1 = hX mb (mS (mS x 42 u') 41 r') (mS a 45 c') f) (ab_at iX4_unlikeCounts 6) [(5, vI (nI i)), (4, vI (ulN V i)), (0, vR 13 0), (1, vI (nI act)), (2, vI (nI w)), (3, vI (nI T))] [] (hX mb (mS (mS x 42 u2) 41 r2) (mS a 45 c2) f) := by
    intro k
    induction k with
    | zero =>
      intro i u2 r2 c2 hi hc
      refine ⟨u2, r2, c2, fun E => ?_⟩
      refine ab_run [6, 40] 100 oX4_unlikeCounts.1 (Nat.le_refl _) 6 ?_
      refine ⟨fun c1 => ?_, fun (c1 : ¬ x 17 5 ≤ nI i) => ?_⟩
      · rw [show m = i by omega]
        exact ⟨rfl, rfl⟩
      · rw [exm] at c1
        exact absurd (nI_le (by omega) (by omega)) c1
    | succ k ih =>
      intro i u2 r2 c2' hi hc
      obtain ⟨u3, r3, e3⟩ := x_cisV (IV_cl h c2') em hm eg hng (j := i) (w := w) (T := T) (act := act) (by omega) hw hT ha d mb u2 r2
      rw [cvU_cl, show cvU x a f T i act w = V i by rw [hV]] at e3
      have hc3 : ∀ j, j < i + 1 → upd c2' i (V i) j = V j := by
        intro j hj
        by_cases q : j = i
        · rw [q, upd_at]
        · rw [upd_ne q]
          exact hc j (by omega)
      obtain ⟨u', r', c', hW⟩ := ih (i + 1) u3 r3 (upd c2' i (V i)) (by omega) hc3
      refine ⟨u', r', c', fun E => ?_⟩
      have inner : ∀ (l j : Nat), j + l = i → ab_W jX4_unlikeCounts (d + 4) E (hX mb (mS (mS x 42 u) 41 r) (mS a 45 c) f) 70 (fun v1 h1 => v1 = some (vI (ulN V m)) ∧ h1 = hX mb (mS (mS x 42 u') 41 r') (mS a 45 c') f) (ab_at iX4_unlikeCounts 40) [(7, vI (nI j)), (6, vI (nwN V i j)), (5, vI (nI i)), (4, vI (ulN V i)), (0, vR 13 0), (1, vI (nI act)), (2, vI (nI w)), (3, vI (nI T))] [] (hX mb (mS (mS x 42 u3) 41 r3) (mS a 45 (upd c2' i (V i))) f) := by
        intro l
        induction l with
        | zero =>
          intro j hj
          have h9 := hW E
          rw [nI_succ, show ulN V (i + 1) = ulN V i + (if nwN V i i = 0 then 0 else 1) from rfl] at h9
          rw [show j = i by omega]
          refine ab_run [6, 40] 100 oX4_unlikeCounts.1 (Nat.le_refl _) 40 ?_
          refine ⟨fun c1 => ?_, fun c1 => absurd (nI_le (Nat.le_refl _) (by omega)) c1⟩
          refine ⟨fun c2 => ?_, fun c2 => ?_⟩
          · rw [if_pos c2] at h9
            exact ab_W_lv (lv_pk [0, 1, 4, 5, 6, 7] rfl) h9
          · rw [if_neg c2] at h9
            exact ab_W_lv (lv_pk [0, 1, 4, 5, 6, 7] rfl) h9
        | succ l ihl =>
          intro j hj
          have h9 := ihl (j + 1) (by omega)
          rw [nI_succ, show nwN V i (j + 1) = (if nwN V i j = 0 then 0 else if V j = V i then 0 else 1) from rfl] at h9
          refine ab_run [6, 40] 100 oX4_unlikeCounts.1 (Nat.le_refl _) 40 ?_
          refine ⟨fun c1 => absurd c1 (nI_ge (by omega) (by omega)), fun c1 => ?_⟩
          refine ⟨fun c2 => ?_, fun c2 => ?_⟩
          · rw [if_pos c2] at h9
            exact h9
          · rw [if_neg c2] at h9
            refine ⟨(vp_in_nI (by omega) (by omega) : vp_in (nI j) 8), (vp_in_nI (by omega) (by omega) : vp_in (nI i) 8), ?_⟩
            rw [nI_clamp (by omega), nI_clamp (by omega)]
            have q1 : upd c2' i (V i) j = V j := hc3 j (by omega)
            have q2 : upd c2' i (V i) i = V i := hc3 i (by omega)
            refine ⟨fun (c3 : upd c2' i (V i) j = upd c2' i (V i) i) => ?_, fun (c3 : ¬ upd c2' i (V i) j = upd c2' i (V i) i) => ?_⟩
            · rw [q1, q2] at c3
              rw [if_pos c3] at h9
              exact h9
            · rw [q1, q2] at c3
              rw [if_neg c3] at h9
              exact h9
      refine ab_run [6, 40] 100 oX4_unlikeCounts.1 (Nat.le_refl _) 6 ?_
      refine ⟨fun (c1 : x 17 5 ≤ nI i) => ?_, fun c1 => ?_⟩
      · rw [exm] at c1
        exact absurd c1 (nI_lt_m (by omega) (by omega))
      refine ⟨_, _, e3, Nat.le_refl _, ?_⟩
      refine ⟨(vp_in_nI (by omega) (by omega) : vp_in (nI i) 8), ?_⟩
      rw [nI_clamp (by omega)]
      exact inner i 0 (by omega)
  obtain ⟨u', r', c', hW⟩ := loop m 0 u r c (by omega) (fun j hj => absurd hj (Nat.not_lt_zero j))
  refine ⟨u', r', c', ?_⟩
  refine ab_meth oX4_unlikeCounts (d + 4) _ _ _ _ (Nat.le_refl _) rfl (fun E => ?_)
  refine ab_run [6, 40] 100 oX4_unlikeCounts.1 (Nat.le_refl _) 0 ?_
  exact hW E
set_option maxRecDepth 100000 in
theorem m_unlike (d : Nat) (G : mG) (B : mA) (xs : List AB) {m : Nat} (em : B 2 3 = nI m) (hm : m ≤ 8) : ab_Ex (d + 1) 0 yX5_unlike [vR 0 0] (hM G B xs) (some (vI (ulN (B 9) m))) (hM G B xs) := by
  refine ab_meth oX5_unlike d _ _ _ _ (Nat.le_refl _) rfl (fun E => ?_)
  have loop : ∀ (k i : Nat), i + k = m → ab_W jX5_unlike d E (hM G B xs) 70 (fun v1 h1 => v1 = some (vI (ulN (B 9) m)) ∧ h1 = hM G B xs) (ab_at iX5_unlike 4) [(2, vI (nI i)), (1, vI (ulN (B 9) i)), (0, vR 0 0)] [] (hM G B xs) := by
    intro k
    induction k with
    | zero =>
      intro i hi
      refine ab_run [4, 19] 100 oX5_unlike.1 (Nat.le_refl _) 4 ?_
      refine ⟨vp_d rfl, fun c1 => ?_, fun (c1 : ¬ B 2 3 ≤ nI i) => ?_⟩
      · rw [show m = i by omega]
        exact ⟨rfl, rfl⟩
      · rw [em] at c1
        exact absurd (nI_le (by omega) (by omega)) c1
    | succ k ih =>
      intro i hi
      have inner : ∀ (l j : Nat), j + l = i → ab_W jX5_unlike d E (hM G B xs) 70 (fun v1 h1 => v1 = some (vI (ulN (B 9) m)) ∧ h1 = hM G B xs) (ab_at iX5_unlike 19) [(4, vI (nI j)), (3, vI (nwN (B 9) i j)), (2, vI (nI i)), (1, vI (ulN (B 9) i)), (0, vR 0 0)] [] (hM G B xs) := by
        intro l
        induction l with
        | zero =>
          intro j hj
          have h9 := ih (i + 1) (by omega)
          rw [nI_succ, show ulN (B 9) (i + 1) = ulN (B 9) i + (if nwN (B 9) i i = 0 then 0 else 1) from rfl] at h9
          rw [show j = i by omega]
          refine ab_run [4, 19] 100 oX5_unlike.1 (Nat.le_refl _) 19 ?_
          refine ⟨fun c1 => ?_, fun c1 => absurd (nI_le (Nat.le_refl _) (by omega)) c1⟩
          refine ⟨fun c2 => ?_, fun c2 => ?_⟩
          · rw [if_pos c2] at h9
            exact ab_W_lv (lv_pk [0, 1, 4] rfl) h9
          · rw [if_neg c2] at h9
            exact ab_W_lv (lv_pk [0, 1, 4] rfl) h9
        | succ l ihl =>
          intro j hj
          have h9 := ihl (j + 1) (by omega)
          rw [nI_succ, show nwN (B 9) i (j + 1) = (if nwN (B 9) i j = 0 then 0 else if B 9 j = B 9 i then 0 else 1) from rfl] at h9
          refine ab_run [4, 19] 100 oX5_unlike.1 (Nat.le_refl _) 19 ?_
          refine ⟨fun c1 => absurd c1 (nI_ge (by omega) (by omega)), fun c1 => ?_⟩
          refine ⟨fun c2 => ?_, fun c2 => ?_⟩
          · rw [if_pos c2] at h9
            exact h9
          · rw [if_neg c2] at h9
            refine ⟨(vp_in_nI (by omega) (by omega) : vp_in (nI j) 8), (vp_in_nI (by omega) (by omega) : vp_in (nI i) 8), ?_⟩
            rw [nI_clamp (by omega), nI_clamp (by omega)]
            refine ⟨fun (c3 : B 9 j = B 9 i) => ?_, fun (c3 : ¬ B 9 j = B 9 i) => ?_⟩
            · rw [if_pos c3] at h9
              exact h9
            · rw [if_neg c3] at h9
              exact h9
      refine ab_run [4, 19] 100 oX5_unlike.1 (Nat.le_refl _) 4 ?_
      refine ⟨vp_d rfl, fun (c1 : B 2 3 ≤ nI i) => ?_, fun c1 => ?_⟩
      · rw [em] at c1
        exact absurd c1 (nI_lt_m (by omega) (by omega))
      exact inner i 0 (by omega)
  refine ab_run [4, 19] 100 oX5_unlike.1 (Nat.le_refl _) 0 ?_
  exact loop m 0 (by omega)
end
section
def tlI (V : Nat → Nat → Int32) (act : Nat) (nx : Int32 → Int32 → Int32) : Nat → Nat → Int32 → Int32 → Int32
  | 0, _, b, mo => nx b mo
  | k + 1, w, b, mo => if mo < V act w then tlI V act nx k (w + 1) (10 * nI act + nI w) (V act w) else tlI V act nx k (w + 1) b mo
def tlO (V : Nat → Nat → Int32) (ng : Nat) (wh : Int32) : Nat → Nat → Int32 → Int32 → Int32
  | 0, _, b, mo => if wh = 0 then b else mo
  | k + 1, act, b, mo => tlI V act (tlO V ng wh k (act + 1)) ng 0 b mo
noncomputable def tlV (x a : mA) (f : mF) (T m : Nat) : Nat → Nat → Int32 := fun act w => ulN (fun j => cvU x a f T j act w) m
set_option maxRecDepth 100000 in
theorem x_tells {g : mG} {A x a : mA} {f : mF} (h : IV g A x a f) {m ng T : Nat} (em : A 2 3 = nI m) (hm : m ≤ 8) (eg : A 2 2 = nI ng) (hng : ng ≤ 5) (hT : T ≤ 60) (d : Nat) (mb : Nat → AB) (h0 : AH) (wh R : Int32) : ∀ (k act : Nat) (b mo : Int32) (u r c : Nat → Int32), act + k = 4 → R = tlO (tlV x a f T m) ng wh k act b mo → ∃ u' r' c' : Nat → Int32, ∀ E, ab_W jX4_tells (d + 5) E h0 70 (fun v1 h1 => v1 = some (vI R) ∧ h1 = hX mb (mS (mS x 42 u') 41 r') (mS a 45 c') f) (ab_at iX4_tells 77) [(5, vI (nI act)), (4, vI mo), (3, vI b), (0, vR 13 0), (1, vI (nI T)), (2, vI wh)] [] (hX mb (mS (mS x 42 u) 41 r) (mS a 45 c) f) := by
  have exg : x 17 3 = nI ng := by rw [← h.2.2.2.2.2.1.1.2.2.1]; exact eg
  intro k
  induction k with
  | zero =>
    intro act b mo u r c ha hR
    refine ⟨u, r, c, fun E => ?_⟩
    refine ab_run [77, 86] 100 oX4_tells.1 (Nat.le_refl _) 77 ?_
    refine ⟨fun c1 => ?_, fun c1 => absurd (show nI 4 ≤ nI act from nI_le (by omega) (by omega)) c1⟩
    have hR : R = if wh = 0 then b else mo := hR
    refine ⟨fun c2 => ?_, fun c2 => ?_⟩
    · rw [if_neg c2] at hR
      rw [hR]
      exact ⟨rfl, rfl⟩
    · rw [if_pos c2] at hR
      rw [hR]
      exact ⟨rfl, rfl⟩
  | succ k ih =>
    intro act b mo u r c ha hR
    have inner : ∀ (l w : Nat) (b mo : Int32) (u r c : Nat → Int32), w + l = ng → R = tlI (tlV x a f T m) act (tlO (tlV x a f T m) ng wh k (act + 1)) l w b mo → ∃ u' r' c' : Nat → Int32, ∀ E, ab_W jX4_tells (d + 5) E h0 70 (fun v1 h1 => v1 = some (vI R) ∧ h1 = hX mb (mS (mS x 42 u') 41 r') (mS a 45 c') f) (ab_at iX4_tells 86) [(6, vI (nI w)), (5, vI (nI act)), (4, vI mo), (3, vI b), (0, vR 13 0), (1, vI (nI T)), (2, vI wh)] [] (hX mb (mS (mS x 42 u) 41 r) (mS a 45 c) f) := by
      intro l
      induction l with
      | zero =>
        intro w b mo u r c hw hR
        obtain ⟨u', r', c', hW⟩ := ih (act + 1) b mo u r c (by omega) hR
        refine ⟨u', r', c', fun E => ?_⟩
        refine ab_run [77, 86] 100 oX4_tells.1 (Nat.le_refl _) 86 ?_
        refine ⟨fun c1 => ?_, fun (c1 : ¬ x 17 3 ≤ nI w) => ?_⟩
        · have h9 := hW E
          rw [nI_succ] at h9
          exact ab_W_lv (lv_pk [0, 2, 3, 4, 5, 6] rfl) h9
        · rw [exg] at c1
          exact absurd (nI_le (by omega) (by omega)) c1
      | succ l ihl =>
        intro w b mo u r c hw hR
        obtain ⟨u1, r1, c1, e1⟩ := x_unlike h em hm eg hng (w := w) (T := T) (act := act) (by omega) hT (by omega) d mb u r c
        by_cases c2 : mo < tlV x a f T m act w
        · obtain ⟨u', r', c', hW⟩ := ihl (w + 1) (10 * nI act + nI w) (tlV x a f T m act w) u1 r1 c1 (by omega) (by rw [hR]; exact if_pos c2)
          refine ⟨u', r', c', fun E => ?_⟩
          refine ab_run [77, 86] 100 oX4_tells.1 (Nat.le_refl _) 86 ?_
          refine ⟨fun (c1 : x 17 3 ≤ nI w) => ?_, fun c1 => ?_⟩
          · rw [exg] at c1
            exact absurd c1 (nI_lt_m (by omega) (by omega))
          refine ⟨_, _, e1, Nat.le_refl _, fun c3 => absurd c2 (le_nlt c3), fun c3 => ?_⟩
          have h9 := hW E
          rw [nI_succ] at h9
          exact ab_W_lv (lv_pk [0, 4, 2, 1, 5, 6, 7] rfl) h9
        · obtain ⟨u', r', c', hW⟩ := ihl (w + 1) b mo u1 r1 c1 (by omega) (by rw [hR]; exact if_neg c2)
          refine ⟨u', r', c', fun E => ?_⟩
          refine ab_run [77, 86] 100 oX4_tells.1 (Nat.le_refl _) 86 ?_
          refine ⟨fun (c1 : x 17 3 ≤ nI w) => ?_, fun c1 => ?_⟩
          · rw [exg] at c1
            exact absurd c1 (nI_lt_m (by omega) (by omega))
          refine ⟨_, _, e1, Nat.le_refl _, fun c3 => ?_, fun c3 => absurd (nle_lt c3) c2⟩
          have h9 := hW E
          rw [nI_succ] at h9
          exact ab_W_lv (lv_pk [0, 2, 3, 4, 5, 6, 7] rfl) h9
    obtain ⟨u', r', c', hW⟩ := inner ng 0 b mo u r c (by omega) hR
    refine ⟨u', r', c', fun E => ?_⟩
    refine ab_run [77, 86] 100 oX4_tells.1 (Nat.le_refl _) 77 ?_
    refine ⟨fun c1 => absurd c1 (nI_ge (a := act) (b := 4) (by omega) (by omega)), fun c1 => ?_⟩
    exact hW E
set_option maxRecDepth 100000 in
theorem m_tells {g : mG} {A x a : mA} {f : mF} (s : Nat → Int32) {m ng T : Nat} (em : s 3 = nI m) (hm : m ≤ 8) (eg : s 2 = nI ng) (hng : ng ≤ 5) (hT : T ≤ 60) (d : Nat) (wh R w3 : Int32) : ∀ (k act : Nat) (b mo : Int32) (G : mG) (B : mA), act + k = 4 → R = tlO (tlV x a f T m) ng wh k act b mo → IV G B x a f → B 2 = s → ∃ (G' : mG) (B' : mA), IV G' B' x a f ∧ ∀ xs E, ab_W jX5_tells (d + 6) E (hM g A xs) 70 (fun v1 h1 => v1 = some (vI R) ∧ h1 = hM G' B' xs) (ab_at iX5_tells 68) [(6, vI (nI act)), (5, vI mo), (4, vI b), (3, vI w3), (0, vR 0 0), (1, vI (nI T)), (2, vI wh)] [] (hM G B xs) := by
  intro k
  induction k with
  | zero =>
    intro act b mo G B ha hR hI hB
    refine ⟨G, B, hI, fun xs E => ?_⟩
    refine ab_run [68, 77] 100 oX5_tells.1 (Nat.le_refl _) 68 ?_
    refine ⟨fun c1 => ?_, fun c1 => absurd (show nI 4 ≤ nI act from nI_le (by omega) (by omega)) c1⟩
    have hR : R = if wh = 0 then b else mo := hR
    refine ⟨fun c2 => ?_, fun c2 => ?_⟩
    · rw [if_neg c2] at hR
      rw [hR]
      exact ⟨rfl, rfl⟩
    · rw [if_pos c2] at hR
      rw [hR]
      exact ⟨rfl, rfl⟩
  | succ k ih =>
    intro act b mo G B ha hR hI hB
    have inner : ∀ (l w : Nat) (b mo : Int32) (G : mG) (B : mA), w + l = ng → R = tlI (tlV x a f T m) act (tlO (tlV x a f T m) ng wh k (act + 1)) l w b mo → IV G B x a f → B 2 = s → ∃ (G' : mG) (B' : mA), IV G' B' x a f ∧ ∀ xs E, ab_W jX5_tells (d + 6) E (hM g A xs) 70 (fun v1 h1 => v1 = some (vI R) ∧ h1 = hM G' B' xs) (ab_at iX5_tells 77) [(7, vI (nI w)), (6, vI (nI act)), (5, vI mo), (4, vI b), (3, vI w3), (0, vR 0 0), (1, vI (nI T)), (2, vI wh)] [] (hM G B xs) := by
      intro l
      induction l with
      | zero =>
        intro w b mo G B hw hR hI hB
        obtain ⟨G', B', hI', hW⟩ := ih (act + 1) b mo G B (by omega) hR hI hB
        refine ⟨G', B', hI', fun xs E => ?_⟩
        refine ab_run [68, 77] 100 oX5_tells.1 (Nat.le_refl _) 77 ?_
        refine ⟨vp_d rfl, fun c1 => ?_, fun (c1 : ¬ B 2 2 ≤ nI w) => ?_⟩
        · have h9 := hW xs E
          rw [nI_succ] at h9
          exact ab_W_lv (lv_pk [0, 2, 3, 4, 5, 6, 7] rfl) h9
        · rw [hB, eg] at c1
          exact absurd (nI_le (by omega) (by omega)) c1
      | succ l ihl =>
        intro w b mo G B hw hR hI hB
        have emB : B 2 3 = nI m := by rw [hB]; exact em
        have hgB : (w : Int) < (B 2 2).toInt := by rw [hB, eg, nI_toInt (by omega)]; omega
        have hr := act_rng (k := act) (by omega)
        have hS := fun xs => m_stageAlone hI emB hm (w := w) (T := T) (by omega) hgB hT (nI act) d xs
        have hI2 := IV_sg m w T (nI act) hI
        have hB2 : (sgN m (nI act) T (bgG G B, opN w m (bgN m B))).2 2 = s := sg_2.trans hB
        have hv : ulN ((sgN m (nI act) T (bgG G B, opN w m (bgN m B))).2 9) m = tlV x a f T m act w := ulN_congr m (fun j hj => cis_val hI emB hm hj (w := w) (T := T) (by omega) hgB hT hr.1 hr.2)
        generalize sgN m (nI act) T (bgG G B, opN w m (bgN m B)) = Q at hS hI2 hB2 hv
        have hU := fun xs => m_unlike (d + 5) Q.1 Q.2 xs (m := m) (by rw [hB2]; exact em) hm
        rw [hv] at hU
        by_cases c2 : mo < tlV x a f T m act w
        · obtain ⟨G', B', hI', hW⟩ := ihl (w + 1) (10 * nI act + nI w) (tlV x a f T m act w) Q.1 Q.2 (by omega) (by rw [hR]; exact if_pos c2) hI2 hB2
          refine ⟨G', B', hI', fun xs E => ?_⟩
          refine ab_run [68, 77] 100 oX5_tells.1 (Nat.le_refl _) 77 ?_
          refine ⟨vp_d rfl, fun (c1 : B 2 2 ≤ nI w) => ?_, fun c1 => ?_⟩
          · rw [hB, eg] at c1
            exact absurd c1 (nI_lt_m (by omega) (by omega))
          refine ⟨_, _, hS xs, Nat.le_refl _, _, _, hU xs, Nat.le_refl _, ?_⟩
          refine ⟨fun c3 => ?_, fun c3 => absurd c2 c3⟩
          refine ⟨_, _, hU xs, Nat.le_refl _, ?_⟩
          have h9 := hW xs E
          rw [nI_succ] at h9
          exact ab_W_lv (lv_pk [0, 3, 1, 2, 4, 5, 6, 7] rfl) h9
        · obtain ⟨G', B', hI', hW⟩ := ihl (w + 1) b mo Q.1 Q.2 (by omega) (by rw [hR]; exact if_neg c2) hI2 hB2
          refine ⟨G', B', hI', fun xs E => ?_⟩
          refine ab_run [68, 77] 100 oX5_tells.1 (Nat.le_refl _) 77 ?_
          refine ⟨vp_d rfl, fun (c1 : B 2 2 ≤ nI w) => ?_, fun c1 => ?_⟩
          · rw [hB, eg] at c1
            exact absurd c1 (nI_lt_m (by omega) (by omega))
          refine ⟨_, _, hS xs, Nat.le_refl _, _, _, hU xs, Nat.le_refl _, ?_⟩
          refine ⟨fun c3 => absurd c3 c2, fun c3 => ?_⟩
          have h9 := hW xs E
          rw [nI_succ] at h9
          exact h9
    obtain ⟨G', B', hI', hW⟩ := inner ng 0 b mo G B (by omega) hR hI hB
    refine ⟨G', B', hI', fun xs E => ?_⟩
    refine ab_run [68, 77] 100 oX5_tells.1 (Nat.le_refl _) 68 ?_
    refine ⟨fun c1 => absurd c1 (nI_ge (a := act) (b := 4) (by omega) (by omega)), fun c1 => ?_⟩
    exact hW xs E
set_option maxRecDepth 100000 in
theorem p_tells : P_tells IV 40 := by
  intro p1 p2 g A x a f h
  obtain ⟨m, hm, em, exm⟩ := IV_m h
  obtain ⟨ng, hng, eg, exg⟩ := IV_ng h
  have z0 : (0 : Int32).toInt = 0 := rfl
  have z1 : (1 : Int32).toInt = 1 := rfl
  have z2 : (2 : Int32).toInt = 2 := rfl
  have z60 : (60 : Int32).toInt = 60 := rfl
  by_cases c0 : 0 ≤ p2 ∧ p2 < 2
  · have hk2 : ¬ p2 = 0 → ¬ p2 = 1 → False := by
      intro c1 c2
      have q1 := Int32.le_iff_toInt_le.mp c0.1
      have q2 := Int32.lt_iff_toInt_lt.mp c0.2
      rcases (by omega : p2.toInt = 0 ∨ p2.toInt = 1) with q | q
      · exact absurd (Int32.toInt_inj.mp (by omega)) c1
      · exact absurd (Int32.toInt_inj.mp (by omega)) c2
    by_cases c1 : p1 < 1
    · refine pr_rf h rc4 ?_ (fun xs => ?_)
      · refine ab_meth oX4_tells 39 _ _ _ _ (Nat.le_refl _) rfl (fun E => ?_)
        have K : ab_W jX4_tells 39 E (hX (mbl g A) x a f) 70 (fun v1 h1 => v1 = some (vI (-4)) ∧ h1 = hX (mbl g A) x (rfX a (-4)) f) (ab_at iX4_tells 16) [(0, vR 13 0), (1, vI p1), (2, vI p2)] [] (hX (mbl g A) x a f) := by
          refine ab_run [77, 86] 100 oX4_tells.1 (Nat.le_refl _) 16 ?_
          refine ⟨fun c => absurd c1 (le_nlt c), fun c => ?_⟩
          exact ⟨_, _, x_rf _ _ x a f rc4, Nat.le_refl _, rfl, rfl⟩
        refine ab_run [16] 100 oX4_tells.1 (Nat.le_refl _) 0 ?_
        exact ⟨fun _ => K, fun d1 => ⟨fun _ => K, fun d2 => (hk2 d1 d2).elim⟩⟩
      · refine ab_meth oX5_tells 39 _ _ _ _ (Nat.le_refl _) rfl (fun E => ?_)
        refine ab_run [68, 77] 100 oX5_tells.1 (Nat.le_refl _) 0 ?_
        refine ⟨_, _, m_isIn _ _ (Nat.le_refl _) _ _, Nat.le_refl _, ?_⟩
        refine br_n (fun c => ?_) (fun c => absurd c0 c)
        refine ⟨_, _, m_within _ _ (Nat.le_refl _) _ _ _, Nat.le_refl _, ?_⟩
        rw [show withI p1 1 60 = -4 from if_pos c1]
        refine ⟨fun c => ?_, fun c => absurd c (by decide)⟩
        refine ⟨fun c => absurd c (by decide), fun c => ?_⟩
        exact ⟨_, _, m_rf _ g A xs rc4, Nat.le_refl _, rfl, rfl⟩
    by_cases c2 : 60 < p1
    · refine pr_rf h rc6 ?_ (fun xs => ?_)
      · refine ab_meth oX4_tells 39 _ _ _ _ (Nat.le_refl _) rfl (fun E => ?_)
        have K : ab_W jX4_tells 39 E (hX (mbl g A) x a f) 70 (fun v1 h1 => v1 = some (vI (-6)) ∧ h1 = hX (mbl g A) x (rfX a (-6)) f) (ab_at iX4_tells 16) [(0, vR 13 0), (1, vI p1), (2, vI p2)] [] (hX (mbl g A) x a f) := by
          refine ab_run [77, 86] 100 oX4_tells.1 (Nat.le_refl _) 16 ?_
          refine ⟨fun c => ?_, fun c => absurd (nlt_le c1) c⟩
          refine ⟨fun c => absurd c2 (le_nlt c), fun c => ?_⟩
          exact ⟨_, _, x_rf _ _ x a f rc6, Nat.le_refl _, rfl, rfl⟩
        refine ab_run [16] 100 oX4_tells.1 (Nat.le_refl _) 0 ?_
        exact ⟨fun _ => K, fun d1 => ⟨fun _ => K, fun d2 => (hk2 d1 d2).elim⟩⟩
      · refine ab_meth oX5_tells 39 _ _ _ _ (Nat.le_refl _) rfl (fun E => ?_)
        refine ab_run [68, 77] 100 oX5_tells.1 (Nat.le_refl _) 0 ?_
        refine ⟨_, _, m_isIn _ _ (Nat.le_refl _) _ _, Nat.le_refl _, ?_⟩
        refine br_n (fun c => ?_) (fun c => absurd c0 c)
        refine ⟨_, _, m_within _ _ (Nat.le_refl _) _ _ _, Nat.le_refl _, ?_⟩
        rw [show withI p1 1 60 = -6 from (if_neg c1).trans (if_pos c2)]
        refine ⟨fun c => ?_, fun c => absurd c (by decide)⟩
        refine ⟨fun c => absurd c (by decide), fun c => ?_⟩
        exact ⟨_, _, m_rf _ g A xs rc6, Nat.le_refl _, rfl, rfl⟩
    by_cases c3 : A 2 2 = 0 ∨ A 2 3 = 0
    · have c3x : x 17 3 = 0 ∨ x 17 5 = 0 := by rw [← h.2.2.2.2.2.1.1.2.2.1, ← h.2.2.2.2.2.1.1.2.2.2.1]; exact c3
      refine pr_rf h rc3 ?_ (fun xs => ?_)
      · refine ab_meth oX4_tells 39 _ _ _ _ (Nat.le_refl _) rfl (fun E => ?_)
        have K : ab_W jX4_tells 39 E (hX (mbl g A) x a f) 70 (fun v1 h1 => v1 = some (vI (-3)) ∧ h1 = hX (mbl g A) x (rfX a (-3)) f) (ab_at iX4_tells 16) [(0, vR 13 0), (1, vI p1), (2, vI p2)] [] (hX (mbl g A) x a f) := by
          refine ab_run [77, 86] 100 oX4_tells.1 (Nat.le_refl _) 16 ?_
          refine ⟨fun c => ?_, fun c => absurd (nlt_le c1) c⟩
          refine ⟨fun c => ?_, fun c => absurd (nlt_le c2) c⟩
          refine ⟨fun c => ⟨_, _, x_rf _ _ x a f rc3, Nat.le_refl _, rfl, rfl⟩, fun (c : ¬ x 17 3 = 0) => ⟨fun (c' : ¬ x 17 5 = 0) => absurd c3x (fun q => q.elim c c'), fun c' => ?_⟩⟩
          exact ⟨_, _, x_rf _ _ x a f rc3, Nat.le_refl _, rfl, rfl⟩
        refine ab_run [16] 100 oX4_tells.1 (Nat.le_refl _) 0 ?_
        exact ⟨fun _ => K, fun d1 => ⟨fun _ => K, fun d2 => (hk2 d1 d2).elim⟩⟩
      · refine ab_meth oX5_tells 39 _ _ _ _ (Nat.le_refl _) rfl (fun E => ?_)
        refine ab_run [68, 77] 100 oX5_tells.1 (Nat.le_refl _) 0 ?_
        refine ⟨_, _, m_isIn _ _ (Nat.le_refl _) _ _, Nat.le_refl _, ?_⟩
        refine br_n (fun c => ?_) (fun c => absurd c0 c)
        refine ⟨_, _, m_within _ _ (Nat.le_refl _) _ _ _, Nat.le_refl _, ?_⟩
        rw [show withI p1 1 60 = 0 from (if_neg c1).trans (if_neg c2)]
        refine ⟨fun c => absurd rfl c, fun c => ?_⟩
        refine ⟨vp_d rfl, fun (c : A 2 2 = 0) => ?_, fun (c : ¬ A 2 2 = 0) => ⟨vp_d rfl, fun (c' : ¬ A 2 3 = 0) => absurd c3 (fun q => q.elim c c'), fun c' => ?_⟩⟩
        · refine ⟨fun c => absurd c (by decide), fun c => ?_⟩
          exact ⟨_, _, m_rf _ g A xs rc3, Nat.le_refl _, rfl, rfl⟩
        · refine ⟨fun c => absurd c (by decide), fun c => ?_⟩
          exact ⟨_, _, m_rf _ g A xs rc3, Nat.le_refl _, rfl, rfl⟩
    have n2 : ¬ A 2 2 = 0 := fun q => c3 (Or.inl q)
    have n3 : ¬ A 2 3 = 0 := fun q => c3 (Or.inr q)
    have n2x : ¬ x 17 3 = 0 := by rw [← h.2.2.2.2.2.1.1.2.2.1]; exact n2
    have n3x : ¬ x 17 5 = 0 := by rw [← h.2.2.2.2.2.1.1.2.2.2.1]; exact n3
    have q1 := Int32.le_iff_toInt_le.mp (nlt_le c1)
    have q2 := Int32.le_iff_toInt_le.mp (nlt_le c2)
    have cl := ti_clamp (x := p1) (by omega)
    obtain ⟨T, hT1, hT60, rfl⟩ : ∃ T : Nat, 1 ≤ T ∧ T ≤ 60 ∧ p1 = nI T := ⟨p1.toNatClampNeg, by omega, by omega, ti_nat (by omega)⟩
    obtain ⟨R, hR⟩ : ∃ R : Int32, R = tlO (tlV x a f T m) ng p2 4 0 (-9) 0 := ⟨_, rfl⟩
    obtain ⟨u', r', c', hXw⟩ := x_tells h em hm eg hng hT60 34 (mbl g A) (hX (mbl g A) x a f) p2 R 4 0 (-9) 0 (x 42) (x 41) (a 45) (by omega) hR
    obtain ⟨G', B', hI', hMw⟩ := m_tells (g := g) (A := A) (A 2) em hm eg hng hT60 33 p2 R 0 4 0 (-9) 0 g A (by omega) hR h rfl
    rw [rX, mS_id] at hXw
    refine pr_w (r := R) (x' := mS (mS x 42 u') 41 r') (a' := mS a 45 c') (f' := f) (g' := G') (A' := B') ?_ (fun xs => ?_) (IV_wr (IV_cl hI' c') u' r')
    · refine ab_meth oX4_tells 39 _ _ _ _ (Nat.le_refl _) rfl (fun E => ?_)
      have K : ab_W jX4_tells 39 E (hX (mbl g A) x a f) 70 (fun v1 h1 => v1 = some (vI (R)) ∧ h1 = hX (mbl g A) (mS (mS x 42 u') 41 r') (mS a 45 c') f) (ab_at iX4_tells 16) [(0, vR 13 0), (1, vI (nI T)), (2, vI p2)] [] (hX (mbl g A) x a f) := by
        refine ab_run [77, 86] 100 oX4_tells.1 (Nat.le_refl _) 16 ?_
        refine ⟨fun c => ?_, fun c => absurd (nlt_le c1) c⟩
        refine ⟨fun c => ?_, fun c => absurd (nlt_le c2) c⟩
        refine ⟨fun c => absurd c n2x, fun _ => ⟨fun _ => ?_, fun c => absurd c n3x⟩⟩
        exact hXw E
      refine ab_run [16] 100 oX4_tells.1 (Nat.le_refl _) 0 ?_
      exact ⟨fun _ => K, fun d1 => ⟨fun _ => K, fun d2 => (hk2 d1 d2).elim⟩⟩
    · refine ab_meth oX5_tells 39 _ _ _ _ (Nat.le_refl _) rfl (fun E => ?_)
      refine ab_run [68, 77] 100 oX5_tells.1 (Nat.le_refl _) 0 ?_
      refine ⟨_, _, m_isIn _ _ (Nat.le_refl _) _ _, Nat.le_refl _, ?_⟩
      refine br_n (fun c => ?_) (fun c => absurd c0 c)
      refine ⟨_, _, m_within _ _ (Nat.le_refl _) _ _ _, Nat.le_refl _, ?_⟩
      rw [show withI (nI T) 1 60 = 0 from (if_neg c1).trans (if_neg c2)]
      refine ⟨fun c => absurd rfl c, fun c => ?_⟩
      refine ⟨vp_d rfl, fun c => absurd c n2, fun _ => ⟨vp_d rfl, fun _ => ?_, fun c => absurd c n3⟩⟩
      refine ⟨fun _ => ?_, fun c => absurd rfl c⟩
      exact hMw xs E
  · have d0 : ¬ p2 = 0 := fun q => c0 (by rw [q]; decide)
    have d1 : ¬ p2 = 1 := fun q => c0 (by rw [q]; decide)
    refine pr_rf h rc2 ?_ (fun xs => ?_)
    · refine ab_meth oX4_tells 39 _ _ _ _ (Nat.le_refl _) rfl (fun E => ?_)
      refine ab_run [16] 100 oX4_tells.1 (Nat.le_refl _) 0 ?_
      refine ⟨fun c => absurd c d0, fun c => ?_⟩
      refine ⟨fun c => absurd c d1, fun c => ?_⟩
      exact ⟨_, _, x_rf _ _ x a f rc2, Nat.le_refl _, rfl, rfl⟩
    · refine ab_meth oX5_tells 39 _ _ _ _ (Nat.le_refl _) rfl (fun E => ?_)
      refine ab_run [68, 77] 100 oX5_tells.1 (Nat.le_refl _) 0 ?_
      refine ⟨_, _, m_isIn _ _ (Nat.le_refl _) _ _, Nat.le_refl _, ?_⟩
      refine br_n (fun c => absurd c c0) (fun c => ?_)
      exact ⟨_, _, m_rf _ g A xs rc2, Nat.le_refl _, rfl, rfl⟩
end
section
theorem opN_fix {w m : Nat} {B : mA} (h : ∀ j, j < m → B 8 j = dnM B w j ∧ B 7 j * dnM B w j / B 8 j = B 7 j) : opN w m B = B := by
  funext k i
  by_cases k8 : k = 8
  · subst k8
    by_cases hi : i < m
    · rw [(opN_lo w m B hi).1, (h i hi).1]
    · exact (opN_hi w m B (Nat.le_of_not_lt hi)).1
  by_cases k7 : k = 7
  · subst k7
    by_cases hi : i < m
    · rw [(opN_lo w m B hi).2, (h i hi).2]
    · exact (opN_hi w m B (Nat.le_of_not_lt hi)).2
  · rw [opN_n w m B k7 k8]
theorem mul_dv {v b : Int32} (h1 : 0 ≤ v.toInt) (h2 : v.toInt < 100 * b.toInt) (hb1 : 1 ≤ b.toInt) (hb2 : b.toInt ≤ 140) : v * b / b = v := by
  have m1 : v.toInt * b.toInt ≤ 13999 * 140 := Int.mul_le_mul (by omega) hb2 (by omega) (by omega)
  have m0 : 0 ≤ v.toInt * b.toInt := Int.mul_nonneg h1 (by omega)
  have e1 : (v * b).toInt = v.toInt * b.toInt := ti_mul rfl rfl (by omega) (by omega)
  have hd := tdiv_abs (a := v.toInt * b.toInt) (b := b.toInt) (by omega) (by omega) (by omega)
  have e2 := ti_div e1 (show b.toInt = b.toInt from rfl) hd.1 hd.2
  rw [Int.mul_tdiv_cancel _ (by omega)] at e2
  exact Int32.toInt_inj.mp e2
noncomputable def lnQ (x a : mA) (act : Int32) (w : Nat) : Nat → rQ → rQ
  | 0, q => q
  | t + 1, q => stX x a act (nI w) 1 (lnQ x a act w t q)
theorem len_RJ {g : mG} {A x a : mA} {f : mF} (h : IV g A x a f) {m w : Nat} (em : A 2 3 = nI m) (hm : m ≤ 8) (hw : w < 5) (hg : (w : Int) < (A 2 2).toInt) {act : Int32} (ha1 : 0 ≤ act.toInt) (ha2 : act.toInt ≤ 5) : ∀ t, t < 60 → ∀ j, j < m → ∀ r, (0 < (lnQ x a act w t (bgQ x f j (-9) r)).1 8 ∧ RO (rW (lnQ x a act w t (bgQ x f j (-9) r)).1 (downX ((lnQ x a act w t (bgQ x f j (-9) r)).1 0) ((lnQ x a act w t (bgQ x f j (-9) r)).1 6) (x 17 1) (nI w) (x 17 3) (a 18))) (lnQ x a act w t (bgQ x f j (-9) r)).2) ∧ RJ (sgN m act (t + 1) (bgG g A, opN w m (bgN m A))).1 (sgN m act (t + 1) (bgG g A, opN w m (bgN m A))).2 j (lnQ x a act w (t + 1) (bgQ x f j (-9) r)) := by
  have e2 : bgN m A 2 = A 2 := bgN_n m A (by decide) (by decide) (by decide)
  have h0 := IV_r0 h
  intro t
  induction t with
  | zero =>
    intro ht j hj r
    obtain ⟨s1, s2, -⟩ := RJ_stage (f := f) (x := x) (a := a) (w := w) (T := 1) (act := act) (by rw [e2]; exact h.2.2.2.2.1) (by rw [e2]; exact h.2.2.2.2.2.1) (by rw [e2]; exact em) hj hm hw (by rw [e2]; exact hg) (by omega) ha1 ha2 h0.1 (by show (A 2 5).toInt ≤ 20000; omega) (RJ_begin h em hm hj (G := bgG g A) rfl rfl (-9) r)
    exact ⟨s2, s1⟩
  | succ t ih =>
    intro ht j hj r
    have ih := ih (by omega)
    have hB2 : (sgN m act (t + 1) (bgG g A, opN w m (bgN m A))).2 2 = A 2 := sg_2
    have h12 : (sgN m act (t + 1) (bgG g A, opN w m (bgN m A))).1 12 = A 2 5 + nI (t + 1) := (sgN_12 m act (t + 1) _).1
    have h8 : ∀ i, i < m → (sgN m act (t + 1) (bgG g A, opN w m (bgN m A))).2 8 i = dnM A w i := by
      intro i hi
      rw [sgN_A _ _ _ _ (by decide) (by decide)]
      show opN w m (bgN m A) 8 i = _
      rw [(opN_lo w m _ hi).1, dnM_2 e2]
    have hs : sgN m act (t + 1 + 1) (bgG g A, opN w m (bgN m A)) = sgN m act 1 (sgN m act (t + 1) (bgG g A, opN w m (bgN m A))) := rfl
    rw [hs]
    generalize (sgN m act (t + 1) (bgG g A, opN w m (bgN m A))) = Q at ih hB2 h12 h8 ⊢
    have hfix : opN w m Q.2 = Q.2 := by
      refine opN_fix (fun i hi => ?_)
      have hr := (ih i hi r).2
      have hd : Q.2 8 i = dnM Q.2 w i := by rw [h8 i hi, dnM_2 hB2]
      refine ⟨hd, ?_⟩
      rw [← hd]
      exact mul_dv hr.2.2.2.2.2.2.2.2.1 hr.2.2.2.2.2.2.2.2.2 hr.2.2.2.2.2.2.2.1.1 hr.2.2.2.2.2.2.2.1.2
    have e12 : (Q.1 12).toInt = (A 2 5).toInt + (t + 1 : Nat) := by
      rw [h12]
      exact ti_add rfl (nI_toInt (by omega)) (by omega) (by omega)
    obtain ⟨s1, s2, -⟩ := RJ_stage (f := f) (x := x) (a := a) (w := w) (T := 1) (act := act) (by rw [hB2]; exact h.2.2.2.2.1) (by rw [hB2]; exact h.2.2.2.2.2.1) (by rw [hB2]; exact em) hj hm hw (by rw [hB2]; exact hg) (by omega) ha1 ha2 (by rw [e12]; omega) (by rw [e12]; omega) (ih j hj r).2
    rw [hfix] at s1
    exact ⟨s2, s1⟩
/-- the least turns that tell two counts apart -/
def lnR (C : Nat → Int32) (dd : Int32) : Nat → Nat → Int32
  | 0, _ => -9
  | k + 1, t => if dd ≤ C (t + 1) then nI (t + 1) else lnR C dd k (t + 1)
noncomputable def lnC (g : mG) (A : mA) (m w : Nat) (act : Int32) (i j : Nat) : Nat → Int32 := fun t => absI ((sgN m act t (bgG g A, opN w m (bgN m A))).2 9 i - (sgN m act t (bgG g A, opN w m (bgN m A))).2 9 j)
theorem ln_le {u dd : Int32} (h1 : 1 ≤ dd.toInt) : u ≤ dd - 1 ↔ ¬ dd ≤ u := by
  have hu := dd.toInt_lt
  have e := ti_sub (x := dd) (y := 1) rfl (show (1 : Int32).toInt = 1 from rfl) (by omega) (by omega)
  rw [Int32.le_iff_toInt_le, Int32.le_iff_toInt_le, e]
  omega
def rr2 (x : mA) (W1 V1 W2 V2 : Nat → Int32) : mA := mS (mS (mS (mS x 44 W2) 43 V2) 42 W1) 41 V1
theorem p_stg41 (d : Nat) (mb : Nat → AB) (x a : mA) (f : mF) (act gear : Int32) (T : Nat) (hT : T ≤ 60) (hn : x 17 3 ≤ 5) (q : rQ) (h8 : 0 < q.1 8) (h : RO (rW q.1 (downX (q.1 0) (q.1 6) (x 17 1) gear (x 17 3) (a 18))) q.2) : ab_Ex (d + 3) 0 yX2_passStage [vR 41 0, vI act, vI gear, vI (nI T)] (hX mb (mS (mS x 42 q.1) 41 q.2) a f) none (hX mb (mS (mS x 42 (stX x a act gear T q).1) 41 (stX x a act gear T q).2) a f) := p_stage41 d mb x a f q.1 _ q.2 act gear T hT hn h8 rfl h
theorem p_stg43 (d : Nat) (mb : Nat → AB) (x a : mA) (f : mF) (act gear : Int32) (T : Nat) (hT : T ≤ 60) (hn : x 17 3 ≤ 5) (q : rQ) (h8 : 0 < q.1 8) (h : RO (rW q.1 (downX (q.1 0) (q.1 6) (x 17 1) gear (x 17 3) (a 18))) q.2) : ab_Ex (d + 3) 0 yX2_passStage [vR 43 0, vI act, vI gear, vI (nI T)] (hX mb (mS (mS x 44 q.1) 43 q.2) a f) none (hX mb (mS (mS x 44 (stX x a act gear T q).1) 43 (stX x a act gear T q).2) a f) := p_stage43 d mb x a f q.1 _ q.2 act gear T hT hn h8 rfl h
theorem lnQ_s (x a : mA) (act : Int32) (w t : Nat) (q : rQ) : lnQ x a act w (t + 1) q = stX x a act (nI w) 1 (lnQ x a act w t q) := rfl
theorem rr2_swap (x : mA) (W1 V1 W2 V2 : Nat → Int32) : mS (mS (mS (mS x 42 W1) 41 V1) 44 W2) 43 V2 = rr2 x W1 V1 W2 V2 := by
  funext j
  unfold rr2
  by_cases q1 : j = 41
  · subst q1; rfl
  by_cases q2 : j = 42
  · subst q2; rfl
  by_cases q3 : j = 43
  · subst q3; rfl
  by_cases q4 : j = 44
  · subst q4; rfl
  rw [mS_ne _ _ _ q3, mS_ne _ _ _ q4, mS_ne _ _ _ q1, mS_ne _ _ _ q2, mS_ne _ _ _ q1, mS_ne _ _ _ q2, mS_ne _ _ _ q3, mS_ne _ _ _ q4]
set_option maxRecDepth 100000 in
theorem x_lnstep (d : Nat) (mb : Nat → AB) (x a : mA) (f : mF) (h0 : AH) (E : Nat × (Nat → Int32)) (Q : Option AV → AH → Prop) {t : Nat} (ht : t < 60) (i j act gw dd : Int32) (W1 V1 W2 V2 W1' V1' W2' V2' : Nat → Int32)
    (S1 : ab_Ex (d + 3) 0 yX2_passStage [vR 41 0, vI act, vI gw, vI 1] (hX mb (rr2 x W1 V1 W2 V2) a f) none (hX mb (rr2 x W1' V1' W2 V2) a f)) (S2 : ab_Ex (d + 3) 0 yX2_passStage [vR 43 0, vI act, vI gw, vI 1] (hX mb (rr2 x W1' V1' W2 V2) a f) none (hX mb (rr2 x W1' V1' W2' V2') a f))
    (hn : absI (V1' 5 - V2' 5) ≤ dd - 1 → ab_W jX4_length (d + 3) E h0 70 Q (ab_at iX4_length 98) [(6, vI (nI (t + 1) + 1)), (0, vR 13 0), (1, vI i), (2, vI j), (3, vI act), (4, vI gw), (5, vI dd)] [] (hX mb (rr2 x W1' V1' W2' V2') a f))
    (hq : ¬ absI (V1' 5 - V2' 5) ≤ dd - 1 → Q (some (vI (nI (t + 1)))) (hX mb (rr2 x W1' V1' W2' V2') a f)) : ab_W jX4_length (d + 3) E h0 70 Q (ab_at iX4_length 98) [(6, vI (nI (t + 1))), (0, vR 13 0), (1, vI i), (2, vI j), (3, vI act), (4, vI gw), (5, vI dd)] [] (hX mb (rr2 x W1 V1 W2 V2) a f) := by
  refine ab_run [98] 100 oX4_length.1 (Nat.le_refl _) 98 ?_
  refine ⟨fun c1 => absurd c1 (show ¬ nI 60 < nI (t + 1) from nI_nlt (by omega) (by omega)), fun _ => ?_⟩
  refine ⟨_, _, S1, Nat.le_refl _, ?_⟩
  refine ⟨_, _, S2, Nat.le_refl _, ?_⟩
  refine ⟨_, _, x_isWithin _ _ (Nat.le_refl _) (V1' 5) (V2' 5) (dd - 1), Nat.le_refl _, ?_⟩
  rw [abs_eq]
  refine br_n (fun c4 => ?_) (fun c4 => ?_)
  · exact hn c4
  · exact hq c4
set_option maxRecDepth 100000 in
theorem x_length {g : mG} {A x a : mA} {f : mF} (h : IV g A x a f) {m w i j : Nat} (em : A 2 3 = nI m) (hm : m ≤ 8) (hw : w < 5) (hg : (w : Int) < (A 2 2).toInt) (hi : i < m) (hj : j < m) {act : Int32} (ha1 : 0 ≤ act.toInt) (ha2 : act.toInt ≤ 5) (d : Nat) (mb : Nat → AB) (h0 : AH) (r1 r2 : Nat → Int32) (dd R : Int32) (hd1 : 1 ≤ dd.toInt) : ∀ (k t : Nat), t + k = 60 → R = lnR (lnC g A m w act i j) dd k t → ∃ t' : Nat, ∀ E, ab_W jX4_length (d + 3) E h0 70 (fun vv h1 => vv = some (vI R) ∧ h1 = hX mb (rr2 x (lnQ x a act w t' (bgQ x f i (-9) r1)).1 (lnQ x a act w t' (bgQ x f i (-9) r1)).2 (lnQ x a act w t' (bgQ x f j (-9) r2)).1 (lnQ x a act w t' (bgQ x f j (-9) r2)).2) a f) (ab_at iX4_length 98) [(6, vI (nI (t + 1))), (0, vR 13 0), (1, vI (nI i)), (2, vI (nI j)), (3, vI act), (4, vI (nI w)), (5, vI dd)] [] (hX mb (rr2 x (lnQ x a act w t (bgQ x f i (-9) r1)).1 (lnQ x a act w t (bgQ x f i (-9) r1)).2 (lnQ x a act w t (bgQ x f j (-9) r2)).1 (lnQ x a act w t (bgQ x f j (-9) r2)).2) a f) := by
  have hx5 := IV_x5 h
  intro k
  induction k with
  | zero =>
    intro t ht hR
    refine ⟨t, fun E => ?_⟩
    generalize lnQ x a act w t (bgQ x f i (-9) r1) = q1
    generalize lnQ x a act w t (bgQ x f j (-9) r2) = q2
    refine ab_run [98] 100 oX4_length.1 (Nat.le_refl _) 98 ?_
    refine ⟨fun c1 => ?_, fun c1 => absurd (show nI 60 < nI (t + 1) from nI_lt (by omega) (by omega)) c1⟩
    have hR : R = -9 := hR
    rw [hR]
    exact ⟨rfl, rfl⟩
  | succ k ih =>
    intro t ht hR
    obtain ⟨⟨o1, p1⟩, j1⟩ := len_RJ h em hm hw hg ha1 ha2 t (by omega) i hi r1
    obtain ⟨⟨o2, p2⟩, j2⟩ := len_RJ h em hm hw hg ha1 ha2 t (by omega) j hj r2
    have c1 : (lnQ x a act w (t + 1) (bgQ x f i (-9) r1)).2 5 = (sgN m act (t + 1) (bgG g A, opN w m (bgN m A))).2 9 i := j1.2.2.2.2.2.2.1
    have c2 : (lnQ x a act w (t + 1) (bgQ x f j (-9) r2)).2 5 = (sgN m act (t + 1) (bgG g A, opN w m (bgN m A))).2 9 j := j2.2.2.2.2.2.2.1
    clear j1 j2
    have S1 := p_stg41 d mb (mS (mS x 44 (lnQ x a act w t (bgQ x f j (-9) r2)).1) 43 (lnQ x a act w t (bgQ x f j (-9) r2)).2) a f act (nI w) 1 (by omega) hx5 (lnQ x a act w t (bgQ x f i (-9) r1)) o1 p1
    rw [stX_congr (x := x) (a := a) (a' := a) (by rw [mS_ne _ _ _ (by decide), mS_ne _ _ _ (by decide)]) rfl rfl, ← lnQ_s, show nI 1 = 1 from rfl] at S1
    have S2 := p_stg43 d mb (mS (mS x 42 (lnQ x a act w (t + 1) (bgQ x f i (-9) r1)).1) 41 (lnQ x a act w (t + 1) (bgQ x f i (-9) r1)).2) a f act (nI w) 1 (by omega) hx5 (lnQ x a act w t (bgQ x f j (-9) r2)) o2 p2
    rw [stX_congr (x := x) (a := a) (a' := a) (by rw [mS_ne _ _ _ (by decide), mS_ne _ _ _ (by decide)]) rfl rfl, ← lnQ_s, rr2_swap, rr2_swap, show nI 1 = 1 from rfl] at S2
    have hc : absI ((lnQ x a act w (t + 1) (bgQ x f i (-9) r1)).2 5 - (lnQ x a act w (t + 1) (bgQ x f j (-9) r2)).2 5) = lnC g A m w act i j (t + 1) := by
      rw [c1, c2]
      rfl
    by_cases c3 : dd ≤ lnC g A m w act i j (t + 1)
    · refine ⟨t + 1, fun E => x_lnstep d mb x a f h0 E _ (by omega) _ _ act (nI w) dd _ _ _ _ (lnQ x a act w (t + 1) (bgQ x f i (-9) r1)).1 (lnQ x a act w (t + 1) (bgQ x f i (-9) r1)).2 (lnQ x a act w (t + 1) (bgQ x f j (-9) r2)).1 (lnQ x a act w (t + 1) (bgQ x f j (-9) r2)).2 S1 S2 (fun c4 => ?_) (fun c4 => ?_)⟩
      · rw [hc] at c4
        exact absurd c3 ((ln_le hd1).mp c4)
      · have hR : R = nI (t + 1) := by rw [hR]; exact if_pos c3
        rw [hR]
        exact ⟨rfl, rfl⟩
    · obtain ⟨t', hW⟩ := ih (t + 1) (by omega) (by rw [hR]; exact if_neg c3)
      refine ⟨t', fun E => x_lnstep d mb x a f h0 E _ (by omega) _ _ act (nI w) dd _ _ _ _ (lnQ x a act w (t + 1) (bgQ x f i (-9) r1)).1 (lnQ x a act w (t + 1) (bgQ x f i (-9) r1)).2 (lnQ x a act w (t + 1) (bgQ x f j (-9) r2)).1 (lnQ x a act w (t + 1) (bgQ x f j (-9) r2)).2 S1 S2 (fun c4 => ?_) (fun c4 => ?_)⟩
      · have h9 := hW E
        rw [nI_succ (t + 1)] at h9
        exact h9
      · rw [hc] at c4
        exact absurd ((ln_le hd1).mpr c3) c4
end
section
theorem rr2_ne (x : mA) (W1 V1 W2 V2 : Nat → Int32) {k : Nat} (h : k < 41) : rr2 x W1 V1 W2 V2 k = x k := by
  unfold rr2
  rw [mS_ne _ _ _ (by omega), mS_ne _ _ _ (by omega), mS_ne _ _ _ (by omega), mS_ne _ _ _ (by omega)]
theorem IV_rr {g : mG} {A x a : mA} {f : mF} (h : IV g A x a f) (W1 V1 W2 V2 : Nat → Int32) : IV g A (rr2 x W1 V1 W2 V2) a f := IV_congr (fun _ _ => rfl) (fun _ _ => rfl) (fun k hk => rr2_ne x W1 V1 W2 V2 (by omega)) (fun _ _ _ => rfl) h
theorem x_bg41 (d : Nat) (mb : Nat → AB) (x a : mA) (f : mF) {i : Nat} (hi : i < 8) : ab_Ex (d + 2) 0 yX2_begin [vR 41 0, vR 20 i, vI (-9)] (hX mb x a f) none (hX mb (mS (mS x 42 (bgQ x f i (-9) (x 41)).1) 41 (bgQ x f i (-9) (x 41)).2) a f) := by
  have h1 := r_begin41 d mb x a f (x 42) (x 41) hi (-9)
  rw [rX] at h1
  exact h1
theorem x_bg43 (d : Nat) (mb : Nat → AB) (x a : mA) (f : mF) (W V : Nat → Int32) {i : Nat} (hi : i < 8) : ab_Ex (d + 2) 0 yX2_begin [vR 43 0, vR 20 i, vI (-9)] (hX mb (mS (mS x 42 W) 41 V) a f) none (hX mb (rr2 x W V (bgQ x f i (-9) (x 43)).1 (bgQ x f i (-9) (x 43)).2) a f) := by
  have h1 := r_begin43 d mb (mS (mS x 42 W) 41 V) a f (x 44) (x 43) hi (-9)
  rw [rr2_swap, rr2_swap] at h1
  have e : rr2 x W V (x 44) (x 43) = mS (mS x 42 W) 41 V := by
    unfold rr2
    rw [mS_id, mS_id]
  rw [e] at h1
  exact h1
set_option maxRecDepth 100000 in
theorem m_length {g : mG} {A x a : mA} {f : mF} (h : IV g A x a f) {m w i j : Nat} (em : A 2 3 = nI m) (hm : m ≤ 8) (hw : w < 5) (hg : (w : Int) < (A 2 2).toInt) (hi : i < m) (hj : j < m) (act : Int32) (d : Nat) (dd R w6 : Int32) : ∀ (k t : Nat), t + k = 60 → R = lnR (lnC g A m w act i j) dd k t → ∃ t' : Nat, ∀ xs E, ab_W jX5_length (d + 4) E (hM g A xs) 70 (fun vv h1 => vv = some (vI R) ∧ h1 = hM (sgN m act t' (bgG g A, opN w m (bgN m A))).1 (sgN m act t' (bgG g A, opN w m (bgN m A))).2 xs) (ab_at iX5_length 65) [(7, vI (nI (t + 1))), (6, vI w6), (0, vR 0 0), (1, vI (nI i)), (2, vI (nI j)), (3, vI act), (4, vI (nI w)), (5, vI dd)] [] (hM (sgN m act t (bgG g A, opN w m (bgN m A))).1 (sgN m act t (bgG g A, opN w m (bgN m A))).2 xs) := by
  have e2 : bgN m A 2 = A 2 := bgN_n m A (by decide) (by decide) (by decide)
  have h8 : ∀ (t q : Nat), q < m → ¬ 100 * (sgN m act t (bgG g A, opN w m (bgN m A))).2 8 q = 0 := by
    intro t q hq
    rw [sgN_A _ _ _ _ (by decide) (by decide)]
    show ¬ 100 * opN w m (bgN m A) 8 q = 0
    rw [(opN_lo w m _ hq).1, dnM_2 e2]
    exact (IV_dn h em hm hq hw hg).2.2.2
  intro k
  induction k with
  | zero =>
    intro t ht hR
    refine ⟨t, fun xs E => ?_⟩
    generalize sgN m act t (bgG g A, opN w m (bgN m A)) = Q
    refine ab_run [65, 75] 100 oX5_length.1 (Nat.le_refl _) 65 ?_
    refine ⟨fun c1 => ?_, fun c1 => absurd (show nI 60 < nI (t + 1) from nI_lt (by omega) (by omega)) c1⟩
    have hR : R = -9 := hR
    rw [hR]
    exact ⟨rfl, rfl⟩
  | succ k ih =>
    intro t ht hR
    -- a turn, whatever comes behind it
    have turn : ∀ (Q0 : Option AV → AH → Prop) (xs : List AB) (E : Nat × (Nat → Int32)),
        (¬ dd ≤ lnC g A m w act i j (t + 1) → ab_W jX5_length (d + 4) E (hM g A xs) 70 Q0 (ab_at iX5_length 65) [(7, vI (nI (t + 1) + 1)), (6, vI w6), (0, vR 0 0), (1, vI (nI i)), (2, vI (nI j)), (3, vI act), (4, vI (nI w)), (5, vI dd)] [] (hM (sgN m act (t + 1) (bgG g A, opN w m (bgN m A))).1 (sgN m act (t + 1) (bgG g A, opN w m (bgN m A))).2 xs)) →
        (dd ≤ lnC g A m w act i j (t + 1) → Q0 (some (vI (nI (t + 1)))) (hM (sgN m act (t + 1) (bgG g A, opN w m (bgN m A))).1 (sgN m act (t + 1) (bgG g A, opN w m (bgN m A))).2 xs)) →
        ab_W jX5_length (d + 4) E (hM g A xs) 70 Q0 (ab_at iX5_length 65) [(7, vI (nI (t + 1))), (6, vI w6), (0, vR 0 0), (1, vI (nI i)), (2, vI (nI j)), (3, vI act), (4, vI (nI w)), (5, vI dd)] [] (hM (sgN m act t (bgG g A, opN w m (bgN m A))).1 (sgN m act t (bgG g A, opN w m (bgN m A))).2 xs) := by
      intro Q0 xs E K1 K2
      have eM : sgN m act (t + 1) (bgG g A, opN w m (bgN m A)) = tuT m act (sgN m act t (bgG g A, opN w m (bgN m A))) := rfl
      have h8 := h8 t
      have hB2 : (sgN m act t (bgG g A, opN w m (bgN m A))).2 2 = A 2 := sg_2
      unfold lnC at K1 K2
      rw [eM] at K1 K2
      generalize sgN m act t (bgG g A, opN w m (bgN m A)) = Q at h8 hB2 K1 K2 ⊢
      have inner : ∀ (l u : Nat) (gi : mG) (Ai : mA), u + l = 100 → (gi, Ai) = tuN m act u Q → ab_W jX5_length (d + 4) E (hM g A xs) 70 Q0 (ab_at iX5_length 75) [(8, vI (nI u)), (7, vI (nI (t + 1))), (6, vI w6), (0, vR 0 0), (1, vI (nI i)), (2, vI (nI j)), (3, vI act), (4, vI (nI w)), (5, vI dd)] [] (hM gi Ai xs) := by
        intro l
        induction l with
        | zero =>
          intro u gi Ai hu hq
          have eT : tuT m act Q = (upd gi 12 (gi 12 + 1), Ai) := by
            unfold tuT
            rw [← show u = 100 by omega, ← hq]
          rw [eT] at K1 K2
          refine ab_run [65, 75] 100 oX5_length.1 (Nat.le_refl _) 75 ?_
          refine ⟨fun _ => ?_, fun c1 => absurd (nI_le (a := 100) (b := u) (by omega) (by omega)) c1⟩
          refine ⟨(vp_in_nI (by omega) (by omega) : vp_in (nI i) 8), (vp_in_nI (by omega) (by omega) : vp_in (nI j) 8), ?_⟩
          rw [nI_clamp (by omega), nI_clamp (by omega)]
          refine ⟨_, _, m_amount _ _ (Nat.le_refl _) (Ai 9 i - Ai 9 j), Nat.le_refl _, ?_⟩
          refine ⟨fun c2 => ?_, fun c2 => ?_⟩
          · exact ab_W_lv (lv_pk [0, 2, 3, 4, 5, 6, 7, 8] rfl) (K1 (lt_nle c2))
          · exact K2 (nlt_le c2)
        | succ l ihl =>
          intro u gi Ai hu hq
          have e2' : Ai 2 = A 2 := by
            have h1 := tuN_A m act u Q (j := 2) (by decide) (by decide)
            rw [← hq] at h1
            exact h1.trans hB2
          have e8 : Ai 8 = Q.2 8 := by
            have h1 := tuN_A m act u Q (j := 8) (by decide) (by decide)
            rw [← hq] at h1
            exact h1
          refine ab_run [65, 75] 100 oX5_length.1 (Nat.le_refl _) 75 ?_
          refine ⟨fun c1 => absurd c1 (nI_ge (a := u) (b := 100) (by omega) (by omega)), fun _ => ?_⟩
          refine ⟨_, _, m_goesStep d xs gi Ai (m := m) (by rw [e2']; exact em) hm act (nI u) (fun q hq => by rw [e8]; exact h8 q hq), Nat.le_refl _, ?_⟩
          have h9 := ihl (u + 1) (gsS m act (nI u) (gi, Ai)).1 (gsS m act (nI u) (gi, Ai)).2 (by omega) (by rw [hq]; rfl)
          rw [nI_succ u] at h9
          exact h9
      refine ab_run [65, 75] 100 oX5_length.1 (Nat.le_refl _) 65 ?_
      refine ⟨fun c1 => absurd c1 (show ¬ nI 60 < nI (t + 1) from nI_nlt (by omega) (by omega)), fun _ => ?_⟩
      exact inner 100 0 Q.1 Q.2 (by omega) rfl
    by_cases c3 : dd ≤ lnC g A m w act i j (t + 1)
    · have hR : R = nI (t + 1) := by rw [hR]; exact if_pos c3
      refine ⟨t + 1, fun xs E => turn _ xs E (fun q => absurd c3 q) (fun _ => ?_)⟩
      rw [hR]
      exact ⟨rfl, rfl⟩
    · obtain ⟨t', hW⟩ := ih (t + 1) (by omega) (by rw [hR]; exact if_neg c3)
      refine ⟨t', fun xs E => turn _ xs E (fun _ => ?_) (fun q => absurd q c3)⟩
      have h9 := hW xs E
      rw [nI_succ (t + 1)] at h9
      exact h9
theorem p_length : P_length IV 40 := by
  intro p1 p2 p3 p4 p5 g A x a f h
  obtain ⟨m, hm, em, exm⟩ := IV_m h
  obtain ⟨ng, hng, eg, exg⟩ := IV_ng h
  have z1 : (1 : Int32).toInt = 1 := rfl
  have z6 : (6 : Int32).toInt = 6 := rfl
  have z0 : (0 : Int32).toInt = 0 := rfl
  by_cases c0 : ((0 ≤ p1 ∧ p1 < nI m) ∧ (0 ≤ p2 ∧ p2 < nI m) ∧ ¬ p1 = p2) ∧ (0 ≤ p3 ∧ p3 < 6) ∧ (0 ≤ p4 ∧ p4 < nI ng)
  · have k0 : (0 ≤ p1 ∧ p1 < x 17 5) ∧ (0 ≤ p2 ∧ p2 < x 17 5) ∧ ¬ p1 = p2 := by rw [exm]; exact c0.1
    have k2 : (0 ≤ p1 ∧ p1 < A 2 3) ∧ (0 ≤ p2 ∧ p2 < A 2 3) ∧ ¬ p1 = p2 := by rw [em]; exact c0.1
    have k1 : 0 ≤ p4 ∧ p4 < x 17 3 := by rw [exg]; exact c0.2.2
    have k3 : 0 ≤ p4 ∧ p4 < A 2 2 := by rw [eg]; exact c0.2.2
    by_cases c1 : p5 < 1
    · refine pr_rf h rc4 ?_ (fun xs => ?_)
      · refine ab_meth oX4_length 39 _ _ _ _ (Nat.le_refl _) rfl (fun E => ?_)
        refine ab_run [98] 100 oX4_length.1 (Nat.le_refl _) 0 ?_
        refine ⟨_, _, x_areTwo _ _ x a f _ _, Nat.le_refl _, ?_⟩
        refine br_z (fun c => absurd k0 c) (fun c => ?_)
        refine ⟨_, _, x_isAct _ _ (Nat.le_refl _) _, Nat.le_refl _, ?_⟩
        refine br_z (fun c => absurd c0.2.1 c) (fun c => ?_)
        refine ⟨_, _, x_isGear _ _ x a f _, Nat.le_refl _, ?_⟩
        refine br_n (fun c => ?_) (fun c => absurd k1 c)
        refine ⟨fun c => absurd c1 (le_nlt c), fun c => ?_⟩
        exact ⟨_, _, x_rf _ _ x a f rc4, Nat.le_refl _, rfl, rfl⟩
      · refine ab_meth oX5_length 39 _ _ _ _ (Nat.le_refl _) rfl (fun E => ?_)
        refine ab_run [65, 75] 100 oX5_length.1 (Nat.le_refl _) 0 ?_
        refine ⟨_, _, m_areTwo _ g A xs _ _, Nat.le_refl _, ?_⟩
        refine br_z (fun c => absurd k2 c) (fun c => ?_)
        refine ⟨_, _, m_isAct _ _ (Nat.le_refl _) _, Nat.le_refl _, ?_⟩
        refine br_z (fun c => absurd c0.2.1 c) (fun c => ?_)
        refine ⟨_, _, m_isGear _ g A xs _, Nat.le_refl _, ?_⟩
        refine br_z (fun c => absurd k3 c) (fun c => ?_)
        refine ⟨_, _, m_within _ _ (Nat.le_refl _) _ _ _, Nat.le_refl _, ?_⟩
        rw [show withI p5 1 999 = -4 from if_pos c1]
        refine ⟨fun c => absurd c (by decide), fun c => ?_⟩
        exact ⟨_, _, m_rf _ g A xs rc4, Nat.le_refl _, rfl, rfl⟩
    by_cases c2 : 999 < p5
    · refine pr_rf h rc6 ?_ (fun xs => ?_)
      · refine ab_meth oX4_length 39 _ _ _ _ (Nat.le_refl _) rfl (fun E => ?_)
        refine ab_run [98] 100 oX4_length.1 (Nat.le_refl _) 0 ?_
        refine ⟨_, _, x_areTwo _ _ x a f _ _, Nat.le_refl _, ?_⟩
        refine br_z (fun c => absurd k0 c) (fun c => ?_)
        refine ⟨_, _, x_isAct _ _ (Nat.le_refl _) _, Nat.le_refl _, ?_⟩
        refine br_z (fun c => absurd c0.2.1 c) (fun c => ?_)
        refine ⟨_, _, x_isGear _ _ x a f _, Nat.le_refl _, ?_⟩
        refine br_n (fun c => ?_) (fun c => absurd k1 c)
        refine ⟨fun c => ?_, fun c => absurd (nlt_le c1) c⟩
        refine ⟨fun c => absurd c2 (le_nlt c), fun c => ?_⟩
        exact ⟨_, _, x_rf _ _ x a f rc6, Nat.le_refl _, rfl, rfl⟩
      · refine ab_meth oX5_length 39 _ _ _ _ (Nat.le_refl _) rfl (fun E => ?_)
        refine ab_run [65, 75] 100 oX5_length.1 (Nat.le_refl _) 0 ?_
        refine ⟨_, _, m_areTwo _ g A xs _ _, Nat.le_refl _, ?_⟩
        refine br_z (fun c => absurd k2 c) (fun c => ?_)
        refine ⟨_, _, m_isAct _ _ (Nat.le_refl _) _, Nat.le_refl _, ?_⟩
        refine br_z (fun c => absurd c0.2.1 c) (fun c => ?_)
        refine ⟨_, _, m_isGear _ g A xs _, Nat.le_refl _, ?_⟩
        refine br_z (fun c => absurd k3 c) (fun c => ?_)
        refine ⟨_, _, m_within _ _ (Nat.le_refl _) _ _ _, Nat.le_refl _, ?_⟩
        rw [show withI p5 1 999 = -6 from (if_neg c1).trans (if_pos c2)]
        refine ⟨fun c => absurd c (by decide), fun c => ?_⟩
        exact ⟨_, _, m_rf _ g A xs rc6, Nat.le_refl _, rfl, rfl⟩
    obtain ⟨i, hi, rfl⟩ := ix_of (m := m) (by omega) c0.1.1
    obtain ⟨j, hj, rfl⟩ := ix_of (m := m) (by omega) c0.1.2.1
    obtain ⟨w, hw5, rfl⟩ := ix_of (m := ng) (by omega) c0.2.2
    have a1 := Int32.le_iff_toInt_le.mp c0.2.1.1
    have a2 := Int32.lt_iff_toInt_lt.mp c0.2.1.2
    have d1 := Int32.le_iff_toInt_le.mp (nlt_le c1)
    have hgw : (w : Int) < (A 2 2).toInt := by rw [eg, nI_toInt (by omega)]; omega
    obtain ⟨R, hR⟩ : ∃ R : Int32, R = lnR (lnC g A m w p3 i j) p5 60 0 := ⟨_, rfl⟩
    obtain ⟨t1, hXw⟩ := x_length h em hm (w := w) (by omega) hgw hi hj (act := p3) (by omega) (by omega) 36 (mbl g A) (hX (mbl g A) x a f) (x 41) (x 43) p5 R (by omega) 60 0 (by omega) hR
    obtain ⟨t2, hMw⟩ := m_length h em hm (w := w) (by omega) hgw hi hj p3 35 p5 R 0 60 0 (by omega) hR
    have e2 : bgN m A 2 = A 2 := bgN_n m A (by decide) (by decide) (by decide)
    refine pr_w (r := R) (x' := rr2 x (lnQ x a p3 w t1 (bgQ x f i (-9) (x 41))).1 (lnQ x a p3 w t1 (bgQ x f i (-9) (x 41))).2 (lnQ x a p3 w t1 (bgQ x f j (-9) (x 43))).1 (lnQ x a p3 w t1 (bgQ x f j (-9) (x 43))).2) (a' := a) (f' := f) (g' := (sgN m p3 t2 (bgG g A, opN w m (bgN m A))).1) (A' := (sgN m p3 t2 (bgG g A, opN w m (bgN m A))).2) ?_ (fun xs => ?_) (IV_rr (IV_sg m w t2 p3 h) _ _ _ _)
    · refine ab_meth oX4_length 39 _ _ _ _ (Nat.le_refl _) rfl (fun E => ?_)
      refine ab_run [98] 100 oX4_length.1 (Nat.le_refl _) 0 ?_
      refine ⟨_, _, x_areTwo _ _ x a f _ _, Nat.le_refl _, ?_⟩
      refine br_z (fun c => absurd k0 c) (fun c => ?_)
      refine ⟨_, _, x_isAct _ _ (Nat.le_refl _) _, Nat.le_refl _, ?_⟩
      refine br_z (fun c => absurd c0.2.1 c) (fun c => ?_)
      refine ⟨_, _, x_isGear _ _ x a f _, Nat.le_refl _, ?_⟩
      refine br_n (fun c => ?_) (fun c => absurd k1 c)
      refine ⟨fun c => ?_, fun c => absurd (nlt_le c1) c⟩
      refine ⟨fun c => ?_, fun c => absurd (nlt_le c2) c⟩
      refine ⟨vp_in_nI (by omega) (by omega), ⟨(20, i), by rw [nI_clamp (by omega)]; exact ab_fa_at 20 (by omega), ?_⟩⟩
      refine ⟨_, _, x_bg41 _ (mbl g A) x a f (i := i) (by omega), Nat.le_refl _, ?_⟩
      refine ⟨vp_in_nI (by omega) (by omega), ⟨(20, j), by rw [nI_clamp (by omega)]; exact ab_fa_at 20 (by omega), ?_⟩⟩
      refine ⟨_, _, x_bg43 _ (mbl g A) x a f _ _ (i := j) (by omega), Nat.le_refl _, ?_⟩
      exact hXw E
    · refine ab_meth oX5_length 39 _ _ _ _ (Nat.le_refl _) rfl (fun E => ?_)
      refine ab_run [65, 75] 100 oX5_length.1 (Nat.le_refl _) 0 ?_
      refine ⟨_, _, m_areTwo _ g A xs _ _, Nat.le_refl _, ?_⟩
      refine br_z (fun c => absurd k2 c) (fun c => ?_)
      refine ⟨_, _, m_isAct _ _ (Nat.le_refl _) _, Nat.le_refl _, ?_⟩
      refine br_z (fun c => absurd c0.2.1 c) (fun c => ?_)
      refine ⟨_, _, m_isGear _ g A xs _, Nat.le_refl _, ?_⟩
      refine br_z (fun c => absurd k3 c) (fun c => ?_)
      refine ⟨_, _, m_within _ _ (Nat.le_refl _) _ _ _, Nat.le_refl _, ?_⟩
      rw [show withI p5 1 999 = 0 from (if_neg c1).trans (if_neg c2)]
      refine ⟨fun c => ?_, fun c => absurd rfl c⟩
      refine ⟨_, _, m_begins 37 xs g A em hm, Nat.le_refl _, ?_⟩
      refine ⟨_, _, m_opensStage 36 xs (bgG g A) (bgN m A) (m := m) (w := w) (by rw [e2]; exact em) hm (by omega) (bgN_8 h em hm), Nat.le_refl _, ?_⟩
      exact hMw xs E
  · refine pr_rf h rc1 ?_ (fun xs => ?_)
    · refine ab_meth oX4_length 39 _ _ _ _ (Nat.le_refl _) rfl (fun E => ?_)
      refine ab_run [98] 100 oX4_length.1 (Nat.le_refl _) 0 ?_
      refine ⟨_, _, x_areTwo _ _ x a f _ _, Nat.le_refl _, ?_⟩
      refine br_z (fun _ => ⟨_, _, x_rf _ _ x a f rc1, Nat.le_refl _, rfl, rfl⟩) (fun b1 => ?_)
      refine ⟨_, _, x_isAct _ _ (Nat.le_refl _) _, Nat.le_refl _, ?_⟩
      refine br_z (fun _ => ⟨_, _, x_rf _ _ x a f rc1, Nat.le_refl _, rfl, rfl⟩) (fun b2 => ?_)
      refine ⟨_, _, x_isGear _ _ x a f _, Nat.le_refl _, ?_⟩
      refine br_n (fun b3 => ?_) (fun _ => ⟨_, _, x_rf _ _ x a f rc1, Nat.le_refl _, rfl, rfl⟩)
      rw [exm] at b1
      rw [exg] at b3
      exact absurd ⟨b1, b2, b3⟩ c0
    · refine ab_meth oX5_length 39 _ _ _ _ (Nat.le_refl _) rfl (fun E => ?_)
      refine ab_run [65, 75] 100 oX5_length.1 (Nat.le_refl _) 0 ?_
      have fin : (¬ (-1 : Int32) = 0) := by decide
      refine ⟨_, _, m_areTwo _ g A xs _ _, Nat.le_refl _, ?_⟩
      refine br_z (fun _ => ⟨fun q => absurd q fin, fun _ => ⟨_, _, m_rf _ g A xs rc1, Nat.le_refl _, rfl, rfl⟩⟩) (fun b1 => ?_)
      refine ⟨_, _, m_isAct _ _ (Nat.le_refl _) _, Nat.le_refl _, ?_⟩
      refine br_z (fun _ => ⟨fun q => absurd q fin, fun _ => ⟨_, _, m_rf _ g A xs rc1, Nat.le_refl _, rfl, rfl⟩⟩) (fun b2 => ?_)
      refine ⟨_, _, m_isGear _ g A xs _, Nat.le_refl _, ?_⟩
      refine br_z (fun _ => ⟨fun q => absurd q fin, fun _ => ⟨_, _, m_rf _ g A xs rc1, Nat.le_refl _, rfl, rfl⟩⟩) (fun b3 => ?_)
      rw [em] at b1
      rw [eg] at b3
      exact absurd ⟨b1, b2, b3⟩ c0
end
section
/-- whether the rider comes by in the step t of a SIT -/
def bcV (w r : Nat → Int32) (t : Nat) : Int32 := bI (wrapI (wrapI (w 1 * w 8 - w 7 - 1) (100 * w 8) - nI t * r 2) (100 * w 8) < r 2)
theorem bc_eq {w r : Nat → Int32} (h : RO w r) (kind : Int32) {t : Nat} (ht : t < 2000) : cbR 0 (w 1) (r 2) (w 8) (whT 0 kind (r 2) (w 8) (w 7) t) = bcV w r t := by
  obtain ⟨e1, e2, e3⟩ := RO_wrap h
  obtain ⟨⟨a1, a2⟩, ⟨b1, b2⟩, ⟨c1, c2⟩, d1, d2⟩ := h
  have n1 := ti_clamp (x := r 2) (by omega)
  have m8 := ti_clamp (x := w 8) (by omega)
  have m7 := ti_clamp (x := w 7) (by omega)
  have m1 := ti_clamp (x := w 1) (by omega)
  generalize hu : (r 2).toNatClampNeg = u at n1
  generalize hD : (w 8).toNatClampNeg = D at m8
  generalize hW : (w 7).toNatClampNeg = W at m7
  generalize hP : (w 1).toNatClampNeg = P at m1
  have q3 := Int.emod_nonneg ((w 1).toInt * (w 8).toInt - (w 7).toInt - 1) (show 100 * (w 8).toInt ≠ 0 by omega)
  have q4 := Int.emod_lt_of_pos ((w 1).toInt * (w 8).toInt - (w 7).toInt - 1) (show 0 < 100 * (w 8).toInt by omega)
  have htu : t * u ≤ 2000 * 60 := Nat.mul_le_mul (by omega) (by omega)
  have etu : (nI t * r 2).toInt = ((t * u : Nat) : Int) := by
    rw [ti_mul (nI_toInt (by omega)) n1.symm (by rw [← Int.natCast_mul]; omega) (by rw [← Int.natCast_mul]; omega), Int.natCast_mul]
  generalize hp0 : ((w 1).toInt * (w 8).toInt - (w 7).toInt - 1) % (100 * (w 8).toInt) = p0 at e3 q3 q4
  have e4 := ti_sub e3 etu (by omega) (by omega)
  have e5 := ti_wrap e4 e1 (by omega) (by omega) (by omega) (by omega)
  have r1 := Int.emod_nonneg (p0 - ((t * u : Nat) : Int)) (show 100 * (w 8).toInt ≠ 0 by omega)
  have r2' := Int.emod_lt_of_pos (p0 - ((t * u : Nat) : Int)) (show 0 < 100 * (w 8).toInt by omega)
  have r3 := Int.emod_add_mul_ediv (p0 - ((t * u : Nat) : Int)) (100 * (w 8).toInt)
  have r4 := Int.emod_add_mul_ediv ((w 1).toInt * (w 8).toInt - (w 7).toInt - 1) (100 * (w 8).toInt)
  rw [hp0] at r4
  generalize hy : (p0 - ((t * u : Nat) : Int)) % (100 * (w 8).toInt) = y at e5 r1 r2' r3
  have hRR : ((100 * D : Nat) : Int) = 100 * (w 8).toInt := by omega
  have ew : (whT 0 kind (r 2) (w 8) (w 7) t).toInt = (((W + t * u) % (100 * D) : Nat) : Int) := whT_on (by decide) (by decide) n1.symm m8.symm m7.symm (by omega) (by omega) (by omega) (by omega) t
  have ea := ahd_eq (place := w 1) (by_ := w 8) (c := P * D) (w := W) (u := u) (t := t) (p := t * u + y.toNat) (pl := P) m1.symm m8.symm rfl (by omega) (by omega) (by omega) ew (by
    refine ⟨-((p0 - ((t * u : Nat) : Int)) / (100 * (w 8).toInt)) - ((w 1).toInt * (w 8).toInt - (w 7).toInt - 1) / (100 * (w 8).toInt), ?_⟩
    rw [hRR, Int.mul_sub, Int.mul_neg, Int.natCast_mul, m1, m8, m7]
    omega) (by omega) (by omega)
  unfold cbR bcV
  rw [if_neg (by decide), if_neg (by decide)]
  have i1 := le_ti ea (show (r 2).toInt = (u : Int) from n1.symm)
  have i2 := lt_ti e5 (show (r 2).toInt = (u : Int) from n1.symm)
  unfold bI
  by_cases hc : y < (u : Int)
  · rw [if_pos (i1.mpr (by omega)), if_pos (i2.mpr hc)]
  · rw [if_neg (fun z => hc (by have := i1.mp z; omega)), if_neg (fun z => hc (i2.mp z))]
theorem bt_fct {g : mG} {A x a : mA} {f : mF} (h : IV g A x a f) {m j w : Nat} (em : A 2 3 = nI m) (hm : m ≤ 8) (hj : j < m) (hw : w < 5) (hg : (w : Int) < (A 2 2).toInt) (r : Nat → Int32) : 0 < f 20 j 8 ∧ RO (rW (f 20 j) (downX (f 20 j 0) (f 20 j 6) (x 17 1) (nI w) (x 17 3) (a 18))) (bgQ x f j (-9) r).2 ∧ (rW (f 20 j) (downX (f 20 j 0) (f 20 j 6) (x 17 1) (nI w) (x 17 3) (a 18))) 1 = A 2 (16 + 9 * j + 1) ∧ (rW (f 20 j) (downX (f 20 j 0) (f 20 j 6) (x 17 1) (nI w) (x 17 3) (a 18))) 8 = opN w m (bgN m A) 8 j ∧ (rW (f 20 j) (downX (f 20 j 0) (f 20 j 6) (x 17 1) (nI w) (x 17 3) (a 18))) 7 = opN w m (bgN m A) 7 j ∧ (bgQ x f j (-9) r).2 2 = upM A j := by
  have e2 : bgN m A 2 = A 2 := bgN_n m A (by decide) (by decide) (by decide)
  have h0 := IV_r0 h
  have hRJ := RJ_begin h em hm hj (G := bgG g A) rfl rfl (-9) r
  obtain ⟨-, ⟨s2, s3⟩, -⟩ := RJ_stage (f := f) (x := x) (a := a) (w := w) (T := 1) (act := 0) (by rw [e2]; exact h.2.2.2.2.1) (by rw [e2]; exact h.2.2.2.2.2.1) (by rw [e2]; exact em) hj hm hw (by rw [e2]; exact hg) (by omega) (by decide) (by decide) h0.1 (by show (A 2 5).toInt ≤ 20000; omega) hRJ
  obtain ⟨hwf, hv⟩ := IV_flt h em hm hj
  have ed : downX (f 20 j 0) (f 20 j 6) (x 17 1) (nI w) (x 17 3) (a 18) = dnM A w j := by
    rw [dn_eq h.2.2.2.2.2.1 hw hg, ← hv 0 (by decide), ← hv 6 (by decide)]
    rfl
  obtain ⟨o8, o7⟩ := opN_lo w m (bgN m A) hj
  obtain ⟨b7, b8, -⟩ := bgN_lo m A hj
  refine ⟨s2, s3, (hv 1 (by decide)).symm, ?_, ?_, ?_⟩
  · rw [o8, dnM_2 e2]
    exact ed
  · rw [o7, dnM_2 e2, b7, b8]
    show f 20 j 7 * downX (f 20 j 0) (f 20 j 6) (x 17 1) (nI w) (x 17 3) (a 18) / f 20 j 8 = _
    rw [ed, hv 7 (by decide), hv 8 (by decide)]
  · have := hRJ.2.2.2.1
    rw [this, upM_2 e2]
def btR (U V : Nat → Int32) : Nat → Nat → Int32
  | 0, _ => -9
  | k + 1, t => if U t = 0 then btR U V k (t + 1) else if V t = 0 then btR U V k (t + 1) else nI t
set_option maxRecDepth 100000 in
theorem x_btloop (d : Nat) (mb : Nat → AB) (x a : mA) (f : mF) (h0 : AH) (E : Nat × (Nat → Int32)) (i j gw R : Int32) (W1 V1 W2 V2 : Nat → Int32) (N : Nat) (hN : N = 2000) : ∀ (k t : Nat), t + k = N → R = btR (bcV W1 V1) (bcV W2 V2) k t → ab_W jX4_beat (d + 3) E h0 70 (fun v1 h1 => v1 = some (vI R) ∧ h1 = hX mb (rr2 x W1 V1 W2 V2) a f) (ab_at iX4_beat 78) [(4, vI (nI t)), (0, vR 13 0), (1, vI i), (2, vI j), (3, vI gw)] [] (hX mb (rr2 x W1 V1 W2 V2) a f) := by
  have C1 : ∀ t : Nat, ab_Ex (d + 3) 0 yX2_comesByIn [vR 41 0, vI (nI t)] (hX mb (rr2 x W1 V1 W2 V2) a f) (some (vI (bcV W1 V1 t))) (hX mb (rr2 x W1 V1 W2 V2) a f) := fun t => r_comesByIn41 d mb (mS (mS x 44 W2) 43 V2) a f W1 V1 (nI t)
  have C2 : ∀ t : Nat, ab_Ex (d + 3) 0 yX2_comesByIn [vR 43 0, vI (nI t)] (hX mb (rr2 x W1 V1 W2 V2) a f) (some (vI (bcV W2 V2 t))) (hX mb (rr2 x W1 V1 W2 V2) a f) := by
    intro t
    have h1 := r_comesByIn43 d mb (mS (mS x 42 W1) 41 V1) a f W2 V2 (nI t)
    rw [rr2_swap] at h1
    exact h1
  intro k
  induction k with
  | zero =>
    intro t ht hR
    refine ab_run [78] 100 oX4_beat.1 (Nat.le_refl _) 78 ?_
    refine ⟨fun c1 => ?_, fun c1 => absurd (show nI 2000 ≤ nI t from nI_le (by omega) (by omega)) c1⟩
    have hR : R = -9 := hR
    rw [hR]
    exact ⟨rfl, rfl⟩
  | succ k ih =>
    intro t ht hR
    unfold btR at hR
    refine ab_run [78] 100 oX4_beat.1 (Nat.le_refl _) 78 ?_
    refine ⟨fun c1 => absurd c1 (nI_ge (a := t) (b := 2000) (by omega) (by omega)), fun c1 => ?_⟩
    refine ⟨_, _, C1 t, Nat.le_refl _, ?_⟩
    refine ⟨fun c2 => ?_, fun c2 => ?_⟩
    · rw [if_pos c2] at hR
      have h9 := ih (t + 1) (by omega) hR
      rw [nI_succ] at h9
      exact h9
    rw [if_neg c2] at hR
    refine ⟨_, _, C2 t, Nat.le_refl _, ?_⟩
    refine ⟨fun c3 => ?_, fun c3 => ?_⟩
    · rw [if_pos c3] at hR
      have h9 := ih (t + 1) (by omega) hR
      rw [nI_succ] at h9
      exact h9
    · rw [if_neg c3] at hR
      rw [hR]
      exact ⟨rfl, rfl⟩
theorem m_cb (d : Nat) (G : mG) (B : mA) (y : Nat → Int32) (xs : List AB) {i : Nat} (hi : i < 8) (hby : ¬ 100 * B 8 i = 0) : ab_Ex (d + 3) 0 yX5_comesBy [vR 0 0, vI (nI i), vI 0] (hM G (mS B 7 y) xs) (some (vI (cbR 0 (B 2 (16 + 9 * i + 1)) (upM B i) (B 8 i) (y i)))) (hM G (mS B 7 (upd y i (cbW 0 (B 2 (16 + 9 * i)) (upM B i) (B 8 i) (y i)))) xs) := by
  have h1 := m_comesBy d G (mS B 7 y) xs i hi 0 hby
  rw [mS_mS, mS_eq, mS_ne B 7 y (show 2 ≠ 7 by decide), mS_ne B 7 y (show 8 ≠ 7 by decide)] at h1
  exact h1
def beY (B : mA) (i j t : Nat) : Nat → Int32 := upd (upd (B 7) i (whT 0 (B 2 (16 + 9 * i)) (upM B i) (B 8 i) (B 7 i) t)) j (whT 0 (B 2 (16 + 9 * j)) (upM B j) (B 8 j) (B 7 j) t)
theorem upd_c {s : Nat → Int32} {i j : Nat} {u v : Int32} (h : i ≠ j) : upd (upd s j v) i u = upd (upd s i u) j v := by
  funext k
  by_cases q1 : k = i
  · rw [q1, upd_at, upd_ne h, upd_at]
  · rw [upd_ne q1]
    by_cases q2 : k = j
    · rw [q2, upd_at, upd_at]
    · rw [upd_ne q2, upd_ne q2, upd_ne q1]
theorem upd_u {s : Nat → Int32} {i : Nat} {u v : Int32} : upd (upd s i u) i v = upd s i v := by
  funext k
  by_cases q1 : k = i
  · rw [q1, upd_at, upd_at]
  · rw [upd_ne q1, upd_ne q1, upd_ne q1]
set_option maxRecDepth 100000 in
theorem m_btloop (d : Nat) (G : mG) (B : mA) (h0 : List AB → AH) {i j : Nat} (hi : i < 8) (hj : j < 8) (hij : i ≠ j) (hbi : ¬ 100 * B 8 i = 0) (hbj : ¬ 100 * B 8 j = 0) (gw R : Int32) (U V : Nat → Int32) (N : Nat) (hN : N = 2000)
    (hU : ∀ t, t < N → cbR 0 (B 2 (16 + 9 * i + 1)) (upM B i) (B 8 i) (whT 0 (B 2 (16 + 9 * i)) (upM B i) (B 8 i) (B 7 i) t) = U t) (hV : ∀ t, t < N → cbR 0 (B 2 (16 + 9 * j + 1)) (upM B j) (B 8 j) (whT 0 (B 2 (16 + 9 * j)) (upM B j) (B 8 j) (B 7 j) t) = V t) : ∀ (k t : Nat), t + k = N → R = btR U V k t → ∃ y : Nat → Int32, ∀ xs E, ab_W jX5_beat (d + 3) E (h0 xs) 70 (fun v1 h1 => v1 = some (vI R) ∧ h1 = hM G (mS B 7 y) xs) (ab_at iX5_beat 35) [(4, vI (nI t)), (0, vR 0 0), (1, vI (nI i)), (2, vI (nI j)), (3, vI gw)] [] (hM G (mS B 7 (beY B i j t)) xs) := by
  intro k
  induction k with
  | zero =>
    intro t ht hR
    refine ⟨beY B i j t, fun xs E => ?_⟩
    refine ab_run [35] 100 oX5_beat.1 (Nat.le_refl _) 35 ?_
    refine ⟨fun c1 => ?_, fun c1 => absurd (show nI 2000 ≤ nI t from nI_le (by omega) (by omega)) c1⟩
    have hR : R = -9 := hR
    rw [hR]
    exact ⟨rfl, rfl⟩
  | succ k ih =>
    intro t ht hR
    unfold btR at hR
    have e1 : beY B i j t i = whT 0 (B 2 (16 + 9 * i)) (upM B i) (B 8 i) (B 7 i) t := by
      unfold beY
      rw [upd_ne hij, upd_at]
    have s1 := fun xs => m_cb d G B (beY B i j t) xs hi hbi
    rw [e1, hU t (by omega)] at s1
    have s2 := fun xs => m_cb d G B (upd (beY B i j t) i (cbW 0 (B 2 (16 + 9 * i)) (upM B i) (B 8 i) (whT 0 (B 2 (16 + 9 * i)) (upM B i) (B 8 i) (B 7 i) t))) xs hj hbj
    have e2 : upd (beY B i j t) i (cbW 0 (B 2 (16 + 9 * i)) (upM B i) (B 8 i) (whT 0 (B 2 (16 + 9 * i)) (upM B i) (B 8 i) (B 7 i) t)) j = whT 0 (B 2 (16 + 9 * j)) (upM B j) (B 8 j) (B 7 j) t := by
      unfold beY
      rw [upd_ne (Ne.symm hij), upd_at]
    rw [e2, hV t (by omega)] at s2
    have e3 : upd (upd (beY B i j t) i (cbW 0 (B 2 (16 + 9 * i)) (upM B i) (B 8 i) (whT 0 (B 2 (16 + 9 * i)) (upM B i) (B 8 i) (B 7 i) t))) j (cbW 0 (B 2 (16 + 9 * j)) (upM B j) (B 8 j) (whT 0 (B 2 (16 + 9 * j)) (upM B j) (B 8 j) (B 7 j) t)) = beY B i j (t + 1) := by
      unfold beY
      rw [upd_c hij, upd_u, upd_u]
      rfl
    rw [e3] at s2
    clear e1 e2 e3
    generalize upd (beY B i j t) i (cbW 0 (B 2 (16 + 9 * i)) (upM B i) (B 8 i) (whT 0 (B 2 (16 + 9 * i)) (upM B i) (B 8 i) (B 7 i) t)) = y1 at s1 s2
    by_cases c2 : U t = 0
    · rw [if_pos c2] at hR
      obtain ⟨y, hW⟩ := ih (t + 1) (by omega) hR
      refine ⟨y, fun xs E => ?_⟩
      have h9 := hW xs E
      rw [nI_succ] at h9
      generalize beY B i j t = y0 at s1 ⊢
      generalize beY B i j (t + 1) = y2 at s2 h9
      refine ab_run [35] 100 oX5_beat.1 (Nat.le_refl _) 35 ?_
      refine ⟨fun c1 => absurd c1 (nI_ge (a := t) (b := 2000) (by omega) (by omega)), fun c1 => ?_⟩
      refine ⟨_, _, s1 xs, Nat.le_refl _, ?_⟩
      refine ⟨_, _, s2 xs, Nat.le_refl _, ?_⟩
      refine ⟨fun _ => ?_, fun c => absurd c2 c⟩
      exact ab_W_lv (lv_pk [0, 3, 4, 5, 6] rfl) h9
    rw [if_neg c2] at hR
    by_cases c3 : V t = 0
    · rw [if_pos c3] at hR
      obtain ⟨y, hW⟩ := ih (t + 1) (by omega) hR
      refine ⟨y, fun xs E => ?_⟩
      have h9 := hW xs E
      rw [nI_succ] at h9
      generalize beY B i j t = y0 at s1 ⊢
      generalize beY B i j (t + 1) = y2 at s2 h9
      refine ab_run [35] 100 oX5_beat.1 (Nat.le_refl _) 35 ?_
      refine ⟨fun c1 => absurd c1 (nI_ge (a := t) (b := 2000) (by omega) (by omega)), fun c1 => ?_⟩
      refine ⟨_, _, s1 xs, Nat.le_refl _, ?_⟩
      refine ⟨_, _, s2 xs, Nat.le_refl _, ?_⟩
      refine ⟨fun c => absurd c c2, fun _ => ⟨fun _ => ?_, fun c => absurd c3 c⟩⟩
      exact ab_W_lv (lv_pk [0, 3, 4, 5, 6] rfl) h9
    rw [if_neg c3] at hR
    refine ⟨beY B i j (t + 1), fun xs E => ?_⟩
    generalize beY B i j t = y0 at s1 ⊢
    generalize beY B i j (t + 1) = y2 at s2 ⊢
    refine ab_run [35] 100 oX5_beat.1 (Nat.le_refl _) 35 ?_
    refine ⟨fun c1 => absurd c1 (nI_ge (a := t) (b := 2000) (by omega) (by omega)), fun c1 => ?_⟩
    refine ⟨_, _, s1 xs, Nat.le_refl _, ?_⟩
    refine ⟨_, _, s2 xs, Nat.le_refl _, ?_⟩
    refine ⟨fun c => absurd c c2, fun _ => ⟨fun c => absurd c c3, fun _ => ?_⟩⟩
    rw [hR]
    exact ⟨rfl, rfl⟩
end
section
theorem x_sh41 (d : Nat) (mb : Nat → AB) (x a : mA) (f : mF) (hn : x 17 3 ≤ 5) (W1 V1 W2 V2 : Nat → Int32) (h8 : 0 < W1 8) (gear : Int32) : ab_Ex (d + 2) 0 yX2_shiftTo [vR 41 0, vI gear] (hX mb (rr2 x W1 V1 W2 V2) a f) none (hX mb (rr2 x (rW W1 (downX (W1 0) (W1 6) (x 17 1) gear (x 17 3) (a 18))) V1 W2 V2) a f) := r_shift41 d mb (mS (mS x 44 W2) 43 V2) a f W1 V1 hn h8 gear
theorem x_sh43 (d : Nat) (mb : Nat → AB) (x a : mA) (f : mF) (hn : x 17 3 ≤ 5) (W1 V1 W2 V2 : Nat → Int32) (h8 : 0 < W2 8) (gear : Int32) : ab_Ex (d + 2) 0 yX2_shiftTo [vR 43 0, vI gear] (hX mb (rr2 x W1 V1 W2 V2) a f) none (hX mb (rr2 x W1 V1 (rW W2 (downX (W2 0) (W2 6) (x 17 1) gear (x 17 3) (a 18))) V2) a f) := by
  have h1 := r_shift43 d mb (mS (mS x 42 W1) 41 V1) a f W2 V2 hn h8 gear
  rw [rr2_swap, rr2_swap] at h1
  exact h1
theorem upd_self (s : Nat → Int32) (i : Nat) : upd s i (s i) = s := by
  funext k
  by_cases q1 : k = i
  · rw [q1, upd_at]
  · rw [upd_ne q1]
theorem beY_0 (B : mA) (i j : Nat) : beY B i j 0 = B 7 := by
  show upd (upd (B 7) i (B 7 i)) j (B 7 j) = B 7
  rw [upd_self, upd_self]
theorem p_beat : P_beat IV 40 := by
  intro p1 p2 p3 g A x a f h
  obtain ⟨m, hm, em, exm⟩ := IV_m h
  obtain ⟨ng, hng, eg, exg⟩ := IV_ng h
  by_cases c0 : ((0 ≤ p1 ∧ p1 < nI m) ∧ (0 ≤ p2 ∧ p2 < nI m) ∧ ¬ p1 = p2) ∧ (0 ≤ p3 ∧ p3 < nI ng)
  · have k0 : (0 ≤ p1 ∧ p1 < x 17 5) ∧ (0 ≤ p2 ∧ p2 < x 17 5) ∧ ¬ p1 = p2 := by rw [exm]; exact c0.1
    have k2 : (0 ≤ p1 ∧ p1 < A 2 3) ∧ (0 ≤ p2 ∧ p2 < A 2 3) ∧ ¬ p1 = p2 := by rw [em]; exact c0.1
    have k1 : 0 ≤ p3 ∧ p3 < x 17 3 := by rw [exg]; exact c0.2
    have k3 : 0 ≤ p3 ∧ p3 < A 2 2 := by rw [eg]; exact c0.2
    obtain ⟨i, hi, rfl⟩ := ix_of (m := m) (by omega) c0.1.1
    obtain ⟨j, hj, rfl⟩ := ix_of (m := m) (by omega) c0.1.2.1
    obtain ⟨w, hw5, rfl⟩ := ix_of (m := ng) (by omega) c0.2
    have hij : i ≠ j := fun q => c0.1.2.2 (by rw [q])
    have hgw : (w : Int) < (A 2 2).toInt := by rw [eg, nI_toInt (by omega)]; omega
    have hx5 := IV_x5 h
    obtain ⟨o1, RO1, w11, w18, w17, v12⟩ := bt_fct h em hm hi (w := w) (by omega) hgw (x 41)
    obtain ⟨o2, RO2, w21, w28, w27, v22⟩ := bt_fct h em hm hj (w := w) (by omega) hgw (x 43)
    have e2 : bgN m A 2 = A 2 := bgN_n m A (by decide) (by decide) (by decide)
    have eB2 : (opN w m (bgN m A)) 2 = A 2 := (opN_n w m _ (by decide) (by decide)).trans e2
    obtain ⟨N, hN⟩ : ∃ N : Nat, N = 2000 := ⟨_, rfl⟩
    obtain ⟨R, hR⟩ : ∃ R : Int32, R = btR (bcV (rW (f 20 i) (downX (f 20 i 0) (f 20 i 6) (x 17 1) (nI w) (x 17 3) (a 18))) (bgQ x f i (-9) (x 41)).2) (bcV (rW (f 20 j) (downX (f 20 j 0) (f 20 j 6) (x 17 1) (nI w) (x 17 3) (a 18))) (bgQ x f j (-9) (x 43)).2) N 0 := ⟨_, rfl⟩
    have hb8 : ∀ q, q < m → ¬ 100 * (opN w m (bgN m A)) 8 q = 0 := by
      intro q hq
      rw [(opN_lo w m _ hq).1, dnM_2 e2]
      exact (IV_dn h em hm hq (by omega) hgw).2.2.2
    obtain ⟨y, hMw⟩ := m_btloop 36 (bgG g A) (opN w m (bgN m A)) (hM g A) (i := i) (j := j) (by omega) (by omega) hij (hb8 i hi) (hb8 j hj) (nI w) R (bcV (rW (f 20 i) (downX (f 20 i 0) (f 20 i 6) (x 17 1) (nI w) (x 17 3) (a 18))) (bgQ x f i (-9) (x 41)).2) (bcV (rW (f 20 j) (downX (f 20 j 0) (f 20 j 6) (x 17 1) (nI w) (x 17 3) (a 18))) (bgQ x f j (-9) (x 43)).2) N hN (fun t ht => by
      rw [eB2, upM_2 eB2, ← w11, ← w18, ← w17, ← v12]
      exact bc_eq RO1 _ (by omega)) (fun t ht => by
      rw [eB2, upM_2 eB2, ← w21, ← w28, ← w27, ← v22]
      exact bc_eq RO2 _ (by omega)) N 0 (by omega) hR
    rw [beY_0, mS_id] at hMw
    have hXw := fun E => x_btloop 36 (mbl g A) x a f (hX (mbl g A) x a f) E (nI i) (nI j) (nI w) R (rW (f 20 i) (downX (f 20 i 0) (f 20 i 6) (x 17 1) (nI w) (x 17 3) (a 18))) (bgQ x f i (-9) (x 41)).2 (rW (f 20 j) (downX (f 20 j 0) (f 20 j 6) (x 17 1) (nI w) (x 17 3) (a 18))) (bgQ x f j (-9) (x 43)).2 N hN N 0 (by omega) hR
    clear hR RO1 RO2 w11 w18 w17 v12 w21 w28 w27 v22
    refine pr_w (r := R) (x' := rr2 x (rW (f 20 i) (downX (f 20 i 0) (f 20 i 6) (x 17 1) (nI w) (x 17 3) (a 18))) (bgQ x f i (-9) (x 41)).2 (rW (f 20 j) (downX (f 20 j 0) (f 20 j 6) (x 17 1) (nI w) (x 17 3) (a 18))) (bgQ x f j (-9) (x 43)).2) (a' := a) (f' := f) (g' := bgG g A) (A' := mS (opN w m (bgN m A)) 7 y) ?_ (fun xs => ?_) (IV_rr (IV_md (fun k h7 h8 h9 => by rw [mS_ne _ _ _ h7, opN_n _ _ _ h7 h8]; exact bgN_n m A h7 h8 h9) (fun k hk => bgG_k g A hk) h) _ _ _ _)
    · refine ab_meth oX4_beat 39 _ _ _ _ (Nat.le_refl _) rfl (fun E => ?_)
      refine ab_run [78] 100 oX4_beat.1 (Nat.le_refl _) 0 ?_
      refine ⟨_, _, x_areTwo _ _ x a f _ _, Nat.le_refl _, ?_⟩
      refine br_z (fun c => absurd k0 c) (fun c => ?_)
      refine ⟨_, _, x_isGear _ _ x a f _, Nat.le_refl _, ?_⟩
      refine br_n (fun c => ?_) (fun c => absurd k1 c)
      refine ⟨vp_in_nI (by omega) (by omega), ⟨(20, i), by rw [nI_clamp (by omega)]; exact ab_fa_at 20 (by omega), ?_⟩⟩
      refine ⟨_, _, x_bg41 _ (mbl g A) x a f (i := i) (by omega), Nat.le_refl _, ?_⟩
      refine ⟨vp_in_nI (by omega) (by omega), ⟨(20, j), by rw [nI_clamp (by omega)]; exact ab_fa_at 20 (by omega), ?_⟩⟩
      refine ⟨_, _, x_bg43 _ (mbl g A) x a f _ _ (i := j) (by omega), Nat.le_refl _, ?_⟩
      refine ⟨_, _, x_sh41 _ (mbl g A) x a f hx5 _ _ _ _ o1 (nI w), Nat.le_refl _, ?_⟩
      refine ⟨_, _, x_sh43 _ (mbl g A) x a f hx5 _ _ _ _ o2 (nI w), Nat.le_refl _, ?_⟩
      exact hXw E
    · refine ab_meth oX5_beat 39 _ _ _ _ (Nat.le_refl _) rfl (fun E => ?_)
      refine ab_run [35] 100 oX5_beat.1 (Nat.le_refl _) 0 ?_
      refine ⟨_, _, m_areTwo _ g A xs _ _, Nat.le_refl _, ?_⟩
      refine br_z (fun c => absurd k2 c) (fun c => ?_)
      refine ⟨_, _, m_isGear _ g A xs _, Nat.le_refl _, ?_⟩
      refine br_n (fun c => ?_) (fun c => absurd k3 c)
      refine ⟨_, _, m_begins 37 xs g A em hm, Nat.le_refl _, ?_⟩
      refine ⟨_, _, m_opensStage 36 xs (bgG g A) (bgN m A) (m := m) (w := w) (by rw [e2]; exact em) hm (by omega) (bgN_8 h em hm), Nat.le_refl _, ?_⟩
      exact hMw xs E
  · refine pr_rf h rc1 ?_ (fun xs => ?_)
    · refine ab_meth oX4_beat 39 _ _ _ _ (Nat.le_refl _) rfl (fun E => ?_)
      refine ab_run [78] 100 oX4_beat.1 (Nat.le_refl _) 0 ?_
      refine ⟨_, _, x_areTwo _ _ x a f _ _, Nat.le_refl _, ?_⟩
      refine br_z (fun _ => ⟨_, _, x_rf _ _ x a f rc1, Nat.le_refl _, rfl, rfl⟩) (fun b1 => ?_)
      refine ⟨_, _, x_isGear _ _ x a f _, Nat.le_refl _, ?_⟩
      refine br_n (fun b3 => ?_) (fun _ => ⟨_, _, x_rf _ _ x a f rc1, Nat.le_refl _, rfl, rfl⟩)
      rw [exm] at b1
      rw [exg] at b3
      exact absurd ⟨b1, b3⟩ c0
    · refine ab_meth oX5_beat 39 _ _ _ _ (Nat.le_refl _) rfl (fun E => ?_)
      refine ab_run [35] 100 oX5_beat.1 (Nat.le_refl _) 0 ?_
      refine ⟨_, _, m_areTwo _ g A xs _ _, Nat.le_refl _, ?_⟩
      refine br_z (fun _ => ⟨_, _, m_rf _ g A xs rc1, Nat.le_refl _, rfl, rfl⟩) (fun b1 => ?_)
      refine ⟨_, _, m_isGear _ g A xs _, Nat.le_refl _, ?_⟩
      refine br_n (fun b3 => ?_) (fun _ => ⟨_, _, m_rf _ g A xs rc1, Nat.le_refl _, rfl, rfl⟩)
      rw [em] at b1
      rw [eg] at b3
      exact absurd ⟨b1, b3⟩ c0
end
section
def sdN (z : Int32) : Nat → Int32
  | 0 => z
  | n + 1 => drwS (sdN z n)
def msN (z sl : Int32) : Nat → Int32
  | 0 => 0
  | n + 1 => msN z sl n + drwM (sdN z (n + 1)) sl
/-- N clicks were heard or missed -/
def DI (z sl : Int32) (m : Nat) (s : Nat → Int32) (q : mGA) (N : Nat) : Prop := q.1 14 = sdN z N ∧ q.1 15 = msN z sl N ∧ bx_sum (q.2 9) m = nI N ∧ q.1 16 = 1 ∧ q.2 2 = s
theorem bx_upd (c : Nat → Int32) : ∀ (m i : Nat), i < m → bx_sum (upd c i (c i + 1)) m = bx_sum c m + 1 := by
  intro m
  induction m with
  | zero => intro i hi; exact absurd hi (Nat.not_lt_zero i)
  | succ m ih =>
    intro i hi
    show bx_sum (upd c i (c i + 1)) m + upd c i (c i + 1) m = bx_sum c m + c m + 1
    by_cases q : i = m
    · subst q
      rw [upd_at, bx_congr i (fun j hj => upd_ne (by omega)), Int32.add_assoc]
    · rw [upd_ne (by omega), ih i (by omega), Int32.add_assoc, Int32.add_comm 1, ← Int32.add_assoc]
theorem bx_0 (c : Nat → Int32) : ∀ m : Nat, (∀ i, i < m → c i = 0) → bx_sum c m = 0 := by
  intro m
  induction m with
  | zero => intro _; rfl
  | succ m ih =>
    intro h
    show bx_sum c m + c m = 0
    rw [ih (fun i hi => h i (by omega)), h m (by omega)]
    rfl
theorem DI_F {z sl : Int32} {m : Nat} {s : Nat → Int32} (hs : s 9 = sl) (act step : Int32) {i : Nat} (hi : i < m) {q : mGA} {N : Nat} (h : DI z sl m s q N) : ∃ N', N' ≤ N + 1 ∧ DI z sl m s (gsF act step i q) N' := by
  obtain ⟨h1, h2, h3, h4, h5⟩ := h
  have eW2 : gsW act q.2 i 2 = q.2 2 := mS_ne _ _ _ (by decide)
  have eW9 : gsW act q.2 i 9 = q.2 9 := mS_ne _ _ _ (by decide)
  unfold gsF
  by_cases hc : ckP act step q.1 q.2 i
  · rw [if_pos hc]
    refine ⟨N + 1, Nat.le_refl _, ?_, ?_, ?_, ?_, ?_⟩
    · show ckH q.1 (gsW act q.2 i) i 14 = _
      unfold ckH
      rw [if_neg (by rw [h4]; decide), upd_ne (by decide), upd_at, h1]
      rfl
    · show ckH q.1 (gsW act q.2 i) i 15 = _
      unfold ckH
      rw [if_neg (by rw [h4]; decide), upd_at, h1, h2, eW2, h5, hs]
      rfl
    · show bx_sum (ckA (gsW act q.2 i) i 9) m = _
      unfold ckA
      rw [mS_eq, eW9, bx_upd _ m i hi, h3, nI_succ]
    · show ckH q.1 (gsW act q.2 i) i 16 = _
      rw [ckH_n _ _ _ (by decide) (by decide) (by decide)]
      exact h4
    · show ckA (gsW act q.2 i) i 2 = _
      unfold ckA
      rw [mS_ne _ _ _ (by decide), eW2]
      exact h5
  · rw [if_neg hc]
    refine ⟨N, by omega, h1, h2, ?_, h4, eW2.trans h5⟩
    show bx_sum (gsW act q.2 i 9) m = _
    rw [eW9]
    exact h3
theorem DI_N {z sl : Int32} {m : Nat} {s : Nat → Int32} (hs : s 9 = sl) (act step : Int32) {q : mGA} {N : Nat} (h : DI z sl m s q N) : ∀ n, n ≤ m → ∃ N', N' ≤ N + n ∧ DI z sl m s (gsN act step n q) N' := by
  intro n
  induction n with
  | zero => exact fun _ => ⟨N, Nat.le_refl _, h⟩
  | succ n ih =>
    intro hn
    obtain ⟨N1, b1, h1⟩ := ih (by omega)
    obtain ⟨N2, b2, h2⟩ := DI_F hs act step (i := n) (by omega) h1
    exact ⟨N2, by omega, h2⟩
theorem DI_tu {z sl : Int32} {m : Nat} (hm : m ≤ 8) {s : Nat → Int32} (hs : s 9 = sl) (act : Int32) {q : mGA} {N : Nat} (h : DI z sl m s q N) : ∀ n, ∃ N', N' ≤ N + 8 * n ∧ DI z sl m s (tuN m act n q) N' := by
  intro n
  induction n with
  | zero => exact ⟨N, Nat.le_refl _, h⟩
  | succ n ih =>
    obtain ⟨N1, b1, h1⟩ := ih
    obtain ⟨N2, b2, h2⟩ := DI_N hs act (nI n) h1 m (Nat.le_refl _)
    exact ⟨N2, by omega, h2⟩
theorem DI_sg {z sl : Int32} {m : Nat} (hm : m ≤ 8) {s : Nat → Int32} (hs : s 9 = sl) (act : Int32) {q : mGA} {N : Nat} (h : DI z sl m s q N) : ∀ n, ∃ N', N' ≤ N + 800 * n ∧ DI z sl m s (sgN m act n q) N' := by
  intro n
  induction n with
  | zero => exact ⟨N, Nat.le_refl _, h⟩
  | succ n ih =>
    obtain ⟨N1, b1, h1⟩ := ih
    obtain ⟨c, hc⟩ : ∃ c : Nat, c = 100 := ⟨_, rfl⟩
    obtain ⟨N2, b2, h2⟩ := DI_tu hm hs act h1 c
    have b3 : N2 ≤ N + 800 * (n + 1) := by omega
    rw [hc] at h2
    have e : sgN m act (n + 1) q = tuT m act (sgN m act n q) := rfl
    rw [e]
    unfold tuT
    generalize tuN m act 100 (sgN m act n q) = Q at h2 ⊢
    obtain ⟨p1, p2, p3, p4, p5⟩ := h2
    exact ⟨N2, b3, p1, p2, p3, p4, p5⟩
theorem DI_rs {z sl : Int32} {m : Nat} (hm : m ≤ 8) {s : Nat → Int32} (hs : s 9 = sl) {q : mGA} {N ns : Nat} (hT : ∀ i, i < ns → (s (88 + 3 * i + 2)).toNatClampNeg ≤ 60) (h : DI z sl m s q N) : ∀ n, n ≤ ns → ∃ N', N' ≤ N + 48000 * n ∧ DI z sl m s (rsN m n q) N' := by
  intro n
  induction n with
  | zero => exact fun _ => ⟨N, Nat.le_refl _, h⟩
  | succ n ih =>
    intro hn
    obtain ⟨N1, b1, h1⟩ := ih (by omega)
    have h2 : DI z sl m s ((rsN m n q).1, opN ((rsN m n q).2 2 (88 + 3 * n + 1)).toNatClampNeg m (rsN m n q).2) N1 := by
      obtain ⟨p1, p2, p3, p4, p5⟩ := h1
      refine ⟨p1, p2, ?_, p4, ?_⟩
      · show bx_sum (opN _ m (rsN m n q).2 9) m = _
        rw [opN_n _ _ _ (by decide) (by decide)]
        exact p3
      · show opN _ m (rsN m n q).2 2 = s
        rw [opN_n _ _ _ (by decide) (by decide)]
        exact p5
    have e5 : (rsN m n q).2 2 = s := h1.2.2.2.2
    obtain ⟨N2, b2, h3⟩ := DI_sg hm hs ((rsN m n q).2 2 (88 + 3 * n)) h2 ((rsN m n q).2 2 (88 + 3 * n + 2)).toNatClampNeg
    have hb := hT n (by omega)
    rw [e5] at b2
    exact ⟨N2, by omega, h3⟩
end
section
theorem heard_N {g : mG} {A x a : mA} {f : mF} (h : IV g A x a f) {m ns : Nat} (hm : m ≤ 8) (em : A 2 3 = nI m) (en : A 2 4 = nI ns) (hn : ns ≤ 8) (z : Int32) : ∃ N : Nat, N ≤ 384000 ∧ DI z (A 2 9) m (A 2) (rsN m ns ((upd (upd (bgG g A) 16 1) 14 z), bgN m A)) N := by
  have h0 : DI z (A 2 9) m (A 2) ((upd (upd (bgG g A) 16 1) 14 z), bgN m A) 0 := by
    refine ⟨rfl, rfl, ?_, rfl, bgN_n m A (by decide) (by decide) (by decide)⟩
    rw [nI_0]
    exact bx_0 _ m (fun i hi => (bgN_lo m A hi).2.2)
  obtain ⟨N, b, hN⟩ := DI_rs hm (s := A 2) rfl (ns := ns) (fun i hi => by
    obtain ⟨w, T, -, -, -, hT, -, -, eT, -⟩ := stage_nums h.2.2.2.2.1 h.2.2.2.2.2.1 en hi hn
    rw [eT, nI_clamp (by omega)]
    exact hT) h0 ns (Nat.le_refl _)
  exact ⟨N, by omega, hN⟩
theorem cnt_G {g : mG} {A x a : mA} {f : mF} (h : IV g A x a f) {m ns j : Nat} (em : A 2 3 = nI m) (hm : m ≤ 8) (en : A 2 4 = nI ns) (hn : ns ≤ 8) (hj : j < m) {G G' : mG} (h12 : G 12 = A 2 5) (h13 : G 13 = 0) (h12' : G' 12 = A 2 5) (h13' : G' 13 = 0) : (rsN m ns (G, bgN m A)).2 9 j = (rsN m ns (G', bgN m A)).2 9 j := by
  have h1 := (ride_RN h em hm en hn hj h12 h13 (-9) (fun _ => 0) ns (Nat.le_refl _)).1.2.2.2.2.2.2.1
  have h2 := (ride_RN h em hm en hn hj h12' h13' (-9) (fun _ => 0) ns (Nat.le_refl _)).1.2.2.2.2.2.2.1
  exact h1.symm.trans h2
set_option maxRecDepth 100000 in
theorem x_heard (mb : Nat → AB) (x a : mA) (f : mF) {m N : Nat} (exm : x 17 5 = nI m) (hm : m ≤ 8) (hN : N ≤ 384000) (z : Int32) (c : Nat → Int32) (hc : bx_sum c m = nI N) (h0 : AH) (E : Nat × (Nat → Int32)) : ab_W jX4_heard 39 E h0 70 (fun v1 h1 => v1 = some (vI (nI N - msN z (a 21 2) N)) ∧ h1 = hX mb x (mS a 45 c) f) (ab_at iX4_heard 8) [(3, vI 0), (2, vI 0), (0, vR 13 0), (1, vI z)] [] (hX mb x (mS a 45 c) f) := by
  have draws : ∀ (k i : Nat), i + k = N → ab_W jX4_heard 39 E h0 70 (fun v1 h1 => v1 = some (vI (nI N - msN z (a 21 2) N)) ∧ h1 = hX mb x (mS a 45 c) f) (ab_at iX4_heard 42) [(5, vI (nI i)), (4, vI (msN z (a 21 2) i)), (3, vI (sdN z i)), (2, vI (nI N)), (0, vR 13 0), (1, vI z)] [] (hX mb x (mS a 45 c) f) := by
    intro k
    induction k with
    | zero =>
      intro i hi
      refine ab_run [8, 42] 100 oX4_heard.1 (Nat.le_refl _) 42 ?_
      refine ⟨fun _ => ?_, fun c1 => absurd (nI_le (by omega) (by omega)) c1⟩
      rw [show i = N by omega]
      exact ⟨rfl, rfl⟩
    | succ k ih =>
      intro i hi
      have h9 := ih (i + 1) (by omega)
      rw [nI_succ, show msN z (a 21 2) (i + 1) = msN z (a 21 2) i + drwM (drwS (sdN z i)) (a 21 2) from rfl, show sdN z (i + 1) = drwS (sdN z i) from rfl] at h9
      generalize msN z (a 21 2) i = M at h9 ⊢
      generalize sdN z i = S at h9 ⊢
      refine ab_run [8, 42] 100 oX4_heard.1 (Nat.le_refl _) 42 ?_
      refine ⟨fun c1 => absurd c1 (nI_ge (by omega) (by omega)), fun _ => ?_⟩
      refine ⟨by decide, by decide, vp_d rfl, ?_⟩
      refine ⟨fun (c2 : a 21 2 ≤ ab_rem ((drwS S &&& 2147483647) / 256) 100) => ?_, fun (c2 : ¬ a 21 2 ≤ ab_rem ((drwS S &&& 2147483647) / 256) 100) => ?_⟩
      · have ed : drwM (drwS S) (a 21 2) = 0 := by rw [drwM, if_neg (le_nlt c2)]
        rw [ed] at h9
        exact ab_W_lv (lv_pk [0, 1, 3, 4, 5, 6] rfl) h9
      · have ed : drwM (drwS S) (a 21 2) = 1 := by rw [drwM, if_pos (nle_lt c2)]
        rw [ed] at h9
        exact ab_W_lv (lv_pk [0, 1, 3, 4, 5, 6] rfl) h9
  have sums : ∀ (k i : Nat), i + k = m → ab_W jX4_heard 39 E h0 70 (fun v1 h1 => v1 = some (vI (nI N - msN z (a 21 2) N)) ∧ h1 = hX mb x (mS a 45 c) f) (ab_at iX4_heard 8) [(3, vI (nI i)), (2, vI (bx_sum c i)), (0, vR 13 0), (1, vI z)] [] (hX mb x (mS a 45 c) f) := by
    intro k
    induction k with
    | zero =>
      intro i hi
      refine ab_run [8, 42] 100 oX4_heard.1 (Nat.le_refl _) 8 ?_
      refine ⟨fun _ => ?_, fun (c1 : ¬ x 17 5 ≤ nI i) => ?_⟩
      · rw [show i = m by omega, hc]
        have h9 := draws N 0 (by omega)
        exact h9
      · rw [exm] at c1
        exact absurd (nI_le (by omega) (by omega)) c1
    | succ k ih =>
      intro i hi
      refine ab_run [8, 42] 100 oX4_heard.1 (Nat.le_refl _) 8 ?_
      refine ⟨fun (c1 : x 17 5 ≤ nI i) => ?_, fun _ => ?_⟩
      · rw [exm] at c1
        exact absurd c1 (nI_lt_m (by omega) (by omega))
      refine ⟨(vp_in_nI (by omega) (by omega) : vp_in (nI i) 8), ?_⟩
      rw [nI_clamp (by omega)]
      have h9 := ih (i + 1) (by omega)
      rw [nI_succ] at h9
      exact h9
  exact sums m 0 (by omega)
set_option maxRecDepth 100000 in
theorem m_heard (G : mG) (B : mA) (xs : List AB) {m N : Nat} (em : B 2 3 = nI m) (hm : m ≤ 8) (z : Int32) (hc : bx_sum (B 9) m = nI N) (h0 : AH) (E : Nat × (Nat → Int32)) : ab_W jX5_heard 39 E h0 70 (fun v1 h1 => v1 = some (vI (nI N - G 15)) ∧ h1 = hM G B xs) (ab_at iX5_heard 22) [(3, vI 0), (2, vI 0), (0, vR 0 0), (1, vI z)] [] (hM G B xs) := by
  have sums : ∀ (k i : Nat), i + k = m → ab_W jX5_heard 39 E h0 70 (fun v1 h1 => v1 = some (vI (nI N - G 15)) ∧ h1 = hM G B xs) (ab_at iX5_heard 22) [(3, vI (nI i)), (2, vI (bx_sum (B 9) i)), (0, vR 0 0), (1, vI z)] [] (hM G B xs) := by
    intro k
    induction k with
    | zero =>
      intro i hi
      refine ab_run [22] 100 oX5_heard.1 (Nat.le_refl _) 22 ?_
      refine ⟨vp_d rfl, fun _ => ?_, fun (c1 : ¬ B 2 3 ≤ nI i) => ?_⟩
      · rw [show i = m by omega, hc]
        exact ⟨rfl, rfl⟩
      · rw [em] at c1
        exact absurd (nI_le (by omega) (by omega)) c1
    | succ k ih =>
      intro i hi
      refine ab_run [22] 100 oX5_heard.1 (Nat.le_refl _) 22 ?_
      refine ⟨vp_d rfl, fun (c1 : B 2 3 ≤ nI i) => ?_, fun _ => ?_⟩
      · rw [em] at c1
        exact absurd c1 (nI_lt_m (by omega) (by omega))
      refine ⟨(vp_in_nI (by omega) (by omega) : vp_in (nI i) 8), ?_⟩
      rw [nI_clamp (by omega)]
      have h9 := ih (i + 1) (by omega)
      rw [nI_succ] at h9
      exact h9
  exact sums m 0 (by omega)
theorem p_heard : P_heard IV 40 := by
  intro z g A x a f h
  obtain ⟨m, hm, em, exm⟩ := IV_m h
  obtain ⟨ns, hn, en, exn⟩ := IV_ns h
  have e2 : bgN m A 2 = A 2 := bgN_n m A (by decide) (by decide) (by decide)
  obtain ⟨N, hN, D1, D2, D3, D4, D5⟩ := heard_N h hm em en hn z
  obtain ⟨w, r, ca, hc, hl⟩ := x_listen h em hm en hn 34 (mbl g A)
  have hs : bx_sum ca m = nI N := by
    rw [← D3]
    exact bx_congr m (fun j hj => (hc j hj).trans (cnt_G h em hm en hn hj rfl rfl rfl rfl))
  have e9 : A 2 9 = a 21 2 := h.2.2.2.2.2.1.2.1 2 (by decide)
  rw [e9] at D2
  have hR := fun xs => m_rides 33 xs (upd (upd (bgG g A) 16 1) 14 z) (bgN m A) (m := m) (ns := ns) (by rw [e2]; exact em) hm (by rw [e2]; exact en) hn (bgN_8 h em hm) (by rw [e2]; exact SOK_of e2 h.2.2.2.2.1 em hm en hn)
  have hIV := IV_wr (IV_cl (IV_rsG (G := (upd (upd (bgG g A) 16 1) 14 z)) m ns (fun k hk => by rcases hk with rfl | rfl | rfl <;> rfl) h) ca) w r
  generalize (rsN m ns ((upd (upd (bgG g A) 16 1) 14 z), bgN m A)) = Q at D1 D2 D3 D4 D5 hR hIV
  refine pr_w (r := nI N - msN z (a 21 2) N) (x' := mS (mS x 42 w) 41 r) (a' := mS a 45 ca) (f' := f) (g' := Q.1) (A' := Q.2) ?_ (fun xs => ex_r (r := nI N - Q.1 15) ?_ (by rw [D2])) hIV
  · refine ab_meth oX4_heard 39 _ _ _ _ (Nat.le_refl _) rfl (fun E => ?_)
    refine ab_run [8, 42] 100 oX4_heard.1 (Nat.le_refl _) 0 ?_
    refine ⟨_, _, hl, Nat.le_refl _, ?_⟩
    exact x_heard (mbl g A) (mS (mS x 42 w) 41 r) a f exm hm hN z ca hs _ E
  · refine ab_meth oX5_heard 39 _ _ _ _ (Nat.le_refl _) rfl (fun E => ?_)
    refine ab_run [22] 100 oX5_heard.1 (Nat.le_refl _) 0 ?_
    refine ⟨_, _, m_begins 37 xs g A em hm, Nat.le_refl _, ?_⟩
    refine ⟨Or.inr rfl, ?_⟩
    refine ⟨_, _, hR xs, Nat.le_refl _, ?_⟩
    exact m_heard Q.1 Q.2 xs (by rw [D5]; exact em) hm z D3 _ E
end
section
theorem x_rideF {g : mG} {A x a : mA} {f F : mF} (h : IV g A x a f) {m ns j : Nat} (em : A 2 3 = nI m) (hm : m ≤ 8) (en : A 2 4 = nI ns) (hn : ns ≤ 8) (hj : j < m) (hF : F 20 j = f 20 j) (d : Nat) (mb : Nat → AB) (w r : Nat → Int32) (wanted : Int32) : ab_Ex (d + 4) 0 yX2_passRide [vR 41 0, vR 20 j, vI wanted] (hX mb (mS (mS x 42 w) 41 r) a F) (some (vI ((rdN x a ns (bgQ x f j wanted r)).2 5))) (hX mb (mS (mS x 42 (rdN x a ns (bgQ x f j wanted r)).1) 41 (rdN x a ns (bgQ x f j wanted r)).2) a F) := by
  have e2 : bgN m A 2 = A 2 := bgN_n m A (by decide) (by decide) (by decide)
  have hR := ride_RN h em hm en hn hj (G := bgG g A) rfl rfl wanted r
  have exn : x 17 12 = nI ns := by rw [← h.2.2.2.2.2.1.1.2.2.2.2.1]; exact en
  refine p_ride d mb x a F (i := j) (by omega) exn hn (IV_x5 h) w r wanted (bgQ x f j wanted r) ?_ (fun n hlt => ?_)
  · rw [hF]
    rfl
  · obtain ⟨-, s1, s2⟩ := RN_step (f := f) (by rw [e2]; exact h.2.2.2.2.1) (by rw [e2]; exact h.2.2.2.2.2.1) (by rw [e2]; exact em) hm (by rw [e2]; exact en) hn hj hlt (hR n (by omega))
    obtain ⟨w', T, -, -, -, hT, -, -, -, eT, -⟩ := stage_nums h.2.2.2.2.1 h.2.2.2.2.2.1 en hlt hn
    exact ⟨s1, s2, T, hT, eT⟩
/-- a fault's numbers behind the ride -/
def goV (s wh by_ : Nat → Int32) (j k : Nat) : Int32 := if k = 7 then wh j else if k = 8 then by_ j else s (16 + 9 * j + k)
theorem ride_V {g : mG} {A x a : mA} {f : mF} (h : IV g A x a f) {m ns j : Nat} (em : A 2 3 = nI m) (hm : m ≤ 8) (en : A 2 4 = nI ns) (hn : ns ≤ 8) (hj : j < m) (wanted : Int32) (r : Nat → Int32) : (∀ k, k < 9 → (rdN x a ns (bgQ x f j wanted r)).1 k = goV (A 2) ((rsN m ns (bgG g A, bgN m A)).2 7) ((rsN m ns (bgG g A, bgN m A)).2 8) j k) ∧ (1 ≤ ((rsN m ns (bgG g A, bgN m A)).2 8 j).toInt ∧ ((rsN m ns (bgG g A, bgN m A)).2 8 j).toInt ≤ 140) ∧ 0 ≤ ((rsN m ns (bgG g A, bgN m A)).2 7 j).toInt ∧ ((rsN m ns (bgG g A, bgN m A)).2 7 j).toInt < 100 * ((rsN m ns (bgG g A, bgN m A)).2 8 j).toInt := by
  have hR := ride_RN h em hm en hn hj (G := bgG g A) rfl rfl wanted r ns (Nat.le_refl _)
  have e2 : (rsN m ns (bgG g A, bgN m A)).2 2 = A 2 := by
    rw [rsN_A _ _ _ (by decide) (by decide) (by decide)]
    exact bgN_n m A (by decide) (by decide) (by decide)
  obtain ⟨⟨r0, r7, r8, -, -, -, -, b1, b2, b3⟩, -⟩ := hR
  refine ⟨fun k hk => ?_, b1, b2, b3⟩
  unfold goV
  by_cases k7 : k = 7
  · rw [if_pos k7, k7]
    exact r7
  by_cases k8 : k = 8
  · rw [if_neg k7, if_pos k8, k8]
    exact r8
  · rw [if_neg k7, if_neg k8, r0 k (by omega), e2]
def goS (s wh by_ : Nat → Int32) : Nat → Nat → Int32
  | 0 => s
  | i + 1 => upd (upd (goS s wh by_ i) (16 + 9 * i + 7) (wh i)) (16 + 9 * i + 8) (by_ i)
theorem goS_ne (s wh by_ : Nat → Int32) {k : Nat} : ∀ n : Nat, (∀ j, j < n → k ≠ 16 + 9 * j + 7 ∧ k ≠ 16 + 9 * j + 8) → goS s wh by_ n k = s k := by
  intro n
  induction n with
  | zero => intro _; rfl
  | succ n ih =>
    intro h
    show upd (upd (goS s wh by_ n) (16 + 9 * n + 7) (wh n)) (16 + 9 * n + 8) (by_ n) k = _
    rw [upd_ne (h n (by omega)).2, upd_ne (h n (by omega)).1]
    exact ih (fun j hj => h j (by omega))
theorem goS_at (s wh by_ : Nat → Int32) {j : Nat} : ∀ n : Nat, j < n → ∀ k, k < 9 → goS s wh by_ n (16 + 9 * j + k) = goV s wh by_ j k := by
  intro n
  induction n with
  | zero => intro h; exact absurd h (Nat.not_lt_zero j)
  | succ n ih =>
    intro h k hk
    show upd (upd (goS s wh by_ n) (16 + 9 * n + 7) (wh n)) (16 + 9 * n + 8) (by_ n) (16 + 9 * j + k) = _
    by_cases q : j = n
    · subst q
      unfold goV
      by_cases k8 : k = 8
      · rw [k8, upd_at]
        rfl
      rw [upd_ne (by omega)]
      by_cases k7 : k = 7
      · rw [k7, upd_at]
        rfl
      · rw [upd_ne (by omega), if_neg k7, if_neg k8]
        exact goS_ne s wh by_ j (fun i hi => by omega)
    · rw [upd_ne (by omega), upd_ne (by omega)]
      exact ih (by omega) k hk
theorem rs_12 {g : mG} {A x a : mA} {f : mF} (h : IV g A x a f) {m ns : Nat} (en : A 2 4 = nI ns) (hn : ns ≤ 8) : ∀ n, n ≤ ns → (rsN m n (bgG g A, bgN m A)).1 12 = A 2 5 + bx_sum (fun i => A 2 (88 + 3 * i + 2)) n := by
  intro n
  induction n with
  | zero =>
    intro _
    show A 2 5 = A 2 5 + 0
    rw [Int32.add_zero]
  | succ n ih =>
    intro hlt
    obtain ⟨w, T, -, -, -, hT, -, -, eT, -⟩ := stage_nums h.2.2.2.2.1 h.2.2.2.2.2.1 en (i := n) (by omega) hn
    have e2 : (rsN m n (bgG g A, bgN m A)).2 2 = A 2 := by
      rw [rsN_A _ _ _ (by decide) (by decide) (by decide)]
      exact bgN_n m A (by decide) (by decide) (by decide)
    show (rsF m n (rsN m n (bgG g A, bgN m A))).1 12 = A 2 5 + (bx_sum (fun i => A 2 (88 + 3 * i + 2)) n + A 2 (88 + 3 * n + 2))
    unfold rsF
    rw [(sgN_12 _ _ _ _).1, e2, eT, nI_clamp (by omega), ← Int32.add_assoc]
    show (rsN m n (bgG g A, bgN m A)).1 12 + nI T = _
    rw [ih (by omega)]
theorem WF_go {s wh by_ : Nat → Int32} {m : Nat} {t : Int32} (h : WF s) (em : s 3 = nI m) (hm : m ≤ 8) (ht0 : 0 ≤ t.toInt) (ht1 : t.toInt ≤ 9999) (hr : ∀ j, j < m → (1 ≤ (by_ j).toInt ∧ (by_ j).toInt ≤ 140) ∧ 0 ≤ (wh j).toInt ∧ (wh j).toInt < 100 * (by_ j).toInt) : WF (upd (goS s wh by_ m) 5 t) := by
  obtain ⟨⟨w0, w1, w2, w3, w4, w5, w6⟩, w7, w8, w9, w10⟩ := h
  have e : ∀ k, k ≠ 5 → k < 16 ∨ 88 ≤ k → upd (goS s wh by_ m) 5 t k = s k := by
    intro k k5 hk
    rw [upd_ne k5]
    exact goS_ne s wh by_ m (fun j hj => by omega)
  refine ⟨?_, ?_, ?_, ?_, ?_⟩
  · rw [e 0 (by omega) (by omega), e 1 (by omega) (by omega), e 2 (by omega) (by omega), e 3 (by omega) (by omega), e 4 (by omega) (by omega), e 6 (by omega) (by omega), upd_at]
    exact ⟨w0, w1, w2, w3, w4, ⟨ht0, ht1⟩, w6⟩
  · rw [e 7 (by omega) (by omega), e 8 (by omega) (by omega), e 9 (by omega) (by omega), e 10 (by omega) (by omega)]
    exact w7
  · intro j hj hj2
    rw [e 2 (by omega) (by omega)] at hj2
    rw [e _ (by omega) (by omega)]
    exact w8 j hj hj2
  · intro j hj hj2
    rw [e 3 (by omega) (by omega)] at hj2
    have hjm : j < m := by
      rw [em, nI_toInt (by omega)] at hj2
      omega
    obtain ⟨v0, v1, v2, v3, v4, v5, v6, -, -⟩ := w9 j hj hj2
    have q : ∀ k, k < 9 → upd (goS s wh by_ m) 5 t (16 + 9 * j + k) = goV s wh by_ j k := fun k hk => by
      rw [upd_ne (by omega)]
      exact goS_at s wh by_ m hjm k hk
    unfold WFf
    rw [show upd (goS s wh by_ m) 5 t (16 + 9 * j) = goV s wh by_ j 0 from q 0 (by omega), q 1 (by omega), q 2 (by omega), q 3 (by omega), q 4 (by omega), q 5 (by omega), q 6 (by omega), q 7 (by omega), q 8 (by omega)]
    exact ⟨v0, v1, v2, v3, v4, v5, v6, hr j hjm⟩
  · intro j hj hj2
    rw [e 4 (by omega) (by omega)] at hj2
    rw [e 2 (by omega) (by omega), e _ (by omega) (by omega), e _ (by omega) (by omega), e _ (by omega) (by omega)]
    exact w10 j hj hj2
theorem BR_go {s wh by_ : Nat → Int32} {x a x' : mA} {f F : mF} {m : Nat} {t : Int32} (h : BR s x a f 17) (em : s 3 = nI m) (hm : m ≤ 8) (hx : x' 17 = upd (x 17) 7 t) (hF : ∀ j, j < m → ∀ k, k < 9 → F 20 j k = goV s wh by_ j k) : BR (upd (goS s wh by_ m) 5 t) x' a F 17 := by
  obtain ⟨⟨w0, w1, w2, w3, w4, w5, w6⟩, w7, w8, w9, w10⟩ := h
  have e : ∀ k, k ≠ 5 → k < 16 ∨ 88 ≤ k → upd (goS s wh by_ m) 5 t k = s k := by
    intro k k5 hk
    rw [upd_ne k5]
    exact goS_ne s wh by_ m (fun j hj => by omega)
  refine ⟨?_, ?_, ?_, ?_, ?_⟩
  · rw [e 0 (by omega) (by omega), e 1 (by omega) (by omega), e 2 (by omega) (by omega), e 3 (by omega) (by omega), e 4 (by omega) (by omega), e 6 (by omega) (by omega), upd_at, hx]
    exact ⟨w0, w1, w2, w3, w4, rfl, w6⟩
  · intro k hk
    rw [e _ (by omega) (by omega)]
    exact w7 k hk
  · intro j hj hj2
    rw [e 2 (by omega) (by omega)] at hj2
    rw [e _ (by omega) (by omega)]
    exact w8 j hj hj2
  · intro j hj hj2 k hk
    rw [e 3 (by omega) (by omega)] at hj2
    have hjm : j < m := by
      rw [em, nI_toInt (by omega)] at hj2
      omega
    rw [upd_ne (by omega), goS_at s wh by_ m hjm k hk]
    exact (hF j hjm k hk).symm
  · intro j hj hj2
    rw [e 4 (by omega) (by omega)] at hj2
    rw [e _ (by omega) (by omega), e _ (by omega) (by omega), e _ (by omega) (by omega)]
    exact w10 j hj hj2
end
section
set_option maxRecDepth 100000 in
theorem m_gosum (g : mG) (A : mA) (xs : List AB) {ns : Nat} (en : A 2 4 = nI ns) (hn : ns ≤ 8) (h0 : AH) (E : Nat × (Nat → Int32)) (Q : Option AV → AH → Prop) (hk : ab_W jX5_go 39 E h0 70 Q (ab_at iX5_go 36) [(2, vI (nI ns)), (1, vI (bx_sum (fun i => A 2 (88 + 3 * i + 2)) ns)), (0, vR 0 0)] [] (hM g A xs)) : ab_W jX5_go 39 E h0 70 Q (ab_at iX5_go 4) [(2, vI (nI 0)), (1, vI (bx_sum (fun i => A 2 (88 + 3 * i + 2)) 0)), (0, vR 0 0)] [] (hM g A xs) := by
  have loop : ∀ (k i : Nat), i + k = ns → ab_W jX5_go 39 E h0 70 Q (ab_at iX5_go 4) [(2, vI (nI i)), (1, vI (bx_sum (fun i => A 2 (88 + 3 * i + 2)) i)), (0, vR 0 0)] [] (hM g A xs) := by
    intro k
    induction k with
    | zero =>
      intro i hi
      have hin : i = ns := by omega
      subst hin
      refine ab_run [4, 36] 100 oX5_go.1 (Nat.le_refl _) 4 ?_
      refine ⟨vp_d rfl, fun _ => hk, fun (c1 : ¬ A 2 4 ≤ nI i) => ?_⟩
      rw [en] at c1
      exact absurd (nI_le (by omega) (by omega)) c1
    | succ k ih =>
      intro i hi
      refine ab_run [4, 36] 100 oX5_go.1 (Nat.le_refl _) 4 ?_
      refine ⟨vp_d rfl, fun (c1 : A 2 4 ≤ nI i) => ?_, fun _ => ?_⟩
      · rw [en] at c1
        exact absurd c1 (nI_lt_m (by omega) (by omega))
      have i2 : (88 : Int32) + 3 * nI i + 2 = nI (88 + 3 * i + 2) := ix_sk i 2
      refine ⟨(by rw [i2]; exact vp_in_nI (by omega) (by omega) : vp_in ((88 : Int32) + 3 * nI i + 2) 112), ?_⟩
      have h9 := ih (i + 1) (by omega)
      rw [nI_succ] at h9
      rw [i2, nI_clamp (by omega)]
      exact h9
  exact loop ns 0 (by omega)
set_option maxRecDepth 100000 in
theorem m_goend (G : mG) (B : mA) (s : Nat → Int32) (xs : List AB) {m : Nat} (em : s 3 = nI m) (hm : m ≤ 8) (w1 w2 : Int32) (h0 : AH) (E : Nat × (Nat → Int32)) : ab_W jX5_go 39 E h0 70 (fun v1 h1 => v1 = some (vI (G 12)) ∧ h1 = hM G (mS B 2 (upd (goS s (B 7) (B 8) m) 5 (G 12))) xs) (ab_at iX5_go 87) [(3, vI (nI 0)), (2, vI w2), (1, vI w1), (0, vR 0 0)] [] (hM G (mS B 2 s) xs) := by
  have loop : ∀ (k i : Nat), i + k = m → ab_W jX5_go 39 E h0 70 (fun v1 h1 => v1 = some (vI (G 12)) ∧ h1 = hM G (mS B 2 (upd (goS s (B 7) (B 8) m) 5 (G 12))) xs) (ab_at iX5_go 87) [(3, vI (nI i)), (2, vI w2), (1, vI w1), (0, vR 0 0)] [] (hM G (mS B 2 (goS s (B 7) (B 8) i)) xs) := by
    intro k
    induction k with
    | zero =>
      intro i hi
      have hin : i = m := by omega
      subst hin
      have e3 : goS s (B 7) (B 8) i 3 = nI i := by rw [goS_ne s (B 7) (B 8) i (fun j hj => by omega)]; exact em
      generalize goS s (B 7) (B 8) i = S at e3 ⊢
      refine ab_run [87] 100 oX5_go.1 (Nat.le_refl _) 87 ?_
      refine ⟨vp_d rfl, fun _ => ?_, fun (c1 : ¬ S 3 ≤ nI i) => ?_⟩
      · exact ⟨vp_d rfl, vp_d rfl, rfl, rfl⟩
      · rw [e3] at c1
        exact absurd (nI_le (by omega) (by omega)) c1
    | succ k ih =>
      intro i hi
      have e3 : goS s (B 7) (B 8) i 3 = nI m := by rw [goS_ne s (B 7) (B 8) i (fun j hj => by omega)]; exact em
      have h9 := ih (i + 1) (by omega)
      rw [nI_succ, show goS s (B 7) (B 8) (i + 1) = upd (upd (goS s (B 7) (B 8) i) (16 + 9 * i + 7) (B 7 i)) (16 + 9 * i + 8) (B 8 i) from rfl] at h9
      generalize goS s (B 7) (B 8) i = S at e3 h9 ⊢
      refine ab_run [87] 100 oX5_go.1 (Nat.le_refl _) 87 ?_
      refine ⟨vp_d rfl, fun (c1 : S 3 ≤ nI i) => ?_, fun _ => ?_⟩
      · rw [e3] at c1
        exact absurd c1 (nI_lt_m (by omega) (by omega))
      have i7 : (16 : Int32) + 9 * nI i + 7 = nI (16 + 9 * i + 7) := ix_f i 7
      have i8 : (16 : Int32) + 9 * nI i + 8 = nI (16 + 9 * i + 8) := ix_f i 8
      refine ⟨(vp_in_nI (by omega) (by omega) : vp_in (nI i) 8), (by rw [i7]; exact vp_in_nI (by omega) (by omega) : vp_in ((16 : Int32) + 9 * nI i + 7) 112), ?_⟩
      refine ⟨(vp_in_nI (by omega) (by omega) : vp_in (nI i) 8), (by rw [i8]; exact vp_in_nI (by omega) (by omega) : vp_in ((16 : Int32) + 9 * nI i + 8) 112), ?_⟩
      rw [i7, i8, nI_clamp (by omega), nI_clamp (by omega), nI_clamp (by omega)]
      exact h9
  exact loop m 0 (by omega)
set_option maxRecDepth 100000 in
theorem x_goloop {g : mG} {A x a : mA} {f : mF} (h : IV g A x a f) {m ns : Nat} (em : A 2 3 = nI m) (hm : m ≤ 8) (en : A 2 4 = nI ns) (hn : ns ≤ 8) (mb : Nat → AB) (h0 : AH) (t : Int32) : ∀ (k i : Nat) (w r : Nat → Int32) (F : mF), i + k = m → (∀ j, j < i → ∀ q, q < 9 → F 20 j q = goV (A 2) ((rsN m ns (bgG g A, bgN m A)).2 7) ((rsN m ns (bgG g A, bgN m A)).2 8) j q) → (∀ j, i ≤ j → F 20 j = f 20 j) → (∀ b, b ≠ 20 → F b = f b) → ∃ (w' r' : Nat → Int32) (F' : mF), (∀ j, j < m → ∀ q, q < 9 → F' 20 j q = goV (A 2) ((rsN m ns (bgG g A, bgN m A)).2 7) ((rsN m ns (bgG g A, bgN m A)).2 8) j q) ∧ (∀ b, b ≠ 20 → F' b = f b) ∧ ∀ E, ab_W jX4_go 39 E h0 70 (fun v1 h1 => v1 = some (vI t) ∧ h1 = hX mb (mS (mS (mS x 42 w') 41 r') 17 (upd (x 17) 7 t)) a F') (ab_at iX4_go 49) [(2, vI (nI i)), (1, vI t), (0, vR 13 0)] [] (hX mb (mS (mS x 42 w) 41 r) a F) := by
  have exm : x 17 5 = nI m := by rw [← h.2.2.2.2.2.1.1.2.2.2.1]; exact em
  intro k
  induction k with
  | zero =>
    intro i w r F hi h1 h2 h3
    refine ⟨w, r, F, fun j hj => h1 j (by omega), h3, fun E => ?_⟩
    refine ab_run [49] 100 oX4_go.1 (Nat.le_refl _) 49 ?_
    refine ⟨fun _ => ⟨rfl, rfl⟩, fun (c1 : ¬ x 17 5 ≤ nI i) => ?_⟩
    rw [exm] at c1
    exact absurd (nI_le (by omega) (by omega)) c1
  | succ k ih =>
    intro i w r F hi h1 h2 h3
    have hv := (ride_V h em hm en hn (j := i) (by omega) (-9) r).1
    have hR := x_rideF h em hm en hn (j := i) (by omega) (h2 i (Nat.le_refl _)) 35 mb w r (-9)
    generalize rdN x a ns (bgQ x f i (-9) r) = q at hv hR
    obtain ⟨w', r', F', k1, k2, hW⟩ := ih (i + 1) q.1 q.2 (fS F 20 i q.1) (by omega) (by
      intro j hj p hp
      show (if j = i then q.1 else F 20 j) p = _
      by_cases e : j = i
      · rw [if_pos e, e]
        exact hv p hp
      · rw [if_neg e]
        exact h1 j (by omega) p hp) (by
      intro j hj
      show (if j = i then q.1 else F 20 j) = _
      rw [if_neg (by omega)]
      exact h2 j (by omega)) (by
      intro b hb
      show (if b = 20 then _ else F b) = _
      rw [if_neg hb]
      exact h3 b hb)
    have hc := f_copyFrom 38 (h := hX mb (mS (mS x 42 q.1) 41 q.2) a F) (b := 20) (o := i) (b2 := 42) (o2 := 0) (v := F 20 i) (v2 := q.1) (Nat.le_refl _) rfl (hX_ok20 _ _ _ _ (by omega)) rfl (ok42 mb a F _) rfl (by omega)
    rw [hX_set20] at hc
    refine ⟨w', r', F', k1, k2, fun E => ?_⟩
    refine ab_run [49] 100 oX4_go.1 (Nat.le_refl _) 49 ?_
    refine ⟨fun (c1 : x 17 5 ≤ nI i) => ?_, fun _ => ?_⟩
    · rw [exm] at c1
      exact absurd c1 (nI_lt_m (by omega) (by omega))
    refine ⟨vp_in_nI (by omega) (by omega), ⟨(20, i), by rw [nI_clamp (by omega)]; exact ab_fa_at 20 (by omega), ?_⟩⟩
    refine ⟨_, _, hR, Nat.le_refl _, ?_⟩
    refine ⟨vp_in_nI (by omega) (by omega), ⟨(20, i), by rw [nI_clamp (by omega)]; exact ab_fa_at 20 (by omega), ?_⟩⟩
    refine ⟨ck20 (by omega), ?_⟩
    refine ⟨_, _, hc, Nat.le_refl _, ?_⟩
    have h9 := hW E
    rw [nI_succ] at h9
    exact h9
theorem rs_pos {g : mG} {A x a : mA} {f : mF} (h : IV g A x a f) {ns : Nat} (en : A 2 4 = nI ns) (hn : ns ≤ 8) : ∀ n, n ≤ ns → 0 ≤ (A 2 5 + bx_sum (fun i => A 2 (88 + 3 * i + 2)) n).toInt := by
  have key : ∀ n, n ≤ ns → 0 ≤ (A 2 5 + bx_sum (fun i => A 2 (88 + 3 * i + 2)) n).toInt ∧ (A 2 5 + bx_sum (fun i => A 2 (88 + 3 * i + 2)) n).toInt ≤ 9999 + 60 * n := by
    intro n
    induction n with
    | zero =>
      intro _
      have h0 := IV_r0 h
      show 0 ≤ (A 2 5 + 0).toInt ∧ (A 2 5 + 0).toInt ≤ _
      rw [Int32.add_zero]
      omega
    | succ n ih =>
      intro hlt
      have h1 := ih (by omega)
      obtain ⟨w, T, -, -, -, hT, -, -, eT, -⟩ := stage_nums h.2.2.2.2.1 h.2.2.2.2.2.1 en (i := n) (by omega) hn
      show 0 ≤ (A 2 5 + (bx_sum (fun i => A 2 (88 + 3 * i + 2)) n + A 2 (88 + 3 * n + 2))).toInt ∧ (A 2 5 + (bx_sum (fun i => A 2 (88 + 3 * i + 2)) n + A 2 (88 + 3 * n + 2))).toInt ≤ _
      rw [eT, ← Int32.add_assoc, ti_add rfl (nI_toInt (show T < 2 ^ 31 by omega)) (by omega) (by omega)]
      omega
  exact fun n hn => (key n hn).1
theorem p_go : P_go IV 40 := by
  intro g A x a f h
  obtain ⟨m, hm, em, exm⟩ := IV_m h
  obtain ⟨ns, hn, en, exn⟩ := IV_ns h
  have hb := h.2.2.2.2.2.1
  have hsum : bx_sum (a 24) ns = bx_sum (fun i => A 2 (88 + 3 * i + 2)) ns := by
    refine bx_congr ns (fun i hi => ?_)
    obtain ⟨w, T, -, -, -, -, -, -, e1, e2, -⟩ := stage_nums h.2.2.2.2.1 hb en hi hn
    show a 24 i = A 2 (88 + 3 * i + 2)
    rw [e1, e2]
  have hall : x 17 7 + bx_sum (a 24) ns = A 2 5 + bx_sum (fun i => A 2 (88 + 3 * i + 2)) ns := by rw [hsum, hb.1.2.2.2.2.2.1]
  by_cases c0 : A 2 4 = 0
  · have c0x : x 17 12 = 0 := by rw [← hb.1.2.2.2.2.1]; exact c0
    refine pr_rf h rc3 ?_ (fun xs => ?_)
    · refine ab_meth oX4_go 39 _ _ _ _ (Nat.le_refl _) rfl (fun E => ?_)
      refine ab_run [49] 100 oX4_go.1 (Nat.le_refl _) 0 ?_
      refine ⟨fun c => absurd c0x c, fun c => ?_⟩
      exact ⟨_, _, x_rf _ _ x a f rc3, Nat.le_refl _, rfl, rfl⟩
    · refine ab_meth oX5_go 39 _ _ _ _ (Nat.le_refl _) rfl (fun E => ?_)
      refine ab_run [4] 100 oX5_go.1 (Nat.le_refl _) 0 ?_
      refine m_gosum g A xs en hn _ E _ ?_
      refine ab_run [87] 100 oX5_go.1 (Nat.le_refl _) 36 ?_
      refine ⟨vp_d rfl, fun c => absurd c0 c, fun c => ?_⟩
      refine ⟨fun c => absurd c (by decide), fun c => ?_⟩
      exact ⟨_, _, m_rf _ g A xs rc3, Nat.le_refl _, rfl, rfl⟩
  have c0x : ¬ x 17 12 = 0 := by rw [← hb.1.2.2.2.2.1]; exact c0
  by_cases c1 : A 2 5 + bx_sum (fun i => A 2 (88 + 3 * i + 2)) ns ≤ 9999
  · obtain ⟨w', r', F', k1, k2, hXw⟩ := x_goloop h em hm en hn (mbl g A) (hX (mbl g A) x a f) (x 17 7 + bx_sum (a 24) ns) m 0 (x 42) (x 41) f (by omega) (fun j hj => absurd hj (Nat.not_lt_zero j)) (fun _ _ => rfl) (fun _ _ => rfl)
    rw [rX] at hXw
    have e2 : (rsN m ns (bgG g A, bgN m A)).2 2 = A 2 := by
      rw [rsN_A _ _ _ (by decide) (by decide) (by decide)]
      exact bgN_n m A (by decide) (by decide) (by decide)
    have hvr := fun j (hj : j < m) => (ride_V h em hm en hn hj (-9) (fun _ => 0)).2
    have h12 := rs_12 h en hn (m := m) ns (Nat.le_refl _)
    have hcd := fun xs => m_counted h em hm en hn 32 xs
    have hIV := IV_rs m ns h
    have hS := rs_pos h en hn ns (Nat.le_refl _)
    generalize rsN m ns (bgG g A, bgN m A) = Q at k1 e2 hvr h12 hcd hIV
    refine pr_w (r := A 2 5 + bx_sum (fun i => A 2 (88 + 3 * i + 2)) ns) (x' := mS (mS (mS x 42 w') 41 r') 17 (upd (x 17) 7 (x 17 7 + bx_sum (a 24) ns))) (a' := a) (f' := F') (g' := Q.1) (A' := mS Q.2 2 (upd (goS (A 2) (Q.2 7) (Q.2 8) m) 5 (Q.1 12))) (ex_r (r := x 17 7 + bx_sum (a 24) ns) ?_ hall) (fun xs => ex_r (r := Q.1 12) ?_ h12) ?_
    · refine ab_meth oX4_go 39 _ _ _ _ (Nat.le_refl _) rfl (fun E => ?_)
      refine ab_run [49] 100 oX4_go.1 (Nat.le_refl _) 0 ?_
      refine ⟨fun c => ?_, fun c => absurd c c0x⟩
      refine ⟨_, _, x_turnsOfRide _ _ x a f exn hn, Nat.le_refl _, ?_⟩
      refine ⟨fun c => ?_, fun (c : ¬ x 17 7 + bx_sum (a 24) ns ≤ 9999) => absurd c1 (by rw [← hall]; exact c)⟩
      exact hXw E
    · refine ab_meth oX5_go 39 _ _ _ _ (Nat.le_refl _) rfl (fun E => ?_)
      refine ab_run [4] 100 oX5_go.1 (Nat.le_refl _) 0 ?_
      refine m_gosum g A xs en hn _ E _ ?_
      refine ab_run [87] 100 oX5_go.1 (Nat.le_refl _) 36 ?_
      refine ⟨vp_d rfl, fun c => ?_, fun c => absurd c c0⟩
      refine ⟨vp_d rfl, fun c => ?_, fun c => absurd c1 c⟩
      refine ⟨fun c => ?_, fun c => absurd rfl c⟩
      refine ⟨_, _, hcd xs, Nat.le_refl _, ?_⟩
      have h9 := m_goend Q.1 Q.2 (A 2) xs em hm (bx_sum (fun i => A 2 (88 + 3 * i + 2)) ns) 0 (hM g A xs) E
      rw [← e2, mS_id] at h9
      rw [← e2]
      exact h9
    · obtain ⟨h1, h2, h3, h4, h5, h6, h7⟩ := hIV
      rw [e2] at h5 h6
      have z9 : (9999 : Int32).toInt = 9999 := rfl
      have t1 := Int32.le_iff_toInt_le.mp c1
      have hW := WF_go (t := Q.1 12) h5 em hm (by rw [h12]; exact hS) (by rw [h12]; omega) hvr
      have hB := BR_go (x' := mS (mS (mS x 42 w') 41 r') 17 (upd (x 17) 7 (x 17 7 + bx_sum (a 24) ns))) (t := Q.1 12) h6 em hm (by rw [mS_eq, h12, hall]) k1
      refine ⟨h1, h2, h3, h4, hW, hB, fun q => ⟨(h7 q).1, BR_congr ?_ rfl rfl rfl rfl rfl (k2 36 (by decide)) (h7 q).2⟩⟩
      rw [mS_ne _ _ _ (by decide), mS_ne _ _ _ (by decide), mS_ne _ _ _ (by decide)]
  · refine pr_rf h rc6 ?_ (fun xs => ?_)
    · refine ab_meth oX4_go 39 _ _ _ _ (Nat.le_refl _) rfl (fun E => ?_)
      refine ab_run [49] 100 oX4_go.1 (Nat.le_refl _) 0 ?_
      refine ⟨fun c => ?_, fun c => absurd c c0x⟩
      refine ⟨_, _, x_turnsOfRide _ _ x a f exn hn, Nat.le_refl _, ?_⟩
      refine ⟨fun (c : x 17 7 + bx_sum (a 24) ns ≤ 9999) => absurd c (by rw [hall]; exact c1), fun c => ?_⟩
      exact ⟨_, _, x_rf _ _ x a f rc6, Nat.le_refl _, rfl, rfl⟩
    · refine ab_meth oX5_go 39 _ _ _ _ (Nat.le_refl _) rfl (fun E => ?_)
      refine ab_run [4] 100 oX5_go.1 (Nat.le_refl _) 0 ?_
      refine m_gosum g A xs en hn _ E _ ?_
      refine ab_run [87] 100 oX5_go.1 (Nat.le_refl _) 36 ?_
      refine ⟨vp_d rfl, fun c => ?_, fun c => absurd c c0⟩
      refine ⟨vp_d rfl, fun c => absurd c c1, fun c => ?_⟩
      refine ⟨fun c => absurd c (by decide), fun c => ?_⟩
      exact ⟨_, _, m_rf _ g A xs rc6, Nat.le_refl _, rfl, rfl⟩
theorem i_vc : Claimed_1_1 ∧ Claimed_1_2 := sorry
end
