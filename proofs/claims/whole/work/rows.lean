section
-- ===== PART A: goes FIRST, ahead of the names: the tables' words, and 'selects' of the private methods out of them =====
/-- a private method of a class that the tables say can be made, by its rows of tables_1 -/
def lw_okq (q : MethodName × Nat) : Prop := (q.1.cls ≠ "java/lang/invoke/MethodHandle" ∧ q.1.cls ≠ "java/lang/invoke/VarHandle") ∧ Cond.instantiable q.1.cls q.2 ∈ tables_1 ∧ Cond.privateMethod q.1 ∈ tables_1 ∧ Cond.instanceMethod q.1 ∈ tables_1
theorem lw_p0 : lw_okq (⟨"AwakeByHalves", "refuse", "(I)I"⟩, 10) := ⟨⟨by decide +kernel, by decide +kernel⟩, List.mem_of_getElem? (i := 20) (by decide +kernel), List.mem_of_getElem? (i := 270) (by decide +kernel), List.mem_of_getElem? (i := 271) (by decide +kernel)⟩
theorem lw_p1 : lw_okq (⟨"AwakeByHalves", "lackOfRow", "(II)I"⟩, 10) := ⟨⟨by decide +kernel, by decide +kernel⟩, List.mem_of_getElem? (i := 20) (by decide +kernel), List.mem_of_getElem? (i := 285) (by decide +kernel), List.mem_of_getElem? (i := 286) (by decide +kernel)⟩
theorem lw_p2 : lw_okq (⟨"AwakeByHalves", "lackOfRules", "(II)I"⟩, 10) := ⟨⟨by decide +kernel, by decide +kernel⟩, List.mem_of_getElem? (i := 20) (by decide +kernel), List.mem_of_getElem? (i := 336) (by decide +kernel), List.mem_of_getElem? (i := 337) (by decide +kernel)⟩
theorem lw_p3 : lw_okq (⟨"AwakeByHalves$Rules", "mostToday", "(IZ)I"⟩, 2) := ⟨⟨by decide +kernel, by decide +kernel⟩, List.mem_of_getElem? (i := 162) (by decide +kernel), List.mem_of_getElem? (i := 354) (by decide +kernel), List.mem_of_getElem? (i := 355) (by decide +kernel)⟩
theorem lw_p4 : lw_okq (⟨"AwakeByHalves$Foresight", "forgetIfChanged", "()V"⟩, 6) := ⟨⟨by decide +kernel, by decide +kernel⟩, List.mem_of_getElem? (i := 137) (by decide +kernel), List.mem_of_getElem? (i := 397) (by decide +kernel), List.mem_of_getElem? (i := 398) (by decide +kernel)⟩
theorem lw_p5 : lw_okq (⟨"AwakeByHalves$Foresight", "placeOf", "(II)I"⟩, 6) := ⟨⟨by decide +kernel, by decide +kernel⟩, List.mem_of_getElem? (i := 137) (by decide +kernel), List.mem_of_getElem? (i := 404) (by decide +kernel), List.mem_of_getElem? (i := 405) (by decide +kernel)⟩
theorem lw_p6 : lw_okq (⟨"AwakeByHalves$Foresight", "workOut", "(III)V"⟩, 6) := ⟨⟨by decide +kernel, by decide +kernel⟩, List.mem_of_getElem? (i := 137) (by decide +kernel), List.mem_of_getElem? (i := 409) (by decide +kernel), List.mem_of_getElem? (i := 410) (by decide +kernel)⟩
theorem lw_p7 : lw_okq (⟨"AwakeByHalves$Foresight", "gainAt", "(II)I"⟩, 6) := ⟨⟨by decide +kernel, by decide +kernel⟩, List.mem_of_getElem? (i := 137) (by decide +kernel), List.mem_of_getElem? (i := 422) (by decide +kernel), List.mem_of_getElem? (i := 423) (by decide +kernel)⟩
theorem lw_p8 : lw_okq (⟨"AwakeByHalves$Rules", "isContent", "(II)Z"⟩, 2) := ⟨⟨by decide +kernel, by decide +kernel⟩, List.mem_of_getElem? (i := 162) (by decide +kernel), List.mem_of_getElem? (i := 426) (by decide +kernel), List.mem_of_getElem? (i := 427) (by decide +kernel)⟩
theorem lw_p9 : lw_okq (⟨"AwakeByHalves$Rules", "ownUnlessIdle", "(II)I"⟩, 2) := ⟨⟨by decide +kernel, by decide +kernel⟩, List.mem_of_getElem? (i := 162) (by decide +kernel), List.mem_of_getElem? (i := 430) (by decide +kernel), List.mem_of_getElem? (i := 431) (by decide +kernel)⟩
theorem lw_p10 : lw_okq (⟨"AwakeByHalves$Rules", "firstAllowed", "(I)I"⟩, 2) := ⟨⟨by decide +kernel, by decide +kernel⟩, List.mem_of_getElem? (i := 162) (by decide +kernel), List.mem_of_getElem? (i := 434) (by decide +kernel), List.mem_of_getElem? (i := 435) (by decide +kernel)⟩
theorem lw_p11 : lw_okq (⟨"AwakeByHalves", "isAct", "(I)Z"⟩, 10) := ⟨⟨by decide +kernel, by decide +kernel⟩, List.mem_of_getElem? (i := 20) (by decide +kernel), List.mem_of_getElem? (i := 477) (by decide +kernel), List.mem_of_getElem? (i := 478) (by decide +kernel)⟩
theorem lw_p12 : lw_okq (⟨"AwakeByHalves$Tape", "advance", "()V"⟩, 5) := ⟨⟨by decide +kernel, by decide +kernel⟩, List.mem_of_getElem? (i := 111) (by decide +kernel), List.mem_of_getElem? (i := 515) (by decide +kernel), List.mem_of_getElem? (i := 516) (by decide +kernel)⟩
theorem lw_p13 : lw_okq (⟨"AwakeByHalves$Tape", "readStatement", "(LAwakeByHalves$Town;)Z"⟩, 5) := ⟨⟨by decide +kernel, by decide +kernel⟩, List.mem_of_getElem? (i := 111) (by decide +kernel), List.mem_of_getElem? (i := 522) (by decide +kernel), List.mem_of_getElem? (i := 523) (by decide +kernel)⟩
theorem lw_p14 : lw_okq (⟨"AwakeByHalves$Tape", "isWord", "(Ljava/lang/String;)Z"⟩, 5) := ⟨⟨by decide +kernel, by decide +kernel⟩, List.mem_of_getElem? (i := 111) (by decide +kernel), List.mem_of_getElem? (i := 527) (by decide +kernel), List.mem_of_getElem? (i := 528) (by decide +kernel)⟩
theorem lw_p15 : lw_okq (⟨"AwakeByHalves$Tape", "readAct", "(LAwakeByHalves$Town;)Z"⟩, 5) := ⟨⟨by decide +kernel, by decide +kernel⟩, List.mem_of_getElem? (i := 111) (by decide +kernel), List.mem_of_getElem? (i := 579) (by decide +kernel), List.mem_of_getElem? (i := 580) (by decide +kernel)⟩
def lw_privs_1 : List (MethodName × Nat) := [(⟨"AwakeByHalves", "refuse", "(I)I"⟩, 10), (⟨"AwakeByHalves", "lackOfRow", "(II)I"⟩, 10), (⟨"AwakeByHalves", "lackOfRules", "(II)I"⟩, 10), (⟨"AwakeByHalves$Rules", "mostToday", "(IZ)I"⟩, 2), (⟨"AwakeByHalves$Foresight", "forgetIfChanged", "()V"⟩, 6), (⟨"AwakeByHalves$Foresight", "placeOf", "(II)I"⟩, 6), (⟨"AwakeByHalves$Foresight", "workOut", "(III)V"⟩, 6), (⟨"AwakeByHalves$Foresight", "gainAt", "(II)I"⟩, 6), (⟨"AwakeByHalves$Rules", "isContent", "(II)Z"⟩, 2), (⟨"AwakeByHalves$Rules", "ownUnlessIdle", "(II)I"⟩, 2), (⟨"AwakeByHalves$Rules", "firstAllowed", "(I)I"⟩, 2), (⟨"AwakeByHalves", "isAct", "(I)Z"⟩, 10), (⟨"AwakeByHalves$Tape", "advance", "()V"⟩, 5), (⟨"AwakeByHalves$Tape", "readStatement", "(LAwakeByHalves$Town;)Z"⟩, 5), (⟨"AwakeByHalves$Tape", "isWord", "(Ljava/lang/String;)Z"⟩, 5), (⟨"AwakeByHalves$Tape", "readAct", "(LAwakeByHalves$Town;)Z"⟩, 5)]
theorem lw_r1 : ∀ q ∈ lw_privs_1, lw_okq q := List.forall_mem_cons.mpr ⟨lw_p0, List.forall_mem_cons.mpr ⟨lw_p1, List.forall_mem_cons.mpr ⟨lw_p2, List.forall_mem_cons.mpr ⟨lw_p3, List.forall_mem_cons.mpr ⟨lw_p4, List.forall_mem_cons.mpr ⟨lw_p5, List.forall_mem_cons.mpr ⟨lw_p6, List.forall_mem_cons.mpr ⟨lw_p7, List.forall_mem_cons.mpr ⟨lw_p8, List.forall_mem_cons.mpr ⟨lw_p9, List.forall_mem_cons.mpr ⟨lw_p10, List.forall_mem_cons.mpr ⟨lw_p11, List.forall_mem_cons.mpr ⟨lw_p12, List.forall_mem_cons.mpr ⟨lw_p13, List.forall_mem_cons.mpr ⟨lw_p14, List.forall_mem_cons.mpr ⟨lw_p15, fun _ h => absurd h List.not_mem_nil⟩⟩⟩⟩⟩⟩⟩⟩⟩⟩⟩⟩⟩⟩⟩⟩
theorem lw_p16 : lw_okq (⟨"AwakeByHalves$Tape", "takeNumber", "(II)I"⟩, 5) := ⟨⟨by decide +kernel, by decide +kernel⟩, List.mem_of_getElem? (i := 111) (by decide +kernel), List.mem_of_getElem? (i := 584) (by decide +kernel), List.mem_of_getElem? (i := 585) (by decide +kernel)⟩
theorem lw_p17 : lw_okq (⟨"AwakeByHalves$Tape", "takeMarksBehind", "(Ljava/lang/String;)I"⟩, 5) := ⟨⟨by decide +kernel, by decide +kernel⟩, List.mem_of_getElem? (i := 111) (by decide +kernel), List.mem_of_getElem? (i := 589) (by decide +kernel), List.mem_of_getElem? (i := 590) (by decide +kernel)⟩
theorem lw_p18 : lw_okq (⟨"AwakeByHalves$Tape", "readMark", "(LAwakeByHalves$Town;)Z"⟩, 5) := ⟨⟨by decide +kernel, by decide +kernel⟩, List.mem_of_getElem? (i := 111) (by decide +kernel), List.mem_of_getElem? (i := 596) (by decide +kernel), List.mem_of_getElem? (i := 597) (by decide +kernel)⟩
theorem lw_p19 : lw_okq (⟨"AwakeByHalves$Tape", "readCount", "(LAwakeByHalves$Town;)Z"⟩, 5) := ⟨⟨by decide +kernel, by decide +kernel⟩, List.mem_of_getElem? (i := 111) (by decide +kernel), List.mem_of_getElem? (i := 601) (by decide +kernel), List.mem_of_getElem? (i := 602) (by decide +kernel)⟩
theorem lw_p20 : lw_okq (⟨"AwakeByHalves$Tape", "readMarkWorth", "(LAwakeByHalves$Town;I)Z"⟩, 5) := ⟨⟨by decide +kernel, by decide +kernel⟩, List.mem_of_getElem? (i := 111) (by decide +kernel), List.mem_of_getElem? (i := 607) (by decide +kernel), List.mem_of_getElem? (i := 608) (by decide +kernel)⟩
theorem lw_p21 : lw_okq (⟨"AwakeByHalves$Tape", "readCountWorth", "(LAwakeByHalves$Town;I)Z"⟩, 5) := ⟨⟨by decide +kernel, by decide +kernel⟩, List.mem_of_getElem? (i := 111) (by decide +kernel), List.mem_of_getElem? (i := 614) (by decide +kernel), List.mem_of_getElem? (i := 615) (by decide +kernel)⟩
theorem lw_p22 : lw_okq (⟨"AwakeByHalves$Tape", "readHidden", "(LAwakeByHalves$Town;)Z"⟩, 5) := ⟨⟨by decide +kernel, by decide +kernel⟩, List.mem_of_getElem? (i := 111) (by decide +kernel), List.mem_of_getElem? (i := 620) (by decide +kernel), List.mem_of_getElem? (i := 621) (by decide +kernel)⟩
theorem lw_p23 : lw_okq (⟨"AwakeByHalves$Tape", "readLock", "(LAwakeByHalves$Town;)Z"⟩, 5) := ⟨⟨by decide +kernel, by decide +kernel⟩, List.mem_of_getElem? (i := 111) (by decide +kernel), List.mem_of_getElem? (i := 625) (by decide +kernel), List.mem_of_getElem? (i := 626) (by decide +kernel)⟩
theorem lw_p24 : lw_okq (⟨"AwakeByHalves", "refuseGain", "(I)I"⟩, 10) := ⟨⟨by decide +kernel, by decide +kernel⟩, List.mem_of_getElem? (i := 20) (by decide +kernel), List.mem_of_getElem? (i := 639) (by decide +kernel), List.mem_of_getElem? (i := 640) (by decide +kernel)⟩
theorem lw_p25 : lw_okq (⟨"AwakeByHalves", "isActOrNone", "(I)Z"⟩, 10) := ⟨⟨by decide +kernel, by decide +kernel⟩, List.mem_of_getElem? (i := 20) (by decide +kernel), List.mem_of_getElem? (i := 666) (by decide +kernel), List.mem_of_getElem? (i := 667) (by decide +kernel)⟩
theorem lw_p26 : lw_okq (⟨"AwakeByHalves$Trial", "begin", "()V"⟩, 6) := ⟨⟨by decide +kernel, by decide +kernel⟩, List.mem_of_getElem? (i := 175) (by decide +kernel), List.mem_of_getElem? (i := 695) (by decide +kernel), List.mem_of_getElem? (i := 696) (by decide +kernel)⟩
theorem lw_p27 : lw_okq (⟨"AwakeByHalves$Trial", "go", "(I)V"⟩, 6) := ⟨⟨by decide +kernel, by decide +kernel⟩, List.mem_of_getElem? (i := 175) (by decide +kernel), List.mem_of_getElem? (i := 702) (by decide +kernel), List.mem_of_getElem? (i := 703) (by decide +kernel)⟩
theorem lw_p28 : lw_okq (⟨"AwakeByHalves", "gainsWithLock", "(II)I"⟩, 10) := ⟨⟨by decide +kernel, by decide +kernel⟩, List.mem_of_getElem? (i := 20) (by decide +kernel), List.mem_of_getElem? (i := 819) (by decide +kernel), List.mem_of_getElem? (i := 820) (by decide +kernel)⟩
theorem lw_p29 : lw_okq (⟨"AwakeByHalves", "filledShelves", "()I"⟩, 10) := ⟨⟨by decide +kernel, by decide +kernel⟩, List.mem_of_getElem? (i := 20) (by decide +kernel), List.mem_of_getElem? (i := 869) (by decide +kernel), List.mem_of_getElem? (i := 870) (by decide +kernel)⟩
theorem lw_p30 : lw_okq (⟨"AwakeByHalvesModel", "refuse", "(I)I"⟩, 36) := ⟨⟨by decide +kernel, by decide +kernel⟩, List.mem_of_getElem? (i := 873) (by decide +kernel), List.mem_of_getElem? (i := 1002) (by decide +kernel), List.mem_of_getElem? (i := 1003) (by decide +kernel)⟩
theorem lw_p31 : lw_okq (⟨"AwakeByHalvesModel", "noRow", "(I)I"⟩, 36) := ⟨⟨by decide +kernel, by decide +kernel⟩, List.mem_of_getElem? (i := 873) (by decide +kernel), List.mem_of_getElem? (i := 1010) (by decide +kernel), List.mem_of_getElem? (i := 1011) (by decide +kernel)⟩
def lw_privs_2 : List (MethodName × Nat) := [(⟨"AwakeByHalves$Tape", "takeNumber", "(II)I"⟩, 5), (⟨"AwakeByHalves$Tape", "takeMarksBehind", "(Ljava/lang/String;)I"⟩, 5), (⟨"AwakeByHalves$Tape", "readMark", "(LAwakeByHalves$Town;)Z"⟩, 5), (⟨"AwakeByHalves$Tape", "readCount", "(LAwakeByHalves$Town;)Z"⟩, 5), (⟨"AwakeByHalves$Tape", "readMarkWorth", "(LAwakeByHalves$Town;I)Z"⟩, 5), (⟨"AwakeByHalves$Tape", "readCountWorth", "(LAwakeByHalves$Town;I)Z"⟩, 5), (⟨"AwakeByHalves$Tape", "readHidden", "(LAwakeByHalves$Town;)Z"⟩, 5), (⟨"AwakeByHalves$Tape", "readLock", "(LAwakeByHalves$Town;)Z"⟩, 5), (⟨"AwakeByHalves", "refuseGain", "(I)I"⟩, 10), (⟨"AwakeByHalves", "isActOrNone", "(I)Z"⟩, 10), (⟨"AwakeByHalves$Trial", "begin", "()V"⟩, 6), (⟨"AwakeByHalves$Trial", "go", "(I)V"⟩, 6), (⟨"AwakeByHalves", "gainsWithLock", "(II)I"⟩, 10), (⟨"AwakeByHalves", "filledShelves", "()I"⟩, 10), (⟨"AwakeByHalvesModel", "refuse", "(I)I"⟩, 36), (⟨"AwakeByHalvesModel", "noRow", "(I)I"⟩, 36)]
theorem lw_r2 : ∀ q ∈ lw_privs_2, lw_okq q := List.forall_mem_cons.mpr ⟨lw_p16, List.forall_mem_cons.mpr ⟨lw_p17, List.forall_mem_cons.mpr ⟨lw_p18, List.forall_mem_cons.mpr ⟨lw_p19, List.forall_mem_cons.mpr ⟨lw_p20, List.forall_mem_cons.mpr ⟨lw_p21, List.forall_mem_cons.mpr ⟨lw_p22, List.forall_mem_cons.mpr ⟨lw_p23, List.forall_mem_cons.mpr ⟨lw_p24, List.forall_mem_cons.mpr ⟨lw_p25, List.forall_mem_cons.mpr ⟨lw_p26, List.forall_mem_cons.mpr ⟨lw_p27, List.forall_mem_cons.mpr ⟨lw_p28, List.forall_mem_cons.mpr ⟨lw_p29, List.forall_mem_cons.mpr ⟨lw_p30, List.forall_mem_cons.mpr ⟨lw_p31, fun _ h => absurd h List.not_mem_nil⟩⟩⟩⟩⟩⟩⟩⟩⟩⟩⟩⟩⟩⟩⟩⟩
theorem lw_p32 : lw_okq (⟨"AwakeByHalvesModel", "chosen", "(II)I"⟩, 36) := ⟨⟨by decide +kernel, by decide +kernel⟩, List.mem_of_getElem? (i := 873) (by decide +kernel), List.mem_of_getElem? (i := 1042) (by decide +kernel), List.mem_of_getElem? (i := 1043) (by decide +kernel)⟩
theorem lw_p33 : lw_okq (⟨"AwakeByHalvesModel", "greatest", "(Z)I"⟩, 36) := ⟨⟨by decide +kernel, by decide +kernel⟩, List.mem_of_getElem? (i := 873) (by decide +kernel), List.mem_of_getElem? (i := 1046) (by decide +kernel), List.mem_of_getElem? (i := 1047) (by decide +kernel)⟩
theorem lw_p34 : lw_okq (⟨"AwakeByHalvesModel", "gainBy", "(IZ)I"⟩, 36) := ⟨⟨by decide +kernel, by decide +kernel⟩, List.mem_of_getElem? (i := 873) (by decide +kernel), List.mem_of_getElem? (i := 1050) (by decide +kernel), List.mem_of_getElem? (i := 1051) (by decide +kernel)⟩
theorem lw_p35 : lw_okq (⟨"AwakeByHalvesModel", "standing", "()J"⟩, 36) := ⟨⟨by decide +kernel, by decide +kernel⟩, List.mem_of_getElem? (i := 873) (by decide +kernel), List.mem_of_getElem? (i := 1054) (by decide +kernel), List.mem_of_getElem? (i := 1055) (by decide +kernel)⟩
theorem lw_p36 : lw_okq (⟨"AwakeByHalvesModel", "doIt", "(I)V"⟩, 36) := ⟨⟨by decide +kernel, by decide +kernel⟩, List.mem_of_getElem? (i := 873) (by decide +kernel), List.mem_of_getElem? (i := 1059) (by decide +kernel), List.mem_of_getElem? (i := 1060) (by decide +kernel)⟩
theorem lw_p37 : lw_okq (⟨"AwakeByHalvesModel", "valueOf", "(I)I"⟩, 36) := ⟨⟨by decide +kernel, by decide +kernel⟩, List.mem_of_getElem? (i := 873) (by decide +kernel), List.mem_of_getElem? (i := 1063) (by decide +kernel), List.mem_of_getElem? (i := 1064) (by decide +kernel)⟩
theorem lw_p38 : lw_okq (⟨"AwakeByHalvesModel", "putBack", "(J)V"⟩, 36) := ⟨⟨by decide +kernel, by decide +kernel⟩, List.mem_of_getElem? (i := 873) (by decide +kernel), List.mem_of_getElem? (i := 1070) (by decide +kernel), List.mem_of_getElem? (i := 1071) (by decide +kernel)⟩
theorem lw_p39 : lw_okq (⟨"AwakeByHalvesModel", "canBe", "(II)Z"⟩, 36) := ⟨⟨by decide +kernel, by decide +kernel⟩, List.mem_of_getElem? (i := 873) (by decide +kernel), List.mem_of_getElem? (i := 1074) (by decide +kernel), List.mem_of_getElem? (i := 1075) (by decide +kernel)⟩
theorem lw_p40 : lw_okq (⟨"AwakeByHalvesModel", "findBest", "(II)V"⟩, 36) := ⟨⟨by decide +kernel, by decide +kernel⟩, List.mem_of_getElem? (i := 873) (by decide +kernel), List.mem_of_getElem? (i := 1078) (by decide +kernel), List.mem_of_getElem? (i := 1079) (by decide +kernel)⟩
theorem lw_p41 : lw_okq (⟨"AwakeByHalvesModel", "isAct", "(J)Z"⟩, 36) := ⟨⟨by decide +kernel, by decide +kernel⟩, List.mem_of_getElem? (i := 873) (by decide +kernel), List.mem_of_getElem? (i := 1110) (by decide +kernel), List.mem_of_getElem? (i := 1111) (by decide +kernel)⟩
theorem lw_p42 : lw_okq (⟨"AwakeByHalvesModel", "fresh", "()LAwakeByHalvesModel;"⟩, 36) := ⟨⟨by decide +kernel, by decide +kernel⟩, List.mem_of_getElem? (i := 873) (by decide +kernel), List.mem_of_getElem? (i := 1130) (by decide +kernel), List.mem_of_getElem? (i := 1131) (by decide +kernel)⟩
theorem lw_p43 : lw_okq (⟨"AwakeByHalvesModel", "takeFrom", "(LAwakeByHalvesModel;)V"⟩, 36) := ⟨⟨by decide +kernel, by decide +kernel⟩, List.mem_of_getElem? (i := 873) (by decide +kernel), List.mem_of_getElem? (i := 1136) (by decide +kernel), List.mem_of_getElem? (i := 1137) (by decide +kernel)⟩
theorem lw_p44 : lw_okq (⟨"AwakeByHalvesModel", "readAll", "()Z"⟩, 36) := ⟨⟨by decide +kernel, by decide +kernel⟩, List.mem_of_getElem? (i := 873) (by decide +kernel), List.mem_of_getElem? (i := 1143) (by decide +kernel), List.mem_of_getElem? (i := 1144) (by decide +kernel)⟩
theorem lw_p45 : lw_okq (⟨"AwakeByHalvesModel", "look", "()V"⟩, 36) := ⟨⟨by decide +kernel, by decide +kernel⟩, List.mem_of_getElem? (i := 873) (by decide +kernel), List.mem_of_getElem? (i := 1147) (by decide +kernel), List.mem_of_getElem? (i := 1148) (by decide +kernel)⟩
theorem lw_p46 : lw_okq (⟨"AwakeByHalvesModel", "statement", "()Z"⟩, 36) := ⟨⟨by decide +kernel, by decide +kernel⟩, List.mem_of_getElem? (i := 873) (by decide +kernel), List.mem_of_getElem? (i := 1158) (by decide +kernel), List.mem_of_getElem? (i := 1159) (by decide +kernel)⟩
theorem lw_p47 : lw_okq (⟨"AwakeByHalvesModel", "isWord", "(Ljava/lang/String;)Z"⟩, 36) := ⟨⟨by decide +kernel, by decide +kernel⟩, List.mem_of_getElem? (i := 873) (by decide +kernel), List.mem_of_getElem? (i := 1163) (by decide +kernel), List.mem_of_getElem? (i := 1164) (by decide +kernel)⟩
def lw_privs_3 : List (MethodName × Nat) := [(⟨"AwakeByHalvesModel", "chosen", "(II)I"⟩, 36), (⟨"AwakeByHalvesModel", "greatest", "(Z)I"⟩, 36), (⟨"AwakeByHalvesModel", "gainBy", "(IZ)I"⟩, 36), (⟨"AwakeByHalvesModel", "standing", "()J"⟩, 36), (⟨"AwakeByHalvesModel", "doIt", "(I)V"⟩, 36), (⟨"AwakeByHalvesModel", "valueOf", "(I)I"⟩, 36), (⟨"AwakeByHalvesModel", "putBack", "(J)V"⟩, 36), (⟨"AwakeByHalvesModel", "canBe", "(II)Z"⟩, 36), (⟨"AwakeByHalvesModel", "findBest", "(II)V"⟩, 36), (⟨"AwakeByHalvesModel", "isAct", "(J)Z"⟩, 36), (⟨"AwakeByHalvesModel", "fresh", "()LAwakeByHalvesModel;"⟩, 36), (⟨"AwakeByHalvesModel", "takeFrom", "(LAwakeByHalvesModel;)V"⟩, 36), (⟨"AwakeByHalvesModel", "readAll", "()Z"⟩, 36), (⟨"AwakeByHalvesModel", "look", "()V"⟩, 36), (⟨"AwakeByHalvesModel", "statement", "()Z"⟩, 36), (⟨"AwakeByHalvesModel", "isWord", "(Ljava/lang/String;)Z"⟩, 36)]
theorem lw_r3 : ∀ q ∈ lw_privs_3, lw_okq q := List.forall_mem_cons.mpr ⟨lw_p32, List.forall_mem_cons.mpr ⟨lw_p33, List.forall_mem_cons.mpr ⟨lw_p34, List.forall_mem_cons.mpr ⟨lw_p35, List.forall_mem_cons.mpr ⟨lw_p36, List.forall_mem_cons.mpr ⟨lw_p37, List.forall_mem_cons.mpr ⟨lw_p38, List.forall_mem_cons.mpr ⟨lw_p39, List.forall_mem_cons.mpr ⟨lw_p40, List.forall_mem_cons.mpr ⟨lw_p41, List.forall_mem_cons.mpr ⟨lw_p42, List.forall_mem_cons.mpr ⟨lw_p43, List.forall_mem_cons.mpr ⟨lw_p44, List.forall_mem_cons.mpr ⟨lw_p45, List.forall_mem_cons.mpr ⟨lw_p46, List.forall_mem_cons.mpr ⟨lw_p47, fun _ h => absurd h List.not_mem_nil⟩⟩⟩⟩⟩⟩⟩⟩⟩⟩⟩⟩⟩⟩⟩⟩
theorem lw_p48 : lw_okq (⟨"AwakeByHalvesModel", "actTold", "()Z"⟩, 36) := ⟨⟨by decide +kernel, by decide +kernel⟩, List.mem_of_getElem? (i := 873) (by decide +kernel), List.mem_of_getElem? (i := 1169) (by decide +kernel), List.mem_of_getElem? (i := 1170) (by decide +kernel)⟩
theorem lw_p49 : lw_okq (⟨"AwakeByHalvesModel", "tells", "(Ljava/lang/String;III)Z"⟩, 36) := ⟨⟨by decide +kernel, by decide +kernel⟩, List.mem_of_getElem? (i := 873) (by decide +kernel), List.mem_of_getElem? (i := 1173) (by decide +kernel), List.mem_of_getElem? (i := 1174) (by decide +kernel)⟩
theorem lw_p50 : lw_okq (⟨"AwakeByHalvesModel", "wrong", "()Z"⟩, 36) := ⟨⟨by decide +kernel, by decide +kernel⟩, List.mem_of_getElem? (i := 873) (by decide +kernel), List.mem_of_getElem? (i := 1177) (by decide +kernel), List.mem_of_getElem? (i := 1178) (by decide +kernel)⟩
theorem lw_p51 : lw_okq (⟨"AwakeByHalvesModel", "number", "(III)Z"⟩, 36) := ⟨⟨by decide +kernel, by decide +kernel⟩, List.mem_of_getElem? (i := 873) (by decide +kernel), List.mem_of_getElem? (i := 1181) (by decide +kernel), List.mem_of_getElem? (i := 1182) (by decide +kernel)⟩
theorem lw_p52 : lw_okq (⟨"AwakeByHalvesModel", "worthTold", "(Ljava/lang/String;ZI)Z"⟩, 36) := ⟨⟨by decide +kernel, by decide +kernel⟩, List.mem_of_getElem? (i := 873) (by decide +kernel), List.mem_of_getElem? (i := 1191) (by decide +kernel), List.mem_of_getElem? (i := 1192) (by decide +kernel)⟩
theorem lw_p53 : lw_okq (⟨"AwakeByHalvesModel", "goes", "(I)V"⟩, 36) := ⟨⟨by decide +kernel, by decide +kernel⟩, List.mem_of_getElem? (i := 873) (by decide +kernel), List.mem_of_getElem? (i := 1229) (by decide +kernel), List.mem_of_getElem? (i := 1230) (by decide +kernel)⟩
theorem lw_p54 : lw_okq (⟨"AwakeByHalvesModel", "noRule", "(I)I"⟩, 36) := ⟨⟨by decide +kernel, by decide +kernel⟩, List.mem_of_getElem? (i := 873) (by decide +kernel), List.mem_of_getElem? (i := 1237) (by decide +kernel), List.mem_of_getElem? (i := 1238) (by decide +kernel)⟩
theorem lw_p55 : lw_okq (⟨"AwakeByHalvesModel", "noRules", "(II)I"⟩, 36) := ⟨⟨by decide +kernel, by decide +kernel⟩, List.mem_of_getElem? (i := 873) (by decide +kernel), List.mem_of_getElem? (i := 1246) (by decide +kernel), List.mem_of_getElem? (i := 1247) (by decide +kernel)⟩
theorem lw_p56 : lw_okq (⟨"AwakeByHalvesModel", "runs", "(IIIII)V"⟩, 36) := ⟨⟨by decide +kernel, by decide +kernel⟩, List.mem_of_getElem? (i := 873) (by decide +kernel), List.mem_of_getElem? (i := 1250) (by decide +kernel), List.mem_of_getElem? (i := 1251) (by decide +kernel)⟩
theorem lw_p57 : lw_okq (⟨"AwakeByHalvesModel", "gainsBy", "(III)I"⟩, 36) := ⟨⟨by decide +kernel, by decide +kernel⟩, List.mem_of_getElem? (i := 873) (by decide +kernel), List.mem_of_getElem? (i := 1258) (by decide +kernel), List.mem_of_getElem? (i := 1259) (by decide +kernel)⟩
theorem lw_p58 : lw_okq (⟨"AwakeByHalvesModel", "noTold", "(II)I"⟩, 36) := ⟨⟨by decide +kernel, by decide +kernel⟩, List.mem_of_getElem? (i := 873) (by decide +kernel), List.mem_of_getElem? (i := 1276) (by decide +kernel), List.mem_of_getElem? (i := 1277) (by decide +kernel)⟩
theorem lw_p59 : lw_okq (⟨"AwakeByHalvesModel", "goThrough", "(II)I"⟩, 36) := ⟨⟨by decide +kernel, by decide +kernel⟩, List.mem_of_getElem? (i := 873) (by decide +kernel), List.mem_of_getElem? (i := 1280) (by decide +kernel), List.mem_of_getElem? (i := 1281) (by decide +kernel)⟩
theorem lw_p60 : lw_okq (⟨"AwakeByHalvesModel", "mostAgainst", "(IIII)I"⟩, 36) := ⟨⟨by decide +kernel, by decide +kernel⟩, List.mem_of_getElem? (i := 873) (by decide +kernel), List.mem_of_getElem? (i := 1299) (by decide +kernel), List.mem_of_getElem? (i := 1300) (by decide +kernel)⟩
theorem lw_p61 : lw_okq (⟨"AwakeByHalvesModel", "mostTogether", "(II)I"⟩, 36) := ⟨⟨by decide +kernel, by decide +kernel⟩, List.mem_of_getElem? (i := 873) (by decide +kernel), List.mem_of_getElem? (i := 1307) (by decide +kernel), List.mem_of_getElem? (i := 1308) (by decide +kernel)⟩
theorem lw_p62 : lw_okq (⟨"AwakeByHalvesModel", "workOf", "(IZ)I"⟩, 36) := ⟨⟨by decide +kernel, by decide +kernel⟩, List.mem_of_getElem? (i := 873) (by decide +kernel), List.mem_of_getElem? (i := 1319) (by decide +kernel), List.mem_of_getElem? (i := 1320) (by decide +kernel)⟩
theorem lw_p63 : lw_okq (⟨"AwakeByHalvesModel", "isDone", "(IIIZI)Z"⟩, 36) := ⟨⟨by decide +kernel, by decide +kernel⟩, List.mem_of_getElem? (i := 873) (by decide +kernel), List.mem_of_getElem? (i := 1323) (by decide +kernel), List.mem_of_getElem? (i := 1324) (by decide +kernel)⟩
def lw_privs_4 : List (MethodName × Nat) := [(⟨"AwakeByHalvesModel", "actTold", "()Z"⟩, 36), (⟨"AwakeByHalvesModel", "tells", "(Ljava/lang/String;III)Z"⟩, 36), (⟨"AwakeByHalvesModel", "wrong", "()Z"⟩, 36), (⟨"AwakeByHalvesModel", "number", "(III)Z"⟩, 36), (⟨"AwakeByHalvesModel", "worthTold", "(Ljava/lang/String;ZI)Z"⟩, 36), (⟨"AwakeByHalvesModel", "goes", "(I)V"⟩, 36), (⟨"AwakeByHalvesModel", "noRule", "(I)I"⟩, 36), (⟨"AwakeByHalvesModel", "noRules", "(II)I"⟩, 36), (⟨"AwakeByHalvesModel", "runs", "(IIIII)V"⟩, 36), (⟨"AwakeByHalvesModel", "gainsBy", "(III)I"⟩, 36), (⟨"AwakeByHalvesModel", "noTold", "(II)I"⟩, 36), (⟨"AwakeByHalvesModel", "goThrough", "(II)I"⟩, 36), (⟨"AwakeByHalvesModel", "mostAgainst", "(IIII)I"⟩, 36), (⟨"AwakeByHalvesModel", "mostTogether", "(II)I"⟩, 36), (⟨"AwakeByHalvesModel", "workOf", "(IZ)I"⟩, 36), (⟨"AwakeByHalvesModel", "isDone", "(IIIZI)Z"⟩, 36)]
theorem lw_r4 : ∀ q ∈ lw_privs_4, lw_okq q := List.forall_mem_cons.mpr ⟨lw_p48, List.forall_mem_cons.mpr ⟨lw_p49, List.forall_mem_cons.mpr ⟨lw_p50, List.forall_mem_cons.mpr ⟨lw_p51, List.forall_mem_cons.mpr ⟨lw_p52, List.forall_mem_cons.mpr ⟨lw_p53, List.forall_mem_cons.mpr ⟨lw_p54, List.forall_mem_cons.mpr ⟨lw_p55, List.forall_mem_cons.mpr ⟨lw_p56, List.forall_mem_cons.mpr ⟨lw_p57, List.forall_mem_cons.mpr ⟨lw_p58, List.forall_mem_cons.mpr ⟨lw_p59, List.forall_mem_cons.mpr ⟨lw_p60, List.forall_mem_cons.mpr ⟨lw_p61, List.forall_mem_cons.mpr ⟨lw_p62, List.forall_mem_cons.mpr ⟨lw_p63, fun _ h => absurd h List.not_mem_nil⟩⟩⟩⟩⟩⟩⟩⟩⟩⟩⟩⟩⟩⟩⟩⟩
theorem lw_p64 : lw_okq (⟨"AwakeByHalvesModel", "foundBy", "(I)I"⟩, 36) := ⟨⟨by decide +kernel, by decide +kernel⟩, List.mem_of_getElem? (i := 873) (by decide +kernel), List.mem_of_getElem? (i := 1335) (by decide +kernel), List.mem_of_getElem? (i := 1336) (by decide +kernel)⟩
theorem lw_p65 : lw_okq (⟨"AwakeByHalvesModel", "isLocked", "(I)Z"⟩, 36) := ⟨⟨by decide +kernel, by decide +kernel⟩, List.mem_of_getElem? (i := 873) (by decide +kernel), List.mem_of_getElem? (i := 1352) (by decide +kernel), List.mem_of_getElem? (i := 1353) (by decide +kernel)⟩
theorem lw_p66 : lw_okq (⟨"AwakeByHalvesModel", "lockingOf", "(II)I"⟩, 36) := ⟨⟨by decide +kernel, by decide +kernel⟩, List.mem_of_getElem? (i := 873) (by decide +kernel), List.mem_of_getElem? (i := 1356) (by decide +kernel), List.mem_of_getElem? (i := 1357) (by decide +kernel)⟩
theorem lw_p67 : lw_okq (⟨"AwakeByHalvesModel", "draw", "(I)I"⟩, 36) := ⟨⟨by decide +kernel, by decide +kernel⟩, List.mem_of_getElem? (i := 873) (by decide +kernel), List.mem_of_getElem? (i := 1376) (by decide +kernel), List.mem_of_getElem? (i := 1377) (by decide +kernel)⟩
def lw_privs_5 : List (MethodName × Nat) := [(⟨"AwakeByHalvesModel", "foundBy", "(I)I"⟩, 36), (⟨"AwakeByHalvesModel", "isLocked", "(I)Z"⟩, 36), (⟨"AwakeByHalvesModel", "lockingOf", "(II)I"⟩, 36), (⟨"AwakeByHalvesModel", "draw", "(I)I"⟩, 36)]
theorem lw_r5 : ∀ q ∈ lw_privs_5, lw_okq q := List.forall_mem_cons.mpr ⟨lw_p64, List.forall_mem_cons.mpr ⟨lw_p65, List.forall_mem_cons.mpr ⟨lw_p66, List.forall_mem_cons.mpr ⟨lw_p67, fun _ h => absurd h List.not_mem_nil⟩⟩⟩⟩
def lw_privs : List (MethodName × Nat) := lw_privs_1 ++ (lw_privs_2 ++ (lw_privs_3 ++ (lw_privs_4 ++ (lw_privs_5))))
def lw_tbl : List Cond := k2_sels lw_privs ++ tables_1
theorem lw_privs_ok : ∀ q ∈ lw_privs, lw_okq q := by
  show ∀ q ∈ lw_privs_1 ++ (lw_privs_2 ++ (lw_privs_3 ++ (lw_privs_4 ++ (lw_privs_5)))), lw_okq q
  exact List.forall_mem_append.mpr ⟨lw_r1, List.forall_mem_append.mpr ⟨lw_r2, List.forall_mem_append.mpr ⟨lw_r3, List.forall_mem_append.mpr ⟨lw_r4, lw_r5⟩⟩⟩⟩
end
section
theorem vr_outer (c : ClassId) (N h0 : Nat) : ∀ i : Nat, Jvm.Free.Multi.outerC c N h0 i = arrV c N (fun j => va_rf (if j < i then some (h0 + 1 + j) else none))
  | 0 => by
    show ({ cls := c, slots := Array.replicate N .null, vm := .none } : Cell) = _
    rw [arrV_new]
    refine congrArg (arrV c N) (funext fun j => ?_)
    simp [va_rf]
  | i + 1 => by
    show (Jvm.Free.Multi.outerC c N h0 i).setSlot i (.ref (h0 + 1 + i)) = _
    rw [vr_outer c N h0 i, arrV_store]
    refine congrArg (arrV c N) (funext fun j => ?_)
    by_cases e : j = i
    · subst e
      simp [updV, va_rf]
    · by_cases h : j < i
      · simp [updV, e, h, Nat.lt_succ_of_lt h]
      · simp [updV, e, h, show ¬ j < i + 1 by omega]
def RX0 : String := "AwakeByHalves$Foresight"
def TX0 : u_T := fun k => match k with
  | 0 => ("AwakeByHalves$Foresight", "town", "LAwakeByHalves$Town;", true)
  | 1 => ("AwakeByHalves$Foresight", "keys", "[I", true)
  | 2 => ("AwakeByHalves$Foresight", "firsts", "[I", true)
  | 3 => ("AwakeByHalves$Foresight", "gainsOfNone", "[I", true)
  | 4 => ("AwakeByHalves$Foresight", "gainsOfOne", "[I", true)
  | _ => ("AwakeByHalves$Foresight", "changesSeen", "I", false)
def tyX0 : Nat → FieldType := fun k => match k with
  | 0 => .object "AwakeByHalves$Town"
  | 1 => .array .int
  | 2 => .array .int
  | 3 => .array .int
  | 4 => .array .int
  | _ => .int
theorem nmX0 : ∀ a, a < 6 → ∀ b, b < 6 → a ≠ b → (TX0 a).2.1 ≠ (TX0 b).2.1 := by decide +kernel
theorem tyX0_ok : ∀ k, k < 6 → parseFieldDescriptor (TX0 k).2.2.1 = some (tyX0 k) := by decide +kernel
abbrev cX0_init : ByteArray := prog_2_method_1_code
def yX0_init : MethodName := ⟨RX0, "<init>", "(LAwakeByHalves$Town;)V"⟩
abbrev cX0_firstAct : ByteArray := prog_2_method_2_code
def yX0_firstAct : MethodName := ⟨RX0, "firstAct", "(II)I"⟩
abbrev cX0_gainOf : ByteArray := prog_2_method_3_code
def yX0_gainOf : MethodName := ⟨RX0, "gainOf", "(III)I"⟩
abbrev cX0_forgetIfChanged : ByteArray := prog_2_method_4_code
def yX0_forgetIfChanged : MethodName := ⟨RX0, "forgetIfChanged", "()V"⟩
abbrev cX0_gainAt : ByteArray := prog_2_method_5_code
def yX0_gainAt : MethodName := ⟨RX0, "gainAt", "(II)I"⟩
abbrev cX0_placeOf : ByteArray := prog_2_method_6_code
def yX0_placeOf : MethodName := ⟨RX0, "placeOf", "(II)I"⟩
abbrev cX0_workOut : ByteArray := prog_2_method_7_code
def yX0_workOut : MethodName := ⟨RX0, "workOut", "(III)V"⟩
def RX1 : String := "AwakeByHalves$Rules"
def TX1 : u_T := fun k => match k with
  | 0 => ("AwakeByHalves$Rules", "town", "LAwakeByHalves$Town;", true)
  | _ => ("AwakeByHalves$Rules", "foresight", "LAwakeByHalves$Foresight;", true)
def tyX1 : Nat → FieldType := fun k => match k with
  | 0 => .object "AwakeByHalves$Town"
  | _ => .object "AwakeByHalves$Foresight"
theorem nmX1 : ∀ a, a < 2 → ∀ b, b < 2 → a ≠ b → (TX1 a).2.1 ≠ (TX1 b).2.1 := by decide +kernel
theorem tyX1_ok : ∀ k, k < 2 → parseFieldDescriptor (TX1 k).2.2.1 = some (tyX1 k) := by decide +kernel
abbrev cX1_init : ByteArray := prog_3_method_1_code
def yX1_init : MethodName := ⟨RX1, "<init>", "(LAwakeByHalves$Town;LAwakeByHalves$Foresight;)V"⟩
abbrev cX1_isUnder : ByteArray := prog_3_method_2_code
def yX1_isUnder : MethodName := ⟨RX1, "isUnder", "(II)Z"⟩
abbrev cX1_choose : ByteArray := prog_3_method_3_code
def yX1_choose : MethodName := ⟨RX1, "choose", "(LAwakeByHalves$Shelf;I)I"⟩
abbrev cX1_mostToday : ByteArray := prog_3_method_4_code
def yX1_mostToday : MethodName := ⟨RX1, "mostToday", "(IZ)I"⟩
abbrev cX1_isContent : ByteArray := prog_3_method_5_code
def yX1_isContent : MethodName := ⟨RX1, "isContent", "(II)Z"⟩
abbrev cX1_ownUnlessIdle : ByteArray := prog_3_method_6_code
def yX1_ownUnlessIdle : MethodName := ⟨RX1, "ownUnlessIdle", "(II)I"⟩
abbrev cX1_firstAllowed : ByteArray := prog_3_method_7_code
def yX1_firstAllowed : MethodName := ⟨RX1, "firstAllowed", "(I)I"⟩
def RX2 : String := "AwakeByHalves$Search"
abbrev cX2_mostAgainst : ByteArray := prog_4_method_2_code
def yX2_mostAgainst : MethodName := ⟨RX2, "mostAgainst", "(LAwakeByHalves$Town;LAwakeByHalves$Rules;LAwakeByHalves$Shelf;II)I"⟩
abbrev cX2_mostOfBoth : ByteArray := prog_4_method_3_code
def yX2_mostOfBoth : MethodName := ⟨RX2, "mostOfBoth", "(LAwakeByHalves$Town;II)I"⟩
abbrev cX2_canStand : ByteArray := prog_4_method_4_code
def yX2_canStand : MethodName := ⟨RX2, "canStand", "(LAwakeByHalves$Town;IIII)Z"⟩
abbrev cX2_marksWithin : ByteArray := prog_4_method_5_code
def yX2_marksWithin : MethodName := ⟨RX2, "marksWithin", "(LAwakeByHalves$Town;II)I"⟩
def RX3 : String := "AwakeByHalves$Shelf"
def TX3 : u_T := fun k => match k with
  | 0 => ("AwakeByHalves$Shelf", "cells", "[J", true)
  | 1 => ("AwakeByHalves$Shelf", "content", "I", false)
  | 2 => ("AwakeByHalves$Shelf", "size", "I", false)
  | _ => ("AwakeByHalves$Shelf", "a", "I", false)
def tyX3 : Nat → FieldType := fun k => match k with
  | 0 => .array .long
  | 1 => .int
  | 2 => .int
  | _ => .int
theorem nmX3 : ∀ a, a < 4 → ∀ b, b < 4 → a ≠ b → (TX3 a).2.1 ≠ (TX3 b).2.1 := by decide +kernel
theorem tyX3_ok : ∀ k, k < 4 → parseFieldDescriptor (TX3 k).2.2.1 = some (tyX3 k) := by decide +kernel
abbrev cX3_init : ByteArray := prog_5_method_1_code
def yX3_init : MethodName := ⟨RX3, "<init>", "()V"⟩
abbrev cX3_isRow : ByteArray := prog_5_method_2_code
def yX3_isRow : MethodName := ⟨RX3, "isRow", "()Z"⟩
abbrev cX3_isRule : ByteArray := prog_5_method_3_code
def yX3_isRule : MethodName := ⟨RX3, "isRule", "()Z"⟩
abbrev cX3_ruleKind : ByteArray := prog_5_method_4_code
def yX3_ruleKind : MethodName := ⟨RX3, "ruleKind", "()I"⟩
abbrev cX3_takeRow : ByteArray := prog_5_method_5_code
def yX3_takeRow : MethodName := ⟨RX3, "takeRow", "(II)V"⟩
abbrev cX3_takeRule : ByteArray := prog_5_method_6_code
def yX3_takeRule : MethodName := ⟨RX3, "takeRule", "(II)V"⟩
abbrev cX3_hasCell : ByteArray := prog_5_method_7_code
def yX3_hasCell : MethodName := ⟨RX3, "hasCell", "(I)Z"⟩
abbrev cX3_hasCells : ByteArray := prog_5_method_8_code
def yX3_hasCells : MethodName := ⟨RX3, "hasCells", "(II)Z"⟩
abbrev cX3_put : ByteArray := prog_5_method_9_code
def yX3_put : MethodName := ⟨RX3, "put", "(IJ)V"⟩
def RX4 : String := "AwakeByHalves$State"
abbrev cX4_marksIn : ByteArray := prog_6_method_2_code
def yX4_marksIn : MethodName := ⟨RX4, "marksIn", "(I)I"⟩
abbrev cX4_isStanding : ByteArray := prog_6_method_3_code
def yX4_isStanding : MethodName := ⟨RX4, "isStanding", "(II)Z"⟩
abbrev cX4_turned : ByteArray := prog_6_method_4_code
def yX4_turned : MethodName := ⟨RX4, "turned", "(II)I"⟩
abbrev cX4_countIn : ByteArray := prog_6_method_5_code
def yX4_countIn : MethodName := ⟨RX4, "countIn", "(II)I"⟩
abbrev cX4_withCount : ByteArray := prog_6_method_6_code
def yX4_withCount : MethodName := ⟨RX4, "withCount", "(III)I"⟩
abbrev cX4_allCountsIn : ByteArray := prog_6_method_7_code
def yX4_allCountsIn : MethodName := ⟨RX4, "allCountsIn", "(I)I"⟩
abbrev cX4_awakeIn : ByteArray := prog_6_method_8_code
def yX4_awakeIn : MethodName := ⟨RX4, "awakeIn", "(I)I"⟩
abbrev cX4_nextDay : ByteArray := prog_6_method_9_code
def yX4_nextDay : MethodName := ⟨RX4, "nextDay", "(I)I"⟩
def RX5 : String := "AwakeByHalves$Tape"
def TX5 : u_T := fun k => match k with
  | 0 => ("AwakeByHalves$Tape", "letters", "[I", true)
  | 1 => ("AwakeByHalves$Tape", "size", "I", false)
  | 2 => ("AwakeByHalves$Tape", "start", "I", false)
  | 3 => ("AwakeByHalves$Tape", "end", "I", false)
  | _ => ("AwakeByHalves$Tape", "sort", "I", false)
def tyX5 : Nat → FieldType := fun k => match k with
  | 0 => .array .int
  | 1 => .int
  | 2 => .int
  | 3 => .int
  | _ => .int
theorem nmX5 : ∀ a, a < 5 → ∀ b, b < 5 → a ≠ b → (TX5 a).2.1 ≠ (TX5 b).2.1 := by decide +kernel
theorem tyX5_ok : ∀ k, k < 5 → parseFieldDescriptor (TX5 k).2.2.1 = some (tyX5 k) := by decide +kernel
abbrev cX5_init : ByteArray := prog_7_method_1_code
def yX5_init : MethodName := ⟨RX5, "<init>", "()V"⟩
abbrev cX5_add : ByteArray := prog_7_method_2_code
def yX5_add : MethodName := ⟨RX5, "add", "(I)V"⟩
abbrev cX5_readInto : ByteArray := prog_7_method_3_code
def yX5_readInto : MethodName := ⟨RX5, "readInto", "(LAwakeByHalves$Town;)I"⟩
abbrev cX5_advance : ByteArray := prog_7_method_4_code
def yX5_advance : MethodName := ⟨RX5, "advance", "()V"⟩
abbrev cX5_sortOf : ByteArray := prog_7_method_5_code
def yX5_sortOf : MethodName := ⟨RX5, "sortOf", "(I)I"⟩
abbrev cX5_isWord : ByteArray := prog_7_method_6_code
def yX5_isWord : MethodName := ⟨RX5, "isWord", "(Ljava/lang/String;)Z"⟩
abbrev cX5_takeNumber : ByteArray := prog_7_method_7_code
def yX5_takeNumber : MethodName := ⟨RX5, "takeNumber", "(II)I"⟩
abbrev cX5_readStatement : ByteArray := prog_7_method_8_code
def yX5_readStatement : MethodName := ⟨RX5, "readStatement", "(LAwakeByHalves$Town;)Z"⟩
abbrev cX5_readAct : ByteArray := prog_7_method_9_code
def yX5_readAct : MethodName := ⟨RX5, "readAct", "(LAwakeByHalves$Town;)Z"⟩
abbrev cX5_takeMarksBehind : ByteArray := prog_7_method_10_code
def yX5_takeMarksBehind : MethodName := ⟨RX5, "takeMarksBehind", "(Ljava/lang/String;)I"⟩
abbrev cX5_readMark : ByteArray := prog_7_method_11_code
def yX5_readMark : MethodName := ⟨RX5, "readMark", "(LAwakeByHalves$Town;)Z"⟩
abbrev cX5_readCount : ByteArray := prog_7_method_12_code
def yX5_readCount : MethodName := ⟨RX5, "readCount", "(LAwakeByHalves$Town;)Z"⟩
abbrev cX5_readMarkWorth : ByteArray := prog_7_method_13_code
def yX5_readMarkWorth : MethodName := ⟨RX5, "readMarkWorth", "(LAwakeByHalves$Town;I)Z"⟩
abbrev cX5_readCountWorth : ByteArray := prog_7_method_14_code
def yX5_readCountWorth : MethodName := ⟨RX5, "readCountWorth", "(LAwakeByHalves$Town;I)Z"⟩
abbrev cX5_readHidden : ByteArray := prog_7_method_15_code
def yX5_readHidden : MethodName := ⟨RX5, "readHidden", "(LAwakeByHalves$Town;)Z"⟩
abbrev cX5_readLock : ByteArray := prog_7_method_16_code
def yX5_readLock : MethodName := ⟨RX5, "readLock", "(LAwakeByHalves$Town;)Z"⟩
def RX6 : String := "AwakeByHalves$Town"
def TX6 : u_T := fun k => match k with
  | 0 => ("AwakeByHalves$Town", "kinds", "[I", true)
  | 1 => ("AwakeByHalves$Town", "marks", "[I", true)
  | 2 => ("AwakeByHalves$Town", "counts", "[I", true)
  | 3 => ("AwakeByHalves$Town", "numbers", "[I", true)
  | 4 => ("AwakeByHalves$Town", "needs", "[I", true)
  | 5 => ("AwakeByHalves$Town", "bars", "[I", true)
  | 6 => ("AwakeByHalves$Town", "locks", "[I", true)
  | 7 => ("AwakeByHalves$Town", "worths", "[I", true)
  | 8 => ("AwakeByHalves$Town", "gains", "[I", true)
  | 9 => ("AwakeByHalves$Town", "acts", "I", false)
  | 10 => ("AwakeByHalves$Town", "state", "I", false)
  | 11 => ("AwakeByHalves$Town", "hidden", "I", false)
  | 12 => ("AwakeByHalves$Town", "days", "I", false)
  | 13 => ("AwakeByHalves$Town", "seed", "I", false)
  | 14 => ("AwakeByHalves$Town", "before", "I", false)
  | 15 => ("AwakeByHalves$Town", "isBeforeKnown", "Z", false)
  | _ => ("AwakeByHalves$Town", "changes", "I", false)
def tyX6 : Nat → FieldType := fun k => match k with
  | 0 => .array .int
  | 1 => .array .int
  | 2 => .array .int
  | 3 => .array .int
  | 4 => .array .int
  | 5 => .array .int
  | 6 => .array .int
  | 7 => .array .int
  | 8 => .array .int
  | 9 => .int
  | 10 => .int
  | 11 => .int
  | 12 => .int
  | 13 => .int
  | 14 => .int
  | 15 => .boolean
  | _ => .int
theorem nmX6 : ∀ a, a < 17 → ∀ b, b < 17 → a ≠ b → (TX6 a).2.1 ≠ (TX6 b).2.1 := by decide +kernel
theorem tyX6_ok : ∀ k, k < 17 → parseFieldDescriptor (TX6 k).2.2.1 = some (tyX6 k) := by decide +kernel
abbrev cX6_init : ByteArray := prog_8_method_1_code
def yX6_init : MethodName := ⟨RX6, "<init>", "()V"⟩
abbrev cX6_become : ByteArray := prog_8_method_2_code
def yX6_become : MethodName := ⟨RX6, "become", "(LAwakeByHalves$Town;)V"⟩
abbrev cX6_isFull : ByteArray := prog_8_method_3_code
def yX6_isFull : MethodName := ⟨RX6, "isFull", "()Z"⟩
abbrev cX6_addAct : ByteArray := prog_8_method_4_code
def yX6_addAct : MethodName := ⟨RX6, "addAct", "(IIIIII)I"⟩
abbrev cX6_setWorth : ByteArray := prog_8_method_5_code
def yX6_setWorth : MethodName := ⟨RX6, "setWorth", "(III)V"⟩
abbrev cX6_isLocked : ByteArray := prog_8_method_6_code
def yX6_isLocked : MethodName := ⟨RX6, "isLocked", "(II)Z"⟩
abbrev cX6_setLocked : ByteArray := prog_8_method_7_code
def yX6_setLocked : MethodName := ⟨RX6, "setLocked", "(IIZ)V"⟩
abbrev cX6_lockedActs : ByteArray := prog_8_method_8_code
def yX6_lockedActs : MethodName := ⟨RX6, "lockedActs", "()I"⟩
abbrev cX6_allows : ByteArray := prog_8_method_9_code
def yX6_allows : MethodName := ⟨RX6, "allows", "(III)Z"⟩
abbrev cX6_after : ByteArray := prog_8_method_10_code
def yX6_after : MethodName := ⟨RX6, "after", "(II)I"⟩
abbrev cX6_valueTo : ByteArray := prog_8_method_11_code
def yX6_valueTo : MethodName := ⟨RX6, "valueTo", "(II)I"⟩
abbrev cX6_live : ByteArray := prog_8_method_12_code
def yX6_live : MethodName := ⟨RX6, "live", "(I)V"⟩
abbrev cX6_likelyActs : ByteArray := prog_8_method_13_code
def yX6_likelyActs : MethodName := ⟨RX6, "likelyActs", "(I)I"⟩
abbrev cX6_drawMark : ByteArray := prog_8_method_14_code
def yX6_drawMark : MethodName := ⟨RX6, "drawMark", "()I"⟩
def RX7 : String := "AwakeByHalves$Trial"
def TX7 : u_T := fun k => match k with
  | 0 => ("AwakeByHalves$Trial", "town", "LAwakeByHalves$Town;", true)
  | 1 => ("AwakeByHalves$Trial", "rules", "LAwakeByHalves$Rules;", true)
  | 2 => ("AwakeByHalves$Trial", "gains", "[I", true)
  | 3 => ("AwakeByHalves$Trial", "state", "I", false)
  | 4 => ("AwakeByHalves$Trial", "done", "I", false)
  | _ => ("AwakeByHalves$Trial", "last", "I", false)
def tyX7 : Nat → FieldType := fun k => match k with
  | 0 => .object "AwakeByHalves$Town"
  | 1 => .object "AwakeByHalves$Rules"
  | 2 => .array .int
  | 3 => .int
  | 4 => .int
  | _ => .int
theorem nmX7 : ∀ a, a < 6 → ∀ b, b < 6 → a ≠ b → (TX7 a).2.1 ≠ (TX7 b).2.1 := by decide +kernel
theorem tyX7_ok : ∀ k, k < 6 → parseFieldDescriptor (TX7 k).2.2.1 = some (tyX7 k) := by decide +kernel
abbrev cX7_init : ByteArray := prog_9_method_1_code
def yX7_init : MethodName := ⟨RX7, "<init>", "(LAwakeByHalves$Town;LAwakeByHalves$Rules;)V"⟩
abbrev cX7_goByRules : ByteArray := prog_9_method_2_code
def yX7_goByRules : MethodName := ⟨RX7, "goByRules", "(LAwakeByHalves$Shelf;LAwakeByHalves$Shelf;I)V"⟩
abbrev cX7_goByRow : ByteArray := prog_9_method_3_code
def yX7_goByRow : MethodName := ⟨RX7, "goByRow", "(LAwakeByHalves$Shelf;I)I"⟩
abbrev cX7_begin : ByteArray := prog_9_method_4_code
def yX7_begin : MethodName := ⟨RX7, "begin", "()V"⟩
abbrev cX7_go : ByteArray := prog_9_method_5_code
def yX7_go : MethodName := ⟨RX7, "go", "(I)V"⟩
def RX8 : String := "AwakeByHalves"
def TX8 : u_T := fun k => match k with
  | 0 => ("AwakeByHalves", "town", "LAwakeByHalves$Town;", true)
  | 1 => ("AwakeByHalves", "kept", "LAwakeByHalves$Town;", true)
  | 2 => ("AwakeByHalves", "draft", "LAwakeByHalves$Town;", true)
  | 3 => ("AwakeByHalves", "isKept", "Z", false)
  | 4 => ("AwakeByHalves", "tape", "LAwakeByHalves$Tape;", true)
  | 5 => ("AwakeByHalves", "shelves", "[LAwakeByHalves$Shelf;", true)
  | 6 => ("AwakeByHalves", "foresight", "LAwakeByHalves$Foresight;", true)
  | 7 => ("AwakeByHalves", "rules", "LAwakeByHalves$Rules;", true)
  | 8 => ("AwakeByHalves", "trial", "LAwakeByHalves$Trial;", true)
  | _ => ("AwakeByHalves", "refusals", "[I", true)
def tyX8 : Nat → FieldType := fun k => match k with
  | 0 => .object "AwakeByHalves$Town"
  | 1 => .object "AwakeByHalves$Town"
  | 2 => .object "AwakeByHalves$Town"
  | 3 => .boolean
  | 4 => .object "AwakeByHalves$Tape"
  | 5 => .array (.object "AwakeByHalves$Shelf")
  | 6 => .object "AwakeByHalves$Foresight"
  | 7 => .object "AwakeByHalves$Rules"
  | 8 => .object "AwakeByHalves$Trial"
  | _ => .array .int
theorem nmX8 : ∀ a, a < 10 → ∀ b, b < 10 → a ≠ b → (TX8 a).2.1 ≠ (TX8 b).2.1 := by decide +kernel
theorem tyX8_ok : ∀ k, k < 10 → parseFieldDescriptor (TX8 k).2.2.1 = some (tyX8 k) := by decide +kernel
abbrev cX8_init : ByteArray := prog_1_method_1_code
def yX8_init : MethodName := ⟨RX8, "<init>", "()V"⟩
abbrev cX8_refuse : ByteArray := prog_1_method_2_code
def yX8_refuse : MethodName := ⟨RX8, "refuse", "(I)I"⟩
abbrev cX8_refuseGain : ByteArray := prog_1_method_3_code
def yX8_refuseGain : MethodName := ⟨RX8, "refuseGain", "(I)I"⟩
abbrev cX8_isWithin : ByteArray := prog_1_method_4_code
def yX8_isWithin : MethodName := ⟨RX8, "isWithin", "(III)Z"⟩
abbrev cX8_isShelf : ByteArray := prog_1_method_5_code
def yX8_isShelf : MethodName := ⟨RX8, "isShelf", "(I)Z"⟩
abbrev cX8_isHalf : ByteArray := prog_1_method_6_code
def yX8_isHalf : MethodName := ⟨RX8, "isHalf", "(I)Z"⟩
abbrev cX8_isAhead : ByteArray := prog_1_method_7_code
def yX8_isAhead : MethodName := ⟨RX8, "isAhead", "(I)Z"⟩
abbrev cX8_isAct : ByteArray := prog_1_method_8_code
def yX8_isAct : MethodName := ⟨RX8, "isAct", "(I)Z"⟩
abbrev cX8_isActOrNone : ByteArray := prog_1_method_9_code
def yX8_isActOrNone : MethodName := ⟨RX8, "isActOrNone", "(I)Z"⟩
abbrev cX8_lackOfRules : ByteArray := prog_1_method_10_code
def yX8_lackOfRules : MethodName := ⟨RX8, "lackOfRules", "(II)I"⟩
abbrev cX8_lackOfRow : ByteArray := prog_1_method_11_code
def yX8_lackOfRow : MethodName := ⟨RX8, "lackOfRow", "(II)I"⟩
abbrev cX8_row : ByteArray := prog_1_method_12_code
def yX8_row : MethodName := ⟨RX8, "row", "(III)I"⟩
abbrev cX8_set : ByteArray := prog_1_method_13_code
def yX8_set : MethodName := ⟨RX8, "set", "(IIJ)I"⟩
abbrev cX8_copy : ByteArray := prog_1_method_14_code
def yX8_copy : MethodName := ⟨RX8, "copy", "(IIIII)I"⟩
abbrev cX8_element : ByteArray := prog_1_method_15_code
def yX8_element : MethodName := ⟨RX8, "element", "(II)J"⟩
abbrev cX8_holds : ByteArray := prog_1_method_16_code
def yX8_holds : MethodName := ⟨RX8, "holds", "(I)I"⟩
abbrev cX8_rule : ByteArray := prog_1_method_17_code
def yX8_rule : MethodName := ⟨RX8, "rule", "(III)I"⟩
abbrev cX8_says : ByteArray := prog_1_method_18_code
def yX8_says : MethodName := ⟨RX8, "says", "(II)I"⟩
abbrev cX8_act : ByteArray := prog_1_method_19_code
def yX8_act : MethodName := ⟨RX8, "act", "(IIIIII)I"⟩
abbrev cX8_mark : ByteArray := prog_1_method_20_code
def yX8_mark : MethodName := ⟨RX8, "mark", "(IZ)I"⟩
abbrev cX8_count : ByteArray := prog_1_method_21_code
def yX8_count : MethodName := ⟨RX8, "count", "(II)I"⟩
abbrev cX8_likes : ByteArray := prog_1_method_22_code
def yX8_likes : MethodName := ⟨RX8, "likes", "(III)I"⟩
abbrev cX8_lock : ByteArray := prog_1_method_23_code
def yX8_lock : MethodName := ⟨RX8, "lock", "(IIZ)I"⟩
abbrev cX8_hide : ByteArray := prog_1_method_24_code
def yX8_hide : MethodName := ⟨RX8, "hide", "(I)I"⟩
abbrev cX8_feed : ByteArray := prog_1_method_25_code
def yX8_feed : MethodName := ⟨RX8, "feed", "(I)I"⟩
abbrev cX8_wipe : ByteArray := prog_1_method_26_code
def yX8_wipe : MethodName := ⟨RX8, "wipe", "()I"⟩
abbrev cX8_town : ByteArray := prog_1_method_27_code
def yX8_town : MethodName := ⟨RX8, "town", "()I"⟩
abbrev cX8_actOf : ByteArray := prog_1_method_28_code
def yX8_actOf : MethodName := ⟨RX8, "actOf", "(II)I"⟩
abbrev cX8_worthOf : ByteArray := prog_1_method_29_code
def yX8_worthOf : MethodName := ⟨RX8, "worthOf", "(II)I"⟩
abbrev cX8_stands : ByteArray := prog_1_method_30_code
def yX8_stands : MethodName := ⟨RX8, "stands", "(I)I"⟩
abbrev cX8_can : ByteArray := prog_1_method_31_code
def yX8_can : MethodName := ⟨RX8, "can", "(I)I"⟩
abbrev cX8_value : ByteArray := prog_1_method_32_code
def yX8_value : MethodName := ⟨RX8, "value", "(I)I"⟩
abbrev cX8_gain : ByteArray := prog_1_method_33_code
def yX8_gain : MethodName := ⟨RX8, "gain", "(I)I"⟩
abbrev cX8_does : ByteArray := prog_1_method_34_code
def yX8_does : MethodName := ⟨RX8, "does", "(I)I"⟩
abbrev cX8_next : ByteArray := prog_1_method_35_code
def yX8_next : MethodName := ⟨RX8, "next", "(I)I"⟩
abbrev cX8_run : ByteArray := prog_1_method_36_code
def yX8_run : MethodName := ⟨RX8, "run", "(IIII)I"⟩
abbrev cX8_head : ByteArray := prog_1_method_37_code
def yX8_head : MethodName := ⟨RX8, "head", "(II)I"⟩
abbrev cX8_days : ByteArray := prog_1_method_38_code
def yX8_days : MethodName := ⟨RX8, "days", "(III)I"⟩
abbrev cX8_gained : ByteArray := prog_1_method_39_code
def yX8_gained : MethodName := ⟨RX8, "gained", "(I)I"⟩
abbrev cX8_judge : ByteArray := prog_1_method_40_code
def yX8_judge : MethodName := ⟨RX8, "judge", "(II)I"⟩
abbrev cX8_told : ByteArray := prog_1_method_41_code
def yX8_told : MethodName := ⟨RX8, "told", "(III)I"⟩
abbrev cX8_best : ByteArray := prog_1_method_42_code
def yX8_best : MethodName := ⟨RX8, "best", "(II)I"⟩
abbrev cX8_against : ByteArray := prog_1_method_43_code
def yX8_against : MethodName := ⟨RX8, "against", "(II)I"⟩
abbrev cX8_together : ByteArray := prog_1_method_44_code
def yX8_together : MethodName := ⟨RX8, "together", "(I)I"⟩
abbrev cX8_harm : ByteArray := prog_1_method_45_code
def yX8_harm : MethodName := ⟨RX8, "harm", "(I)I"⟩
abbrev cX8_work : ByteArray := prog_1_method_46_code
def yX8_work : MethodName := ⟨RX8, "work", "(IZ)I"⟩
abbrev cX8_reach : ByteArray := prog_1_method_47_code
def yX8_reach : MethodName := ⟨RX8, "reach", "(I)I"⟩
abbrev cX8_found : ByteArray := prog_1_method_48_code
def yX8_found : MethodName := ⟨RX8, "found", "()I"⟩
abbrev cX8_say : ByteArray := prog_1_method_49_code
def yX8_say : MethodName := ⟨RX8, "say", "(II)I"⟩
abbrev cX8_locking : ByteArray := prog_1_method_50_code
def yX8_locking : MethodName := ⟨RX8, "locking", "(II)I"⟩
abbrev cX8_gainsWithLock : ByteArray := prog_1_method_51_code
def yX8_gainsWithLock : MethodName := ⟨RX8, "gainsWithLock", "(II)I"⟩
abbrev cX8_which : ByteArray := prog_1_method_52_code
def yX8_which : MethodName := ⟨RX8, "which", "(I)I"⟩
abbrev cX8_up : ByteArray := prog_1_method_53_code
def yX8_up : MethodName := ⟨RX8, "up", "(I)I"⟩
abbrev cX8_pact : ByteArray := prog_1_method_54_code
def yX8_pact : MethodName := ⟨RX8, "pact", "(III)I"⟩
abbrev cX8_leap : ByteArray := prog_1_method_55_code
def yX8_leap : MethodName := ⟨RX8, "leap", "()I"⟩
abbrev cX8_seed : ByteArray := prog_1_method_56_code
def yX8_seed : MethodName := ⟨RX8, "seed", "(I)I"⟩
abbrev cX8_image : ByteArray := prog_1_method_57_code
def yX8_image : MethodName := ⟨RX8, "image", "()I"⟩
abbrev cX8_back : ByteArray := prog_1_method_58_code
def yX8_back : MethodName := ⟨RX8, "back", "()I"⟩
abbrev cX8_status : ByteArray := prog_1_method_59_code
def yX8_status : MethodName := ⟨RX8, "status", "(I)I"⟩
abbrev cX8_filledShelves : ByteArray := prog_1_method_60_code
def yX8_filledShelves : MethodName := ⟨RX8, "filledShelves", "()I"⟩
def RX9 : String := "AwakeByHalvesModel"
def TX9 : u_T := fun k => match k with
  | 0 => ("AwakeByHalvesModel", "shelf", "[I", true)
  | 1 => ("AwakeByHalvesModel", "rowSort", "[I", true)
  | 2 => ("AwakeByHalvesModel", "rowSize", "[I", true)
  | 3 => ("AwakeByHalvesModel", "rows", "[[J", true)
  | 4 => ("AwakeByHalvesModel", "moved", "[J", true)
  | 5 => ("AwakeByHalvesModel", "ruleKind", "[I", true)
  | 6 => ("AwakeByHalvesModel", "ruleBy", "[I", true)
  | 7 => ("AwakeByHalvesModel", "tape", "[I", true)
  | 8 => ("AwakeByHalvesModel", "tapeSize", "I", false)
  | 9 => ("AwakeByHalvesModel", "refused", "[I", true)
  | 10 => ("AwakeByHalvesModel", "acts", "I", false)
  | 11 => ("AwakeByHalvesModel", "act", "[[I", true)
  | 12 => ("AwakeByHalvesModel", "marks", "I", false)
  | 13 => ("AwakeByHalvesModel", "counts", "[I", true)
  | 14 => ("AwakeByHalvesModel", "day", "I", false)
  | 15 => ("AwakeByHalvesModel", "hidden", "I", false)
  | 16 => ("AwakeByHalvesModel", "worth", "[[I", true)
  | 17 => ("AwakeByHalvesModel", "gained", "[I", true)
  | 18 => ("AwakeByHalvesModel", "isKnown", "Z", false)
  | 19 => ("AwakeByHalvesModel", "marksBefore", "I", false)
  | 20 => ("AwakeByHalvesModel", "countsBefore", "[I", true)
  | 21 => ("AwakeByHalvesModel", "seed", "I", false)
  | 22 => ("AwakeByHalvesModel", "kept", "LAwakeByHalvesModel;", false)
  | 23 => ("AwakeByHalvesModel", "tried", "LAwakeByHalvesModel;", false)
  | 24 => ("AwakeByHalvesModel", "at", "I", false)
  | 25 => ("AwakeByHalvesModel", "token", "I", false)
  | 26 => ("AwakeByHalvesModel", "from", "I", false)
  | 27 => ("AwakeByHalvesModel", "figures", "I", false)
  | 28 => ("AwakeByHalvesModel", "fault", "I", false)
  | 29 => ("AwakeByHalvesModel", "told", "[I", true)
  | 30 => ("AwakeByHalvesModel", "statements", "I", false)
  | 31 => ("AwakeByHalvesModel", "busy", "I", false)
  | 32 => ("AwakeByHalvesModel", "lastAct", "I", false)
  | 33 => ("AwakeByHalvesModel", "bestGains", "[[I", true)
  | 34 => ("AwakeByHalvesModel", "bestFirst", "[I", true)
  | _ => ("AwakeByHalvesModel", "most", "[[I", true)
def tyX9 : Nat → FieldType := fun k => match k with
  | 0 => .array .int
  | 1 => .array .int
  | 2 => .array .int
  | 3 => .array (.array .long)
  | 4 => .array .long
  | 5 => .array .int
  | 6 => .array .int
  | 7 => .array .int
  | 8 => .int
  | 9 => .array .int
  | 10 => .int
  | 11 => .array (.array .int)
  | 12 => .int
  | 13 => .array .int
  | 14 => .int
  | 15 => .int
  | 16 => .array (.array .int)
  | 17 => .array .int
  | 18 => .boolean
  | 19 => .int
  | 20 => .array .int
  | 21 => .int
  | 22 => .object "AwakeByHalvesModel"
  | 23 => .object "AwakeByHalvesModel"
  | 24 => .int
  | 25 => .int
  | 26 => .int
  | 27 => .int
  | 28 => .int
  | 29 => .array .int
  | 30 => .int
  | 31 => .int
  | 32 => .int
  | 33 => .array (.array .int)
  | 34 => .array .int
  | _ => .array (.array .int)
theorem nmX9 : ∀ a, a < 36 → ∀ b, b < 36 → a ≠ b → (TX9 a).2.1 ≠ (TX9 b).2.1 := by decide +kernel
theorem tyX9_ok : ∀ k, k < 36 → parseFieldDescriptor (TX9 k).2.2.1 = some (tyX9 k) := by decide +kernel
abbrev cX9_init : ByteArray := prog_11_method_1_code
def yX9_init : MethodName := ⟨RX9, "<init>", "()V"⟩
abbrev cX9_refuse : ByteArray := prog_11_method_2_code
def yX9_refuse : MethodName := ⟨RX9, "refuse", "(I)I"⟩
abbrev cX9_in : ByteArray := prog_11_method_3_code
def yX9_in : MethodName := ⟨RX9, "in", "(JJJ)Z"⟩
abbrev cX9_isAct : ByteArray := prog_11_method_4_code
def yX9_isAct : MethodName := ⟨RX9, "isAct", "(J)Z"⟩
abbrev cX9_has : ByteArray := prog_11_method_5_code
def yX9_has : MethodName := ⟨RX9, "has", "(II)Z"⟩
abbrev cX9_bits : ByteArray := prog_11_method_6_code
def yX9_bits : MethodName := ⟨RX9, "bits", "(I)I"⟩
abbrev cX9_row : ByteArray := prog_11_method_7_code
def yX9_row : MethodName := ⟨RX9, "row", "(III)I"⟩
abbrev cX9_fit : ByteArray := prog_11_method_8_code
def yX9_fit : MethodName := ⟨RX9, "fit", "(IJ)J"⟩
abbrev cX9_noRow : ByteArray := prog_11_method_9_code
def yX9_noRow : MethodName := ⟨RX9, "noRow", "(I)I"⟩
abbrev cX9_noRule : ByteArray := prog_11_method_10_code
def yX9_noRule : MethodName := ⟨RX9, "noRule", "(I)I"⟩
abbrev cX9_noRules : ByteArray := prog_11_method_11_code
def yX9_noRules : MethodName := ⟨RX9, "noRules", "(II)I"⟩
abbrev cX9_set : ByteArray := prog_11_method_12_code
def yX9_set : MethodName := ⟨RX9, "set", "(IIJ)I"⟩
abbrev cX9_copy : ByteArray := prog_11_method_13_code
def yX9_copy : MethodName := ⟨RX9, "copy", "(IIIII)I"⟩
abbrev cX9_element : ByteArray := prog_11_method_14_code
def yX9_element : MethodName := ⟨RX9, "element", "(II)J"⟩
abbrev cX9_holds : ByteArray := prog_11_method_15_code
def yX9_holds : MethodName := ⟨RX9, "holds", "(I)I"⟩
abbrev cX9_rule : ByteArray := prog_11_method_16_code
def yX9_rule : MethodName := ⟨RX9, "rule", "(III)I"⟩
abbrev cX9_isUnder : ByteArray := prog_11_method_17_code
def yX9_isUnder : MethodName := ⟨RX9, "isUnder", "(II)Z"⟩
abbrev cX9_says : ByteArray := prog_11_method_18_code
def yX9_says : MethodName := ⟨RX9, "says", "(II)I"⟩
abbrev cX9_act : ByteArray := prog_11_method_19_code
def yX9_act : MethodName := ⟨RX9, "act", "(IIIIII)I"⟩
abbrev cX9_mark : ByteArray := prog_11_method_20_code
def yX9_mark : MethodName := ⟨RX9, "mark", "(IZ)I"⟩
abbrev cX9_count : ByteArray := prog_11_method_21_code
def yX9_count : MethodName := ⟨RX9, "count", "(II)I"⟩
abbrev cX9_likes : ByteArray := prog_11_method_22_code
def yX9_likes : MethodName := ⟨RX9, "likes", "(III)I"⟩
abbrev cX9_lock : ByteArray := prog_11_method_23_code
def yX9_lock : MethodName := ⟨RX9, "lock", "(IIZ)I"⟩
abbrev cX9_hide : ByteArray := prog_11_method_24_code
def yX9_hide : MethodName := ⟨RX9, "hide", "(I)I"⟩
abbrev cX9_feed : ByteArray := prog_11_method_25_code
def yX9_feed : MethodName := ⟨RX9, "feed", "(I)I"⟩
abbrev cX9_wipe : ByteArray := prog_11_method_26_code
def yX9_wipe : MethodName := ⟨RX9, "wipe", "()I"⟩
abbrev cX9_isLetter : ByteArray := prog_11_method_27_code
def yX9_isLetter : MethodName := ⟨RX9, "isLetter", "(I)Z"⟩
abbrev cX9_isDigit : ByteArray := prog_11_method_28_code
def yX9_isDigit : MethodName := ⟨RX9, "isDigit", "(I)Z"⟩
abbrev cX9_look : ByteArray := prog_11_method_29_code
def yX9_look : MethodName := ⟨RX9, "look", "()V"⟩
abbrev cX9_wrong : ByteArray := prog_11_method_30_code
def yX9_wrong : MethodName := ⟨RX9, "wrong", "()Z"⟩
abbrev cX9_isWord : ByteArray := prog_11_method_31_code
def yX9_isWord : MethodName := ⟨RX9, "isWord", "(Ljava/lang/String;)Z"⟩
abbrev cX9_number : ByteArray := prog_11_method_32_code
def yX9_number : MethodName := ⟨RX9, "number", "(III)Z"⟩
abbrev cX9_tells : ByteArray := prog_11_method_33_code
def yX9_tells : MethodName := ⟨RX9, "tells", "(Ljava/lang/String;III)Z"⟩
abbrev cX9_actTold : ByteArray := prog_11_method_34_code
def yX9_actTold : MethodName := ⟨RX9, "actTold", "()Z"⟩
abbrev cX9_worthTold : ByteArray := prog_11_method_35_code
def yX9_worthTold : MethodName := ⟨RX9, "worthTold", "(Ljava/lang/String;ZI)Z"⟩
abbrev cX9_statement : ByteArray := prog_11_method_36_code
def yX9_statement : MethodName := ⟨RX9, "statement", "()Z"⟩
abbrev cX9_readAll : ByteArray := prog_11_method_37_code
def yX9_readAll : MethodName := ⟨RX9, "readAll", "()Z"⟩
abbrev cX9_town : ByteArray := prog_11_method_38_code
def yX9_town : MethodName := ⟨RX9, "town", "()I"⟩
abbrev cX9_actOf : ByteArray := prog_11_method_39_code
def yX9_actOf : MethodName := ⟨RX9, "actOf", "(II)I"⟩
abbrev cX9_worthOf : ByteArray := prog_11_method_40_code
def yX9_worthOf : MethodName := ⟨RX9, "worthOf", "(II)I"⟩
abbrev cX9_stands : ByteArray := prog_11_method_41_code
def yX9_stands : MethodName := ⟨RX9, "stands", "(I)I"⟩
abbrev cX9_canBe : ByteArray := prog_11_method_42_code
def yX9_canBe : MethodName := ⟨RX9, "canBe", "(II)Z"⟩
abbrev cX9_doIt : ByteArray := prog_11_method_43_code
def yX9_doIt : MethodName := ⟨RX9, "doIt", "(I)V"⟩
abbrev cX9_valueOf : ByteArray := prog_11_method_44_code
def yX9_valueOf : MethodName := ⟨RX9, "valueOf", "(I)I"⟩
abbrev cX9_standing : ByteArray := prog_11_method_45_code
def yX9_standing : MethodName := ⟨RX9, "standing", "()J"⟩
abbrev cX9_putBack : ByteArray := prog_11_method_46_code
def yX9_putBack : MethodName := ⟨RX9, "putBack", "(J)V"⟩
abbrev cX9_can : ByteArray := prog_11_method_47_code
def yX9_can : MethodName := ⟨RX9, "can", "(I)I"⟩
abbrev cX9_value : ByteArray := prog_11_method_48_code
def yX9_value : MethodName := ⟨RX9, "value", "(I)I"⟩
abbrev cX9_gainBy : ByteArray := prog_11_method_49_code
def yX9_gainBy : MethodName := ⟨RX9, "gainBy", "(IZ)I"⟩
abbrev cX9_gain : ByteArray := prog_11_method_50_code
def yX9_gain : MethodName := ⟨RX9, "gain", "(I)I"⟩
abbrev cX9_goes : ByteArray := prog_11_method_51_code
def yX9_goes : MethodName := ⟨RX9, "goes", "(I)V"⟩
abbrev cX9_does : ByteArray := prog_11_method_52_code
def yX9_does : MethodName := ⟨RX9, "does", "(I)I"⟩
abbrev cX9_greatest : ByteArray := prog_11_method_53_code
def yX9_greatest : MethodName := ⟨RX9, "greatest", "(Z)I"⟩
abbrev cX9_chosen : ByteArray := prog_11_method_54_code
def yX9_chosen : MethodName := ⟨RX9, "chosen", "(II)I"⟩
abbrev cX9_next : ByteArray := prog_11_method_55_code
def yX9_next : MethodName := ⟨RX9, "next", "(I)I"⟩
abbrev cX9_fresh : ByteArray := prog_11_method_56_code
def yX9_fresh : MethodName := ⟨RX9, "fresh", "()LAwakeByHalvesModel;"⟩
abbrev cX9_runs : ByteArray := prog_11_method_57_code
def yX9_runs : MethodName := ⟨RX9, "runs", "(IIIII)V"⟩
abbrev cX9_run : ByteArray := prog_11_method_58_code
def yX9_run : MethodName := ⟨RX9, "run", "(IIII)I"⟩
abbrev cX9_gainsBy : ByteArray := prog_11_method_59_code
def yX9_gainsBy : MethodName := ⟨RX9, "gainsBy", "(III)I"⟩
abbrev cX9_head : ByteArray := prog_11_method_60_code
def yX9_head : MethodName := ⟨RX9, "head", "(II)I"⟩
abbrev cX9_days : ByteArray := prog_11_method_61_code
def yX9_days : MethodName := ⟨RX9, "days", "(III)I"⟩
abbrev cX9_gained : ByteArray := prog_11_method_62_code
def yX9_gained : MethodName := ⟨RX9, "gained", "(I)I"⟩
abbrev cX9_noTold : ByteArray := prog_11_method_63_code
def yX9_noTold : MethodName := ⟨RX9, "noTold", "(II)I"⟩
abbrev cX9_goThrough : ByteArray := prog_11_method_64_code
def yX9_goThrough : MethodName := ⟨RX9, "goThrough", "(II)I"⟩
abbrev cX9_judge : ByteArray := prog_11_method_65_code
def yX9_judge : MethodName := ⟨RX9, "judge", "(II)I"⟩
abbrev cX9_told : ByteArray := prog_11_method_66_code
def yX9_told : MethodName := ⟨RX9, "told", "(III)I"⟩
abbrev cX9_findBest : ByteArray := prog_11_method_67_code
def yX9_findBest : MethodName := ⟨RX9, "findBest", "(II)V"⟩
abbrev cX9_areDays : ByteArray := prog_11_method_68_code
def yX9_areDays : MethodName := ⟨RX9, "areDays", "(I)Z"⟩
abbrev cX9_best : ByteArray := prog_11_method_69_code
def yX9_best : MethodName := ⟨RX9, "best", "(II)I"⟩
abbrev cX9_mostAgainst : ByteArray := prog_11_method_70_code
def yX9_mostAgainst : MethodName := ⟨RX9, "mostAgainst", "(IIII)I"⟩
abbrev cX9_against : ByteArray := prog_11_method_71_code
def yX9_against : MethodName := ⟨RX9, "against", "(II)I"⟩
abbrev cX9_mostTogether : ByteArray := prog_11_method_72_code
def yX9_mostTogether : MethodName := ⟨RX9, "mostTogether", "(II)I"⟩
abbrev cX9_together : ByteArray := prog_11_method_73_code
def yX9_together : MethodName := ⟨RX9, "together", "(I)I"⟩
abbrev cX9_harm : ByteArray := prog_11_method_74_code
def yX9_harm : MethodName := ⟨RX9, "harm", "(I)I"⟩
abbrev cX9_isDone : ByteArray := prog_11_method_75_code
def yX9_isDone : MethodName := ⟨RX9, "isDone", "(IIIZI)Z"⟩
abbrev cX9_workOf : ByteArray := prog_11_method_76_code
def yX9_workOf : MethodName := ⟨RX9, "workOf", "(IZ)I"⟩
abbrev cX9_work : ByteArray := prog_11_method_77_code
def yX9_work : MethodName := ⟨RX9, "work", "(IZ)I"⟩
abbrev cX9_reach : ByteArray := prog_11_method_78_code
def yX9_reach : MethodName := ⟨RX9, "reach", "(I)I"⟩
abbrev cX9_foundBy : ByteArray := prog_11_method_79_code
def yX9_foundBy : MethodName := ⟨RX9, "foundBy", "(I)I"⟩
abbrev cX9_found : ByteArray := prog_11_method_80_code
def yX9_found : MethodName := ⟨RX9, "found", "()I"⟩
abbrev cX9_say : ByteArray := prog_11_method_81_code
def yX9_say : MethodName := ⟨RX9, "say", "(II)I"⟩
abbrev cX9_lockingOf : ByteArray := prog_11_method_82_code
def yX9_lockingOf : MethodName := ⟨RX9, "lockingOf", "(II)I"⟩
abbrev cX9_isLocked : ByteArray := prog_11_method_83_code
def yX9_isLocked : MethodName := ⟨RX9, "isLocked", "(I)Z"⟩
abbrev cX9_locking : ByteArray := prog_11_method_84_code
def yX9_locking : MethodName := ⟨RX9, "locking", "(II)I"⟩
abbrev cX9_which : ByteArray := prog_11_method_85_code
def yX9_which : MethodName := ⟨RX9, "which", "(I)I"⟩
abbrev cX9_up : ByteArray := prog_11_method_86_code
def yX9_up : MethodName := ⟨RX9, "up", "(I)I"⟩
abbrev cX9_pact : ByteArray := prog_11_method_87_code
def yX9_pact : MethodName := ⟨RX9, "pact", "(III)I"⟩
abbrev cX9_draw : ByteArray := prog_11_method_88_code
def yX9_draw : MethodName := ⟨RX9, "draw", "(I)I"⟩
abbrev cX9_leap : ByteArray := prog_11_method_89_code
def yX9_leap : MethodName := ⟨RX9, "leap", "()I"⟩
abbrev cX9_seed : ByteArray := prog_11_method_90_code
def yX9_seed : MethodName := ⟨RX9, "seed", "(I)I"⟩
abbrev cX9_over : ByteArray := prog_11_method_91_code
def yX9_over : MethodName := ⟨RX9, "over", "([I[I)V"⟩
abbrev cX9_takeFrom : ByteArray := prog_11_method_92_code
def yX9_takeFrom : MethodName := ⟨RX9, "takeFrom", "(LAwakeByHalvesModel;)V"⟩
abbrev cX9_image : ByteArray := prog_11_method_93_code
def yX9_image : MethodName := ⟨RX9, "image", "()I"⟩
abbrev cX9_back : ByteArray := prog_11_method_94_code
def yX9_back : MethodName := ⟨RX9, "back", "()I"⟩
abbrev cX9_status : ByteArray := prog_11_method_95_code
def yX9_status : MethodName := ⟨RX9, "status", "(I)I"⟩
def RJ6 : String := "java/lang/Integer"
abbrev cJ6_bitCount_0f7a4 : ByteArray := prog_12_method_49_code
def yJ6_bitCount_0f7a4 : MethodName := ⟨RJ6, "bitCount", "(I)I"⟩
def RJ0 : String := "java/lang/String"
abbrev cJ0_length_8abf5 : ByteArray := prog_14_method_54_code
def yJ0_length_8abf5 : MethodName := ⟨RJ0, "length", "()I"⟩
abbrev cJ0_charAt_5068e : ByteArray := prog_14_method_56_code
def yJ0_charAt_5068e : MethodName := ⟨RJ0, "charAt", "(I)C"⟩
abbrev cJ0_coder_7d493 : ByteArray := prog_14_method_152_code
def yJ0_coder_7d493 : MethodName := ⟨RJ0, "coder", "()B"⟩
abbrev cJ0_isLatin1_aae02 : ByteArray := prog_14_method_154_code
def yJ0_isLatin1_aae02 : MethodName := ⟨RJ0, "isLatin1", "()Z"⟩
def RJ1 : String := "java/lang/StringLatin1"
abbrev cJ1_charAt_3b067 : ByteArray := prog_15_method_2_code
def yJ1_charAt_3b067 : MethodName := ⟨RJ1, "charAt", "([BI)C"⟩
def RJ7 : String := "java/util/Arrays"
abbrev cJ7_fill_d0a16 : ByteArray := prog_18_method_101_code
def yJ7_fill_d0a16 : MethodName := ⟨RJ7, "fill", "([JJ)V"⟩
abbrev cJ7_fill_53178 : ByteArray := prog_18_method_103_code
def yJ7_fill_53178 : MethodName := ⟨RJ7, "fill", "([II)V"⟩
def RL : String := "AwakeByHalvesLaw"
abbrev cL_law : ByteArray := code
def yL_law : MethodName := ⟨RL, "law", "([I)Z"⟩
abbrev vwCl : List vw_C := [(RX0, TX0, 6), (RX1, TX1, 2), (RX3, TX3, 4), (RX5, TX5, 5), (RX6, TX6, 17), (RX7, TX7, 6), (RX8, TX8, 10), (RX9, TX9, 36)]
/-! THE CLAIM OUT OF ONE WALK OF THE LAW'S BODY. Your part is whole_start (and what it stands on); all else here is the same for every law, but numbers. -/
def R_law : String := "AwakeByHalvesLaw"
def lw_P (b : Addr) (xs : List Int32) (args : Array Value) (s : State) : Prop := args = #[.ref b] ∧ s.IntsAt b xs ∧ xs.length ≤ 3584 ∧ (Jvm.Cond.and given_1 narrow_1).before args s = true
def lw_Q (_ : Array Value) (s : State) (o : Outcome) (t : State) : Prop := o = .returned (some (.int 1)) ∧ Framed s o t [] 600000 7302250
def lw_Z (below : List Frame) (a : Array Value) (s : State) : State → Prop := fun t => ∃ o, t.status = .running ∧ Ended t below o ∧ lw_Q a s o t
/-- the law's own end, with 1 on the stack, nothing written that was there before, its room as the claim has it -/
theorem lw_ret {p : Program} {l : Launch} {e : Env} {s : State} {m : MethodId} {below : List Frame} {meth : Method} {c : Code} {b : Nat} (hx : p.tables.exec = Jvm.exec) (hb : c.code = code) (hr : meth.sig.returnType = ret) (hlocks : meth.locks = false) {pc : Nat} {H : Heap} {ls : Array Slot} (hdg : decode code pc = .ok (.ireturn, 1)) : W p l e room_1 s m #[Value.ref b] below meth c H [] 600000 7302250 (lw_Z below #[Value.ref b] s) (F0 m pc ls [.int 1]) := by
  intro T hT X
  obtain ⟨fs, hret, hrun, hended, hW, hframe⟩ := X.leave (v := some (.int 1)) (hlocks := hlocks) (fun h => by rw [hr] at h; cases h)
  have hmeth' : T.vm.method? m = some meth := X.method'
  refine ⟨T.setFrames fs, ?_, .returned (some (.int 1)), hrun, hended, rfl, ⟨_, rfl⟩, hW, hframe⟩
  jvm_step X.here [X.here.top, hx, hb, hdg, hmeth', hr, ret, narrow_b1]
  (try refine ⟨rfl, ?_⟩); (try refine ⟨rfl, ?_⟩)
  first | (intro acts; rw [hret _ acts rfl rfl rfl]) | rw [hret _ _ rfl rfl rfl]
  exact Steps.refl _
/-- what holds at the law's entry: the machine, the code, the tables' words (any of lw_tbl by 'hts w (by decide +kernel)'), the script of L ints xs at the cell b, what the Statement gives of the start (any of its parts by flat_of_before) -/
def lw_At (p : Program) (s : State) (m : MethodId) (meth : Method) (c : Code) (b L : Nat) (xs : Nat → Int32) : Prop :=
  p.tables.exec = Jvm.exec ∧ c.code = code ∧ meth.sig.returnType = ret ∧ c.maxLocals = 4 ∧ s.vm.findClass R_law = some m.cls ∧ (∀ w ∈ lw_tbl, w.before #[Value.ref b] s = true) ∧ va_X b L xs s s.heap ∧ b < s.heap.size ∧ meth.locks = false ∧ (Jvm.Cond.and given_1 narrow_1).before #[Value.ref b] s = true
end
section
/-! LM, tables of the program: made by wip/gen/gen2.py -/
abbrev lm_M : Type := Nat × MethodName × ByteArray × Nat × Option FieldType × List (Nat × Instr × Nat) × (Nat × Nat × Nat × Nat)
def lm_owns : List String := [RX0, RX1, RX2, RX3, RX4, RX5, RX6, RX7, RX8, RX9, RJ0, RJ1, RJ6, RJ7, RL]
def lm_own (c : Nat) : String := lm_owns.getD c ""
/-- the class table's number of a class of the program -/
def lm_cis : List Nat := [0, 1, 99, 2, 99, 3, 4, 5, 6, 7, 30, 99, 99, 99, 99]
/-- X0_init -/
def ct1 : List (Nat × Instr × Nat) := [(0, (.aload_n 0), 1), (1, (.invokespecial 5), 3), (4, (.aload_n 0), 1), (5, (.sipush 512), 3), (8, (.newarray .int), 2), (10, (.putfield 11), 3), (13, (.aload_n 0), 1), (14, (.sipush 512), 3), (17, (.newarray .int), 2), (19, (.putfield 15), 3), (22, (.aload_n 0), 1), (23, (.sipush 512), 3), (26, (.newarray .int), 2), (28, (.putfield 18), 3), (31, (.aload_n 0), 1), (32, (.sipush 512), 3), (35, (.newarray .int), 2), (37, (.putfield 21), 3), (40, (.aload_n 0), 1), (41, (.iconst 0), 1), (42, (.putfield 24), 3), (45, (.aload_n 0), 1), (46, (.aload_n 1), 1), (47, (.putfield 28), 3), (50, .return_, 1)]
theorem cto1 : ∀ q ∈ ct1, decode cX0_init q.1 = .ok (q.2.1, q.2.2) := by decide +kernel
/-- X0_firstAct -/
def ct2 : List (Nat × Instr × Nat) := [(0, (.aload_n 0), 1), (1, (.invokevirtual 32), 3), (4, (.aload_n 0), 1), (5, (.getfield 15), 3), (8, (.aload_n 0), 1), (9, (.iload_n 1), 1), (10, (.iload_n 2), 1), (11, (.invokevirtual 35), 3), (14, .iaload, 1), (15, .ireturn, 1)]
theorem cto2 : ∀ q ∈ ct2, decode cX0_firstAct q.1 = .ok (q.2.1, q.2.2) := by decide +kernel
/-- X0_gainOf -/
def ct3 : List (Nat × Instr × Nat) := [(0, (.aload_n 0), 1), (1, (.invokevirtual 32), 3), (4, (.aload_n 0), 1), (5, (.aload_n 0), 1), (6, (.iload_n 2), 1), (7, (.iload_n 3), 1), (8, (.invokevirtual 35), 3), (11, (.iload_n 1), 1), (12, (.invokevirtual 39), 3), (15, .ireturn, 1)]
theorem cto3 : ∀ q ∈ ct3, decode cX0_gainOf q.1 = .ok (q.2.1, q.2.2) := by decide +kernel
/-- X0_forgetIfChanged -/
def ct4 : List (Nat × Instr × Nat) := [(0, (.aload_n 0), 1), (1, (.getfield 24), 3), (4, (.aload_n 0), 1), (5, (.getfield 28), 3), (8, (.getfield 42), 3), (11, (.if_icmp .eq 22), 3), (14, (.aload_n 0), 1), (15, (.getfield 11), 3), (18, (.iconst 0), 1), (19, (.invokestatic 47), 3), (22, (.aload_n 0), 1), (23, (.aload_n 0), 1), (24, (.getfield 28), 3), (27, (.getfield 42), 3), (30, (.putfield 24), 3), (33, .return_, 1)]
theorem cto4 : ∀ q ∈ ct4, decode cX0_forgetIfChanged q.1 = .ok (q.2.1, q.2.2) := by decide +kernel
/-- X0_gainAt -/
def ct5 : List (Nat × Instr × Nat) := [(0, (.iload_n 2), 1), (1, (.ifCond .ne 12), 3), (4, (.aload_n 0), 1), (5, (.getfield 18), 3), (8, (.iload_n 1), 1), (9, .iaload, 1), (10, (.goto 9), 3), (13, (.aload_n 0), 1), (14, (.getfield 21), 3), (17, (.iload_n 1), 1), (18, .iaload, 1), (19, .ireturn, 1)]
theorem cto5 : ∀ q ∈ ct5, decode cX0_gainAt q.1 = .ok (q.2.1, q.2.2) := by decide +kernel
/-- X0_placeOf -/
def ct6 : List (Nat × Instr × Nat) := [(0, (.iload_n 2), 1), (1, (.bipush 29), 2), (3, .ishl, 1), (4, (.iload_n 1), 1), (5, .ior, 1), (6, (.istore_n 3), 1), (7, (.iload_n 3), 1), (8, (.ldc 55), 2), (10, .imul, 1), (11, (.bipush 23), 2), (13, .iushr, 1), (14, (.istore 4), 2), (16, (.aload_n 0), 1), (17, (.getfield 11), 3), (20, (.iload 4), 2), (22, .iaload, 1), (23, (.iload_n 3), 1), (24, (.if_icmp .eq 19), 3), (27, (.aload_n 0), 1), (28, (.iload 4), 2), (30, (.iload_n 1), 1), (31, (.iload_n 2), 1), (32, (.invokevirtual 56), 3), (35, (.aload_n 0), 1), (36, (.getfield 11), 3), (39, (.iload 4), 2), (41, (.iload_n 3), 1), (42, .iastore, 1), (43, (.iload 4), 2), (45, .ireturn, 1)]
theorem cto6 : ∀ q ∈ ct6, decode cX0_placeOf q.1 = .ok (q.2.1, q.2.2) := by decide +kernel
/-- X0_workOut -/
def ct7 : List (Nat × Instr × Nat) := [(0, (.iload_n 2), 1), (1, (.invokestatic 60), 3), (4, (.istore 4), 2), (6, (.iconst (-1)), 1), (7, (.istore 5), 2), (9, (.ldc 64), 2), (11, (.istore 6), 2), (13, (.iconst 0), 1), (14, (.istore 7), 2), (16, (.iconst (-1)), 1), (17, (.istore 8), 2), (19, (.iload 8), 2), (21, (.aload_n 0), 1), (22, (.getfield 28), 3), (25, (.getfield 65), 3), (28, (.if_icmp .ge 115), 3), (31, (.aload_n 0), 1), (32, (.getfield 28), 3), (35, (.iload 8), 2), (37, (.iload 4), 2), (39, (.iload_n 2), 1), (40, (.invokevirtual 68), 3), (43, (.ifCond .eq 94), 3), (46, (.aload_n 0), 1), (47, (.getfield 28), 3), (50, (.iload 8), 2), (52, (.iload_n 2), 1), (53, (.invokevirtual 72), 3), (56, (.istore 9), 2), (58, (.aload_n 0), 1), (59, (.getfield 28), 3), (62, (.iload 4), 2), (64, (.iload 9), 2), (66, (.invokevirtual 75), 3), (69, (.istore 10), 2), (71, (.iconst 0), 1), (72, (.istore 11), 2), (74, (.iload_n 3), 1), (75, (.iconst 1), 1), (76, (.if_icmp .le 42), 3), (79, (.aload_n 0), 1), (80, (.iload 9), 2), (82, (.invokestatic 78), 3), (85, (.iload_n 3), 1), (86, (.iconst 1), 1), (87, .isub, 1), (88, (.invokevirtual 35), 3), (91, (.istore 12), 2), (93, (.iload 10), 2), (95, (.aload_n 0), 1), (96, (.iload 12), 2), (98, (.iload 4), 2), (100, (.invokevirtual 39), 3), (103, .iadd, 1), (104, (.istore 10), 2), (106, (.aload_n 0), 1), (107, (.iload 12), 2), (109, (.iconst 1), 1), (110, (.iload 4), 2), (112, .isub, 1), (113, (.invokevirtual 39), 3), (116, (.istore 11), 2), (118, (.iload 10), 2), (120, (.iload 6), 2), (122, (.if_icmp .le 15), 3), (125, (.iload 10), 2), (127, (.istore 6), 2), (129, (.iload 11), 2), (131, (.istore 7), 2), (133, (.iload 8), 2), (135, (.istore 5), 2), (137, (.iinc 8 1), 3), (140, (.goto (-121)), 3), (143, (.aload_n 0), 1), (144, (.getfield 15), 3), (147, (.iload_n 1), 1), (148, (.iload 5), 2), (150, .iastore, 1), (151, (.aload_n 0), 1), (152, (.getfield 18), 3), (155, (.iload_n 1), 1), (156, (.iload 4), 2), (158, (.ifCond .ne 8), 3), (161, (.iload 6), 2), (163, (.goto 5), 3), (166, (.iload 7), 2), (168, .iastore, 1), (169, (.aload_n 0), 1), (170, (.getfield 21), 3), (173, (.iload_n 1), 1), (174, (.iload 4), 2), (176, (.ifCond .ne 8), 3), (179, (.iload 7), 2), (181, (.goto 5), 3), (184, (.iload 6), 2), (186, .iastore, 1), (187, .return_, 1)]
theorem cto7 : ∀ q ∈ ct7, decode cX0_workOut q.1 = .ok (q.2.1, q.2.2) := by decide +kernel
/-- X1_init -/
def ct8 : List (Nat × Instr × Nat) := [(0, (.aload_n 0), 1), (1, (.invokespecial 3), 3), (4, (.aload_n 0), 1), (5, (.aload_n 1), 1), (6, (.putfield 9), 3), (9, (.aload_n 0), 1), (10, (.aload_n 2), 1), (11, (.putfield 15), 3), (14, .return_, 1)]
theorem cto8 : ∀ q ∈ ct8, decode cX1_init q.1 = .ok (q.2.1, q.2.2) := by decide +kernel
/-- X1_isUnder -/
def ct9 : List (Nat × Instr × Nat) := [(0, (.iload_n 0), 1), (1, (.istore_n 2), 1), (2, (.iconst 0), 1), (3, (.istore_n 3), 1), (4, (.iload_n 3), 1), (5, (.getstatic 19), 3), (8, .arraylength, 1), (9, (.if_icmp .ge 24), 3), (12, (.iload_n 2), 1), (13, (.ifCond .lt 20), 3), (16, (.iload_n 2), 1), (17, (.iload_n 1), 1), (18, (.if_icmp .eq 15), 3), (21, (.getstatic 19), 3), (24, (.iload_n 2), 1), (25, .iaload, 1), (26, (.istore_n 2), 1), (27, (.iinc 3 1), 3), (30, (.goto (-26)), 3), (33, (.iload_n 2), 1), (34, (.iload_n 1), 1), (35, (.if_icmp .ne 7), 3), (38, (.iconst 1), 1), (39, (.goto 4), 3), (42, (.iconst 0), 1), (43, .ireturn, 1)]
theorem cto9 : ∀ q ∈ ct9, decode cX1_isUnder q.1 = .ok (q.2.1, q.2.2) := by decide +kernel
/-- X1_choose -/
def ct10 : List (Nat × Instr × Nat) := [(0, (.aload_n 1), 1), (1, (.invokevirtual 23), 3), (4, (.tableswitch 92 1 5 #[36, 43, 50, 67, 82]), 36), (40, (.aload_n 0), 1), (41, (.iload_n 2), 1), (42, (.iconst 0), 1), (43, (.invokevirtual 29), 3), (46, .ireturn, 1), (47, (.aload_n 0), 1), (48, (.iload_n 2), 1), (49, (.iconst 1), 1), (50, (.invokevirtual 29), 3), (53, .ireturn, 1), (54, (.aload_n 0), 1), (55, (.getfield 15), 3), (58, (.iload_n 2), 1), (59, (.aload_n 1), 1), (60, (.getfield 33), 3), (63, (.iconst 4), 1), (64, .irem, 1), (65, (.iconst 1), 1), (66, .iadd, 1), (67, (.invokevirtual 37), 3), (70, .ireturn, 1), (71, (.aload_n 0), 1), (72, (.iload_n 2), 1), (73, (.aload_n 0), 1), (74, (.iload_n 2), 1), (75, (.aload_n 1), 1), (76, (.getfield 33), 3), (79, (.invokevirtual 43), 3), (82, (.invokevirtual 29), 3), (85, .ireturn, 1), (86, (.aload_n 0), 1), (87, (.iload_n 2), 1), (88, (.aload_n 1), 1), (89, (.getfield 33), 3), (92, (.invokevirtual 47), 3), (95, .ireturn, 1), (96, (.aload_n 0), 1), (97, (.iload_n 2), 1), (98, (.invokevirtual 50), 3), (101, .ireturn, 1)]
theorem cto10 : ∀ q ∈ ct10, decode cX1_choose q.1 = .ok (q.2.1, q.2.2) := by decide +kernel
/-- X1_mostToday -/
def ct11 : List (Nat × Instr × Nat) := [(0, (.iload_n 1), 1), (1, (.invokestatic 54), 3), (4, (.istore_n 3), 1), (5, (.iconst (-1)), 1), (6, (.istore 4), 2), (8, (.ldc 59), 2), (10, (.istore 5), 2), (12, (.iconst (-1)), 1), (13, (.istore 6), 2), (15, (.iload 6), 2), (17, (.aload_n 0), 1), (18, (.getfield 9), 3), (21, (.getfield 60), 3), (24, (.if_icmp .ge 83), 3), (27, (.aload_n 0), 1), (28, (.getfield 9), 3), (31, (.iload 6), 2), (33, (.iload_n 3), 1), (34, (.iload_n 1), 1), (35, (.invokevirtual 65), 3), (38, (.ifCond .eq 63), 3), (41, (.aload_n 0), 1), (42, (.getfield 9), 3), (45, (.iload 6), 2), (47, (.iload_n 1), 1), (48, (.invokevirtual 69), 3), (51, (.istore 7), 2), (53, (.aload_n 0), 1), (54, (.getfield 9), 3), (57, (.iload_n 3), 1), (58, (.iload 7), 2), (60, (.invokevirtual 72), 3), (63, (.iload_n 2), 1), (64, (.ifCond .eq 18), 3), (67, (.aload_n 0), 1), (68, (.getfield 9), 3), (71, (.iconst 1), 1), (72, (.iload_n 3), 1), (73, .isub, 1), (74, (.iload 7), 2), (76, (.invokevirtual 72), 3), (79, (.goto 4), 3), (82, (.iconst 0), 1), (83, .iadd, 1), (84, (.istore 8), 2), (86, (.iload 8), 2), (88, (.iload 5), 2), (90, (.if_icmp .le 11), 3), (93, (.iload 8), 2), (95, (.istore 5), 2), (97, (.iload 6), 2), (99, (.istore 4), 2), (101, (.iinc 6 1), 3), (104, (.goto (-89)), 3), (107, (.iload 4), 2), (109, .ireturn, 1)]
theorem cto11 : ∀ q ∈ ct11, decode cX1_mostToday q.1 = .ok (q.2.1, q.2.2) := by decide +kernel
/-- X1_isContent -/
def ct12 : List (Nat × Instr × Nat) := [(0, (.aload_n 0), 1), (1, (.getfield 9), 3), (4, (.iload_n 1), 1), (5, (.invokestatic 54), 3), (8, (.iload_n 1), 1), (9, (.invokevirtual 72), 3), (12, (.iload_n 2), 1), (13, (.bipush 50), 2), (15, .isub, 1), (16, (.if_icmp .lt 7), 3), (19, (.iconst 1), 1), (20, (.goto 4), 3), (23, (.iconst 0), 1), (24, .ireturn, 1)]
theorem cto12 : ∀ q ∈ ct12, decode cX1_isContent q.1 = .ok (q.2.1, q.2.2) := by decide +kernel
/-- X1_ownUnlessIdle -/
def ct13 : List (Nat × Instr × Nat) := [(0, (.iload_n 1), 1), (1, (.invokestatic 54), 3), (4, (.istore_n 3), 1), (5, (.aload_n 0), 1), (6, (.iload_n 1), 1), (7, (.iconst 0), 1), (8, (.invokevirtual 29), 3), (11, (.istore 4), 2), (13, (.aload_n 0), 1), (14, (.getfield 9), 3), (17, (.iload_n 3), 1), (18, (.aload_n 0), 1), (19, (.getfield 9), 3), (22, (.iload 4), 2), (24, (.iload_n 1), 1), (25, (.invokevirtual 69), 3), (28, (.invokevirtual 72), 3), (31, (.aload_n 0), 1), (32, (.getfield 9), 3), (35, (.iload_n 3), 1), (36, (.iload_n 1), 1), (37, (.invokevirtual 72), 3), (40, .isub, 1), (41, (.istore 5), 2), (43, (.iload 5), 2), (45, (.iload_n 2), 1), (46, (.if_icmp .gt 7), 3), (49, (.iconst (-1)), 1), (50, (.goto 5), 3), (53, (.iload 4), 2), (55, .ireturn, 1)]
theorem cto13 : ∀ q ∈ ct13, decode cX1_ownUnlessIdle q.1 = .ok (q.2.1, q.2.2) := by decide +kernel
/-- X1_firstAllowed -/
def ct14 : List (Nat × Instr × Nat) := [(0, (.iconst 0), 1), (1, (.istore_n 2), 1), (2, (.iload_n 2), 1), (3, (.aload_n 0), 1), (4, (.getfield 9), 3), (7, (.getfield 60), 3), (10, (.if_icmp .ge 27), 3), (13, (.aload_n 0), 1), (14, (.getfield 9), 3), (17, (.iload_n 2), 1), (18, (.iload_n 1), 1), (19, (.invokestatic 54), 3), (22, (.iload_n 1), 1), (23, (.invokevirtual 65), 3), (26, (.ifCond .eq 5), 3), (29, (.iload_n 2), 1), (30, .ireturn, 1), (31, (.iinc 2 1), 3), (34, (.goto (-32)), 3), (37, (.iconst (-1)), 1), (38, .ireturn, 1)]
theorem cto14 : ∀ q ∈ ct14, decode cX1_firstAllowed q.1 = .ok (q.2.1, q.2.2) := by decide +kernel
/-- X2_mostAgainst -/
def ct15 : List (Nat × Instr × Nat) := [(0, (.iload_n 3), 1), (1, (.invokestatic 9), 3), (4, (.istore 5), 2), (6, (.ldc 15), 2), (8, (.istore 6), 2), (10, (.iconst (-1)), 1), (11, (.istore 7), 2), (13, (.iload 7), 2), (15, (.aload_n 0), 1), (16, (.getfield 16), 3), (19, (.if_icmp .ge 97), 3), (22, (.aload_n 0), 1), (23, (.iload 7), 2), (25, (.iload 5), 2), (27, (.iload_n 3), 1), (28, (.invokevirtual 22), 3), (31, (.ifCond .eq 79), 3), (34, (.aload_n 0), 1), (35, (.iload 7), 2), (37, (.iload_n 3), 1), (38, (.invokevirtual 26), 3), (41, (.istore 8), 2), (43, (.aload_n 0), 1), (44, (.iload 5), 2), (46, (.iload 8), 2), (48, (.invokevirtual 30), 3), (51, (.istore 9), 2), (53, (.iload 4), 2), (55, (.iconst 2), 1), (56, (.if_icmp .le 45), 3), (59, (.iload 8), 2), (61, (.invokestatic 33), 3), (64, (.istore 10), 2), (66, (.aload_n 0), 1), (67, (.aload_n 1), 1), (68, (.aload_n 2), 1), (69, (.iload 10), 2), (71, (.invokevirtual 36), 3), (74, (.iload 10), 2), (76, (.invokevirtual 26), 3), (79, (.invokestatic 33), 3), (82, (.istore 11), 2), (84, (.iload 9), 2), (86, (.aload_n 0), 1), (87, (.aload_n 1), 1), (88, (.aload_n 2), 1), (89, (.iload 11), 2), (91, (.iload 4), 2), (93, (.iconst 2), 1), (94, .isub, 1), (95, (.invokestatic 42), 3), (98, .iadd, 1), (99, (.istore 9), 2), (101, (.iload 6), 2), (103, (.iload 9), 2), (105, (.invokestatic 48), 3), (108, (.istore 6), 2), (110, (.iinc 7 1), 3), (113, (.goto (-100)), 3), (116, (.iload 6), 2), (118, .ireturn, 1)]
theorem cto15 : ∀ q ∈ ct15, decode cX2_mostAgainst q.1 = .ok (q.2.1, q.2.2) := by decide +kernel
/-- X2_mostOfBoth -/
def ct16 : List (Nat × Instr × Nat) := [(0, (.iload_n 1), 1), (1, (.invokestatic 9), 3), (4, (.istore_n 3), 1), (5, (.ldc 15), 2), (7, (.istore 4), 2), (9, (.iconst (-1)), 1), (10, (.istore 5), 2), (12, (.iload 5), 2), (14, (.aload_n 0), 1), (15, (.getfield 16), 3), (18, (.if_icmp .ge 69), 3), (21, (.aload_n 0), 1), (22, (.iload 5), 2), (24, (.iload_n 3), 1), (25, (.iload_n 1), 1), (26, (.invokevirtual 22), 3), (29, (.ifCond .eq 52), 3), (32, (.aload_n 0), 1), (33, (.iload 5), 2), (35, (.iload_n 1), 1), (36, (.invokevirtual 26), 3), (39, (.istore 6), 2), (41, (.iload_n 2), 1), (42, (.iconst 1), 1), (43, (.if_icmp .le 18), 3), (46, (.aload_n 0), 1), (47, (.iload 6), 2), (49, (.invokestatic 33), 3), (52, (.iload_n 2), 1), (53, (.iconst 1), 1), (54, .isub, 1), (55, (.invokestatic 53), 3), (58, (.goto 4), 3), (61, (.iconst 0), 1), (62, (.istore 7), 2), (64, (.iload 4), 2), (66, (.aload_n 0), 1), (67, (.iload_n 3), 1), (68, (.iload 6), 2), (70, (.invokevirtual 30), 3), (73, (.iload 7), 2), (75, .iadd, 1), (76, (.invokestatic 48), 3), (79, (.istore 4), 2), (81, (.iinc 5 1), 3), (84, (.goto (-72)), 3), (87, (.iload 4), 2), (89, .ireturn, 1)]
theorem cto16 : ∀ q ∈ ct16, decode cX2_mostOfBoth q.1 = .ok (q.2.1, q.2.2) := by decide +kernel
/-- X2_canStand -/
def ct17 : List (Nat × Instr × Nat) := [(0, (.iload 4), 2), (2, (.ifCond .gt 16), 3), (5, (.iload_n 1), 1), (6, (.iload_n 2), 1), (7, .iand, 1), (8, (.iload_n 2), 1), (9, (.if_icmp .ne 7), 3), (12, (.iconst 1), 1), (13, (.goto 4), 3), (16, (.iconst 0), 1), (17, .ireturn, 1), (18, (.iload_n 1), 1), (19, (.invokestatic 9), 3), (22, (.istore 5), 2), (24, (.iload 5), 2), (26, (.iload_n 3), 1), (27, (.if_icmp .ne 7), 3), (30, (.iconst 0), 1), (31, (.goto 7), 3), (34, (.aload_n 0), 1), (35, (.getfield 16), 3), (38, (.istore 6), 2), (40, (.iconst (-1)), 1), (41, (.istore 7), 2), (43, (.iload 7), 2), (45, (.iload 6), 2), (47, (.if_icmp .ge 46), 3), (50, (.aload_n 0), 1), (51, (.iload 7), 2), (53, (.iload 5), 2), (55, (.iload_n 1), 1), (56, (.invokevirtual 22), 3), (59, (.ifCond .eq 28), 3), (62, (.aload_n 0), 1), (63, (.aload_n 0), 1), (64, (.iload 7), 2), (66, (.iload_n 1), 1), (67, (.invokevirtual 26), 3), (70, (.invokestatic 33), 3), (73, (.iload_n 2), 1), (74, (.iload_n 3), 1), (75, (.iload 4), 2), (77, (.iconst 1), 1), (78, .isub, 1), (79, (.invokestatic 57), 3), (82, (.ifCond .eq 5), 3), (85, (.iconst 1), 1), (86, .ireturn, 1), (87, (.iinc 7 1), 3), (90, (.goto (-47)), 3), (93, (.iconst 0), 1), (94, .ireturn, 1)]
theorem cto17 : ∀ q ∈ ct17, decode cX2_canStand q.1 = .ok (q.2.1, q.2.2) := by decide +kernel
/-- X2_marksWithin -/
def ct18 : List (Nat × Instr × Nat) := [(0, (.iload_n 2), 1), (1, (.ifCond .gt 8), 3), (4, (.iload_n 1), 1), (5, (.invokestatic 61), 3), (8, .ireturn, 1), (9, (.iload_n 1), 1), (10, (.invokestatic 9), 3), (13, (.istore_n 3), 1), (14, (.iconst 0), 1), (15, (.istore 4), 2), (17, (.iconst (-1)), 1), (18, (.istore 5), 2), (20, (.iload 5), 2), (22, (.aload_n 0), 1), (23, (.getfield 16), 3), (26, (.if_icmp .ge 42), 3), (29, (.aload_n 0), 1), (30, (.iload 5), 2), (32, (.iload_n 3), 1), (33, (.iload_n 1), 1), (34, (.invokevirtual 22), 3), (37, (.ifCond .eq 25), 3), (40, (.iload 4), 2), (42, (.aload_n 0), 1), (43, (.aload_n 0), 1), (44, (.iload 5), 2), (46, (.iload_n 1), 1), (47, (.invokevirtual 26), 3), (50, (.invokestatic 33), 3), (53, (.iload_n 2), 1), (54, (.iconst 1), 1), (55, .isub, 1), (56, (.invokestatic 64), 3), (59, .ior, 1), (60, (.istore 4), 2), (62, (.iinc 5 1), 3), (65, (.goto (-45)), 3), (68, (.iload 4), 2), (70, .ireturn, 1)]
theorem cto18 : ∀ q ∈ ct18, decode cX2_marksWithin q.1 = .ok (q.2.1, q.2.2) := by decide +kernel
/-- X3_init -/
def ct19 : List (Nat × Instr × Nat) := [(0, (.aload_n 0), 1), (1, (.invokespecial 3), 3), (4, (.aload_n 0), 1), (5, (.bipush 40), 2), (7, (.newarray .long), 2), (9, (.putfield 9), 3), (12, (.aload_n 0), 1), (13, (.iconst (-1)), 1), (14, (.putfield 15), 3), (17, (.aload_n 0), 1), (18, (.iconst 0), 1), (19, (.putfield 19), 3), (22, (.aload_n 0), 1), (23, (.iconst 0), 1), (24, (.putfield 22), 3), (27, .return_, 1)]
theorem cto19 : ∀ q ∈ ct19, decode cX3_init q.1 = .ok (q.2.1, q.2.2) := by decide +kernel
/-- X3_isRow -/
def ct20 : List (Nat × Instr × Nat) := [(0, (.aload_n 0), 1), (1, (.getfield 15), 3), (4, (.ifCond .lt 15), 3), (7, (.aload_n 0), 1), (8, (.getfield 15), 3), (11, (.iconst 4), 1), (12, (.if_icmp .gt 7), 3), (15, (.iconst 1), 1), (16, (.goto 4), 3), (19, (.iconst 0), 1), (20, .ireturn, 1)]
theorem cto20 : ∀ q ∈ ct20, decode cX3_isRow q.1 = .ok (q.2.1, q.2.2) := by decide +kernel
/-- X3_isRule -/
def ct21 : List (Nat × Instr × Nat) := [(0, (.aload_n 0), 1), (1, (.getfield 15), 3), (4, (.bipush 10), 2), (6, (.if_icmp .le 7), 3), (9, (.iconst 1), 1), (10, (.goto 4), 3), (13, (.iconst 0), 1), (14, .ireturn, 1)]
theorem cto21 : ∀ q ∈ ct21, decode cX3_isRule q.1 = .ok (q.2.1, q.2.2) := by decide +kernel
/-- X3_ruleKind -/
def ct22 : List (Nat × Instr × Nat) := [(0, (.aload_n 0), 1), (1, (.getfield 15), 3), (4, (.bipush 10), 2), (6, .isub, 1), (7, .ireturn, 1)]
theorem cto22 : ∀ q ∈ ct22, decode cX3_ruleKind q.1 = .ok (q.2.1, q.2.2) := by decide +kernel
/-- X3_takeRow -/
def ct23 : List (Nat × Instr × Nat) := [(0, (.aload_n 0), 1), (1, (.iload_n 1), 1), (2, (.putfield 15), 3), (5, (.aload_n 0), 1), (6, (.iload_n 2), 1), (7, (.putfield 19), 3), (10, (.aload_n 0), 1), (11, (.getfield 9), 3), (14, (.lconst 0), 1), (15, (.invokestatic 25), 3), (18, .return_, 1)]
theorem cto23 : ∀ q ∈ ct23, decode cX3_takeRow q.1 = .ok (q.2.1, q.2.2) := by decide +kernel
/-- X3_takeRule -/
def ct24 : List (Nat × Instr × Nat) := [(0, (.aload_n 0), 1), (1, (.bipush 10), 2), (3, (.iload_n 1), 1), (4, .iadd, 1), (5, (.putfield 15), 3), (8, (.aload_n 0), 1), (9, (.iload_n 2), 1), (10, (.putfield 22), 3), (13, .return_, 1)]
theorem cto24 : ∀ q ∈ ct24, decode cX3_takeRule q.1 = .ok (q.2.1, q.2.2) := by decide +kernel
/-- X3_hasCell -/
def ct25 : List (Nat × Instr × Nat) := [(0, (.iload_n 1), 1), (1, (.ifCond .lt 15), 3), (4, (.iload_n 1), 1), (5, (.aload_n 0), 1), (6, (.getfield 19), 3), (9, (.if_icmp .ge 7), 3), (12, (.iconst 1), 1), (13, (.goto 4), 3), (16, (.iconst 0), 1), (17, .ireturn, 1)]
theorem cto25 : ∀ q ∈ ct25, decode cX3_hasCell q.1 = .ok (q.2.1, q.2.2) := by decide +kernel
/-- X3_hasCells -/
def ct26 : List (Nat × Instr × Nat) := [(0, (.iload_n 1), 1), (1, (.ifCond .lt 21), 3), (4, (.iload_n 2), 1), (5, (.ifCond .lt 17), 3), (8, (.iload_n 2), 1), (9, (.aload_n 0), 1), (10, (.getfield 19), 3), (13, (.iload_n 1), 1), (14, .isub, 1), (15, (.if_icmp .gt 7), 3), (18, (.iconst 1), 1), (19, (.goto 4), 3), (22, (.iconst 0), 1), (23, .ireturn, 1)]
theorem cto26 : ∀ q ∈ ct26, decode cX3_hasCells q.1 = .ok (q.2.1, q.2.2) := by decide +kernel
/-- X3_put -/
def ct27 : List (Nat × Instr × Nat) := [(0, (.aload_n 0), 1), (1, (.getfield 15), 3), (4, (.tableswitch 94 0 4 #[36, 49, 62, 94, 74]), 36), (40, (.aload_n 0), 1), (41, (.getfield 9), 3), (44, (.iload_n 1), 1), (45, (.lload_n 2), 1), (46, .l2i, 1), (47, .i2b, 1), (48, .i2l, 1), (49, .lastore, 1), (50, (.goto 55), 3), (53, (.aload_n 0), 1), (54, (.getfield 9), 3), (57, (.iload_n 1), 1), (58, (.lload_n 2), 1), (59, .l2i, 1), (60, .i2s, 1), (61, .i2l, 1), (62, .lastore, 1), (63, (.goto 42), 3), (66, (.aload_n 0), 1), (67, (.getfield 9), 3), (70, (.iload_n 1), 1), (71, (.lload_n 2), 1), (72, .l2i, 1), (73, .i2l, 1), (74, .lastore, 1), (75, (.goto 30), 3), (78, (.aload_n 0), 1), (79, (.getfield 9), 3), (82, (.iload_n 1), 1), (83, (.lload_n 2), 1), (84, (.lconst 0), 1), (85, .lcmp, 1), (86, (.ifCond .eq 7), 3), (89, (.lconst 1), 1), (90, (.goto 4), 3), (93, (.lconst 0), 1), (94, .lastore, 1), (95, (.goto 10), 3), (98, (.aload_n 0), 1), (99, (.getfield 9), 3), (102, (.iload_n 1), 1), (103, (.lload_n 2), 1), (104, .lastore, 1), (105, .return_, 1)]
theorem cto27 : ∀ q ∈ ct27, decode cX3_put q.1 = .ok (q.2.1, q.2.2) := by decide +kernel
/-- X4_marksIn -/
def ct28 : List (Nat × Instr × Nat) := [(0, (.iload_n 0), 1), (1, (.sipush 255), 3), (4, .iand, 1), (5, .ireturn, 1)]
theorem cto28 : ∀ q ∈ ct28, decode cX4_marksIn q.1 = .ok (q.2.1, q.2.2) := by decide +kernel
/-- X4_isStanding -/
def ct29 : List (Nat × Instr × Nat) := [(0, (.iload_n 0), 1), (1, (.iload_n 1), 1), (2, .ishr, 1), (3, (.iconst 1), 1), (4, .iand, 1), (5, (.ifCond .eq 7), 3), (8, (.iconst 1), 1), (9, (.goto 4), 3), (12, (.iconst 0), 1), (13, .ireturn, 1)]
theorem cto29 : ∀ q ∈ ct29, decode cX4_isStanding q.1 = .ok (q.2.1, q.2.2) := by decide +kernel
/-- X4_turned -/
def ct30 : List (Nat × Instr × Nat) := [(0, (.iload_n 0), 1), (1, (.iconst 1), 1), (2, (.iload_n 1), 1), (3, .ishl, 1), (4, .ixor, 1), (5, .ireturn, 1)]
theorem cto30 : ∀ q ∈ ct30, decode cX4_turned q.1 = .ok (q.2.1, q.2.2) := by decide +kernel
/-- X4_countIn -/
def ct31 : List (Nat × Instr × Nat) := [(0, (.iload_n 0), 1), (1, (.bipush 8), 2), (3, (.iload_n 1), 1), (4, (.iconst 5), 1), (5, .imul, 1), (6, .iadd, 1), (7, .ishr, 1), (8, (.bipush 31), 2), (10, .iand, 1), (11, .ireturn, 1)]
theorem cto31 : ∀ q ∈ ct31, decode cX4_countIn q.1 = .ok (q.2.1, q.2.2) := by decide +kernel
/-- X4_withCount -/
def ct32 : List (Nat × Instr × Nat) := [(0, (.bipush 8), 2), (2, (.iload_n 1), 1), (3, (.iconst 5), 1), (4, .imul, 1), (5, .iadd, 1), (6, (.istore_n 3), 1), (7, (.iload_n 0), 1), (8, (.bipush 31), 2), (10, (.iload_n 3), 1), (11, .ishl, 1), (12, (.iconst (-1)), 1), (13, .ixor, 1), (14, .iand, 1), (15, (.iload_n 2), 1), (16, (.iload_n 3), 1), (17, .ishl, 1), (18, .ior, 1), (19, .ireturn, 1)]
theorem cto32 : ∀ q ∈ ct32, decode cX4_withCount q.1 = .ok (q.2.1, q.2.2) := by decide +kernel
/-- X4_allCountsIn -/
def ct33 : List (Nat × Instr × Nat) := [(0, (.iconst 0), 1), (1, (.istore_n 1), 1), (2, (.iconst 0), 1), (3, (.istore_n 2), 1), (4, (.iload_n 2), 1), (5, (.iconst 4), 1), (6, (.if_icmp .ge 17), 3), (9, (.iload_n 1), 1), (10, (.iload_n 0), 1), (11, (.iload_n 2), 1), (12, (.invokestatic 11), 3), (15, .iadd, 1), (16, (.istore_n 1), 1), (17, (.iinc 2 1), 3), (20, (.goto (-16)), 3), (23, (.iload_n 1), 1), (24, .ireturn, 1)]
theorem cto33 : ∀ q ∈ ct33, decode cX4_allCountsIn q.1 = .ok (q.2.1, q.2.2) := by decide +kernel
/-- X4_awakeIn -/
def ct34 : List (Nat × Instr × Nat) := [(0, (.iload_n 0), 1), (1, (.bipush 28), 2), (3, .ishr, 1), (4, (.iconst 1), 1), (5, .iand, 1), (6, .ireturn, 1)]
theorem cto34 : ∀ q ∈ ct34, decode cX4_awakeIn q.1 = .ok (q.2.1, q.2.2) := by decide +kernel
/-- X4_nextDay -/
def ct35 : List (Nat × Instr × Nat) := [(0, (.iload_n 0), 1), (1, (.ldc 15), 2), (3, .ixor, 1), (4, .ireturn, 1)]
theorem cto35 : ∀ q ∈ ct35, decode cX4_nextDay q.1 = .ok (q.2.1, q.2.2) := by decide +kernel
end
section
/-- X5_init -/
def ct36 : List (Nat × Instr × Nat) := [(0, (.aload_n 0), 1), (1, (.invokespecial 3), 3), (4, (.aload_n 0), 1), (5, (.sipush 250), 3), (8, (.newarray .int), 2), (10, (.putfield 9), 3), (13, (.aload_n 0), 1), (14, (.iconst 0), 1), (15, (.putfield 15), 3), (18, (.aload_n 0), 1), (19, (.iconst 0), 1), (20, (.putfield 19), 3), (23, (.aload_n 0), 1), (24, (.iconst 0), 1), (25, (.putfield 22), 3), (28, (.aload_n 0), 1), (29, (.iconst 0), 1), (30, (.putfield 25), 3), (33, .return_, 1)]
theorem cto36 : ∀ q ∈ ct36, decode cX5_init q.1 = .ok (q.2.1, q.2.2) := by decide +kernel
/-- X5_add -/
def ct37 : List (Nat × Instr × Nat) := [(0, (.aload_n 0), 1), (1, (.getfield 9), 3), (4, (.aload_n 0), 1), (5, (.getfield 15), 3), (8, (.iload_n 1), 1), (9, .iastore, 1), (10, (.aload_n 0), 1), (11, .dup, 1), (12, (.getfield 15), 3), (15, (.iconst 1), 1), (16, .iadd, 1), (17, (.putfield 15), 3), (20, .return_, 1)]
theorem cto37 : ∀ q ∈ ct37, decode cX5_add q.1 = .ok (q.2.1, q.2.2) := by decide +kernel
/-- X5_readInto -/
def ct38 : List (Nat × Instr × Nat) := [(0, (.aload_n 0), 1), (1, (.iconst 0), 1), (2, (.putfield 22), 3), (5, (.aload_n 0), 1), (6, (.invokevirtual 28), 3), (9, (.iconst 1), 1), (10, (.istore_n 2), 1), (11, (.iload_n 2), 1), (12, (.sipush 250), 3), (15, (.if_icmp .gt 42), 3), (18, (.aload_n 0), 1), (19, (.aload_n 1), 1), (20, (.invokevirtual 31), 3), (23, (.ifCond .ne 5), 3), (26, (.iconst (-1)), 1), (27, .ireturn, 1), (28, (.aload_n 0), 1), (29, (.getfield 25), 3), (32, (.ifCond .ne 5), 3), (35, (.iload_n 2), 1), (36, .ireturn, 1), (37, (.aload_n 0), 1), (38, (.getfield 25), 3), (41, (.iconst 3), 1), (42, (.if_icmp .eq 5), 3), (45, (.iconst (-1)), 1), (46, .ireturn, 1), (47, (.aload_n 0), 1), (48, (.invokevirtual 28), 3), (51, (.iinc 2 1), 3), (54, (.goto (-43)), 3), (57, (.iconst (-1)), 1), (58, .ireturn, 1)]
theorem cto38 : ∀ q ∈ ct38, decode cX5_readInto q.1 = .ok (q.2.1, q.2.2) := by decide +kernel
/-- X5_advance -/
def ct39 : List (Nat × Instr × Nat) := [(0, (.aload_n 0), 1), (1, (.aload_n 0), 1), (2, (.getfield 22), 3), (5, (.putfield 19), 3), (8, (.aload_n 0), 1), (9, (.getfield 19), 3), (12, (.aload_n 0), 1), (13, (.getfield 15), 3), (16, (.if_icmp .ge 30), 3), (19, (.aload_n 0), 1), (20, (.getfield 9), 3), (23, (.aload_n 0), 1), (24, (.getfield 19), 3), (27, .iaload, 1), (28, (.bipush 32), 2), (30, (.if_icmp .ne 16), 3), (33, (.aload_n 0), 1), (34, .dup, 1), (35, (.getfield 19), 3), (38, (.iconst 1), 1), (39, .iadd, 1), (40, (.putfield 19), 3), (43, (.goto (-35)), 3), (46, (.aload_n 0), 1), (47, (.aload_n 0), 1), (48, (.getfield 19), 3), (51, (.aload_n 0), 1), (52, (.getfield 15), 3), (55, (.if_icmp .ge 18), 3), (58, (.aload_n 0), 1), (59, (.getfield 9), 3), (62, (.aload_n 0), 1), (63, (.getfield 19), 3), (66, .iaload, 1), (67, (.invokestatic 35), 3), (70, (.goto 4), 3), (73, (.iconst 0), 1), (74, (.putfield 25), 3), (77, (.aload_n 0), 1), (78, (.aload_n 0), 1), (79, (.getfield 19), 3), (82, (.aload_n 0), 1), (83, (.getfield 15), 3), (86, (.if_icmp .ge 12), 3), (89, (.aload_n 0), 1), (90, (.getfield 19), 3), (93, (.iconst 1), 1), (94, .iadd, 1), (95, (.goto 7), 3), (98, (.aload_n 0), 1), (99, (.getfield 15), 3), (102, (.putfield 22), 3), (105, (.aload_n 0), 1), (106, (.getfield 25), 3), (109, (.iconst 1), 1), (110, (.if_icmp .eq 11), 3), (113, (.aload_n 0), 1), (114, (.getfield 25), 3), (117, (.iconst 2), 1), (118, (.if_icmp .ne 7), 3), (121, (.iconst 1), 1), (122, (.goto 4), 3), (125, (.iconst 0), 1), (126, (.istore_n 1), 1), (127, (.iload_n 1), 1), (128, (.ifCond .eq 46), 3), (131, (.aload_n 0), 1), (132, (.getfield 22), 3), (135, (.aload_n 0), 1), (136, (.getfield 15), 3), (139, (.if_icmp .ge 35), 3), (142, (.aload_n 0), 1), (143, (.getfield 9), 3), (146, (.aload_n 0), 1), (147, (.getfield 22), 3), (150, .iaload, 1), (151, (.invokestatic 35), 3), (154, (.aload_n 0), 1), (155, (.getfield 25), 3), (158, (.if_icmp .ne 16), 3), (161, (.aload_n 0), 1), (162, .dup, 1), (163, (.getfield 22), 3), (166, (.iconst 1), 1), (167, .iadd, 1), (168, (.putfield 22), 3), (171, (.goto (-44)), 3), (174, .return_, 1)]
theorem cto39 : ∀ q ∈ ct39, decode cX5_advance q.1 = .ok (q.2.1, q.2.2) := by decide +kernel
/-- X5_sortOf -/
def ct40 : List (Nat × Instr × Nat) := [(0, (.iload_n 0), 1), (1, (.bipush 97), 2), (3, (.if_icmp .lt 11), 3), (6, (.iload_n 0), 1), (7, (.bipush 122), 2), (9, (.if_icmp .gt 5), 3), (12, (.iconst 1), 1), (13, .ireturn, 1), (14, (.iload_n 0), 1), (15, (.bipush 48), 2), (17, (.if_icmp .lt 11), 3), (20, (.iload_n 0), 1), (21, (.bipush 57), 2), (23, (.if_icmp .gt 5), 3), (26, (.iconst 2), 1), (27, .ireturn, 1), (28, (.iload_n 0), 1), (29, (.bipush 59), 2), (31, (.if_icmp .ne 7), 3), (34, (.iconst 3), 1), (35, (.goto 4), 3), (38, (.iconst 4), 1), (39, .ireturn, 1)]
theorem cto40 : ∀ q ∈ ct40, decode cX5_sortOf q.1 = .ok (q.2.1, q.2.2) := by decide +kernel
/-- X5_isWord -/
def ct41 : List (Nat × Instr × Nat) := [(0, (.aload_n 0), 1), (1, (.getfield 25), 3), (4, (.iconst 1), 1), (5, (.if_icmp .ne 19), 3), (8, (.aload_n 0), 1), (9, (.getfield 22), 3), (12, (.aload_n 0), 1), (13, (.getfield 19), 3), (16, .isub, 1), (17, (.aload_n 1), 1), (18, (.invokevirtual 39), 3), (21, (.if_icmp .eq 5), 3), (24, (.iconst 0), 1), (25, .ireturn, 1), (26, (.iconst 0), 1), (27, (.istore_n 2), 1), (28, (.iload_n 2), 1), (29, (.aload_n 1), 1), (30, (.invokevirtual 39), 3), (33, (.if_icmp .ge 30), 3), (36, (.aload_n 0), 1), (37, (.getfield 9), 3), (40, (.aload_n 0), 1), (41, (.getfield 19), 3), (44, (.iload_n 2), 1), (45, .iadd, 1), (46, .iaload, 1), (47, (.aload_n 1), 1), (48, (.iload_n 2), 1), (49, (.invokevirtual 45), 3), (52, (.if_icmp .eq 5), 3), (55, (.iconst 0), 1), (56, .ireturn, 1), (57, (.iinc 2 1), 3), (60, (.goto (-32)), 3), (63, (.iconst 1), 1), (64, .ireturn, 1)]
theorem cto41 : ∀ q ∈ ct41, decode cX5_isWord q.1 = .ok (q.2.1, q.2.2) := by decide +kernel
/-- X5_takeNumber -/
def ct42 : List (Nat × Instr × Nat) := [(0, (.aload_n 0), 1), (1, (.getfield 25), 3), (4, (.iconst 2), 1), (5, (.if_icmp .ne 16), 3), (8, (.aload_n 0), 1), (9, (.getfield 22), 3), (12, (.aload_n 0), 1), (13, (.getfield 19), 3), (16, .isub, 1), (17, (.iconst 2), 1), (18, (.if_icmp .le 5), 3), (21, (.iconst (-1)), 1), (22, .ireturn, 1), (23, (.iconst 0), 1), (24, (.istore_n 3), 1), (25, (.aload_n 0), 1), (26, (.getfield 19), 3), (29, (.istore 4), 2), (31, (.iload 4), 2), (33, (.aload_n 0), 1), (34, (.getfield 22), 3), (37, (.if_icmp .ge 25), 3), (40, (.iload_n 3), 1), (41, (.bipush 10), 2), (43, .imul, 1), (44, (.aload_n 0), 1), (45, (.getfield 9), 3), (48, (.iload 4), 2), (50, .iaload, 1), (51, .iadd, 1), (52, (.bipush 48), 2), (54, .isub, 1), (55, (.istore_n 3), 1), (56, (.iinc 4 1), 3), (59, (.goto (-28)), 3), (62, (.iload_n 3), 1), (63, (.iload_n 1), 1), (64, (.if_icmp .lt 8), 3), (67, (.iload_n 3), 1), (68, (.iload_n 2), 1), (69, (.if_icmp .le 5), 3), (72, (.iconst (-1)), 1), (73, .ireturn, 1), (74, (.aload_n 0), 1), (75, (.invokevirtual 28), 3), (78, (.iload_n 3), 1), (79, .ireturn, 1)]
theorem cto42 : ∀ q ∈ ct42, decode cX5_takeNumber q.1 = .ok (q.2.1, q.2.2) := by decide +kernel
/-- X5_readStatement -/
def ct43 : List (Nat × Instr × Nat) := [(0, (.aload_n 0), 1), (1, (.ldc 49), 2), (3, (.invokevirtual 51), 3), (6, (.ifCond .eq 9), 3), (9, (.aload_n 0), 1), (10, (.aload_n 1), 1), (11, (.invokevirtual 55), 3), (14, .ireturn, 1), (15, (.aload_n 0), 1), (16, (.ldc 58), 2), (18, (.invokevirtual 51), 3), (21, (.ifCond .eq 9), 3), (24, (.aload_n 0), 1), (25, (.aload_n 1), 1), (26, (.invokevirtual 60), 3), (29, .ireturn, 1), (30, (.aload_n 0), 1), (31, (.ldc 63), 2), (33, (.invokevirtual 51), 3), (36, (.ifCond .eq 9), 3), (39, (.aload_n 0), 1), (40, (.aload_n 1), 1), (41, (.invokevirtual 65), 3), (44, .ireturn, 1), (45, (.aload_n 0), 1), (46, (.ldc 68), 2), (48, (.invokevirtual 51), 3), (51, (.ifCond .eq 10), 3), (54, (.aload_n 0), 1), (55, (.aload_n 1), 1), (56, (.iconst 1), 1), (57, (.invokevirtual 70), 3), (60, .ireturn, 1), (61, (.aload_n 0), 1), (62, (.ldc 74), 2), (64, (.invokevirtual 51), 3), (67, (.ifCond .eq 10), 3), (70, (.aload_n 0), 1), (71, (.aload_n 1), 1), (72, (.iconst (-1)), 1), (73, (.invokevirtual 70), 3), (76, .ireturn, 1), (77, (.aload_n 0), 1), (78, (.ldc 76), 2), (80, (.invokevirtual 51), 3), (83, (.ifCond .eq 10), 3), (86, (.aload_n 0), 1), (87, (.aload_n 1), 1), (88, (.iconst 1), 1), (89, (.invokevirtual 78), 3), (92, .ireturn, 1), (93, (.aload_n 0), 1), (94, (.ldc 81), 2), (96, (.invokevirtual 51), 3), (99, (.ifCond .eq 10), 3), (102, (.aload_n 0), 1), (103, (.aload_n 1), 1), (104, (.iconst (-1)), 1), (105, (.invokevirtual 78), 3), (108, .ireturn, 1), (109, (.aload_n 0), 1), (110, (.ldc 83), 2), (112, (.invokevirtual 51), 3), (115, (.ifCond .eq 9), 3), (118, (.aload_n 0), 1), (119, (.aload_n 1), 1), (120, (.invokevirtual 85), 3), (123, .ireturn, 1), (124, (.aload_n 0), 1), (125, (.ldc 88), 2), (127, (.invokevirtual 51), 3), (130, (.ifCond .eq 15), 3), (133, (.aload_n 0), 1), (134, (.aload_n 1), 1), (135, (.invokevirtual 90), 3), (138, (.ifCond .eq 7), 3), (141, (.iconst 1), 1), (142, (.goto 4), 3), (145, (.iconst 0), 1), (146, .ireturn, 1)]
theorem cto43 : ∀ q ∈ ct43, decode cX5_readStatement q.1 = .ok (q.2.1, q.2.2) := by decide +kernel
/-- X5_readAct -/
def ct44 : List (Nat × Instr × Nat) := [(0, (.aload_n 1), 1), (1, (.invokevirtual 93), 3), (4, (.ifCond .eq 5), 3), (7, (.iconst 0), 1), (8, .ireturn, 1), (9, (.aload_n 0), 1), (10, (.invokevirtual 28), 3), (13, (.aload_n 0), 1), (14, (.iconst 0), 1), (15, (.iconst 5), 1), (16, (.invokevirtual 99), 3), (19, (.istore_n 2), 1), (20, (.iload_n 2), 1), (21, (.iconst (-1)), 1), (22, (.if_icmp .ne 7), 3), (25, (.iconst (-1)), 1), (26, (.goto 10), 3), (29, (.aload_n 0), 1), (30, (.iconst 0), 1), (31, (.bipush 7), 2), (33, (.invokevirtual 99), 3), (36, (.istore_n 3), 1), (37, (.iload_n 3), 1), (38, (.iconst (-1)), 1), (39, (.if_icmp .ne 7), 3), (42, (.iconst (-1)), 1), (43, (.goto 9), 3), (46, (.aload_n 0), 1), (47, (.iconst 0), 1), (48, (.iconst 3), 1), (49, (.invokevirtual 99), 3), (52, (.istore 4), 2), (54, (.iload 4), 2), (56, (.iconst (-1)), 1), (57, (.if_icmp .ne 7), 3), (60, (.iconst (-1)), 1), (61, (.goto 10), 3), (64, (.aload_n 0), 1), (65, (.iconst 1), 1), (66, (.bipush 9), 2), (68, (.invokevirtual 99), 3), (71, (.istore 5), 2), (73, (.iload 5), 2), (75, (.iconst (-1)), 1), (76, (.if_icmp .ne 7), 3), (79, (.iconst (-1)), 1), (80, (.goto 9), 3), (83, (.aload_n 0), 1), (84, (.ldc 103), 2), (86, (.invokevirtual 105), 3), (89, (.istore 6), 2), (91, (.iload 6), 2), (93, (.iconst (-1)), 1), (94, (.if_icmp .ne 7), 3), (97, (.iconst (-1)), 1), (98, (.goto 9), 3), (101, (.aload_n 0), 1), (102, (.ldc 109), 2), (104, (.invokevirtual 105), 3), (107, (.istore 7), 2), (109, (.iload 7), 2), (111, (.iconst (-1)), 1), (112, (.if_icmp .ne 5), 3), (115, (.iconst 0), 1), (116, .ireturn, 1), (117, (.aload_n 1), 1), (118, (.iload_n 2), 1), (119, (.iload_n 3), 1), (120, (.iload 4), 2), (122, (.iload 5), 2), (124, (.iload 6), 2), (126, (.iload 7), 2), (128, (.invokevirtual 111), 3), (131, .pop, 1), (132, (.iconst 1), 1), (133, .ireturn, 1)]
theorem cto44 : ∀ q ∈ ct44, decode cX5_readAct q.1 = .ok (q.2.1, q.2.2) := by decide +kernel
/-- X5_takeMarksBehind -/
def ct45 : List (Nat × Instr × Nat) := [(0, (.iconst 0), 1), (1, (.istore_n 2), 1), (2, (.iconst 0), 1), (3, (.istore_n 3), 1), (4, (.iload_n 3), 1), (5, (.sipush 250), 3), (8, (.if_icmp .ge 45), 3), (11, (.aload_n 0), 1), (12, (.aload_n 1), 1), (13, (.invokevirtual 51), 3), (16, (.ifCond .eq 37), 3), (19, (.aload_n 0), 1), (20, (.invokevirtual 28), 3), (23, (.aload_n 0), 1), (24, (.iconst 0), 1), (25, (.bipush 7), 2), (27, (.invokevirtual 99), 3), (30, (.istore 4), 2), (32, (.iload 4), 2), (34, (.iconst (-1)), 1), (35, (.if_icmp .ne 5), 3), (38, (.iconst (-1)), 1), (39, .ireturn, 1), (40, (.iload_n 2), 1), (41, (.iconst 1), 1), (42, (.iload 4), 2), (44, .ishl, 1), (45, .ior, 1), (46, (.istore_n 2), 1), (47, (.iinc 3 1), 3), (50, (.goto (-46)), 3), (53, (.iload_n 2), 1), (54, .ireturn, 1)]
theorem cto45 : ∀ q ∈ ct45, decode cX5_takeMarksBehind q.1 = .ok (q.2.1, q.2.2) := by decide +kernel
/-- X5_readMark -/
def ct46 : List (Nat × Instr × Nat) := [(0, (.aload_n 0), 1), (1, (.invokevirtual 28), 3), (4, (.aload_n 0), 1), (5, (.iconst 0), 1), (6, (.bipush 7), 2), (8, (.invokevirtual 99), 3), (11, (.istore_n 2), 1), (12, (.iload_n 2), 1), (13, (.iconst (-1)), 1), (14, (.if_icmp .ne 5), 3), (17, (.iconst 0), 1), (18, .ireturn, 1), (19, (.aload_n 1), 1), (20, .dup, 1), (21, (.getfield 115), 3), (24, (.iconst 1), 1), (25, (.iload_n 2), 1), (26, .ishl, 1), (27, .ior, 1), (28, (.putfield 115), 3), (31, (.iconst 1), 1), (32, .ireturn, 1)]
theorem cto46 : ∀ q ∈ ct46, decode cX5_readMark q.1 = .ok (q.2.1, q.2.2) := by decide +kernel
/-- X5_readCount -/
def ct47 : List (Nat × Instr × Nat) := [(0, (.aload_n 0), 1), (1, (.invokevirtual 28), 3), (4, (.aload_n 0), 1), (5, (.iconst 0), 1), (6, (.iconst 3), 1), (7, (.invokevirtual 99), 3), (10, (.istore_n 2), 1), (11, (.iload_n 2), 1), (12, (.iconst (-1)), 1), (13, (.if_icmp .ne 7), 3), (16, (.iconst (-1)), 1), (17, (.goto 10), 3), (20, (.aload_n 0), 1), (21, (.iconst 0), 1), (22, (.bipush 23), 2), (24, (.invokevirtual 99), 3), (27, (.istore_n 3), 1), (28, (.iload_n 3), 1), (29, (.iconst (-1)), 1), (30, (.if_icmp .ne 5), 3), (33, (.iconst 0), 1), (34, .ireturn, 1), (35, (.aload_n 1), 1), (36, (.aload_n 1), 1), (37, (.getfield 115), 3), (40, (.iload_n 2), 1), (41, (.iload_n 3), 1), (42, (.invokestatic 118), 3), (45, (.putfield 115), 3), (48, (.iconst 1), 1), (49, .ireturn, 1)]
theorem cto47 : ∀ q ∈ ct47, decode cX5_readCount q.1 = .ok (q.2.1, q.2.2) := by decide +kernel
/-- X5_readMarkWorth -/
def ct48 : List (Nat × Instr × Nat) := [(0, (.aload_n 0), 1), (1, (.invokevirtual 28), 3), (4, (.aload_n 0), 1), (5, (.iconst 0), 1), (6, (.iconst 1), 1), (7, (.invokevirtual 99), 3), (10, (.istore_n 3), 1), (11, (.iload_n 3), 1), (12, (.iconst (-1)), 1), (13, (.if_icmp .ne 7), 3), (16, (.iconst (-1)), 1), (17, (.goto 10), 3), (20, (.aload_n 0), 1), (21, (.iconst 0), 1), (22, (.bipush 7), 2), (24, (.invokevirtual 99), 3), (27, (.istore 4), 2), (29, (.iload 4), 2), (31, (.iconst (-1)), 1), (32, (.if_icmp .ne 7), 3), (35, (.iconst (-1)), 1), (36, (.goto 10), 3), (39, (.aload_n 0), 1), (40, (.iconst 0), 1), (41, (.bipush 99), 2), (43, (.invokevirtual 99), 3), (46, (.istore 5), 2), (48, (.iload 5), 2), (50, (.iconst (-1)), 1), (51, (.if_icmp .ne 5), 3), (54, (.iconst 0), 1), (55, .ireturn, 1), (56, (.aload_n 1), 1), (57, (.iload_n 3), 1), (58, (.iload 4), 2), (60, (.iload_n 2), 1), (61, (.iload 5), 2), (63, .imul, 1), (64, (.invokevirtual 124), 3), (67, (.iconst 1), 1), (68, .ireturn, 1)]
theorem cto48 : ∀ q ∈ ct48, decode cX5_readMarkWorth q.1 = .ok (q.2.1, q.2.2) := by decide +kernel
/-- X5_readCountWorth -/
def ct49 : List (Nat × Instr × Nat) := [(0, (.aload_n 0), 1), (1, (.invokevirtual 28), 3), (4, (.aload_n 0), 1), (5, (.iconst 0), 1), (6, (.iconst 1), 1), (7, (.invokevirtual 99), 3), (10, (.istore_n 3), 1), (11, (.iload_n 3), 1), (12, (.iconst (-1)), 1), (13, (.if_icmp .ne 7), 3), (16, (.iconst (-1)), 1), (17, (.goto 9), 3), (20, (.aload_n 0), 1), (21, (.iconst 0), 1), (22, (.iconst 3), 1), (23, (.invokevirtual 99), 3), (26, (.istore 4), 2), (28, (.iload 4), 2), (30, (.iconst (-1)), 1), (31, (.if_icmp .ne 7), 3), (34, (.iconst (-1)), 1), (35, (.goto 10), 3), (38, (.aload_n 0), 1), (39, (.iconst 0), 1), (40, (.bipush 9), 2), (42, (.invokevirtual 99), 3), (45, (.istore 5), 2), (47, (.iload 5), 2), (49, (.iconst (-1)), 1), (50, (.if_icmp .ne 5), 3), (53, (.iconst 0), 1), (54, .ireturn, 1), (55, (.aload_n 1), 1), (56, (.iload_n 3), 1), (57, (.bipush 8), 2), (59, (.iload 4), 2), (61, .iadd, 1), (62, (.iload_n 2), 1), (63, (.iload 5), 2), (65, .imul, 1), (66, (.invokevirtual 124), 3), (69, (.iconst 1), 1), (70, .ireturn, 1)]
theorem cto49 : ∀ q ∈ ct49, decode cX5_readCountWorth q.1 = .ok (q.2.1, q.2.2) := by decide +kernel
/-- X5_readHidden -/
def ct50 : List (Nat × Instr × Nat) := [(0, (.aload_n 0), 1), (1, (.invokevirtual 28), 3), (4, (.aload_n 0), 1), (5, (.iconst 0), 1), (6, (.bipush 7), 2), (8, (.invokevirtual 99), 3), (11, (.istore_n 2), 1), (12, (.iload_n 2), 1), (13, (.iconst (-1)), 1), (14, (.if_icmp .ne 5), 3), (17, (.iconst 0), 1), (18, .ireturn, 1), (19, (.aload_n 1), 1), (20, .dup, 1), (21, (.getfield 128), 3), (24, (.iconst 1), 1), (25, (.iload_n 2), 1), (26, .ishl, 1), (27, .ior, 1), (28, (.putfield 128), 3), (31, (.iconst 1), 1), (32, .ireturn, 1)]
theorem cto50 : ∀ q ∈ ct50, decode cX5_readHidden q.1 = .ok (q.2.1, q.2.2) := by decide +kernel
/-- X5_readLock -/
def ct51 : List (Nat × Instr × Nat) := [(0, (.aload_n 0), 1), (1, (.invokevirtual 28), 3), (4, (.aload_n 0), 1), (5, (.iconst 0), 1), (6, (.iconst 1), 1), (7, (.invokevirtual 99), 3), (10, (.istore_n 2), 1), (11, (.iload_n 2), 1), (12, (.iconst (-1)), 1), (13, (.if_icmp .ne 7), 3), (16, (.iconst (-1)), 1), (17, (.goto 14), 3), (20, (.aload_n 0), 1), (21, (.iconst 0), 1), (22, (.aload_n 1), 1), (23, (.getfield 131), 3), (26, (.iconst 1), 1), (27, .isub, 1), (28, (.invokevirtual 99), 3), (31, (.istore_n 3), 1), (32, (.iload_n 3), 1), (33, (.iconst (-1)), 1), (34, (.if_icmp .ne 5), 3), (37, (.iconst 0), 1), (38, .ireturn, 1), (39, (.aload_n 1), 1), (40, (.iload_n 2), 1), (41, (.iload_n 3), 1), (42, (.iconst 1), 1), (43, (.invokevirtual 134), 3), (46, (.iconst 1), 1), (47, .ireturn, 1)]
theorem cto51 : ∀ q ∈ ct51, decode cX5_readLock q.1 = .ok (q.2.1, q.2.2) := by decide +kernel
/-- X6_init -/
def ct52 : List (Nat × Instr × Nat) := [(0, (.aload_n 0), 1), (1, (.invokespecial 3), 3), (4, (.aload_n 0), 1), (5, (.bipush 10), 2), (7, (.newarray .int), 2), (9, (.putfield 9), 3), (12, (.aload_n 0), 1), (13, (.bipush 10), 2), (15, (.newarray .int), 2), (17, (.putfield 15), 3), (20, (.aload_n 0), 1), (21, (.bipush 10), 2), (23, (.newarray .int), 2), (25, (.putfield 18), 3), (28, (.aload_n 0), 1), (29, (.bipush 10), 2), (31, (.newarray .int), 2), (33, (.putfield 21), 3), (36, (.aload_n 0), 1), (37, (.bipush 10), 2), (39, (.newarray .int), 2), (41, (.putfield 24), 3), (44, (.aload_n 0), 1), (45, (.bipush 10), 2), (47, (.newarray .int), 2), (49, (.putfield 27), 3), (52, (.aload_n 0), 1), (53, (.bipush 10), 2), (55, (.newarray .int), 2), (57, (.putfield 30), 3), (60, (.aload_n 0), 1), (61, (.bipush 24), 2), (63, (.newarray .int), 2), (65, (.putfield 33), 3), (68, (.aload_n 0), 1), (69, (.iconst 2), 1), (70, (.newarray .int), 2), (72, (.putfield 36), 3), (75, (.aload_n 0), 1), (76, (.iconst 0), 1), (77, (.putfield 39), 3), (80, (.aload_n 0), 1), (81, (.iconst 0), 1), (82, (.putfield 43), 3), (85, (.aload_n 0), 1), (86, (.iconst 0), 1), (87, (.putfield 46), 3), (90, (.aload_n 0), 1), (91, (.iconst 0), 1), (92, (.putfield 49), 3), (95, (.aload_n 0), 1), (96, (.iconst 1), 1), (97, (.putfield 52), 3), (100, (.aload_n 0), 1), (101, (.iconst 0), 1), (102, (.putfield 55), 3), (105, (.aload_n 0), 1), (106, (.iconst 0), 1), (107, (.putfield 58), 3), (110, (.aload_n 0), 1), (111, (.iconst 0), 1), (112, (.putfield 62), 3), (115, .return_, 1)]
theorem cto52 : ∀ q ∈ ct52, decode cX6_init q.1 = .ok (q.2.1, q.2.2) := by decide +kernel
/-- X6_become -/
def ct53 : List (Nat × Instr × Nat) := [(0, (.aload_n 1), 1), (1, (.getfield 9), 3), (4, (.iconst 0), 1), (5, (.aload_n 0), 1), (6, (.getfield 9), 3), (9, (.iconst 0), 1), (10, (.bipush 10), 2), (12, (.invokestatic 65), 3), (15, (.aload_n 1), 1), (16, (.getfield 15), 3), (19, (.iconst 0), 1), (20, (.aload_n 0), 1), (21, (.getfield 15), 3), (24, (.iconst 0), 1), (25, (.bipush 10), 2), (27, (.invokestatic 65), 3), (30, (.aload_n 1), 1), (31, (.getfield 18), 3), (34, (.iconst 0), 1), (35, (.aload_n 0), 1), (36, (.getfield 18), 3), (39, (.iconst 0), 1), (40, (.bipush 10), 2), (42, (.invokestatic 65), 3), (45, (.aload_n 1), 1), (46, (.getfield 21), 3), (49, (.iconst 0), 1), (50, (.aload_n 0), 1), (51, (.getfield 21), 3), (54, (.iconst 0), 1), (55, (.bipush 10), 2), (57, (.invokestatic 65), 3), (60, (.aload_n 1), 1), (61, (.getfield 24), 3), (64, (.iconst 0), 1), (65, (.aload_n 0), 1), (66, (.getfield 24), 3), (69, (.iconst 0), 1), (70, (.bipush 10), 2), (72, (.invokestatic 65), 3), (75, (.aload_n 1), 1), (76, (.getfield 27), 3), (79, (.iconst 0), 1), (80, (.aload_n 0), 1), (81, (.getfield 27), 3), (84, (.iconst 0), 1), (85, (.bipush 10), 2), (87, (.invokestatic 65), 3), (90, (.aload_n 1), 1), (91, (.getfield 30), 3), (94, (.iconst 0), 1), (95, (.aload_n 0), 1), (96, (.getfield 30), 3), (99, (.iconst 0), 1), (100, (.bipush 10), 2), (102, (.invokestatic 65), 3), (105, (.aload_n 1), 1), (106, (.getfield 33), 3), (109, (.iconst 0), 1), (110, (.aload_n 0), 1), (111, (.getfield 33), 3), (114, (.iconst 0), 1), (115, (.bipush 24), 2), (117, (.invokestatic 65), 3), (120, (.aload_n 1), 1), (121, (.getfield 36), 3), (124, (.iconst 0), 1), (125, (.aload_n 0), 1), (126, (.getfield 36), 3), (129, (.iconst 0), 1), (130, (.iconst 2), 1), (131, (.invokestatic 65), 3), (134, (.aload_n 0), 1), (135, (.aload_n 1), 1), (136, (.getfield 39), 3), (139, (.putfield 39), 3), (142, (.aload_n 0), 1), (143, (.aload_n 1), 1), (144, (.getfield 43), 3), (147, (.putfield 43), 3), (150, (.aload_n 0), 1), (151, (.aload_n 1), 1), (152, (.getfield 46), 3), (155, (.putfield 46), 3), (158, (.aload_n 0), 1), (159, (.aload_n 1), 1), (160, (.getfield 49), 3), (163, (.putfield 49), 3), (166, (.aload_n 0), 1), (167, (.aload_n 1), 1), (168, (.getfield 52), 3), (171, (.putfield 52), 3), (174, (.aload_n 0), 1), (175, (.aload_n 1), 1), (176, (.getfield 55), 3), (179, (.putfield 55), 3), (182, (.aload_n 0), 1), (183, (.aload_n 1), 1), (184, (.getfield 58), 3), (187, (.putfield 58), 3), (190, (.aload_n 0), 1), (191, .dup, 1), (192, (.getfield 62), 3), (195, (.iconst 1), 1), (196, .iadd, 1), (197, (.putfield 62), 3), (200, .return_, 1)]
theorem cto53 : ∀ q ∈ ct53, decode cX6_become q.1 = .ok (q.2.1, q.2.2) := by decide +kernel
/-- X6_isFull -/
def ct54 : List (Nat × Instr × Nat) := [(0, (.aload_n 0), 1), (1, (.getfield 39), 3), (4, (.bipush 10), 2), (6, (.if_icmp .lt 7), 3), (9, (.iconst 1), 1), (10, (.goto 4), 3), (13, (.iconst 0), 1), (14, .ireturn, 1)]
theorem cto54 : ∀ q ∈ ct54, decode cX6_isFull q.1 = .ok (q.2.1, q.2.2) := by decide +kernel
/-- X6_addAct -/
def ct55 : List (Nat × Instr × Nat) := [(0, (.aload_n 0), 1), (1, (.getfield 39), 3), (4, (.istore 7), 2), (6, (.aload_n 0), 1), (7, (.getfield 9), 3), (10, (.iload 7), 2), (12, (.iload_n 1), 1), (13, .iastore, 1), (14, (.aload_n 0), 1), (15, (.getfield 15), 3), (18, (.iload 7), 2), (20, (.iload_n 2), 1), (21, .iastore, 1), (22, (.aload_n 0), 1), (23, (.getfield 18), 3), (26, (.iload 7), 2), (28, (.iload_n 3), 1), (29, .iastore, 1), (30, (.aload_n 0), 1), (31, (.getfield 21), 3), (34, (.iload 7), 2), (36, (.iload 4), 2), (38, .iastore, 1), (39, (.aload_n 0), 1), (40, (.getfield 24), 3), (43, (.iload 7), 2), (45, (.iload 5), 2), (47, .iastore, 1), (48, (.aload_n 0), 1), (49, (.getfield 27), 3), (52, (.iload 7), 2), (54, (.iload 6), 2), (56, .iastore, 1), (57, (.aload_n 0), 1), (58, (.getfield 30), 3), (61, (.iload 7), 2), (63, (.iconst 0), 1), (64, .iastore, 1), (65, (.aload_n 0), 1), (66, .dup, 1), (67, (.getfield 39), 3), (70, (.iconst 1), 1), (71, .iadd, 1), (72, (.putfield 39), 3), (75, (.aload_n 0), 1), (76, .dup, 1), (77, (.getfield 62), 3), (80, (.iconst 1), 1), (81, .iadd, 1), (82, (.putfield 62), 3), (85, (.iload 7), 2), (87, .ireturn, 1)]
theorem cto55 : ∀ q ∈ ct55, decode cX6_addAct q.1 = .ok (q.2.1, q.2.2) := by decide +kernel
/-- X6_setWorth -/
def ct56 : List (Nat × Instr × Nat) := [(0, (.aload_n 0), 1), (1, (.getfield 33), 3), (4, (.iload_n 1), 1), (5, (.bipush 12), 2), (7, .imul, 1), (8, (.iload_n 2), 1), (9, .iadd, 1), (10, (.iload_n 3), 1), (11, .iastore, 1), (12, (.aload_n 0), 1), (13, .dup, 1), (14, (.getfield 62), 3), (17, (.iconst 1), 1), (18, .iadd, 1), (19, (.putfield 62), 3), (22, .return_, 1)]
theorem cto56 : ∀ q ∈ ct56, decode cX6_setWorth q.1 = .ok (q.2.1, q.2.2) := by decide +kernel
/-- X6_isLocked -/
def ct57 : List (Nat × Instr × Nat) := [(0, (.aload_n 0), 1), (1, (.getfield 30), 3), (4, (.iload_n 2), 1), (5, .iaload, 1), (6, (.iload_n 1), 1), (7, .ishr, 1), (8, (.iconst 1), 1), (9, .iand, 1), (10, (.ifCond .eq 7), 3), (13, (.iconst 1), 1), (14, (.goto 4), 3), (17, (.iconst 0), 1), (18, .ireturn, 1)]
theorem cto57 : ∀ q ∈ ct57, decode cX6_isLocked q.1 = .ok (q.2.1, q.2.2) := by decide +kernel
/-- X6_setLocked -/
def ct58 : List (Nat × Instr × Nat) := [(0, (.iconst 1), 1), (1, (.iload_n 1), 1), (2, .ishl, 1), (3, (.istore 4), 2), (5, (.aload_n 0), 1), (6, (.getfield 30), 3), (9, (.iload_n 2), 1), (10, (.iload_n 3), 1), (11, (.ifCond .eq 15), 3), (14, (.aload_n 0), 1), (15, (.getfield 30), 3), (18, (.iload_n 2), 1), (19, .iaload, 1), (20, (.iload 4), 2), (22, .ior, 1), (23, (.goto 14), 3), (26, (.aload_n 0), 1), (27, (.getfield 30), 3), (30, (.iload_n 2), 1), (31, .iaload, 1), (32, (.iload 4), 2), (34, (.iconst (-1)), 1), (35, .ixor, 1), (36, .iand, 1), (37, .iastore, 1), (38, (.aload_n 0), 1), (39, .dup, 1), (40, (.getfield 62), 3), (43, (.iconst 1), 1), (44, .iadd, 1), (45, (.putfield 62), 3), (48, .return_, 1)]
theorem cto58 : ∀ q ∈ ct58, decode cX6_setLocked q.1 = .ok (q.2.1, q.2.2) := by decide +kernel
/-- X6_lockedActs -/
def ct59 : List (Nat × Instr × Nat) := [(0, (.iconst 0), 1), (1, (.istore_n 1), 1), (2, (.iconst 0), 1), (3, (.istore_n 2), 1), (4, (.iload_n 2), 1), (5, (.aload_n 0), 1), (6, (.getfield 39), 3), (9, (.if_icmp .ge 21), 3), (12, (.aload_n 0), 1), (13, (.getfield 30), 3), (16, (.iload_n 2), 1), (17, .iaload, 1), (18, (.ifCond .eq 6), 3), (21, (.iinc 1 1), 3), (24, (.iinc 2 1), 3), (27, (.goto (-23)), 3), (30, (.iload_n 1), 1), (31, .ireturn, 1)]
theorem cto59 : ∀ q ∈ ct59, decode cX6_lockedActs q.1 = .ok (q.2.1, q.2.2) := by decide +kernel
/-- X6_allows -/
def ct60 : List (Nat × Instr × Nat) := [(0, (.iload_n 1), 1), (1, (.iconst (-1)), 1), (2, (.if_icmp .ne 5), 3), (5, (.iconst 1), 1), (6, .ireturn, 1), (7, (.aload_n 0), 1), (8, (.iload_n 2), 1), (9, (.iload_n 1), 1), (10, (.invokevirtual 71), 3), (13, (.ifCond .ne 31), 3), (16, (.iload_n 3), 1), (17, (.aload_n 0), 1), (18, (.getfield 24), 3), (21, (.iload_n 1), 1), (22, .iaload, 1), (23, .iand, 1), (24, (.aload_n 0), 1), (25, (.getfield 24), 3), (28, (.iload_n 1), 1), (29, .iaload, 1), (30, (.if_icmp .ne 14), 3), (33, (.iload_n 3), 1), (34, (.aload_n 0), 1), (35, (.getfield 27), 3), (38, (.iload_n 1), 1), (39, .iaload, 1), (40, .iand, 1), (41, (.ifCond .eq 5), 3), (44, (.iconst 0), 1), (45, .ireturn, 1), (46, (.iload_n 3), 1), (47, (.aload_n 0), 1), (48, (.getfield 15), 3), (51, (.iload_n 1), 1), (52, .iaload, 1), (53, (.invokestatic 75), 3), (56, (.istore 4), 2), (58, (.iload_n 3), 1), (59, (.aload_n 0), 1), (60, (.getfield 18), 3), (63, (.iload_n 1), 1), (64, .iaload, 1), (65, (.invokestatic 80), 3), (68, (.istore 5), 2), (70, (.aload_n 0), 1), (71, (.getfield 9), 3), (74, (.iload_n 1), 1), (75, .iaload, 1), (76, (.tableswitch 97 1 5 #[36, 47, 97, 50, 72]), 36), (112, (.iload 4), 2), (114, (.ifCond .ne 7), 3), (117, (.iconst 1), 1), (118, (.goto 4), 3), (121, (.iconst 0), 1), (122, .ireturn, 1), (123, (.iload 4), 2), (125, .ireturn, 1), (126, (.iload 4), 2), (128, (.ifCond .ne 18), 3), (131, (.iload 5), 2), (133, (.aload_n 0), 1), (134, (.getfield 21), 3), (137, (.iload_n 1), 1), (138, .iaload, 1), (139, (.if_icmp .lt 7), 3), (142, (.iconst 1), 1), (143, (.goto 4), 3), (146, (.iconst 0), 1), (147, .ireturn, 1), (148, (.iload 4), 2), (150, (.ifCond .eq 21), 3), (153, (.iload 5), 2), (155, (.aload_n 0), 1), (156, (.getfield 21), 3), (159, (.iload_n 1), 1), (160, .iaload, 1), (161, .iadd, 1), (162, (.bipush 23), 2), (164, (.if_icmp .gt 7), 3), (167, (.iconst 1), 1), (168, (.goto 4), 3), (171, (.iconst 0), 1), (172, .ireturn, 1), (173, (.iconst 1), 1), (174, .ireturn, 1)]
theorem cto60 : ∀ q ∈ ct60, decode cX6_allows q.1 = .ok (q.2.1, q.2.2) := by decide +kernel
/-- X6_after -/
def ct61 : List (Nat × Instr × Nat) := [(0, (.iload_n 1), 1), (1, (.iconst (-1)), 1), (2, (.if_icmp .ne 5), 3), (5, (.iload_n 2), 1), (6, .ireturn, 1), (7, (.aload_n 0), 1), (8, (.getfield 18), 3), (11, (.iload_n 1), 1), (12, .iaload, 1), (13, (.istore_n 3), 1), (14, (.iload_n 2), 1), (15, (.iload_n 3), 1), (16, (.invokestatic 80), 3), (19, (.istore 4), 2), (21, (.aload_n 0), 1), (22, (.getfield 9), 3), (25, (.iload_n 1), 1), (26, .iaload, 1), (27, (.tableswitch 92 1 5 #[33, 33, 33, 44, 68]), 33), (60, (.iload_n 2), 1), (61, (.aload_n 0), 1), (62, (.getfield 15), 3), (65, (.iload_n 1), 1), (66, .iaload, 1), (67, (.invokestatic 84), 3), (70, .ireturn, 1), (71, (.iload_n 2), 1), (72, (.aload_n 0), 1), (73, (.getfield 15), 3), (76, (.iload_n 1), 1), (77, .iaload, 1), (78, (.invokestatic 84), 3), (81, (.iload_n 3), 1), (82, (.iload 4), 2), (84, (.aload_n 0), 1), (85, (.getfield 21), 3), (88, (.iload_n 1), 1), (89, .iaload, 1), (90, .isub, 1), (91, (.invokestatic 87), 3), (94, .ireturn, 1), (95, (.iload_n 2), 1), (96, (.aload_n 0), 1), (97, (.getfield 15), 3), (100, (.iload_n 1), 1), (101, .iaload, 1), (102, (.invokestatic 84), 3), (105, (.iload_n 3), 1), (106, (.iload 4), 2), (108, (.aload_n 0), 1), (109, (.getfield 21), 3), (112, (.iload_n 1), 1), (113, .iaload, 1), (114, .iadd, 1), (115, (.invokestatic 87), 3), (118, .ireturn, 1), (119, (.iload_n 2), 1), (120, (.iload_n 3), 1), (121, (.bipush 23), 2), (123, (.iload 4), 2), (125, (.aload_n 0), 1), (126, (.getfield 21), 3), (129, (.iload_n 1), 1), (130, .iaload, 1), (131, .iadd, 1), (132, (.invokestatic 91), 3), (135, (.invokestatic 87), 3), (138, .ireturn, 1)]
theorem cto61 : ∀ q ∈ ct61, decode cX6_after q.1 = .ok (q.2.1, q.2.2) := by decide +kernel
/-- X6_valueTo -/
def ct62 : List (Nat × Instr × Nat) := [(0, (.iload_n 1), 1), (1, (.bipush 12), 2), (3, .imul, 1), (4, (.istore_n 3), 1), (5, (.iconst 0), 1), (6, (.istore 4), 2), (8, (.iconst 0), 1), (9, (.istore 5), 2), (11, (.iload 5), 2), (13, (.bipush 8), 2), (15, (.if_icmp .ge 32), 3), (18, (.iload_n 2), 1), (19, (.iload 5), 2), (21, (.invokestatic 75), 3), (24, (.ifCond .eq 17), 3), (27, (.iload 4), 2), (29, (.aload_n 0), 1), (30, (.getfield 33), 3), (33, (.iload_n 3), 1), (34, (.iload 5), 2), (36, .iadd, 1), (37, .iaload, 1), (38, .iadd, 1), (39, (.istore 4), 2), (41, (.iinc 5 1), 3), (44, (.goto (-33)), 3), (47, (.iconst 0), 1), (48, (.istore 5), 2), (50, (.iload 5), 2), (52, (.iconst 4), 1), (53, (.if_icmp .ge 33), 3), (56, (.iload 4), 2), (58, (.iload_n 2), 1), (59, (.iload 5), 2), (61, (.invokestatic 80), 3), (64, (.aload_n 0), 1), (65, (.getfield 33), 3), (68, (.iload_n 3), 1), (69, (.bipush 8), 2), (71, .iadd, 1), (72, (.iload 5), 2), (74, .iadd, 1), (75, .iaload, 1), (76, .imul, 1), (77, .iadd, 1), (78, (.istore 4), 2), (80, (.iinc 5 1), 3), (83, (.goto (-33)), 3), (86, (.iload 4), 2), (88, .ireturn, 1)]
theorem cto62 : ∀ q ∈ ct62, decode cX6_valueTo q.1 = .ok (q.2.1, q.2.2) := by decide +kernel
/-- X6_live -/
def ct63 : List (Nat × Instr × Nat) := [(0, (.aload_n 0), 1), (1, (.getfield 43), 3), (4, (.invokestatic 96), 3), (7, (.istore_n 2), 1), (8, (.aload_n 0), 1), (9, (.aload_n 0), 1), (10, (.getfield 43), 3), (13, (.putfield 55), 3), (16, (.aload_n 0), 1), (17, (.iconst 1), 1), (18, (.putfield 58), 3), (21, (.aload_n 0), 1), (22, (.aload_n 0), 1), (23, (.iload_n 1), 1), (24, (.aload_n 0), 1), (25, (.getfield 43), 3), (28, (.invokevirtual 100), 3), (31, (.putfield 43), 3), (34, (.aload_n 0), 1), (35, (.getfield 36), 3), (38, (.iload_n 2), 1), (39, .dup2, 1), (40, .iaload, 1), (41, (.aload_n 0), 1), (42, (.iload_n 2), 1), (43, (.aload_n 0), 1), (44, (.getfield 43), 3), (47, (.invokevirtual 103), 3), (50, .iadd, 1), (51, .iastore, 1), (52, (.aload_n 0), 1), (53, (.aload_n 0), 1), (54, (.getfield 43), 3), (57, (.invokestatic 106), 3), (60, (.putfield 43), 3), (63, (.aload_n 0), 1), (64, .dup, 1), (65, (.getfield 49), 3), (68, (.iconst 1), 1), (69, .iadd, 1), (70, (.putfield 49), 3), (73, .return_, 1)]
theorem cto63 : ∀ q ∈ ct63, decode cX6_live q.1 = .ok (q.2.1, q.2.2) := by decide +kernel
/-- X6_likelyActs -/
def ct64 : List (Nat × Instr × Nat) := [(0, (.aload_n 0), 1), (1, (.getfield 55), 3), (4, (.invokestatic 96), 3), (7, (.istore_n 2), 1), (8, (.iload_n 1), 1), (9, (.iconst (-1)), 1), (10, .ixor, 1), (11, (.istore_n 3), 1), (12, (.iconst 0), 1), (13, (.istore 4), 2), (15, (.iconst (-1)), 1), (16, (.istore 5), 2), (18, (.iload 5), 2), (20, (.aload_n 0), 1), (21, (.getfield 39), 3), (24, (.if_icmp .ge 79), 3), (27, (.aload_n 0), 1), (28, (.iload 5), 2), (30, (.iload_n 2), 1), (31, (.aload_n 0), 1), (32, (.getfield 55), 3), (35, (.invokevirtual 109), 3), (38, (.ifCond .eq 31), 3), (41, (.aload_n 0), 1), (42, (.iload 5), 2), (44, (.aload_n 0), 1), (45, (.getfield 55), 3), (48, (.invokevirtual 100), 3), (51, (.invokestatic 106), 3), (54, (.iload_n 3), 1), (55, .iand, 1), (56, (.aload_n 0), 1), (57, (.getfield 43), 3), (60, (.iload_n 3), 1), (61, .iand, 1), (62, (.if_icmp .ne 7), 3), (65, (.iconst 1), 1), (66, (.goto 4), 3), (69, (.iconst 0), 1), (70, (.istore 6), 2), (72, (.iload 6), 2), (74, (.ifCond .eq 23), 3), (77, (.iload 4), 2), (79, (.iconst 1), 1), (80, (.iload 5), 2), (82, (.iconst (-1)), 1), (83, (.if_icmp .ne 8), 3), (86, (.bipush 10), 2), (88, (.goto 5), 3), (91, (.iload 5), 2), (93, .ishl, 1), (94, .ior, 1), (95, (.istore 4), 2), (97, (.iinc 5 1), 3), (100, (.goto (-82)), 3), (103, (.iload 4), 2), (105, .ireturn, 1)]
theorem cto64 : ∀ q ∈ ct64, decode cX6_likelyActs q.1 = .ok (q.2.1, q.2.2) := by decide +kernel
/-- X6_drawMark -/
def ct65 : List (Nat × Instr × Nat) := [(0, (.aload_n 0), 1), (1, (.aload_n 0), 1), (2, (.getfield 52), 3), (5, (.ldc 113), 2), (7, .imul, 1), (8, (.sipush 12345), 3), (11, .iadd, 1), (12, (.putfield 52), 3), (15, (.aload_n 0), 1), (16, (.getfield 52), 3), (19, (.bipush 16), 2), (21, .iushr, 1), (22, (.bipush 8), 2), (24, .irem, 1), (25, .ireturn, 1)]
theorem cto65 : ∀ q ∈ ct65, decode cX6_drawMark q.1 = .ok (q.2.1, q.2.2) := by decide +kernel
/-- X7_init -/
def ct66 : List (Nat × Instr × Nat) := [(0, (.aload_n 0), 1), (1, (.invokespecial 3), 3), (4, (.aload_n 0), 1), (5, (.iconst 2), 1), (6, (.newarray .int), 2), (8, (.putfield 9), 3), (11, (.aload_n 0), 1), (12, (.iconst 0), 1), (13, (.putfield 15), 3), (16, (.aload_n 0), 1), (17, (.iconst 0), 1), (18, (.putfield 19), 3), (21, (.aload_n 0), 1), (22, (.iconst (-1)), 1), (23, (.putfield 22), 3), (26, (.aload_n 0), 1), (27, (.aload_n 1), 1), (28, (.putfield 25), 3), (31, (.aload_n 0), 1), (32, (.aload_n 2), 1), (33, (.putfield 29), 3), (36, .return_, 1)]
theorem cto66 : ∀ q ∈ ct66, decode cX7_init q.1 = .ok (q.2.1, q.2.2) := by decide +kernel
/-- X7_goByRules -/
def ct67 : List (Nat × Instr × Nat) := [(0, (.aload_n 0), 1), (1, (.invokevirtual 33), 3), (4, (.aload_n 0), 1), (5, (.getfield 15), 3), (8, (.invokestatic 36), 3), (11, (.istore 4), 2), (13, (.iconst 0), 1), (14, (.istore 5), 2), (16, (.iload 5), 2), (18, (.iload_n 3), 1), (19, (.if_icmp .ge 41), 3), (22, (.aload_n 0), 1), (23, (.aload_n 0), 1), (24, (.getfield 29), 3), (27, (.aload_n 0), 1), (28, (.getfield 15), 3), (31, (.invokestatic 36), 3), (34, (.iload 4), 2), (36, (.if_icmp .ne 7), 3), (39, (.aload_n 1), 1), (40, (.goto 4), 3), (43, (.aload_n 2), 1), (44, (.aload_n 0), 1), (45, (.getfield 15), 3), (48, (.invokevirtual 42), 3), (51, (.invokevirtual 48), 3), (54, (.iinc 5 1), 3), (57, (.goto (-41)), 3), (60, .return_, 1)]
theorem cto67 : ∀ q ∈ ct67, decode cX7_goByRules q.1 = .ok (q.2.1, q.2.2) := by decide +kernel
/-- X7_goByRow -/
def ct68 : List (Nat × Instr × Nat) := [(0, (.aload_n 0), 1), (1, (.invokevirtual 33), 3), (4, (.iconst 0), 1), (5, (.istore_n 3), 1), (6, (.iload_n 3), 1), (7, (.iload_n 2), 1), (8, (.if_icmp .ge 78), 3), (11, (.aload_n 1), 1), (12, (.getfield 52), 3), (15, (.iload_n 3), 1), (16, .laload, 1), (17, (.lstore 4), 2), (19, (.lload 4), 2), (21, (.lconst 0), 1), (22, .lcmp, 1), (23, (.ifCond .lt 23), 3), (26, (.lload 4), 2), (28, (.aload_n 0), 1), (29, (.getfield 25), 3), (32, (.getfield 58), 3), (35, .i2l, 1), (36, .lcmp, 1), (37, (.ifCond .ge 9), 3), (40, (.lload 4), 2), (42, .l2i, 1), (43, (.goto 4), 3), (46, (.iconst (-1)), 1), (47, (.istore 6), 2), (49, (.aload_n 0), 1), (50, (.getfield 25), 3), (53, (.iload 6), 2), (55, (.aload_n 0), 1), (56, (.getfield 15), 3), (59, (.invokestatic 36), 3), (62, (.aload_n 0), 1), (63, (.getfield 15), 3), (66, (.invokevirtual 63), 3), (69, (.ifCond .ne 5), 3), (72, (.iload_n 3), 1), (73, .ireturn, 1), (74, (.aload_n 0), 1), (75, (.iload 6), 2), (77, (.invokevirtual 48), 3), (80, (.iinc 3 1), 3), (83, (.goto (-77)), 3), (86, (.iconst (-1)), 1), (87, .ireturn, 1)]
theorem cto68 : ∀ q ∈ ct68, decode cX7_goByRow q.1 = .ok (q.2.1, q.2.2) := by decide +kernel
/-- X7_begin -/
def ct69 : List (Nat × Instr × Nat) := [(0, (.aload_n 0), 1), (1, (.aload_n 0), 1), (2, (.getfield 25), 3), (5, (.getfield 67), 3), (8, (.putfield 15), 3), (11, (.aload_n 0), 1), (12, (.getfield 9), 3), (15, (.iconst 0), 1), (16, (.invokestatic 68), 3), (19, (.aload_n 0), 1), (20, (.iconst 0), 1), (21, (.putfield 19), 3), (24, (.aload_n 0), 1), (25, (.iconst (-1)), 1), (26, (.putfield 22), 3), (29, .return_, 1)]
theorem cto69 : ∀ q ∈ ct69, decode cX7_begin q.1 = .ok (q.2.1, q.2.2) := by decide +kernel
/-- X7_go -/
def ct70 : List (Nat × Instr × Nat) := [(0, (.aload_n 0), 1), (1, (.getfield 15), 3), (4, (.invokestatic 36), 3), (7, (.istore_n 2), 1), (8, (.aload_n 0), 1), (9, (.aload_n 0), 1), (10, (.getfield 25), 3), (13, (.iload_n 1), 1), (14, (.aload_n 0), 1), (15, (.getfield 15), 3), (18, (.invokevirtual 74), 3), (21, (.putfield 15), 3), (24, (.aload_n 0), 1), (25, (.getfield 9), 3), (28, (.iload_n 2), 1), (29, .dup2, 1), (30, .iaload, 1), (31, (.aload_n 0), 1), (32, (.getfield 25), 3), (35, (.iload_n 2), 1), (36, (.aload_n 0), 1), (37, (.getfield 15), 3), (40, (.invokevirtual 78), 3), (43, .iadd, 1), (44, .iastore, 1), (45, (.aload_n 0), 1), (46, (.aload_n 0), 1), (47, (.getfield 15), 3), (50, (.invokestatic 81), 3), (53, (.putfield 15), 3), (56, (.aload_n 0), 1), (57, (.iload_n 1), 1), (58, (.putfield 22), 3), (61, (.iload_n 1), 1), (62, (.iconst (-1)), 1), (63, (.if_icmp .eq 13), 3), (66, (.aload_n 0), 1), (67, .dup, 1), (68, (.getfield 19), 3), (71, (.iconst 1), 1), (72, .iadd, 1), (73, (.putfield 19), 3), (76, .return_, 1)]
theorem cto70 : ∀ q ∈ ct70, decode cX7_go q.1 = .ok (q.2.1, q.2.2) := by decide +kernel
end
section
/-- X8_init -/
def ct71 : List (Nat × Instr × Nat) := [(0, (.aload_n 0), 1), (1, (.invokespecial 3), 3), (4, (.aload_n 0), 1), (5, (.new 9), 3), (8, .dup, 1), (9, (.invokespecial 11), 3), (12, (.putfield 12), 3), (15, (.aload_n 0), 1), (16, (.new 9), 3), (19, .dup, 1), (20, (.invokespecial 11), 3), (23, (.putfield 16), 3), (26, (.aload_n 0), 1), (27, (.new 9), 3), (30, .dup, 1), (31, (.invokespecial 11), 3), (34, (.putfield 19), 3), (37, (.aload_n 0), 1), (38, (.iconst 0), 1), (39, (.putfield 22), 3), (42, (.aload_n 0), 1), (43, (.new 26), 3), (46, .dup, 1), (47, (.invokespecial 28), 3), (50, (.putfield 29), 3), (53, (.aload_n 0), 1), (54, (.bipush 8), 2), (56, (.anewarray 33), 3), (59, (.putfield 35), 3), (62, (.aload_n 0), 1), (63, (.new 39), 3), (66, .dup, 1), (67, (.aload_n 0), 1), (68, (.getfield 12), 3), (71, (.invokespecial 41), 3), (74, (.putfield 44), 3), (77, (.aload_n 0), 1), (78, (.new 48), 3), (81, .dup, 1), (82, (.aload_n 0), 1), (83, (.getfield 12), 3), (86, (.aload_n 0), 1), (87, (.getfield 44), 3), (90, (.invokespecial 50), 3), (93, (.putfield 53), 3), (96, (.aload_n 0), 1), (97, (.new 57), 3), (100, .dup, 1), (101, (.aload_n 0), 1), (102, (.getfield 12), 3), (105, (.aload_n 0), 1), (106, (.getfield 53), 3), (109, (.invokespecial 59), 3), (112, (.putfield 62), 3), (115, (.aload_n 0), 1), (116, (.iconst 5), 1), (117, (.newarray .int), 2), (119, (.putfield 66), 3), (122, (.iconst 0), 1), (123, (.istore_n 1), 1), (124, (.iload_n 1), 1), (125, (.bipush 8), 2), (127, (.if_icmp .ge 22), 3), (130, (.aload_n 0), 1), (131, (.getfield 35), 3), (134, (.iload_n 1), 1), (135, (.new 33), 3), (138, .dup, 1), (139, (.invokespecial 70), 3), (142, .aastore, 1), (143, (.iinc 1 1), 3), (146, (.goto (-22)), 3), (149, .return_, 1)]
theorem cto71 : ∀ q ∈ ct71, decode cX8_init q.1 = .ok (q.2.1, q.2.2) := by decide +kernel
/-- X8_refuse -/
def ct72 : List (Nat × Instr × Nat) := [(0, (.aload_n 0), 1), (1, (.getfield 66), 3), (4, (.bipush (-2)), 2), (6, (.iload_n 1), 1), (7, .isub, 1), (8, .dup2, 1), (9, .iaload, 1), (10, (.iconst 1), 1), (11, .iadd, 1), (12, .iastore, 1), (13, (.iload_n 1), 1), (14, .ireturn, 1)]
theorem cto72 : ∀ q ∈ ct72, decode cX8_refuse q.1 = .ok (q.2.1, q.2.2) := by decide +kernel
/-- X8_refuseGain -/
def ct73 : List (Nat × Instr × Nat) := [(0, (.ldc 71), 2), (2, (.aload_n 0), 1), (3, (.iload_n 1), 1), (4, (.invokevirtual 72), 3), (7, .iadd, 1), (8, .ireturn, 1)]
theorem cto73 : ∀ q ∈ ct73, decode cX8_refuseGain q.1 = .ok (q.2.1, q.2.2) := by decide +kernel
/-- X8_isWithin -/
def ct74 : List (Nat × Instr × Nat) := [(0, (.iload_n 1), 1), (1, (.iload_n 0), 1), (2, (.if_icmp .gt 12), 3), (5, (.iload_n 0), 1), (6, (.iload_n 2), 1), (7, (.if_icmp .gt 7), 3), (10, (.iconst 1), 1), (11, (.goto 4), 3), (14, (.iconst 0), 1), (15, .ireturn, 1)]
theorem cto74 : ∀ q ∈ ct74, decode cX8_isWithin q.1 = .ok (q.2.1, q.2.2) := by decide +kernel
/-- X8_isShelf -/
def ct75 : List (Nat × Instr × Nat) := [(0, (.iload_n 0), 1), (1, (.iconst 0), 1), (2, (.bipush 7), 2), (4, (.invokestatic 76), 3), (7, .ireturn, 1)]
theorem cto75 : ∀ q ∈ ct75, decode cX8_isShelf q.1 = .ok (q.2.1, q.2.2) := by decide +kernel
/-- X8_isHalf -/
def ct76 : List (Nat × Instr × Nat) := [(0, (.iload_n 0), 1), (1, (.iconst 0), 1), (2, (.iconst 1), 1), (3, (.invokestatic 76), 3), (6, .ireturn, 1)]
theorem cto76 : ∀ q ∈ ct76, decode cX8_isHalf q.1 = .ok (q.2.1, q.2.2) := by decide +kernel
/-- X8_isAhead -/
def ct77 : List (Nat × Instr × Nat) := [(0, (.iload_n 0), 1), (1, (.iconst 1), 1), (2, (.iconst 4), 1), (3, (.invokestatic 76), 3), (6, .ireturn, 1)]
theorem cto77 : ∀ q ∈ ct77, decode cX8_isAhead q.1 = .ok (q.2.1, q.2.2) := by decide +kernel
/-- X8_isAct -/
def ct78 : List (Nat × Instr × Nat) := [(0, (.iload_n 1), 1), (1, (.iconst 0), 1), (2, (.aload_n 0), 1), (3, (.getfield 12), 3), (6, (.getfield 80), 3), (9, (.iconst 1), 1), (10, .isub, 1), (11, (.invokestatic 76), 3), (14, .ireturn, 1)]
theorem cto78 : ∀ q ∈ ct78, decode cX8_isAct q.1 = .ok (q.2.1, q.2.2) := by decide +kernel
/-- X8_isActOrNone -/
def ct79 : List (Nat × Instr × Nat) := [(0, (.iload_n 1), 1), (1, (.iconst (-1)), 1), (2, (.if_icmp .eq 11), 3), (5, (.aload_n 0), 1), (6, (.iload_n 1), 1), (7, (.invokevirtual 84), 3), (10, (.ifCond .eq 7), 3), (13, (.iconst 1), 1), (14, (.goto 4), 3), (17, (.iconst 0), 1), (18, .ireturn, 1)]
theorem cto79 : ∀ q ∈ ct79, decode cX8_isActOrNone q.1 = .ok (q.2.1, q.2.2) := by decide +kernel
/-- X8_lackOfRules -/
def ct80 : List (Nat × Instr × Nat) := [(0, (.aload_n 0), 1), (1, (.getfield 35), 3), (4, (.iload_n 1), 1), (5, .aaload, 1), (6, (.invokevirtual 88), 3), (9, (.ifCond .ne 15), 3), (12, (.aload_n 0), 1), (13, (.getfield 35), 3), (16, (.iload_n 2), 1), (17, .aaload, 1), (18, (.invokevirtual 88), 3), (21, (.ifCond .eq 6), 3), (24, (.bipush (-3)), 2), (26, .ireturn, 1), (27, (.aload_n 0), 1), (28, (.getfield 35), 3), (31, (.iload_n 1), 1), (32, .aaload, 1), (33, (.invokevirtual 92), 3), (36, (.ifCond .eq 19), 3), (39, (.aload_n 0), 1), (40, (.getfield 35), 3), (43, (.iload_n 2), 1), (44, .aaload, 1), (45, (.invokevirtual 92), 3), (48, (.ifCond .eq 7), 3), (51, (.iconst 0), 1), (52, (.goto 5), 3), (55, (.bipush (-4)), 2), (57, .ireturn, 1)]
theorem cto80 : ∀ q ∈ ct80, decode cX8_lackOfRules q.1 = .ok (q.2.1, q.2.2) := by decide +kernel
/-- X8_lackOfRow -/
def ct81 : List (Nat × Instr × Nat) := [(0, (.aload_n 0), 1), (1, (.getfield 35), 3), (4, (.iload_n 1), 1), (5, .aaload, 1), (6, (.invokevirtual 92), 3), (9, (.ifCond .eq 6), 3), (12, (.bipush (-3)), 2), (14, .ireturn, 1), (15, (.aload_n 0), 1), (16, (.getfield 35), 3), (19, (.iload_n 1), 1), (20, .aaload, 1), (21, (.invokevirtual 88), 3), (24, (.ifCond .ne 6), 3), (27, (.bipush (-4)), 2), (29, .ireturn, 1), (30, (.iload_n 2), 1), (31, (.aload_n 0), 1), (32, (.getfield 35), 3), (35, (.iload_n 1), 1), (36, .aaload, 1), (37, (.getfield 95), 3), (40, (.if_icmp .gt 7), 3), (43, (.iconst 0), 1), (44, (.goto 5), 3), (47, (.bipush (-2)), 2), (49, .ireturn, 1)]
theorem cto81 : ∀ q ∈ ct81, decode cX8_lackOfRow q.1 = .ok (q.2.1, q.2.2) := by decide +kernel
/-- X8_row -/
def ct82 : List (Nat × Instr × Nat) := [(0, (.iload_n 1), 1), (1, (.invokestatic 98), 3), (4, (.ifCond .eq 22), 3), (7, (.iload_n 2), 1), (8, (.iconst 0), 1), (9, (.iconst 4), 1), (10, (.invokestatic 76), 3), (13, (.ifCond .eq 13), 3), (16, (.iload_n 3), 1), (17, (.iconst 0), 1), (18, (.bipush 40), 2), (20, (.invokestatic 76), 3), (23, (.ifCond .ne 10), 3), (26, (.aload_n 0), 1), (27, (.bipush (-2)), 2), (29, (.invokevirtual 72), 3), (32, .ireturn, 1), (33, (.aload_n 0), 1), (34, (.getfield 35), 3), (37, (.iload_n 1), 1), (38, .aaload, 1), (39, (.iload_n 2), 1), (40, (.iload_n 3), 1), (41, (.invokevirtual 101), 3), (44, (.iconst 1), 1), (45, .ireturn, 1)]
theorem cto82 : ∀ q ∈ ct82, decode cX8_row q.1 = .ok (q.2.1, q.2.2) := by decide +kernel
/-- X8_set -/
def ct83 : List (Nat × Instr × Nat) := [(0, (.iload_n 1), 1), (1, (.invokestatic 98), 3), (4, (.ifCond .ne 10), 3), (7, (.aload_n 0), 1), (8, (.bipush (-2)), 2), (10, (.invokevirtual 72), 3), (13, .ireturn, 1), (14, (.aload_n 0), 1), (15, (.iload_n 1), 1), (16, (.iconst 0), 1), (17, (.invokevirtual 105), 3), (20, (.istore 5), 2), (22, (.iload 5), 2), (24, (.ifCond .eq 10), 3), (27, (.aload_n 0), 1), (28, (.iload 5), 2), (30, (.invokevirtual 72), 3), (33, .ireturn, 1), (34, (.aload_n 0), 1), (35, (.getfield 35), 3), (38, (.iload_n 1), 1), (39, .aaload, 1), (40, (.iload_n 2), 1), (41, (.invokevirtual 109), 3), (44, (.ifCond .ne 10), 3), (47, (.aload_n 0), 1), (48, (.bipush (-2)), 2), (50, (.invokevirtual 72), 3), (53, .ireturn, 1), (54, (.aload_n 0), 1), (55, (.getfield 35), 3), (58, (.iload_n 1), 1), (59, .aaload, 1), (60, (.iload_n 2), 1), (61, (.lload_n 3), 1), (62, (.invokevirtual 112), 3), (65, (.iconst 1), 1), (66, .ireturn, 1)]
theorem cto83 : ∀ q ∈ ct83, decode cX8_set q.1 = .ok (q.2.1, q.2.2) := by decide +kernel
/-- X8_copy -/
def ct84 : List (Nat × Instr × Nat) := [(0, (.iload_n 1), 1), (1, (.invokestatic 98), 3), (4, (.ifCond .eq 10), 3), (7, (.iload_n 2), 1), (8, (.invokestatic 98), 3), (11, (.ifCond .ne 10), 3), (14, (.aload_n 0), 1), (15, (.bipush (-2)), 2), (17, (.invokevirtual 72), 3), (20, .ireturn, 1), (21, (.aload_n 0), 1), (22, (.getfield 35), 3), (25, (.iload_n 1), 1), (26, .aaload, 1), (27, (.astore 6), 2), (29, (.aload_n 0), 1), (30, (.getfield 35), 3), (33, (.iload_n 2), 1), (34, .aaload, 1), (35, (.astore 7), 2), (37, (.aload 6), 2), (39, (.invokevirtual 88), 3), (42, (.ifCond .eq 28), 3), (45, (.aload 7), 2), (47, (.invokevirtual 88), 3), (50, (.ifCond .eq 20), 3), (53, (.aload 6), 2), (55, (.getfield 116), 3), (58, (.aload 7), 2), (60, (.getfield 116), 3), (63, (.if_icmp .eq 7), 3), (66, (.iconst 1), 1), (67, (.goto 4), 3), (70, (.iconst 0), 1), (71, (.istore 8), 2), (73, (.aload 6), 2), (75, (.invokevirtual 92), 3), (78, (.ifCond .ne 16), 3), (81, (.aload 7), 2), (83, (.invokevirtual 92), 3), (86, (.ifCond .ne 8), 3), (89, (.iload 8), 2), (91, (.ifCond .eq 10), 3), (94, (.aload_n 0), 1), (95, (.bipush (-3)), 2), (97, (.invokevirtual 72), 3), (100, .ireturn, 1), (101, (.aload 6), 2), (103, (.invokevirtual 88), 3), (106, (.ifCond .eq 11), 3), (109, (.aload 7), 2), (111, (.invokevirtual 88), 3), (114, (.ifCond .ne 10), 3), (117, (.aload_n 0), 1), (118, (.bipush (-4)), 2), (120, (.invokevirtual 72), 3), (123, .ireturn, 1), (124, (.aload 6), 2), (126, (.iload_n 3), 1), (127, (.iload 5), 2), (129, (.invokevirtual 119), 3), (132, (.ifCond .eq 15), 3), (135, (.aload 7), 2), (137, (.iload 4), 2), (139, (.iload 5), 2), (141, (.invokevirtual 119), 3), (144, (.ifCond .ne 10), 3), (147, (.aload_n 0), 1), (148, (.bipush (-2)), 2), (150, (.invokevirtual 72), 3), (153, .ireturn, 1), (154, (.aload 6), 2), (156, (.getfield 123), 3), (159, (.iload_n 3), 1), (160, (.aload 7), 2), (162, (.getfield 123), 3), (165, (.iload 4), 2), (167, (.iload 5), 2), (169, (.invokestatic 127), 3), (172, (.iload 5), 2), (174, .ireturn, 1)]
theorem cto84 : ∀ q ∈ ct84, decode cX8_copy q.1 = .ok (q.2.1, q.2.2) := by decide +kernel
/-- X8_element -/
def ct85 : List (Nat × Instr × Nat) := [(0, (.iload_n 1), 1), (1, (.invokestatic 98), 3), (4, (.ifCond .eq 28), 3), (7, (.aload_n 0), 1), (8, (.getfield 35), 3), (11, (.iload_n 1), 1), (12, .aaload, 1), (13, (.invokevirtual 88), 3), (16, (.ifCond .eq 16), 3), (19, (.aload_n 0), 1), (20, (.getfield 35), 3), (23, (.iload_n 1), 1), (24, .aaload, 1), (25, (.iload_n 2), 1), (26, (.invokevirtual 109), 3), (29, (.ifCond .ne 5), 3), (32, (.lconst 0), 1), (33, .lreturn, 1), (34, (.aload_n 0), 1), (35, (.getfield 35), 3), (38, (.iload_n 1), 1), (39, .aaload, 1), (40, (.getfield 123), 3), (43, (.iload_n 2), 1), (44, .laload, 1), (45, .lreturn, 1)]
theorem cto85 : ∀ q ∈ ct85, decode cX8_element q.1 = .ok (q.2.1, q.2.2) := by decide +kernel
/-- X8_holds -/
def ct86 : List (Nat × Instr × Nat) := [(0, (.iload_n 1), 1), (1, (.invokestatic 98), 3), (4, (.ifCond .eq 15), 3), (7, (.aload_n 0), 1), (8, (.getfield 35), 3), (11, (.iload_n 1), 1), (12, .aaload, 1), (13, (.getfield 116), 3), (16, (.goto 4), 3), (19, (.iconst (-1)), 1), (20, .ireturn, 1)]
theorem cto86 : ∀ q ∈ ct86, decode cX8_holds q.1 = .ok (q.2.1, q.2.2) := by decide +kernel
/-- X8_rule -/
def ct87 : List (Nat × Instr × Nat) := [(0, (.iload_n 1), 1), (1, (.invokestatic 98), 3), (4, (.ifCond .eq 23), 3), (7, (.iload_n 2), 1), (8, (.iconst 1), 1), (9, (.bipush 6), 2), (11, (.invokestatic 76), 3), (14, (.ifCond .eq 13), 3), (17, (.iload_n 3), 1), (18, (.iconst 0), 1), (19, (.bipush 99), 2), (21, (.invokestatic 76), 3), (24, (.ifCond .ne 10), 3), (27, (.aload_n 0), 1), (28, (.bipush (-2)), 2), (30, (.invokevirtual 72), 3), (33, .ireturn, 1), (34, (.aload_n 0), 1), (35, (.getfield 35), 3), (38, (.iload_n 1), 1), (39, .aaload, 1), (40, (.iload_n 2), 1), (41, (.iload_n 3), 1), (42, (.invokevirtual 133), 3), (45, (.iconst 1), 1), (46, .ireturn, 1)]
theorem cto87 : ∀ q ∈ ct87, decode cX8_rule q.1 = .ok (q.2.1, q.2.2) := by decide +kernel
/-- X8_says -/
def ct88 : List (Nat × Instr × Nat) := [(0, (.iload_n 1), 1), (1, (.invokestatic 98), 3), (4, (.ifCond .eq 13), 3), (7, (.iload_n 2), 1), (8, (.iconst 0), 1), (9, (.bipush 6), 2), (11, (.invokestatic 76), 3), (14, (.ifCond .ne 10), 3), (17, (.aload_n 0), 1), (18, (.bipush (-2)), 2), (20, (.invokevirtual 72), 3), (23, .ireturn, 1), (24, (.aload_n 0), 1), (25, (.iload_n 1), 1), (26, (.iload_n 1), 1), (27, (.invokevirtual 136), 3), (30, (.istore_n 3), 1), (31, (.iload_n 3), 1), (32, (.ifCond .eq 9), 3), (35, (.aload_n 0), 1), (36, (.iload_n 3), 1), (37, (.invokevirtual 72), 3), (40, .ireturn, 1), (41, (.aload_n 0), 1), (42, (.getfield 35), 3), (45, (.iload_n 1), 1), (46, .aaload, 1), (47, (.astore 4), 2), (49, (.aload 4), 2), (51, (.invokevirtual 139), 3), (54, (.iload_n 2), 1), (55, (.invokestatic 143), 3), (58, (.ifCond .ne 10), 3), (61, (.aload_n 0), 1), (62, (.bipush (-3)), 2), (64, (.invokevirtual 72), 3), (67, .ireturn, 1), (68, (.iload_n 2), 1), (69, (.ifCond .ne 11), 3), (72, (.aload 4), 2), (74, (.getfield 146), 3), (77, (.goto 19), 3), (80, (.aload_n 0), 1), (81, (.getfield 53), 3), (84, (.aload 4), 2), (86, (.aload_n 0), 1), (87, (.getfield 12), 3), (90, (.getfield 149), 3), (93, (.invokevirtual 152), 3), (96, .ireturn, 1)]
theorem cto88 : ∀ q ∈ ct88, decode cX8_says q.1 = .ok (q.2.1, q.2.2) := by decide +kernel
/-- X8_act -/
def ct89 : List (Nat × Instr × Nat) := [(0, (.iload_n 1), 1), (1, (.iconst 0), 1), (2, (.iconst 5), 1), (3, (.invokestatic 76), 3), (6, (.ifCond .eq 26), 3), (9, (.iload_n 2), 1), (10, (.iconst 0), 1), (11, (.bipush 7), 2), (13, (.invokestatic 76), 3), (16, (.ifCond .eq 16), 3), (19, (.iload_n 3), 1), (20, (.iconst 0), 1), (21, (.iconst 3), 1), (22, (.invokestatic 76), 3), (25, (.ifCond .eq 7), 3), (28, (.iconst 1), 1), (29, (.goto 4), 3), (32, (.iconst 0), 1), (33, (.istore 7), 2), (35, (.iload 5), 2), (37, (.iconst 0), 1), (38, (.sipush 255), 3), (41, (.invokestatic 76), 3), (44, (.ifCond .eq 19), 3), (47, (.iload 6), 2), (49, (.iconst 0), 1), (50, (.sipush 255), 3), (53, (.invokestatic 76), 3), (56, (.ifCond .eq 7), 3), (59, (.iconst 1), 1), (60, (.goto 4), 3), (63, (.iconst 0), 1), (64, (.istore 8), 2), (66, (.iload 7), 2), (68, (.ifCond .eq 19), 3), (71, (.iload 4), 2), (73, (.iconst 1), 1), (74, (.bipush 9), 2), (76, (.invokestatic 76), 3), (79, (.ifCond .eq 8), 3), (82, (.iload 8), 2), (84, (.ifCond .ne 10), 3), (87, (.aload_n 0), 1), (88, (.bipush (-2)), 2), (90, (.invokevirtual 72), 3), (93, .ireturn, 1), (94, (.aload_n 0), 1), (95, (.getfield 12), 3), (98, (.invokevirtual 156), 3), (101, (.ifCond .eq 10), 3), (104, (.aload_n 0), 1), (105, (.bipush (-6)), 2), (107, (.invokevirtual 72), 3), (110, .ireturn, 1), (111, (.aload_n 0), 1), (112, (.getfield 12), 3), (115, (.iconst 0), 1), (116, (.putfield 159), 3), (119, (.aload_n 0), 1), (120, (.getfield 12), 3), (123, (.iload_n 1), 1), (124, (.iload_n 2), 1), (125, (.iload_n 3), 1), (126, (.iload 4), 2), (128, (.iload 5), 2), (130, (.iload 6), 2), (132, (.invokevirtual 162), 3), (135, .ireturn, 1)]
theorem cto89 : ∀ q ∈ ct89, decode cX8_act q.1 = .ok (q.2.1, q.2.2) := by decide +kernel
/-- X8_mark -/
def ct90 : List (Nat × Instr × Nat) := [(0, (.iload_n 1), 1), (1, (.iconst 0), 1), (2, (.bipush 7), 2), (4, (.invokestatic 76), 3), (7, (.ifCond .ne 10), 3), (10, (.aload_n 0), 1), (11, (.bipush (-2)), 2), (13, (.invokevirtual 72), 3), (16, .ireturn, 1), (17, (.aload_n 0), 1), (18, (.getfield 12), 3), (21, (.iconst 0), 1), (22, (.putfield 159), 3), (25, (.aload_n 0), 1), (26, (.getfield 12), 3), (29, (.getfield 149), 3), (32, (.iload_n 1), 1), (33, (.invokestatic 166), 3), (36, (.iload_n 2), 1), (37, (.if_icmp .ne 5), 3), (40, (.iconst 0), 1), (41, .ireturn, 1), (42, (.aload_n 0), 1), (43, (.getfield 12), 3), (46, (.aload_n 0), 1), (47, (.getfield 12), 3), (50, (.getfield 149), 3), (53, (.iload_n 1), 1), (54, (.invokestatic 171), 3), (57, (.putfield 149), 3), (60, (.iconst 1), 1), (61, .ireturn, 1)]
theorem cto90 : ∀ q ∈ ct90, decode cX8_mark q.1 = .ok (q.2.1, q.2.2) := by decide +kernel
/-- X8_count -/
def ct91 : List (Nat × Instr × Nat) := [(0, (.iload_n 1), 1), (1, (.iconst 0), 1), (2, (.iconst 3), 1), (3, (.invokestatic 76), 3), (6, (.ifCond .eq 13), 3), (9, (.iload_n 2), 1), (10, (.iconst 0), 1), (11, (.bipush 23), 2), (13, (.invokestatic 76), 3), (16, (.ifCond .ne 10), 3), (19, (.aload_n 0), 1), (20, (.bipush (-2)), 2), (22, (.invokevirtual 72), 3), (25, .ireturn, 1), (26, (.aload_n 0), 1), (27, (.getfield 12), 3), (30, (.iconst 0), 1), (31, (.putfield 159), 3), (34, (.aload_n 0), 1), (35, (.getfield 12), 3), (38, (.getfield 149), 3), (41, (.iload_n 1), 1), (42, (.invokestatic 174), 3), (45, (.istore_n 3), 1), (46, (.aload_n 0), 1), (47, (.getfield 12), 3), (50, (.aload_n 0), 1), (51, (.getfield 12), 3), (54, (.getfield 149), 3), (57, (.iload_n 1), 1), (58, (.iload_n 2), 1), (59, (.invokestatic 177), 3), (62, (.putfield 149), 3), (65, (.iload_n 3), 1), (66, .ireturn, 1)]
theorem cto91 : ∀ q ∈ ct91, decode cX8_count q.1 = .ok (q.2.1, q.2.2) := by decide +kernel
/-- X8_likes -/
def ct92 : List (Nat × Instr × Nat) := [(0, (.iload_n 1), 1), (1, (.invokestatic 181), 3), (4, (.ifCond .eq 13), 3), (7, (.iload_n 2), 1), (8, (.iconst 0), 1), (9, (.bipush 11), 2), (11, (.invokestatic 76), 3), (14, (.ifCond .ne 10), 3), (17, (.aload_n 0), 1), (18, (.bipush (-2)), 2), (20, (.invokevirtual 72), 3), (23, .ireturn, 1), (24, (.iload_n 2), 1), (25, (.bipush 8), 2), (27, (.if_icmp .ge 8), 3), (30, (.bipush 99), 2), (32, (.goto 5), 3), (35, (.bipush 9), 2), (37, (.istore 4), 2), (39, (.iload_n 3), 1), (40, (.iload 4), 2), (42, .ineg, 1), (43, (.iload 4), 2), (45, (.invokestatic 76), 3), (48, (.ifCond .ne 10), 3), (51, (.aload_n 0), 1), (52, (.bipush (-2)), 2), (54, (.invokevirtual 72), 3), (57, .ireturn, 1), (58, (.aload_n 0), 1), (59, (.getfield 12), 3), (62, (.iload_n 1), 1), (63, (.iload_n 2), 1), (64, (.iload_n 3), 1), (65, (.invokevirtual 184), 3), (68, (.iconst 1), 1), (69, .ireturn, 1)]
theorem cto92 : ∀ q ∈ ct92, decode cX8_likes q.1 = .ok (q.2.1, q.2.2) := by decide +kernel
/-- X8_lock -/
def ct93 : List (Nat × Instr × Nat) := [(0, (.iload_n 1), 1), (1, (.invokestatic 181), 3), (4, (.ifCond .eq 11), 3), (7, (.aload_n 0), 1), (8, (.iload_n 2), 1), (9, (.invokevirtual 84), 3), (12, (.ifCond .ne 10), 3), (15, (.aload_n 0), 1), (16, (.bipush (-2)), 2), (18, (.invokevirtual 72), 3), (21, .ireturn, 1), (22, (.aload_n 0), 1), (23, (.getfield 12), 3), (26, (.iconst 0), 1), (27, (.putfield 159), 3), (30, (.aload_n 0), 1), (31, (.getfield 12), 3), (34, (.iload_n 1), 1), (35, (.iload_n 2), 1), (36, (.invokevirtual 188), 3), (39, (.iload_n 3), 1), (40, (.if_icmp .ne 5), 3), (43, (.iconst 0), 1), (44, .ireturn, 1), (45, (.aload_n 0), 1), (46, (.getfield 12), 3), (49, (.iload_n 1), 1), (50, (.iload_n 2), 1), (51, (.iload_n 3), 1), (52, (.invokevirtual 191), 3), (55, (.iconst 1), 1), (56, .ireturn, 1)]
theorem cto93 : ∀ q ∈ ct93, decode cX8_lock q.1 = .ok (q.2.1, q.2.2) := by decide +kernel
/-- X8_hide -/
def ct94 : List (Nat × Instr × Nat) := [(0, (.iload_n 1), 1), (1, (.iconst 0), 1), (2, (.sipush 255), 3), (5, (.invokestatic 76), 3), (8, (.ifCond .ne 10), 3), (11, (.aload_n 0), 1), (12, (.bipush (-2)), 2), (14, (.invokevirtual 72), 3), (17, .ireturn, 1), (18, (.aload_n 0), 1), (19, (.getfield 12), 3), (22, (.getfield 195), 3), (25, (.istore_n 2), 1), (26, (.aload_n 0), 1), (27, (.getfield 12), 3), (30, (.iload_n 1), 1), (31, (.putfield 195), 3), (34, (.iload_n 2), 1), (35, .ireturn, 1)]
theorem cto94 : ∀ q ∈ ct94, decode cX8_hide q.1 = .ok (q.2.1, q.2.2) := by decide +kernel
/-- X8_feed -/
def ct95 : List (Nat × Instr × Nat) := [(0, (.iload_n 1), 1), (1, (.iconst 0), 1), (2, (.sipush 255), 3), (5, (.invokestatic 76), 3), (8, (.ifCond .ne 10), 3), (11, (.aload_n 0), 1), (12, (.bipush (-2)), 2), (14, (.invokevirtual 72), 3), (17, .ireturn, 1), (18, (.aload_n 0), 1), (19, (.getfield 29), 3), (22, (.getfield 198), 3), (25, (.sipush 250), 3), (28, (.if_icmp .lt 10), 3), (31, (.aload_n 0), 1), (32, (.bipush (-6)), 2), (34, (.invokevirtual 72), 3), (37, .ireturn, 1), (38, (.aload_n 0), 1), (39, (.getfield 29), 3), (42, (.iload_n 1), 1), (43, (.invokevirtual 199), 3), (46, (.aload_n 0), 1), (47, (.getfield 29), 3), (50, (.getfield 198), 3), (53, .ireturn, 1)]
theorem cto95 : ∀ q ∈ ct95, decode cX8_feed q.1 = .ok (q.2.1, q.2.2) := by decide +kernel
/-- X8_wipe -/
def ct96 : List (Nat × Instr × Nat) := [(0, (.aload_n 0), 1), (1, (.getfield 29), 3), (4, (.getfield 198), 3), (7, (.istore_n 1), 1), (8, (.aload_n 0), 1), (9, (.getfield 29), 3), (12, (.iconst 0), 1), (13, (.putfield 198), 3), (16, (.iload_n 1), 1), (17, .ireturn, 1)]
theorem cto96 : ∀ q ∈ ct96, decode cX8_wipe q.1 = .ok (q.2.1, q.2.2) := by decide +kernel
/-- X8_town -/
def ct97 : List (Nat × Instr × Nat) := [(0, (.aload_n 0), 1), (1, (.getfield 19), 3), (4, (.aload_n 0), 1), (5, (.getfield 12), 3), (8, (.invokevirtual 203), 3), (11, (.aload_n 0), 1), (12, (.getfield 29), 3), (15, (.aload_n 0), 1), (16, (.getfield 19), 3), (19, (.invokevirtual 206), 3), (22, (.istore_n 1), 1), (23, (.aload_n 0), 1), (24, (.getfield 29), 3), (27, (.getfield 210), 3), (30, (.istore_n 2), 1), (31, (.aload_n 0), 1), (32, (.getfield 29), 3), (35, (.iconst 0), 1), (36, (.putfield 198), 3), (39, (.iload_n 1), 1), (40, (.iconst (-1)), 1), (41, (.if_icmp .ne 15), 3), (44, (.aload_n 0), 1), (45, (.bipush (-2)), 2), (47, (.invokevirtual 72), 3), (50, .pop, 1), (51, (.bipush (-20)), 2), (53, (.iload_n 2), 1), (54, .isub, 1), (55, .ireturn, 1), (56, (.aload_n 0), 1), (57, (.getfield 12), 3), (60, (.aload_n 0), 1), (61, (.getfield 19), 3), (64, (.invokevirtual 203), 3), (67, (.aload_n 0), 1), (68, (.getfield 12), 3), (71, (.iconst 0), 1), (72, (.putfield 159), 3), (75, (.iload_n 1), 1), (76, .ireturn, 1)]
theorem cto97 : ∀ q ∈ ct97, decode cX8_town q.1 = .ok (q.2.1, q.2.2) := by decide +kernel
/-- X8_actOf -/
def ct98 : List (Nat × Instr × Nat) := [(0, (.aload_n 0), 1), (1, (.iload_n 1), 1), (2, (.invokevirtual 84), 3), (5, (.ifCond .eq 13), 3), (8, (.iload_n 2), 1), (9, (.iconst 0), 1), (10, (.bipush 6), 2), (12, (.invokestatic 76), 3), (15, (.ifCond .ne 10), 3), (18, (.aload_n 0), 1), (19, (.bipush (-2)), 2), (21, (.invokevirtual 72), 3), (24, .ireturn, 1), (25, (.iload_n 2), 1), (26, (.tableswitch 98 0 5 #[38, 48, 58, 68, 78, 88]), 38), (64, (.aload_n 0), 1), (65, (.getfield 12), 3), (68, (.getfield 213), 3), (71, (.iload_n 1), 1), (72, .iaload, 1), (73, .ireturn, 1), (74, (.aload_n 0), 1), (75, (.getfield 12), 3), (78, (.getfield 216), 3), (81, (.iload_n 1), 1), (82, .iaload, 1), (83, .ireturn, 1), (84, (.aload_n 0), 1), (85, (.getfield 12), 3), (88, (.getfield 219), 3), (91, (.iload_n 1), 1), (92, .iaload, 1), (93, .ireturn, 1), (94, (.aload_n 0), 1), (95, (.getfield 12), 3), (98, (.getfield 222), 3), (101, (.iload_n 1), 1), (102, .iaload, 1), (103, .ireturn, 1), (104, (.aload_n 0), 1), (105, (.getfield 12), 3), (108, (.getfield 225), 3), (111, (.iload_n 1), 1), (112, .iaload, 1), (113, .ireturn, 1), (114, (.aload_n 0), 1), (115, (.getfield 12), 3), (118, (.getfield 228), 3), (121, (.iload_n 1), 1), (122, .iaload, 1), (123, .ireturn, 1), (124, (.aload_n 0), 1), (125, (.getfield 12), 3), (128, (.getfield 231), 3), (131, (.iload_n 1), 1), (132, .iaload, 1), (133, .ireturn, 1)]
theorem cto98 : ∀ q ∈ ct98, decode cX8_actOf q.1 = .ok (q.2.1, q.2.2) := by decide +kernel
/-- X8_worthOf -/
def ct99 : List (Nat × Instr × Nat) := [(0, (.iload_n 1), 1), (1, (.invokestatic 181), 3), (4, (.ifCond .eq 13), 3), (7, (.iload_n 2), 1), (8, (.iconst 0), 1), (9, (.bipush 11), 2), (11, (.invokestatic 76), 3), (14, (.ifCond .ne 10), 3), (17, (.aload_n 0), 1), (18, (.bipush (-2)), 2), (20, (.invokevirtual 234), 3), (23, .ireturn, 1), (24, (.aload_n 0), 1), (25, (.getfield 12), 3), (28, (.getfield 237), 3), (31, (.iload_n 1), 1), (32, (.bipush 12), 2), (34, .imul, 1), (35, (.iload_n 2), 1), (36, .iadd, 1), (37, .iaload, 1), (38, .ireturn, 1)]
theorem cto99 : ∀ q ∈ ct99, decode cX8_worthOf q.1 = .ok (q.2.1, q.2.2) := by decide +kernel
/-- X8_stands -/
def ct100 : List (Nat × Instr × Nat) := [(0, (.iload_n 1), 1), (1, (.iconst 0), 1), (2, (.bipush 6), 2), (4, (.invokestatic 76), 3), (7, (.ifCond .ne 10), 3), (10, (.aload_n 0), 1), (11, (.bipush (-2)), 2), (13, (.invokevirtual 72), 3), (16, .ireturn, 1), (17, (.iload_n 1), 1), (18, (.lookupswitch 64 #[(0, 34), (1, 45), (6, 53)]), 34), (52, (.aload_n 0), 1), (53, (.getfield 12), 3), (56, (.getfield 149), 3), (59, (.invokestatic 240), 3), (62, .ireturn, 1), (63, (.aload_n 0), 1), (64, (.getfield 12), 3), (67, (.getfield 195), 3), (70, .ireturn, 1), (71, (.aload_n 0), 1), (72, (.getfield 12), 3), (75, (.getfield 149), 3), (78, (.invokestatic 243), 3), (81, .ireturn, 1), (82, (.aload_n 0), 1), (83, (.getfield 12), 3), (86, (.getfield 149), 3), (89, (.iload_n 1), 1), (90, (.iconst 2), 1), (91, .isub, 1), (92, (.invokestatic 174), 3), (95, .ireturn, 1)]
theorem cto100 : ∀ q ∈ ct100, decode cX8_stands q.1 = .ok (q.2.1, q.2.2) := by decide +kernel
/-- X8_can -/
def ct101 : List (Nat × Instr × Nat) := [(0, (.iload_n 1), 1), (1, (.invokestatic 181), 3), (4, (.ifCond .ne 10), 3), (7, (.aload_n 0), 1), (8, (.bipush (-2)), 2), (10, (.invokevirtual 72), 3), (13, .ireturn, 1), (14, (.iconst 0), 1), (15, (.istore_n 2), 1), (16, (.iconst 0), 1), (17, (.istore_n 3), 1), (18, (.iload_n 3), 1), (19, (.aload_n 0), 1), (20, (.getfield 12), 3), (23, (.getfield 80), 3), (26, (.if_icmp .ge 34), 3), (29, (.aload_n 0), 1), (30, (.getfield 12), 3), (33, (.iload_n 3), 1), (34, (.iload_n 1), 1), (35, (.aload_n 0), 1), (36, (.getfield 12), 3), (39, (.getfield 149), 3), (42, (.invokevirtual 246), 3), (45, (.ifCond .eq 9), 3), (48, (.iload_n 2), 1), (49, (.iconst 1), 1), (50, (.iload_n 3), 1), (51, .ishl, 1), (52, .ior, 1), (53, (.istore_n 2), 1), (54, (.iinc 3 1), 3), (57, (.goto (-39)), 3), (60, (.iload_n 2), 1), (61, .ireturn, 1)]
theorem cto101 : ∀ q ∈ ct101, decode cX8_can q.1 = .ok (q.2.1, q.2.2) := by decide +kernel
/-- X8_value -/
def ct102 : List (Nat × Instr × Nat) := [(0, (.iload_n 1), 1), (1, (.invokestatic 181), 3), (4, (.ifCond .ne 10), 3), (7, (.aload_n 0), 1), (8, (.bipush (-2)), 2), (10, (.invokevirtual 234), 3), (13, .ireturn, 1), (14, (.aload_n 0), 1), (15, (.getfield 12), 3), (18, (.iload_n 1), 1), (19, (.aload_n 0), 1), (20, (.getfield 12), 3), (23, (.getfield 149), 3), (26, (.invokevirtual 249), 3), (29, .ireturn, 1)]
theorem cto102 : ∀ q ∈ ct102, decode cX8_value q.1 = .ok (q.2.1, q.2.2) := by decide +kernel
/-- X8_gain -/
def ct103 : List (Nat × Instr × Nat) := [(0, (.aload_n 0), 1), (1, (.iload_n 1), 1), (2, (.invokevirtual 252), 3), (5, (.ifCond .ne 10), 3), (8, (.aload_n 0), 1), (9, (.bipush (-2)), 2), (11, (.invokevirtual 234), 3), (14, .ireturn, 1), (15, (.aload_n 0), 1), (16, (.getfield 12), 3), (19, (.getfield 149), 3), (22, (.invokestatic 243), 3), (25, (.istore_n 2), 1), (26, (.aload_n 0), 1), (27, (.getfield 12), 3), (30, (.iload_n 1), 1), (31, (.iload_n 2), 1), (32, (.aload_n 0), 1), (33, (.getfield 12), 3), (36, (.getfield 149), 3), (39, (.invokevirtual 246), 3), (42, (.ifCond .ne 10), 3), (45, (.aload_n 0), 1), (46, (.bipush (-5)), 2), (48, (.invokevirtual 234), 3), (51, .ireturn, 1), (52, (.aload_n 0), 1), (53, (.getfield 12), 3), (56, (.iload_n 2), 1), (57, (.aload_n 0), 1), (58, (.getfield 12), 3), (61, (.iload_n 1), 1), (62, (.aload_n 0), 1), (63, (.getfield 12), 3), (66, (.getfield 149), 3), (69, (.invokevirtual 255), 3), (72, (.invokevirtual 249), 3), (75, .ireturn, 1)]
theorem cto103 : ∀ q ∈ ct103, decode cX8_gain q.1 = .ok (q.2.1, q.2.2) := by decide +kernel
/-- X8_does -/
def ct104 : List (Nat × Instr × Nat) := [(0, (.aload_n 0), 1), (1, (.iload_n 1), 1), (2, (.invokevirtual 252), 3), (5, (.ifCond .ne 10), 3), (8, (.aload_n 0), 1), (9, (.bipush (-2)), 2), (11, (.invokevirtual 72), 3), (14, .ireturn, 1), (15, (.aload_n 0), 1), (16, (.getfield 12), 3), (19, (.iload_n 1), 1), (20, (.aload_n 0), 1), (21, (.getfield 12), 3), (24, (.getfield 149), 3), (27, (.invokestatic 243), 3), (30, (.aload_n 0), 1), (31, (.getfield 12), 3), (34, (.getfield 149), 3), (37, (.invokevirtual 246), 3), (40, (.ifCond .ne 10), 3), (43, (.aload_n 0), 1), (44, (.bipush (-5)), 2), (46, (.invokevirtual 72), 3), (49, .ireturn, 1), (50, (.aload_n 0), 1), (51, (.getfield 12), 3), (54, (.iload_n 1), 1), (55, (.invokevirtual 258), 3), (58, (.aload_n 0), 1), (59, (.getfield 12), 3), (62, (.getfield 261), 3), (65, .ireturn, 1)]
theorem cto104 : ∀ q ∈ ct104, decode cX8_does q.1 = .ok (q.2.1, q.2.2) := by decide +kernel
/-- X8_next -/
def ct105 : List (Nat × Instr × Nat) := [(0, (.iload_n 1), 1), (1, (.invokestatic 98), 3), (4, (.ifCond .ne 10), 3), (7, (.aload_n 0), 1), (8, (.bipush (-2)), 2), (10, (.invokevirtual 72), 3), (13, .ireturn, 1), (14, (.aload_n 0), 1), (15, (.iload_n 1), 1), (16, (.iload_n 1), 1), (17, (.invokevirtual 136), 3), (20, (.istore_n 2), 1), (21, (.iload_n 2), 1), (22, (.ifCond .eq 9), 3), (25, (.aload_n 0), 1), (26, (.iload_n 2), 1), (27, (.invokevirtual 72), 3), (30, .ireturn, 1), (31, (.aload_n 0), 1), (32, (.getfield 53), 3), (35, (.aload_n 0), 1), (36, (.getfield 35), 3), (39, (.iload_n 1), 1), (40, .aaload, 1), (41, (.aload_n 0), 1), (42, (.getfield 12), 3), (45, (.getfield 149), 3), (48, (.invokevirtual 152), 3), (51, .ireturn, 1)]
theorem cto105 : ∀ q ∈ ct105, decode cX8_next q.1 = .ok (q.2.1, q.2.2) := by decide +kernel
/-- X8_run -/
def ct106 : List (Nat × Instr × Nat) := [(0, (.iload_n 1), 1), (1, (.invokestatic 98), 3), (4, (.ifCond .eq 30), 3), (7, (.iload_n 2), 1), (8, (.invokestatic 98), 3), (11, (.ifCond .eq 23), 3), (14, (.iload_n 3), 1), (15, (.iconst 0), 1), (16, (.bipush 60), 2), (18, (.invokestatic 76), 3), (21, (.ifCond .eq 13), 3), (24, (.iload 4), 2), (26, (.iconst 0), 1), (27, (.iconst 4), 1), (28, (.invokestatic 76), 3), (31, (.ifCond .ne 10), 3), (34, (.aload_n 0), 1), (35, (.bipush (-2)), 2), (37, (.invokevirtual 234), 3), (40, .ireturn, 1), (41, (.aload_n 0), 1), (42, (.iload_n 1), 1), (43, (.iload_n 2), 1), (44, (.invokevirtual 136), 3), (47, (.istore 5), 2), (49, (.iload 5), 2), (51, (.ifCond .eq 10), 3), (54, (.aload_n 0), 1), (55, (.iload 5), 2), (57, (.invokevirtual 234), 3), (60, .ireturn, 1), (61, (.aload_n 0), 1), (62, (.getfield 12), 3), (65, (.getfield 149), 3), (68, (.invokestatic 243), 3), (71, (.ifCond .ne 7), 3), (74, (.iconst 1), 1), (75, (.goto 4), 3), (78, (.iconst 0), 1), (79, (.istore 6), 2), (81, (.aload_n 0), 1), (82, (.getfield 62), 3), (85, (.aload_n 0), 1), (86, (.getfield 35), 3), (89, (.iload 6), 2), (91, (.ifCond .eq 7), 3), (94, (.iload_n 1), 1), (95, (.goto 4), 3), (98, (.iload_n 2), 1), (99, .aaload, 1), (100, (.aload_n 0), 1), (101, (.getfield 35), 3), (104, (.iload 6), 2), (106, (.ifCond .eq 7), 3), (109, (.iload_n 2), 1), (110, (.goto 4), 3), (113, (.iload_n 1), 1), (114, .aaload, 1), (115, (.iload_n 3), 1), (116, (.invokevirtual 264), 3), (119, (.iload 4), 2), (121, (.tableswitch 54 2 4 #[27, 38, 46]), 27), (148, (.aload_n 0), 1), (149, (.getfield 62), 3), (152, (.getfield 268), 3), (155, (.invokestatic 240), 3), (158, .ireturn, 1), (159, (.aload_n 0), 1), (160, (.getfield 62), 3), (163, (.getfield 269), 3), (166, .ireturn, 1), (167, (.aload_n 0), 1), (168, (.getfield 62), 3), (171, (.getfield 272), 3), (174, .ireturn, 1), (175, (.aload_n 0), 1), (176, (.getfield 62), 3), (179, (.getfield 275), 3), (182, (.iload 4), 2), (184, .iaload, 1), (185, .ireturn, 1)]
theorem cto106 : ∀ q ∈ ct106, decode cX8_run q.1 = .ok (q.2.1, q.2.2) := by decide +kernel
/-- X8_head -/
def ct107 : List (Nat × Instr × Nat) := [(0, (.iload_n 1), 1), (1, (.invokestatic 98), 3), (4, (.ifCond .eq 13), 3), (7, (.iload_n 2), 1), (8, (.iconst 1), 1), (9, (.bipush 60), 2), (11, (.invokestatic 76), 3), (14, (.ifCond .ne 10), 3), (17, (.aload_n 0), 1), (18, (.bipush (-2)), 2), (20, (.invokevirtual 72), 3), (23, .ireturn, 1), (24, (.aload_n 0), 1), (25, (.iload_n 1), 1), (26, (.iload_n 1), 1), (27, (.invokevirtual 136), 3), (30, (.istore_n 3), 1), (31, (.iload_n 3), 1), (32, (.ifCond .eq 9), 3), (35, (.aload_n 0), 1), (36, (.iload_n 3), 1), (37, (.invokevirtual 72), 3), (40, .ireturn, 1), (41, (.iconst (-1)), 1), (42, (.istore 4), 2), (44, (.ldc_w 278), 3), (47, (.istore 5), 2), (49, (.iconst 0), 1), (50, (.istore 6), 2), (52, (.iload 6), 2), (54, (.bipush 8), 2), (56, (.if_icmp .ge 78), 3), (59, (.aload_n 0), 1), (60, (.getfield 35), 3), (63, (.iload 6), 2), (65, .aaload, 1), (66, (.invokevirtual 92), 3), (69, (.ifCond .eq 59), 3), (72, (.aload_n 0), 1), (73, (.getfield 62), 3), (76, (.aload_n 0), 1), (77, (.getfield 35), 3), (80, (.iload 6), 2), (82, .aaload, 1), (83, (.aload_n 0), 1), (84, (.getfield 35), 3), (87, (.iload_n 1), 1), (88, .aaload, 1), (89, (.iload_n 2), 1), (90, (.invokevirtual 264), 3), (93, (.aload_n 0), 1), (94, (.getfield 62), 3), (97, (.getfield 275), 3), (100, (.aload_n 0), 1), (101, (.getfield 12), 3), (104, (.getfield 149), 3), (107, (.invokestatic 243), 3), (110, .iaload, 1), (111, (.istore 7), 2), (113, (.iload 7), 2), (115, (.iload 5), 2), (117, (.if_icmp .le 11), 3), (120, (.iload 7), 2), (122, (.istore 5), 2), (124, (.iload 6), 2), (126, (.istore 4), 2), (128, (.iinc 6 1), 3), (131, (.goto (-79)), 3), (134, (.iload 4), 2), (136, .ireturn, 1)]
theorem cto107 : ∀ q ∈ ct107, decode cX8_head q.1 = .ok (q.2.1, q.2.2) := by decide +kernel
/-- X8_days -/
def ct108 : List (Nat × Instr × Nat) := [(0, (.iload_n 1), 1), (1, (.invokestatic 98), 3), (4, (.ifCond .eq 20), 3), (7, (.iload_n 2), 1), (8, (.invokestatic 98), 3), (11, (.ifCond .eq 13), 3), (14, (.iload_n 3), 1), (15, (.iconst 1), 1), (16, (.bipush 20), 2), (18, (.invokestatic 76), 3), (21, (.ifCond .ne 10), 3), (24, (.aload_n 0), 1), (25, (.bipush (-2)), 2), (27, (.invokevirtual 72), 3), (30, .ireturn, 1), (31, (.aload_n 0), 1), (32, (.iload_n 1), 1), (33, (.iload_n 2), 1), (34, (.invokevirtual 136), 3), (37, (.istore 4), 2), (39, (.iload 4), 2), (41, (.ifCond .eq 10), 3), (44, (.aload_n 0), 1), (45, (.iload 4), 2), (47, (.invokevirtual 72), 3), (50, .ireturn, 1), (51, (.iconst 0), 1), (52, (.istore 5), 2), (54, (.iload 5), 2), (56, (.iload_n 3), 1), (57, (.if_icmp .ge 62), 3), (60, (.aload_n 0), 1), (61, (.getfield 12), 3), (64, (.getfield 149), 3), (67, (.invokestatic 243), 3), (70, (.ifCond .ne 12), 3), (73, (.aload_n 0), 1), (74, (.getfield 35), 3), (77, (.iload_n 1), 1), (78, .aaload, 1), (79, (.goto 9), 3), (82, (.aload_n 0), 1), (83, (.getfield 35), 3), (86, (.iload_n 2), 1), (87, .aaload, 1), (88, (.astore 6), 2), (90, (.aload_n 0), 1), (91, (.getfield 12), 3), (94, (.aload_n 0), 1), (95, (.getfield 53), 3), (98, (.aload 6), 2), (100, (.aload_n 0), 1), (101, (.getfield 12), 3), (104, (.getfield 149), 3), (107, (.invokevirtual 152), 3), (110, (.invokevirtual 258), 3), (113, (.iinc 5 1), 3), (116, (.goto (-62)), 3), (119, (.aload_n 0), 1), (120, (.getfield 12), 3), (123, (.getfield 261), 3), (126, .ireturn, 1)]
theorem cto108 : ∀ q ∈ ct108, decode cX8_days q.1 = .ok (q.2.1, q.2.2) := by decide +kernel
/-- X8_gained -/
def ct109 : List (Nat × Instr × Nat) := [(0, (.iload_n 1), 1), (1, (.iconst 0), 1), (2, (.iconst 2), 1), (3, (.invokestatic 76), 3), (6, (.ifCond .ne 10), 3), (9, (.aload_n 0), 1), (10, (.bipush (-2)), 2), (12, (.invokevirtual 234), 3), (15, .ireturn, 1), (16, (.iload_n 1), 1), (17, (.iconst 2), 1), (18, (.if_icmp .ge 15), 3), (21, (.aload_n 0), 1), (22, (.getfield 12), 3), (25, (.getfield 279), 3), (28, (.iload_n 1), 1), (29, .iaload, 1), (30, (.goto 22), 3), (33, (.aload_n 0), 1), (34, (.getfield 12), 3), (37, (.getfield 279), 3), (40, (.iconst 0), 1), (41, .iaload, 1), (42, (.aload_n 0), 1), (43, (.getfield 12), 3), (46, (.getfield 279), 3), (49, (.iconst 1), 1), (50, .iaload, 1), (51, .iadd, 1), (52, .ireturn, 1)]
theorem cto109 : ∀ q ∈ ct109, decode cX8_gained q.1 = .ok (q.2.1, q.2.2) := by decide +kernel
/-- X8_judge -/
def ct110 : List (Nat × Instr × Nat) := [(0, (.iload_n 1), 1), (1, (.invokestatic 98), 3), (4, (.ifCond .eq 13), 3), (7, (.iload_n 2), 1), (8, (.iconst 0), 1), (9, (.bipush 20), 2), (11, (.invokestatic 76), 3), (14, (.ifCond .ne 10), 3), (17, (.aload_n 0), 1), (18, (.bipush (-2)), 2), (20, (.invokevirtual 72), 3), (23, .ireturn, 1), (24, (.aload_n 0), 1), (25, (.iload_n 1), 1), (26, (.iload_n 2), 1), (27, (.invokevirtual 105), 3), (30, (.istore_n 3), 1), (31, (.iload_n 3), 1), (32, (.ifCond .eq 9), 3), (35, (.aload_n 0), 1), (36, (.iload_n 3), 1), (37, (.invokevirtual 72), 3), (40, .ireturn, 1), (41, (.aload_n 0), 1), (42, (.getfield 62), 3), (45, (.aload_n 0), 1), (46, (.getfield 35), 3), (49, (.iload_n 1), 1), (50, .aaload, 1), (51, (.iload_n 2), 1), (52, (.invokevirtual 280), 3), (55, .ireturn, 1)]
theorem cto110 : ∀ q ∈ ct110, decode cX8_judge q.1 = .ok (q.2.1, q.2.2) := by decide +kernel
/-- X8_told -/
def ct111 : List (Nat × Instr × Nat) := [(0, (.iload_n 1), 1), (1, (.invokestatic 98), 3), (4, (.ifCond .eq 22), 3), (7, (.iload_n 2), 1), (8, (.iconst 0), 1), (9, (.bipush 20), 2), (11, (.invokestatic 76), 3), (14, (.ifCond .eq 12), 3), (17, (.iload_n 3), 1), (18, (.iconst 0), 1), (19, (.iconst 2), 1), (20, (.invokestatic 76), 3), (23, (.ifCond .ne 10), 3), (26, (.aload_n 0), 1), (27, (.bipush (-2)), 2), (29, (.invokevirtual 234), 3), (32, .ireturn, 1), (33, (.aload_n 0), 1), (34, (.iload_n 1), 1), (35, (.iload_n 2), 1), (36, (.invokevirtual 105), 3), (39, (.istore 4), 2), (41, (.iload 4), 2), (43, (.ifCond .eq 10), 3), (46, (.aload_n 0), 1), (47, (.iload 4), 2), (49, (.invokevirtual 234), 3), (52, .ireturn, 1), (53, (.aload_n 0), 1), (54, (.getfield 62), 3), (57, (.aload_n 0), 1), (58, (.getfield 35), 3), (61, (.iload_n 1), 1), (62, .aaload, 1), (63, (.iload_n 2), 1), (64, (.invokevirtual 280), 3), (67, (.iconst (-1)), 1), (68, (.if_icmp .eq 10), 3), (71, (.aload_n 0), 1), (72, (.bipush (-5)), 2), (74, (.invokevirtual 234), 3), (77, .ireturn, 1), (78, (.iload_n 3), 1), (79, (.iconst 2), 1), (80, (.if_icmp .ge 15), 3), (83, (.aload_n 0), 1), (84, (.getfield 62), 3), (87, (.getfield 275), 3), (90, (.iload_n 3), 1), (91, .iaload, 1), (92, (.goto 13), 3), (95, (.aload_n 0), 1), (96, (.getfield 62), 3), (99, (.getfield 268), 3), (102, (.invokestatic 240), 3), (105, .ireturn, 1)]
theorem cto111 : ∀ q ∈ ct111, decode cX8_told q.1 = .ok (q.2.1, q.2.2) := by decide +kernel
/-- X8_best -/
def ct112 : List (Nat × Instr × Nat) := [(0, (.iload_n 1), 1), (1, (.invokestatic 283), 3), (4, (.ifCond .eq 12), 3), (7, (.iload_n 2), 1), (8, (.iconst 0), 1), (9, (.iconst 2), 1), (10, (.invokestatic 76), 3), (13, (.ifCond .ne 10), 3), (16, (.aload_n 0), 1), (17, (.bipush (-2)), 2), (19, (.invokevirtual 234), 3), (22, .ireturn, 1), (23, (.iload_n 2), 1), (24, (.iconst 2), 1), (25, (.if_icmp .ge 22), 3), (28, (.aload_n 0), 1), (29, (.getfield 44), 3), (32, (.iload_n 2), 1), (33, (.aload_n 0), 1), (34, (.getfield 12), 3), (37, (.getfield 149), 3), (40, (.iload_n 1), 1), (41, (.invokevirtual 286), 3), (44, (.goto 18), 3), (47, (.aload_n 0), 1), (48, (.getfield 44), 3), (51, (.aload_n 0), 1), (52, (.getfield 12), 3), (55, (.getfield 149), 3), (58, (.iload_n 1), 1), (59, (.invokevirtual 289), 3), (62, .ireturn, 1)]
theorem cto112 : ∀ q ∈ ct112, decode cX8_best q.1 = .ok (q.2.1, q.2.2) := by decide +kernel
/-- X8_against -/
def ct113 : List (Nat × Instr × Nat) := [(0, (.iload_n 1), 1), (1, (.invokestatic 98), 3), (4, (.ifCond .eq 10), 3), (7, (.iload_n 2), 1), (8, (.invokestatic 283), 3), (11, (.ifCond .ne 10), 3), (14, (.aload_n 0), 1), (15, (.bipush (-2)), 2), (17, (.invokevirtual 234), 3), (20, .ireturn, 1), (21, (.aload_n 0), 1), (22, (.iload_n 1), 1), (23, (.iload_n 1), 1), (24, (.invokevirtual 136), 3), (27, (.istore_n 3), 1), (28, (.iload_n 3), 1), (29, (.ifCond .eq 9), 3), (32, (.aload_n 0), 1), (33, (.iload_n 3), 1), (34, (.invokevirtual 234), 3), (37, .ireturn, 1), (38, (.aload_n 0), 1), (39, (.getfield 12), 3), (42, (.aload_n 0), 1), (43, (.getfield 53), 3), (46, (.aload_n 0), 1), (47, (.getfield 35), 3), (50, (.iload_n 1), 1), (51, .aaload, 1), (52, (.aload_n 0), 1), (53, (.getfield 12), 3), (56, (.getfield 149), 3), (59, (.iload_n 2), 1), (60, (.invokestatic 292), 3), (63, .ireturn, 1)]
theorem cto113 : ∀ q ∈ ct113, decode cX8_against q.1 = .ok (q.2.1, q.2.2) := by decide +kernel
/-- X8_together -/
def ct114 : List (Nat × Instr × Nat) := [(0, (.iload_n 1), 1), (1, (.invokestatic 283), 3), (4, (.ifCond .ne 10), 3), (7, (.aload_n 0), 1), (8, (.bipush (-2)), 2), (10, (.invokevirtual 234), 3), (13, .ireturn, 1), (14, (.aload_n 0), 1), (15, (.getfield 12), 3), (18, (.aload_n 0), 1), (19, (.getfield 12), 3), (22, (.getfield 149), 3), (25, (.iload_n 1), 1), (26, (.invokestatic 298), 3), (29, .ireturn, 1)]
theorem cto114 : ∀ q ∈ ct114, decode cX8_together q.1 = .ok (q.2.1, q.2.2) := by decide +kernel
/-- X8_harm -/
def ct115 : List (Nat × Instr × Nat) := [(0, (.iload_n 1), 1), (1, (.invokestatic 283), 3), (4, (.ifCond .ne 10), 3), (7, (.aload_n 0), 1), (8, (.bipush (-2)), 2), (10, (.invokevirtual 234), 3), (13, .ireturn, 1), (14, (.aload_n 0), 1), (15, (.getfield 44), 3), (18, (.iconst 0), 1), (19, (.aload_n 0), 1), (20, (.getfield 12), 3), (23, (.getfield 149), 3), (26, (.iload_n 1), 1), (27, (.invokevirtual 286), 3), (30, (.aload_n 0), 1), (31, (.getfield 44), 3), (34, (.iconst 1), 1), (35, (.aload_n 0), 1), (36, (.getfield 12), 3), (39, (.getfield 149), 3), (42, (.iload_n 1), 1), (43, (.invokevirtual 286), 3), (46, .iadd, 1), (47, (.istore_n 2), 1), (48, (.aload_n 0), 1), (49, (.getfield 12), 3), (52, (.aload_n 0), 1), (53, (.getfield 12), 3), (56, (.getfield 149), 3), (59, (.iload_n 1), 1), (60, (.invokestatic 298), 3), (63, (.iload_n 2), 1), (64, .isub, 1), (65, .ireturn, 1)]
theorem cto115 : ∀ q ∈ ct115, decode cX8_harm q.1 = .ok (q.2.1, q.2.2) := by decide +kernel
/-- X8_work -/
def ct116 : List (Nat × Instr × Nat) := [(0, (.iload_n 1), 1), (1, (.iconst 0), 1), (2, (.sipush 255), 3), (5, (.invokestatic 76), 3), (8, (.ifCond .ne 10), 3), (11, (.aload_n 0), 1), (12, (.bipush (-2)), 2), (14, (.invokevirtual 72), 3), (17, .ireturn, 1), (18, (.iload_n 2), 1), (19, (.ifCond .eq 18), 3), (22, (.iconst 1), 1), (23, (.aload_n 0), 1), (24, (.getfield 12), 3), (27, (.getfield 149), 3), (30, (.invokestatic 243), 3), (33, .isub, 1), (34, (.goto 4), 3), (37, (.iconst (-1)), 1), (38, (.istore_n 3), 1), (39, (.iconst 0), 1), (40, (.istore 4), 2), (42, (.iload 4), 2), (44, (.iconst 4), 1), (45, (.if_icmp .gt 33), 3), (48, (.aload_n 0), 1), (49, (.getfield 12), 3), (52, (.aload_n 0), 1), (53, (.getfield 12), 3), (56, (.getfield 149), 3), (59, (.iload_n 1), 1), (60, (.iload_n 3), 1), (61, (.iload 4), 2), (63, (.invokestatic 302), 3), (66, (.ifCond .eq 6), 3), (69, (.iload 4), 2), (71, .ireturn, 1), (72, (.iinc 4 1), 3), (75, (.goto (-33)), 3), (78, (.iconst (-1)), 1), (79, .ireturn, 1)]
theorem cto116 : ∀ q ∈ ct116, decode cX8_work q.1 = .ok (q.2.1, q.2.2) := by decide +kernel
/-- X8_reach -/
def ct117 : List (Nat × Instr × Nat) := [(0, (.iload_n 1), 1), (1, (.iconst 0), 1), (2, (.iconst 4), 1), (3, (.invokestatic 76), 3), (6, (.ifCond .ne 10), 3), (9, (.aload_n 0), 1), (10, (.bipush (-2)), 2), (12, (.invokevirtual 72), 3), (15, .ireturn, 1), (16, (.aload_n 0), 1), (17, (.getfield 12), 3), (20, (.aload_n 0), 1), (21, (.getfield 12), 3), (24, (.getfield 149), 3), (27, (.iload_n 1), 1), (28, (.invokestatic 306), 3), (31, .ireturn, 1)]
theorem cto117 : ∀ q ∈ ct117, decode cX8_reach q.1 = .ok (q.2.1, q.2.2) := by decide +kernel
/-- X8_found -/
def ct118 : List (Nat × Instr × Nat) := [(0, (.aload_n 0), 1), (1, (.getfield 12), 3), (4, (.getfield 159), 3), (7, (.ifCond .ne 10), 3), (10, (.aload_n 0), 1), (11, (.bipush (-5)), 2), (13, (.invokevirtual 72), 3), (16, .ireturn, 1), (17, (.aload_n 0), 1), (18, (.getfield 12), 3), (21, (.aload_n 0), 1), (22, (.getfield 12), 3), (25, (.getfield 195), 3), (28, (.invokevirtual 309), 3), (31, .ireturn, 1)]
theorem cto118 : ∀ q ∈ ct118, decode cX8_found q.1 = .ok (q.2.1, q.2.2) := by decide +kernel
/-- X8_say -/
def ct119 : List (Nat × Instr × Nat) := [(0, (.iload_n 1), 1), (1, (.iconst 0), 1), (2, (.bipush 8), 2), (4, (.invokestatic 76), 3), (7, (.ifCond .eq 12), 3), (10, (.iload_n 2), 1), (11, (.iconst 0), 1), (12, (.iconst 1), 1), (13, (.invokestatic 76), 3), (16, (.ifCond .ne 10), 3), (19, (.aload_n 0), 1), (20, (.bipush (-2)), 2), (22, (.invokevirtual 72), 3), (25, .ireturn, 1), (26, (.aload_n 0), 1), (27, (.getfield 12), 3), (30, (.getfield 159), 3), (33, (.ifCond .ne 10), 3), (36, (.aload_n 0), 1), (37, (.bipush (-5)), 2), (39, (.invokevirtual 72), 3), (42, .ireturn, 1), (43, (.iload_n 1), 1), (44, (.aload_n 0), 1), (45, (.getfield 12), 3), (48, (.getfield 195), 3), (51, (.invokestatic 312), 3), (54, (.invokestatic 317), 3), (57, (.istore_n 3), 1), (58, (.iconst (-1)), 1), (59, (.istore 4), 2), (61, (.ldc_w 322), 3), (64, (.istore 5), 2), (66, (.iconst 0), 1), (67, (.istore 6), 2), (69, (.iload 6), 2), (71, (.sipush 255), 3), (74, (.if_icmp .gt 90), 3), (77, (.iload 6), 2), (79, (.aload_n 0), 1), (80, (.getfield 12), 3), (83, (.getfield 195), 3), (86, (.iconst (-1)), 1), (87, .ixor, 1), (88, .iand, 1), (89, (.ifCond .ne 16), 3), (92, (.iload 6), 2), (94, (.invokestatic 312), 3), (97, (.iload_n 3), 1), (98, (.if_icmp .ne 7), 3), (101, (.iconst 1), 1), (102, (.goto 4), 3), (105, (.iconst 0), 1), (106, (.istore 7), 2), (108, (.iload 7), 2), (110, (.ifCond .eq 28), 3), (113, (.aload_n 0), 1), (114, (.getfield 12), 3), (117, (.aload_n 0), 1), (118, (.getfield 12), 3), (121, (.getfield 195), 3), (124, (.iload 6), 2), (126, (.iconst (-1)), 1), (127, .ixor, 1), (128, .iand, 1), (129, (.invokevirtual 309), 3), (132, (.invokestatic 312), 3), (135, (.goto 6), 3), (138, (.ldc_w 322), 3), (141, (.istore 8), 2), (143, (.iload 8), 2), (145, (.iload 5), 2), (147, (.if_icmp .ge 11), 3), (150, (.iload 8), 2), (152, (.istore 5), 2), (154, (.iload 6), 2), (156, (.istore 4), 2), (158, (.iinc 6 1), 3), (161, (.goto (-92)), 3), (164, (.iload_n 2), 1), (165, (.ifCond .ne 8), 3), (168, (.iload 4), 2), (170, (.goto 5), 3), (173, (.iload 5), 2), (175, .ireturn, 1)]
theorem cto119 : ∀ q ∈ ct119, decode cX8_say q.1 = .ok (q.2.1, q.2.2) := by decide +kernel
/-- X8_locking -/
def ct120 : List (Nat × Instr × Nat) := [(0, (.aload_n 0), 1), (1, (.iload_n 1), 1), (2, (.invokevirtual 84), 3), (5, (.ifCond .eq 10), 3), (8, (.iload_n 2), 1), (9, (.invokestatic 283), 3), (12, (.ifCond .ne 10), 3), (15, (.aload_n 0), 1), (16, (.bipush (-2)), 2), (18, (.invokevirtual 234), 3), (21, .ireturn, 1), (22, (.aload_n 0), 1), (23, (.getfield 12), 3), (26, (.getfield 149), 3), (29, (.invokestatic 243), 3), (32, (.istore_n 3), 1), (33, (.aload_n 0), 1), (34, (.getfield 12), 3), (37, (.iconst 1), 1), (38, (.iload_n 3), 1), (39, .isub, 1), (40, (.iload_n 1), 1), (41, (.invokevirtual 188), 3), (44, (.ifCond .eq 10), 3), (47, (.aload_n 0), 1), (48, (.bipush (-5)), 2), (50, (.invokevirtual 234), 3), (53, .ireturn, 1), (54, (.aload_n 0), 1), (55, (.iload_n 1), 1), (56, (.iload_n 2), 1), (57, (.invokevirtual 323), 3), (60, (.aload_n 0), 1), (61, (.getfield 44), 3), (64, (.iload_n 3), 1), (65, (.aload_n 0), 1), (66, (.getfield 12), 3), (69, (.getfield 149), 3), (72, (.iload_n 2), 1), (73, (.invokevirtual 286), 3), (76, .isub, 1), (77, .ireturn, 1)]
theorem cto120 : ∀ q ∈ ct120, decode cX8_locking q.1 = .ok (q.2.1, q.2.2) := by decide +kernel
/-- X8_gainsWithLock -/
def ct121 : List (Nat × Instr × Nat) := [(0, (.aload_n 0), 1), (1, (.getfield 12), 3), (4, (.getfield 149), 3), (7, (.invokestatic 243), 3), (10, (.istore_n 3), 1), (11, (.aload_n 0), 1), (12, (.getfield 12), 3), (15, (.iconst 1), 1), (16, (.iload_n 3), 1), (17, .isub, 1), (18, (.iload_n 1), 1), (19, (.iconst 1), 1), (20, (.invokevirtual 191), 3), (23, (.aload_n 0), 1), (24, (.getfield 44), 3), (27, (.iload_n 3), 1), (28, (.aload_n 0), 1), (29, (.getfield 12), 3), (32, (.getfield 149), 3), (35, (.iload_n 2), 1), (36, (.invokevirtual 286), 3), (39, (.istore 4), 2), (41, (.aload_n 0), 1), (42, (.getfield 12), 3), (45, (.iconst 1), 1), (46, (.iload_n 3), 1), (47, .isub, 1), (48, (.iload_n 1), 1), (49, (.iconst 0), 1), (50, (.invokevirtual 191), 3), (53, (.iload 4), 2), (55, .ireturn, 1)]
theorem cto121 : ∀ q ∈ ct121, decode cX8_gainsWithLock q.1 = .ok (q.2.1, q.2.2) := by decide +kernel
/-- X8_which -/
def ct122 : List (Nat × Instr × Nat) := [(0, (.iload_n 1), 1), (1, (.invokestatic 283), 3), (4, (.ifCond .ne 10), 3), (7, (.aload_n 0), 1), (8, (.bipush (-2)), 2), (10, (.invokevirtual 72), 3), (13, .ireturn, 1), (14, (.aload_n 0), 1), (15, (.getfield 12), 3), (18, (.getfield 149), 3), (21, (.invokestatic 243), 3), (24, (.istore_n 2), 1), (25, (.iconst (-1)), 1), (26, (.istore_n 3), 1), (27, (.aload_n 0), 1), (28, (.getfield 44), 3), (31, (.iload_n 2), 1), (32, (.aload_n 0), 1), (33, (.getfield 12), 3), (36, (.getfield 149), 3), (39, (.iload_n 1), 1), (40, (.invokevirtual 286), 3), (43, (.istore 4), 2), (45, (.iconst 0), 1), (46, (.istore 5), 2), (48, (.iload 5), 2), (50, (.aload_n 0), 1), (51, (.getfield 12), 3), (54, (.getfield 80), 3), (57, (.if_icmp .ge 47), 3), (60, (.aload_n 0), 1), (61, (.getfield 12), 3), (64, (.iconst 1), 1), (65, (.iload_n 2), 1), (66, .isub, 1), (67, (.iload 5), 2), (69, (.invokevirtual 188), 3), (72, (.ifCond .ne 26), 3), (75, (.aload_n 0), 1), (76, (.iload 5), 2), (78, (.iload_n 1), 1), (79, (.invokevirtual 323), 3), (82, (.istore 6), 2), (84, (.iload 6), 2), (86, (.iload 4), 2), (88, (.if_icmp .le 10), 3), (91, (.iload 6), 2), (93, (.istore 4), 2), (95, (.iload 5), 2), (97, (.istore_n 3), 1), (98, (.iinc 5 1), 3), (101, (.goto (-53)), 3), (104, (.iload_n 3), 1), (105, .ireturn, 1)]
theorem cto122 : ∀ q ∈ ct122, decode cX8_which q.1 = .ok (q.2.1, q.2.2) := by decide +kernel
/-- X8_up -/
def ct123 : List (Nat × Instr × Nat) := [(0, (.iload_n 1), 1), (1, (.iconst 1), 1), (2, (.iconst 3), 1), (3, (.invokestatic 76), 3), (6, (.ifCond .ne 10), 3), (9, (.aload_n 0), 1), (10, (.bipush (-2)), 2), (12, (.invokevirtual 234), 3), (15, .ireturn, 1), (16, (.aload_n 0), 1), (17, (.getfield 12), 3), (20, (.getfield 149), 3), (23, (.invokestatic 243), 3), (26, (.istore_n 2), 1), (27, (.aload_n 0), 1), (28, (.getfield 44), 3), (31, (.iload_n 2), 1), (32, (.aload_n 0), 1), (33, (.getfield 12), 3), (36, (.getfield 149), 3), (39, (.iload_n 1), 1), (40, (.invokevirtual 286), 3), (43, (.istore_n 3), 1), (44, (.iload_n 3), 1), (45, (.istore 4), 2), (47, (.iconst 0), 1), (48, (.istore 5), 2), (50, (.iload 5), 2), (52, (.aload_n 0), 1), (53, (.getfield 12), 3), (56, (.getfield 80), 3), (59, (.if_icmp .ge 61), 3), (62, (.aload_n 0), 1), (63, (.getfield 12), 3), (66, (.iload 5), 2), (68, (.iload_n 2), 1), (69, (.aload_n 0), 1), (70, (.getfield 12), 3), (73, (.getfield 149), 3), (76, (.invokevirtual 246), 3), (79, (.ifCond .eq 35), 3), (82, (.iload 4), 2), (84, (.aload_n 0), 1), (85, (.getfield 44), 3), (88, (.iload_n 2), 1), (89, (.aload_n 0), 1), (90, (.getfield 12), 3), (93, (.iload 5), 2), (95, (.aload_n 0), 1), (96, (.getfield 12), 3), (99, (.getfield 149), 3), (102, (.invokevirtual 255), 3), (105, (.iload_n 1), 1), (106, (.invokevirtual 286), 3), (109, (.invokestatic 326), 3), (112, (.istore 4), 2), (114, (.iinc 5 1), 3), (117, (.goto (-67)), 3), (120, (.iload 4), 2), (122, (.iload_n 3), 1), (123, .isub, 1), (124, .ireturn, 1)]
theorem cto123 : ∀ q ∈ ct123, decode cX8_up q.1 = .ok (q.2.1, q.2.2) := by decide +kernel
/-- X8_pact -/
def ct124 : List (Nat × Instr × Nat) := [(0, (.iload_n 1), 1), (1, (.invokestatic 98), 3), (4, (.ifCond .eq 17), 3), (7, (.iload_n 2), 1), (8, (.invokestatic 98), 3), (11, (.ifCond .eq 10), 3), (14, (.iload_n 3), 1), (15, (.invokestatic 283), 3), (18, (.ifCond .ne 10), 3), (21, (.aload_n 0), 1), (22, (.bipush (-2)), 2), (24, (.invokevirtual 72), 3), (27, .ireturn, 1), (28, (.aload_n 0), 1), (29, (.iload_n 1), 1), (30, (.iload_n 2), 1), (31, (.invokevirtual 136), 3), (34, (.istore 4), 2), (36, (.iload 4), 2), (38, (.ifCond .eq 10), 3), (41, (.aload_n 0), 1), (42, (.iload 4), 2), (44, (.invokevirtual 72), 3), (47, .ireturn, 1), (48, (.aload_n 0), 1), (49, (.getfield 12), 3), (52, (.getfield 149), 3), (55, (.invokestatic 243), 3), (58, (.istore 5), 2), (60, (.aload_n 0), 1), (61, (.getfield 35), 3), (64, (.iload 5), 2), (66, (.ifCond .ne 7), 3), (69, (.iload_n 1), 1), (70, (.goto 4), 3), (73, (.iload_n 2), 1), (74, .aaload, 1), (75, (.astore 6), 2), (77, (.aload_n 0), 1), (78, (.getfield 35), 3), (81, (.iload 5), 2), (83, (.ifCond .ne 7), 3), (86, (.iload_n 2), 1), (87, (.goto 4), 3), (90, (.iload_n 1), 1), (91, .aaload, 1), (92, (.astore 7), 2), (94, (.aload_n 0), 1), (95, (.getfield 62), 3), (98, (.aload 6), 2), (100, (.aload 7), 2), (102, (.iload_n 3), 1), (103, (.invokevirtual 264), 3), (106, (.aload_n 0), 1), (107, (.getfield 12), 3), (110, (.aload_n 0), 1), (111, (.getfield 53), 3), (114, (.aload 7), 2), (116, (.aload_n 0), 1), (117, (.getfield 12), 3), (120, (.getfield 149), 3), (123, (.iload_n 3), 1), (124, (.invokestatic 292), 3), (127, (.aload_n 0), 1), (128, (.getfield 62), 3), (131, (.getfield 275), 3), (134, (.iload 5), 2), (136, .iaload, 1), (137, (.if_icmp .gt 7), 3), (140, (.iconst 1), 1), (141, (.goto 4), 3), (144, (.iconst 0), 1), (145, .ireturn, 1)]
theorem cto124 : ∀ q ∈ ct124, decode cX8_pact q.1 = .ok (q.2.1, q.2.2) := by decide +kernel
/-- X8_leap -/
def ct125 : List (Nat × Instr × Nat) := [(0, (.aload_n 0), 1), (1, (.getfield 12), 3), (4, (.invokevirtual 329), 3), (7, (.istore_n 1), 1), (8, (.aload_n 0), 1), (9, (.getfield 12), 3), (12, (.iconst 0), 1), (13, (.putfield 159), 3), (16, (.aload_n 0), 1), (17, (.getfield 12), 3), (20, (.aload_n 0), 1), (21, (.getfield 12), 3), (24, (.getfield 149), 3), (27, (.iload_n 1), 1), (28, (.invokestatic 171), 3), (31, (.putfield 149), 3), (34, (.iload_n 1), 1), (35, .ireturn, 1)]
theorem cto125 : ∀ q ∈ ct125, decode cX8_leap q.1 = .ok (q.2.1, q.2.2) := by decide +kernel
/-- X8_seed -/
def ct126 : List (Nat × Instr × Nat) := [(0, (.aload_n 0), 1), (1, (.getfield 12), 3), (4, (.getfield 332), 3), (7, (.istore_n 2), 1), (8, (.aload_n 0), 1), (9, (.getfield 12), 3), (12, (.iload_n 1), 1), (13, (.putfield 332), 3), (16, (.iload_n 2), 1), (17, .ireturn, 1)]
theorem cto126 : ∀ q ∈ ct126, decode cX8_seed q.1 = .ok (q.2.1, q.2.2) := by decide +kernel
/-- X8_image -/
def ct127 : List (Nat × Instr × Nat) := [(0, (.aload_n 0), 1), (1, (.getfield 16), 3), (4, (.aload_n 0), 1), (5, (.getfield 12), 3), (8, (.invokevirtual 203), 3), (11, (.aload_n 0), 1), (12, (.iconst 1), 1), (13, (.putfield 22), 3), (16, (.iconst 1), 1), (17, .ireturn, 1)]
theorem cto127 : ∀ q ∈ ct127, decode cX8_image q.1 = .ok (q.2.1, q.2.2) := by decide +kernel
/-- X8_back -/
def ct128 : List (Nat × Instr × Nat) := [(0, (.aload_n 0), 1), (1, (.getfield 22), 3), (4, (.ifCond .ne 10), 3), (7, (.aload_n 0), 1), (8, (.bipush (-5)), 2), (10, (.invokevirtual 72), 3), (13, .ireturn, 1), (14, (.aload_n 0), 1), (15, (.getfield 12), 3), (18, (.aload_n 0), 1), (19, (.getfield 16), 3), (22, (.invokevirtual 203), 3), (25, (.iconst 1), 1), (26, .ireturn, 1)]
theorem cto128 : ∀ q ∈ ct128, decode cX8_back q.1 = .ok (q.2.1, q.2.2) := by decide +kernel
/-- X8_status -/
def ct129 : List (Nat × Instr × Nat) := [(0, (.iload_n 1), 1), (1, (.bipush 12), 2), (3, (.bipush 16), 2), (5, (.invokestatic 76), 3), (8, (.ifCond .eq 13), 3), (11, (.aload_n 0), 1), (12, (.getfield 66), 3), (15, (.iload_n 1), 1), (16, (.bipush 12), 2), (18, .isub, 1), (19, .iaload, 1), (20, .ireturn, 1), (21, (.iload_n 1), 1), (22, (.tableswitch 116 0 7 #[46, 54, 68, 76, 87, 95, 103, 111]), 46), (68, (.aload_n 0), 1), (69, (.getfield 12), 3), (72, (.getfield 80), 3), (75, .ireturn, 1), (76, (.aload_n 0), 1), (77, (.getfield 12), 3), (80, (.getfield 149), 3), (83, (.invokestatic 240), 3), (86, (.invokestatic 312), 3), (89, .ireturn, 1), (90, (.aload_n 0), 1), (91, (.getfield 12), 3), (94, (.getfield 261), 3), (97, .ireturn, 1), (98, (.aload_n 0), 1), (99, (.getfield 12), 3), (102, (.getfield 149), 3), (105, (.invokestatic 335), 3), (108, .ireturn, 1), (109, (.aload_n 0), 1), (110, (.getfield 12), 3), (113, (.invokevirtual 338), 3), (116, .ireturn, 1), (117, (.aload_n 0), 1), (118, (.getfield 29), 3), (121, (.getfield 198), 3), (124, .ireturn, 1), (125, (.aload_n 0), 1), (126, (.getfield 12), 3), (129, (.getfield 332), 3), (132, .ireturn, 1), (133, (.aload_n 0), 1), (134, (.invokevirtual 341), 3), (137, .ireturn, 1), (138, (.iconst (-1)), 1), (139, .ireturn, 1)]
theorem cto129 : ∀ q ∈ ct129, decode cX8_status q.1 = .ok (q.2.1, q.2.2) := by decide +kernel
/-- X8_filledShelves -/
def ct130 : List (Nat × Instr × Nat) := [(0, (.iconst 0), 1), (1, (.istore_n 1), 1), (2, (.iconst 0), 1), (3, (.istore_n 2), 1), (4, (.iload_n 2), 1), (5, (.bipush 8), 2), (7, (.if_icmp .ge 25), 3), (10, (.aload_n 0), 1), (11, (.getfield 35), 3), (14, (.iload_n 2), 1), (15, .aaload, 1), (16, (.getfield 116), 3), (19, (.iconst (-1)), 1), (20, (.if_icmp .eq 6), 3), (23, (.iinc 1 1), 3), (26, (.iinc 2 1), 3), (29, (.goto (-25)), 3), (32, (.iload_n 1), 1), (33, .ireturn, 1)]
theorem cto130 : ∀ q ∈ ct130, decode cX8_filledShelves q.1 = .ok (q.2.1, q.2.2) := by decide +kernel
end
section
/-- X9_init -/
def ct131 : List (Nat × Instr × Nat) := [(0, (.aload_n 0), 1), (1, (.invokespecial 1), 3), (4, (.aload_n 0), 1), (5, (.bipush 8), 2), (7, (.newarray .int), 2), (9, (.putfield 7), 3), (12, (.aload_n 0), 1), (13, (.bipush 8), 2), (15, (.newarray .int), 2), (17, (.putfield 13), 3), (20, (.aload_n 0), 1), (21, (.bipush 8), 2), (23, (.newarray .int), 2), (25, (.putfield 16), 3), (28, (.aload_n 0), 1), (29, (.bipush 8), 2), (31, (.bipush 40), 2), (33, (.multianewarray 19 2), 4), (37, (.putfield 21), 3), (40, (.aload_n 0), 1), (41, (.bipush 40), 2), (43, (.newarray .long), 2), (45, (.putfield 24), 3), (48, (.aload_n 0), 1), (49, (.bipush 8), 2), (51, (.newarray .int), 2), (53, (.putfield 28), 3), (56, (.aload_n 0), 1), (57, (.bipush 8), 2), (59, (.newarray .int), 2), (61, (.putfield 31), 3), (64, (.aload_n 0), 1), (65, (.sipush 250), 3), (68, (.newarray .int), 2), (70, (.putfield 34), 3), (73, (.aload_n 0), 1), (74, (.bipush 8), 2), (76, (.newarray .int), 2), (78, (.putfield 37), 3), (81, (.aload_n 0), 1), (82, (.bipush 10), 2), (84, (.bipush 7), 2), (86, (.multianewarray 40 2), 4), (90, (.putfield 42), 3), (93, (.aload_n 0), 1), (94, (.iconst 4), 1), (95, (.newarray .int), 2), (97, (.putfield 45), 3), (100, (.aload_n 0), 1), (101, (.iconst 2), 1), (102, (.bipush 12), 2), (104, (.multianewarray 40 2), 4), (108, (.putfield 48), 3), (111, (.aload_n 0), 1), (112, (.iconst 2), 1), (113, (.newarray .int), 2), (115, (.putfield 51), 3), (118, (.aload_n 0), 1), (119, (.iconst 4), 1), (120, (.newarray .int), 2), (122, (.putfield 54), 3), (125, (.aload_n 0), 1), (126, (.iconst 1), 1), (127, (.putfield 57), 3), (130, (.aload_n 0), 1), (131, (.iconst 4), 1), (132, (.newarray .int), 2), (134, (.putfield 61), 3), (137, (.aload_n 0), 1), (138, (.iconst 5), 1), (139, (.iconst 2), 1), (140, (.multianewarray 40 2), 4), (144, (.putfield 64), 3), (147, (.aload_n 0), 1), (148, (.iconst 5), 1), (149, (.newarray .int), 2), (151, (.putfield 67), 3), (154, (.aload_n 0), 1), (155, (.iconst 5), 1), (156, (.iconst 2), 1), (157, (.multianewarray 40 2), 4), (161, (.putfield 70), 3), (164, .return_, 1)]
theorem cto131 : ∀ q ∈ ct131, decode cX9_init q.1 = .ok (q.2.1, q.2.2) := by decide +kernel
/-- X9_refuse -/
def ct132 : List (Nat × Instr × Nat) := [(0, (.aload_n 0), 1), (1, (.getfield 37), 3), (4, (.iload_n 1), 1), (5, .ineg, 1), (6, .dup2, 1), (7, .iaload, 1), (8, (.iconst 1), 1), (9, .iadd, 1), (10, .iastore, 1), (11, (.iload_n 1), 1), (12, .ireturn, 1)]
theorem cto132 : ∀ q ∈ ct132, decode cX9_refuse q.1 = .ok (q.2.1, q.2.2) := by decide +kernel
/-- X9_in -/
def ct133 : List (Nat × Instr × Nat) := [(0, (.lload_n 0), 1), (1, (.lload_n 2), 1), (2, .lcmp, 1), (3, (.ifCond .lt 14), 3), (6, (.lload_n 0), 1), (7, (.lload 4), 2), (9, .lcmp, 1), (10, (.ifCond .gt 7), 3), (13, (.iconst 1), 1), (14, (.goto 4), 3), (17, (.iconst 0), 1), (18, .ireturn, 1)]
theorem cto133 : ∀ q ∈ ct133, decode cX9_in q.1 = .ok (q.2.1, q.2.2) := by decide +kernel
/-- X9_isAct -/
def ct134 : List (Nat × Instr × Nat) := [(0, (.lload_n 1), 1), (1, (.lconst 0), 1), (2, (.aload_n 0), 1), (3, (.getfield 73), 3), (6, (.iconst 1), 1), (7, .isub, 1), (8, .i2l, 1), (9, (.invokestatic 76), 3), (12, .ireturn, 1)]
theorem cto134 : ∀ q ∈ ct134, decode cX9_isAct q.1 = .ok (q.2.1, q.2.2) := by decide +kernel
/-- X9_has -/
def ct135 : List (Nat × Instr × Nat) := [(0, (.iload_n 0), 1), (1, (.iload_n 1), 1), (2, .ishr, 1), (3, (.iconst 1), 1), (4, .iand, 1), (5, (.ifCond .eq 7), 3), (8, (.iconst 1), 1), (9, (.goto 4), 3), (12, (.iconst 0), 1), (13, .ireturn, 1)]
theorem cto135 : ∀ q ∈ ct135, decode cX9_has q.1 = .ok (q.2.1, q.2.2) := by decide +kernel
/-- X9_bits -/
def ct136 : List (Nat × Instr × Nat) := [(0, (.iconst 0), 1), (1, (.istore_n 1), 1), (2, (.iconst 0), 1), (3, (.istore_n 2), 1), (4, (.iload_n 2), 1), (5, (.bipush 10), 2), (7, (.if_icmp .gt 17), 3), (10, (.iload_n 1), 1), (11, (.iload_n 0), 1), (12, (.iload_n 2), 1), (13, .ishr, 1), (14, (.iconst 1), 1), (15, .iand, 1), (16, .iadd, 1), (17, (.istore_n 1), 1), (18, (.iinc 2 1), 3), (21, (.goto (-17)), 3), (24, (.iload_n 1), 1), (25, .ireturn, 1)]
theorem cto136 : ∀ q ∈ ct136, decode cX9_bits q.1 = .ok (q.2.1, q.2.2) := by decide +kernel
/-- X9_row -/
def ct137 : List (Nat × Instr × Nat) := [(0, (.iload_n 1), 1), (1, .i2l, 1), (2, (.lconst 0), 1), (3, (.ldc2_w 80), 3), (6, (.invokestatic 76), 3), (9, (.ifCond .eq 27), 3), (12, (.iload_n 2), 1), (13, .i2l, 1), (14, (.lconst 0), 1), (15, (.ldc2_w 82), 3), (18, (.invokestatic 76), 3), (21, (.ifCond .eq 15), 3), (24, (.iload_n 3), 1), (25, .i2l, 1), (26, (.lconst 0), 1), (27, (.ldc2_w 84), 3), (30, (.invokestatic 76), 3), (33, (.ifCond .ne 10), 3), (36, (.aload_n 0), 1), (37, (.bipush (-2)), 2), (39, (.invokevirtual 86), 3), (42, .ireturn, 1), (43, (.aload_n 0), 1), (44, (.getfield 7), 3), (47, (.iload_n 1), 1), (48, (.iconst 1), 1), (49, .iastore, 1), (50, (.aload_n 0), 1), (51, (.getfield 13), 3), (54, (.iload_n 1), 1), (55, (.iload_n 2), 1), (56, .iastore, 1), (57, (.aload_n 0), 1), (58, (.getfield 16), 3), (61, (.iload_n 1), 1), (62, (.iload_n 3), 1), (63, .iastore, 1), (64, (.iconst 0), 1), (65, (.istore 4), 2), (67, (.iload 4), 2), (69, (.bipush 40), 2), (71, (.if_icmp .ge 19), 3), (74, (.aload_n 0), 1), (75, (.getfield 21), 3), (78, (.iload_n 1), 1), (79, .aaload, 1), (80, (.iload 4), 2), (82, (.lconst 0), 1), (83, .lastore, 1), (84, (.iinc 4 1), 3), (87, (.goto (-20)), 3), (90, (.iconst 1), 1), (91, .ireturn, 1)]
theorem cto137 : ∀ q ∈ ct137, decode cX9_row q.1 = .ok (q.2.1, q.2.2) := by decide +kernel
/-- X9_fit -/
def ct138 : List (Nat × Instr × Nat) := [(0, (.iload_n 0), 1), (1, (.tableswitch 47 0 3 #[31, 36, 41, 45]), 31), (32, (.lload_n 1), 1), (33, .l2i, 1), (34, .i2b, 1), (35, .i2l, 1), (36, .lreturn, 1), (37, (.lload_n 1), 1), (38, .l2i, 1), (39, .i2s, 1), (40, .i2l, 1), (41, .lreturn, 1), (42, (.lload_n 1), 1), (43, .l2i, 1), (44, .i2l, 1), (45, .lreturn, 1), (46, (.lload_n 1), 1), (47, .lreturn, 1), (48, (.lload_n 1), 1), (49, (.lconst 0), 1), (50, .lcmp, 1), (51, (.ifCond .eq 7), 3), (54, (.lconst 1), 1), (55, (.goto 4), 3), (58, (.lconst 0), 1), (59, .lreturn, 1)]
theorem cto138 : ∀ q ∈ ct138, decode cX9_fit q.1 = .ok (q.2.1, q.2.2) := by decide +kernel
/-- X9_noRow -/
def ct139 : List (Nat × Instr × Nat) := [(0, (.iload_n 1), 1), (1, .i2l, 1), (2, (.lconst 0), 1), (3, (.ldc2_w 80), 3), (6, (.invokestatic 76), 3), (9, (.ifCond .ne 10), 3), (12, (.aload_n 0), 1), (13, (.bipush (-2)), 2), (15, (.invokevirtual 86), 3), (18, .ireturn, 1), (19, (.aload_n 0), 1), (20, (.getfield 7), 3), (23, (.iload_n 1), 1), (24, .iaload, 1), (25, (.iconst 2), 1), (26, (.if_icmp .ne 10), 3), (29, (.aload_n 0), 1), (30, (.bipush (-3)), 2), (32, (.invokevirtual 86), 3), (35, .ireturn, 1), (36, (.aload_n 0), 1), (37, (.getfield 7), 3), (40, (.iload_n 1), 1), (41, .iaload, 1), (42, (.ifCond .ne 12), 3), (45, (.aload_n 0), 1), (46, (.bipush (-4)), 2), (48, (.invokevirtual 86), 3), (51, (.goto 4), 3), (54, (.iconst 0), 1), (55, .ireturn, 1)]
theorem cto139 : ∀ q ∈ ct139, decode cX9_noRow q.1 = .ok (q.2.1, q.2.2) := by decide +kernel
/-- X9_noRule -/
def ct140 : List (Nat × Instr × Nat) := [(0, (.iload_n 1), 1), (1, .i2l, 1), (2, (.lconst 0), 1), (3, (.ldc2_w 80), 3), (6, (.invokestatic 76), 3), (9, (.ifCond .ne 10), 3), (12, (.aload_n 0), 1), (13, (.bipush (-2)), 2), (15, (.invokevirtual 86), 3), (18, .ireturn, 1), (19, (.aload_n 0), 1), (20, (.getfield 7), 3), (23, (.iload_n 1), 1), (24, .iaload, 1), (25, (.iconst 1), 1), (26, (.if_icmp .ne 10), 3), (29, (.aload_n 0), 1), (30, (.bipush (-3)), 2), (32, (.invokevirtual 86), 3), (35, .ireturn, 1), (36, (.aload_n 0), 1), (37, (.getfield 7), 3), (40, (.iload_n 1), 1), (41, .iaload, 1), (42, (.ifCond .ne 12), 3), (45, (.aload_n 0), 1), (46, (.bipush (-4)), 2), (48, (.invokevirtual 86), 3), (51, (.goto 4), 3), (54, (.iconst 0), 1), (55, .ireturn, 1)]
theorem cto140 : ∀ q ∈ ct140, decode cX9_noRule q.1 = .ok (q.2.1, q.2.2) := by decide +kernel
/-- X9_noRules -/
def ct141 : List (Nat × Instr × Nat) := [(0, (.iload_n 1), 1), (1, .i2l, 1), (2, (.lconst 0), 1), (3, (.ldc2_w 80), 3), (6, (.invokestatic 76), 3), (9, (.ifCond .eq 15), 3), (12, (.iload_n 2), 1), (13, .i2l, 1), (14, (.lconst 0), 1), (15, (.ldc2_w 80), 3), (18, (.invokestatic 76), 3), (21, (.ifCond .ne 10), 3), (24, (.aload_n 0), 1), (25, (.bipush (-2)), 2), (27, (.invokevirtual 86), 3), (30, .ireturn, 1), (31, (.aload_n 0), 1), (32, (.getfield 7), 3), (35, (.iload_n 1), 1), (36, .iaload, 1), (37, (.iconst 1), 1), (38, (.if_icmp .eq 13), 3), (41, (.aload_n 0), 1), (42, (.getfield 7), 3), (45, (.iload_n 2), 1), (46, .iaload, 1), (47, (.iconst 1), 1), (48, (.if_icmp .ne 10), 3), (51, (.aload_n 0), 1), (52, (.bipush (-3)), 2), (54, (.invokevirtual 86), 3), (57, .ireturn, 1), (58, (.aload_n 0), 1), (59, (.getfield 7), 3), (62, (.iload_n 1), 1), (63, .iaload, 1), (64, (.ifCond .eq 12), 3), (67, (.aload_n 0), 1), (68, (.getfield 7), 3), (71, (.iload_n 2), 1), (72, .iaload, 1), (73, (.ifCond .ne 12), 3), (76, (.aload_n 0), 1), (77, (.bipush (-4)), 2), (79, (.invokevirtual 86), 3), (82, (.goto 4), 3), (85, (.iconst 0), 1), (86, .ireturn, 1)]
theorem cto141 : ∀ q ∈ ct141, decode cX9_noRules q.1 = .ok (q.2.1, q.2.2) := by decide +kernel
/-- X9_set -/
def ct142 : List (Nat × Instr × Nat) := [(0, (.aload_n 0), 1), (1, (.iload_n 1), 1), (2, (.invokevirtual 90), 3), (5, (.istore 5), 2), (7, (.iload 5), 2), (9, (.ifCond .eq 6), 3), (12, (.iload 5), 2), (14, .ireturn, 1), (15, (.iload_n 2), 1), (16, .i2l, 1), (17, (.lconst 0), 1), (18, (.aload_n 0), 1), (19, (.getfield 16), 3), (22, (.iload_n 1), 1), (23, .iaload, 1), (24, (.iconst 1), 1), (25, .isub, 1), (26, .i2l, 1), (27, (.invokestatic 76), 3), (30, (.ifCond .ne 10), 3), (33, (.aload_n 0), 1), (34, (.bipush (-2)), 2), (36, (.invokevirtual 86), 3), (39, .ireturn, 1), (40, (.aload_n 0), 1), (41, (.getfield 21), 3), (44, (.iload_n 1), 1), (45, .aaload, 1), (46, (.iload_n 2), 1), (47, (.aload_n 0), 1), (48, (.getfield 13), 3), (51, (.iload_n 1), 1), (52, .iaload, 1), (53, (.lload_n 3), 1), (54, (.invokestatic 93), 3), (57, .lastore, 1), (58, (.iconst 1), 1), (59, .ireturn, 1)]
theorem cto142 : ∀ q ∈ ct142, decode cX9_set q.1 = .ok (q.2.1, q.2.2) := by decide +kernel
def ct143_0 : List (Nat × Instr × Nat) := [(0, (.iload_n 1), 1), (1, .i2l, 1), (2, (.lconst 0), 1), (3, (.ldc2_w 80), 3), (6, (.invokestatic 76), 3), (9, (.ifCond .eq 15), 3), (12, (.iload_n 2), 1), (13, .i2l, 1), (14, (.lconst 0), 1), (15, (.ldc2_w 80), 3), (18, (.invokestatic 76), 3), (21, (.ifCond .ne 10), 3), (24, (.aload_n 0), 1), (25, (.bipush (-2)), 2), (27, (.invokevirtual 86), 3), (30, .ireturn, 1), (31, (.aload_n 0), 1), (32, (.getfield 7), 3), (35, (.iload_n 1), 1), (36, .iaload, 1), (37, (.iconst 2), 1), (38, (.if_icmp .eq 48), 3), (41, (.aload_n 0), 1), (42, (.getfield 7), 3), (45, (.iload_n 2), 1), (46, .iaload, 1), (47, (.iconst 2), 1), (48, (.if_icmp .eq 38), 3), (51, (.aload_n 0), 1), (52, (.getfield 7), 3), (55, (.iload_n 1), 1), (56, .iaload, 1), (57, (.iconst 1), 1), (58, (.if_icmp .ne 35), 3), (61, (.aload_n 0), 1), (62, (.getfield 7), 3), (65, (.iload_n 2), 1), (66, .iaload, 1), (67, (.iconst 1), 1), (68, (.if_icmp .ne 25), 3), (71, (.aload_n 0), 1), (72, (.getfield 13), 3), (75, (.iload_n 1), 1), (76, .iaload, 1), (77, (.aload_n 0), 1), (78, (.getfield 13), 3), (81, (.iload_n 2), 1), (82, .iaload, 1), (83, (.if_icmp .eq 10), 3), (86, (.aload_n 0), 1), (87, (.bipush (-3)), 2), (89, (.invokevirtual 86), 3), (92, .ireturn, 1), (93, (.aload_n 0), 1), (94, (.getfield 7), 3), (97, (.iload_n 1), 1), (98, .iaload, 1), (99, (.ifCond .eq 12), 3), (102, (.aload_n 0), 1), (103, (.getfield 7), 3), (106, (.iload_n 2), 1), (107, .iaload, 1), (108, (.ifCond .ne 10), 3), (111, (.aload_n 0), 1), (112, (.bipush (-4)), 2), (114, (.invokevirtual 86), 3), (117, .ireturn, 1), (118, (.iload 5), 2), (120, (.ifCond .lt 61), 3), (123, (.iload_n 3), 1), (124, (.ifCond .lt 57), 3), (127, (.iload 4), 2), (129, (.ifCond .lt 52), 3), (132, (.iload 5), 2), (134, (.aload_n 0), 1), (135, (.getfield 16), 3), (138, (.iload_n 1), 1), (139, .iaload, 1), (140, (.if_icmp .gt 41), 3), (143, (.iload 5), 2), (145, (.aload_n 0), 1), (146, (.getfield 16), 3), (149, (.iload_n 2), 1), (150, .iaload, 1), (151, (.if_icmp .gt 30), 3), (154, (.iload_n 3), 1), (155, (.aload_n 0), 1), (156, (.getfield 16), 3), (159, (.iload_n 1), 1), (160, .iaload, 1), (161, (.iload 5), 2), (163, .isub, 1), (164, (.if_icmp .gt 17), 3), (167, (.iload 4), 2), (169, (.aload_n 0), 1), (170, (.getfield 16), 3), (173, (.iload_n 2), 1), (174, .iaload, 1), (175, (.iload 5), 2), (177, .isub, 1)]
theorem cto143_0 : ∀ q ∈ ct143_0, decode cX9_copy q.1 = .ok (q.2.1, q.2.2) := by decide +kernel
def ct143_1 : List (Nat × Instr × Nat) := [(178, (.if_icmp .le 10), 3), (181, (.aload_n 0), 1), (182, (.bipush (-2)), 2), (184, (.invokevirtual 86), 3), (187, .ireturn, 1), (188, (.iconst 0), 1), (189, (.istore 6), 2), (191, (.iload 6), 2), (193, (.iload 5), 2), (195, (.if_icmp .ge 27), 3), (198, (.aload_n 0), 1), (199, (.getfield 24), 3), (202, (.iload 6), 2), (204, (.aload_n 0), 1), (205, (.getfield 21), 3), (208, (.iload_n 1), 1), (209, .aaload, 1), (210, (.iload_n 3), 1), (211, (.iload 6), 2), (213, .iadd, 1), (214, .laload, 1), (215, .lastore, 1), (216, (.iinc 6 1), 3), (219, (.goto (-28)), 3), (222, (.iconst 0), 1), (223, (.istore 6), 2), (225, (.iload 6), 2), (227, (.iload 5), 2), (229, (.if_icmp .ge 28), 3), (232, (.aload_n 0), 1), (233, (.getfield 21), 3), (236, (.iload_n 2), 1), (237, .aaload, 1), (238, (.iload 4), 2), (240, (.iload 6), 2), (242, .iadd, 1), (243, (.aload_n 0), 1), (244, (.getfield 24), 3), (247, (.iload 6), 2), (249, .laload, 1), (250, .lastore, 1), (251, (.iinc 6 1), 3), (254, (.goto (-29)), 3), (257, (.iload 5), 2), (259, .ireturn, 1)]
theorem cto143_1 : ∀ q ∈ ct143_1, decode cX9_copy q.1 = .ok (q.2.1, q.2.2) := by decide +kernel
/-- X9_copy -/
def ct143 : List (Nat × Instr × Nat) := ct143_0 ++ (ct143_1)
theorem cto143 : ∀ q ∈ ct143, decode cX9_copy q.1 = .ok (q.2.1, q.2.2) := List.forall_mem_append.mpr ⟨cto143_0, cto143_1⟩
/-- X9_element -/
def ct144 : List (Nat × Instr × Nat) := [(0, (.iload_n 1), 1), (1, .i2l, 1), (2, (.lconst 0), 1), (3, (.ldc2_w 80), 3), (6, (.invokestatic 76), 3), (9, (.ifCond .eq 42), 3), (12, (.aload_n 0), 1), (13, (.getfield 7), 3), (16, (.iload_n 1), 1), (17, .iaload, 1), (18, (.iconst 1), 1), (19, (.if_icmp .ne 32), 3), (22, (.iload_n 2), 1), (23, .i2l, 1), (24, (.lconst 0), 1), (25, (.aload_n 0), 1), (26, (.getfield 16), 3), (29, (.iload_n 1), 1), (30, .iaload, 1), (31, (.iconst 1), 1), (32, .isub, 1), (33, .i2l, 1), (34, (.invokestatic 76), 3), (37, (.ifCond .eq 14), 3), (40, (.aload_n 0), 1), (41, (.getfield 21), 3), (44, (.iload_n 1), 1), (45, .aaload, 1), (46, (.iload_n 2), 1), (47, .laload, 1), (48, (.goto 4), 3), (51, (.lconst 0), 1), (52, .lreturn, 1)]
theorem cto144 : ∀ q ∈ ct144, decode cX9_element q.1 = .ok (q.2.1, q.2.2) := by decide +kernel
/-- X9_holds -/
def ct145 : List (Nat × Instr × Nat) := [(0, (.iload_n 1), 1), (1, .i2l, 1), (2, (.lconst 0), 1), (3, (.ldc2_w 80), 3), (6, (.invokestatic 76), 3), (9, (.ifCond .eq 12), 3), (12, (.aload_n 0), 1), (13, (.getfield 7), 3), (16, (.iload_n 1), 1), (17, .iaload, 1), (18, (.ifCond .ne 5), 3), (21, (.iconst (-1)), 1), (22, .ireturn, 1), (23, (.aload_n 0), 1), (24, (.getfield 7), 3), (27, (.iload_n 1), 1), (28, .iaload, 1), (29, (.iconst 1), 1), (30, (.if_icmp .ne 12), 3), (33, (.aload_n 0), 1), (34, (.getfield 13), 3), (37, (.iload_n 1), 1), (38, .iaload, 1), (39, (.goto 12), 3), (42, (.bipush 10), 2), (44, (.aload_n 0), 1), (45, (.getfield 28), 3), (48, (.iload_n 1), 1), (49, .iaload, 1), (50, .iadd, 1), (51, .ireturn, 1)]
theorem cto145 : ∀ q ∈ ct145, decode cX9_holds q.1 = .ok (q.2.1, q.2.2) := by decide +kernel
/-- X9_rule -/
def ct146 : List (Nat × Instr × Nat) := [(0, (.iload_n 1), 1), (1, .i2l, 1), (2, (.lconst 0), 1), (3, (.ldc2_w 80), 3), (6, (.invokestatic 76), 3), (9, (.ifCond .eq 27), 3), (12, (.iload_n 2), 1), (13, .i2l, 1), (14, (.lconst 1), 1), (15, (.ldc2_w 97), 3), (18, (.invokestatic 76), 3), (21, (.ifCond .eq 15), 3), (24, (.iload_n 3), 1), (25, .i2l, 1), (26, (.lconst 0), 1), (27, (.ldc2_w 99), 3), (30, (.invokestatic 76), 3), (33, (.ifCond .ne 10), 3), (36, (.aload_n 0), 1), (37, (.bipush (-2)), 2), (39, (.invokevirtual 86), 3), (42, .ireturn, 1), (43, (.aload_n 0), 1), (44, (.getfield 7), 3), (47, (.iload_n 1), 1), (48, (.iconst 2), 1), (49, .iastore, 1), (50, (.aload_n 0), 1), (51, (.getfield 28), 3), (54, (.iload_n 1), 1), (55, (.iload_n 2), 1), (56, .iastore, 1), (57, (.aload_n 0), 1), (58, (.getfield 31), 3), (61, (.iload_n 1), 1), (62, (.iload_n 3), 1), (63, .iastore, 1), (64, (.iconst 1), 1), (65, .ireturn, 1)]
theorem cto146 : ∀ q ∈ ct146, decode cX9_rule q.1 = .ok (q.2.1, q.2.2) := by decide +kernel
/-- X9_isUnder -/
def ct147 : List (Nat × Instr × Nat) := [(0, (.iload_n 1), 1), (1, (.ifCond .eq 38), 3), (4, (.iload_n 0), 1), (5, (.iload_n 1), 1), (6, (.if_icmp .eq 33), 3), (9, (.iload_n 1), 1), (10, (.iconst 1), 1), (11, (.if_icmp .ne 18), 3), (14, (.iload_n 0), 1), (15, (.iconst 2), 1), (16, (.if_icmp .eq 23), 3), (19, (.iload_n 0), 1), (20, (.iconst 4), 1), (21, (.if_icmp .eq 18), 3), (24, (.iload_n 0), 1), (25, (.iconst 5), 1), (26, (.if_icmp .eq 13), 3), (29, (.iload_n 1), 1), (30, (.iconst 2), 1), (31, (.if_icmp .ne 12), 3), (34, (.iload_n 0), 1), (35, (.iconst 4), 1), (36, (.if_icmp .ne 7), 3), (39, (.iconst 1), 1), (40, (.goto 4), 3), (43, (.iconst 0), 1), (44, .ireturn, 1)]
theorem cto147 : ∀ q ∈ ct147, decode cX9_isUnder q.1 = .ok (q.2.1, q.2.2) := by decide +kernel
/-- X9_says -/
def ct148 : List (Nat × Instr × Nat) := [(0, (.iload_n 1), 1), (1, .i2l, 1), (2, (.lconst 0), 1), (3, (.ldc2_w 80), 3), (6, (.invokestatic 76), 3), (9, (.ifCond .eq 15), 3), (12, (.iload_n 2), 1), (13, .i2l, 1), (14, (.lconst 0), 1), (15, (.ldc2_w 97), 3), (18, (.invokestatic 76), 3), (21, (.ifCond .ne 10), 3), (24, (.aload_n 0), 1), (25, (.bipush (-2)), 2), (27, (.invokevirtual 86), 3), (30, .ireturn, 1), (31, (.aload_n 0), 1), (32, (.getfield 7), 3), (35, (.iload_n 1), 1), (36, .iaload, 1), (37, (.iconst 1), 1), (38, (.if_icmp .eq 26), 3), (41, (.aload_n 0), 1), (42, (.getfield 7), 3), (45, (.iload_n 1), 1), (46, .iaload, 1), (47, (.iconst 2), 1), (48, (.if_icmp .ne 23), 3), (51, (.aload_n 0), 1), (52, (.getfield 28), 3), (55, (.iload_n 1), 1), (56, .iaload, 1), (57, (.iload_n 2), 1), (58, (.invokestatic 101), 3), (61, (.ifCond .ne 10), 3), (64, (.aload_n 0), 1), (65, (.bipush (-3)), 2), (67, (.invokevirtual 86), 3), (70, .ireturn, 1), (71, (.aload_n 0), 1), (72, (.getfield 7), 3), (75, (.iload_n 1), 1), (76, .iaload, 1), (77, (.ifCond .ne 10), 3), (80, (.aload_n 0), 1), (81, (.bipush (-4)), 2), (83, (.invokevirtual 86), 3), (86, .ireturn, 1), (87, (.iload_n 2), 1), (88, (.ifCond .ne 12), 3), (91, (.aload_n 0), 1), (92, (.getfield 31), 3), (95, (.iload_n 1), 1), (96, .iaload, 1), (97, (.goto 19), 3), (100, (.aload_n 0), 1), (101, (.aload_n 0), 1), (102, (.getfield 28), 3), (105, (.iload_n 1), 1), (106, .iaload, 1), (107, (.aload_n 0), 1), (108, (.getfield 31), 3), (111, (.iload_n 1), 1), (112, .iaload, 1), (113, (.invokevirtual 105), 3), (116, .ireturn, 1)]
theorem cto148 : ∀ q ∈ ct148, decode cX9_says q.1 = .ok (q.2.1, q.2.2) := by decide +kernel
/-- X9_act -/
def ct149 : List (Nat × Instr × Nat) := [(0, (.iload_n 1), 1), (1, .i2l, 1), (2, (.lconst 0), 1), (3, (.ldc2_w 109), 3), (6, (.invokestatic 76), 3), (9, (.ifCond .eq 44), 3), (12, (.iload_n 2), 1), (13, .i2l, 1), (14, (.lconst 0), 1), (15, (.ldc2_w 80), 3), (18, (.invokestatic 76), 3), (21, (.ifCond .eq 32), 3), (24, (.iload_n 3), 1), (25, .i2l, 1), (26, (.lconst 0), 1), (27, (.ldc2_w 111), 3), (30, (.invokestatic 76), 3), (33, (.ifCond .eq 20), 3), (36, (.iload 4), 2), (38, .i2l, 1), (39, (.lconst 1), 1), (40, (.ldc2_w 113), 3), (43, (.invokestatic 76), 3), (46, (.ifCond .eq 7), 3), (49, (.iconst 1), 1), (50, (.goto 4), 3), (53, (.iconst 0), 1), (54, (.istore 7), 2), (56, (.iload 7), 2), (58, (.ifCond .eq 29), 3), (61, (.iload 5), 2), (63, .i2l, 1), (64, (.lconst 0), 1), (65, (.ldc2_w 115), 3), (68, (.invokestatic 76), 3), (71, (.ifCond .eq 16), 3), (74, (.iload 6), 2), (76, .i2l, 1), (77, (.lconst 0), 1), (78, (.ldc2_w 115), 3), (81, (.invokestatic 76), 3), (84, (.ifCond .ne 10), 3), (87, (.aload_n 0), 1), (88, (.bipush (-2)), 2), (90, (.invokevirtual 86), 3), (93, .ireturn, 1), (94, (.aload_n 0), 1), (95, (.getfield 73), 3), (98, (.bipush 10), 2), (100, (.if_icmp .ne 10), 3), (103, (.aload_n 0), 1), (104, (.bipush (-6)), 2), (106, (.invokevirtual 86), 3), (109, .ireturn, 1), (110, (.aload_n 0), 1), (111, (.getfield 42), 3), (114, (.aload_n 0), 1), (115, (.getfield 73), 3), (118, .aaload, 1), (119, (.astore 8), 2), (121, (.aload 8), 2), (123, (.iconst 0), 1), (124, (.iload_n 1), 1), (125, .iastore, 1), (126, (.aload 8), 2), (128, (.iconst 1), 1), (129, (.iload_n 2), 1), (130, .iastore, 1), (131, (.aload 8), 2), (133, (.iconst 2), 1), (134, (.iload_n 3), 1), (135, .iastore, 1), (136, (.aload 8), 2), (138, (.iconst 3), 1), (139, (.iload 4), 2), (141, .iastore, 1), (142, (.aload 8), 2), (144, (.iconst 4), 1), (145, (.iload 5), 2), (147, .iastore, 1), (148, (.aload 8), 2), (150, (.iconst 5), 1), (151, (.iload 6), 2), (153, .iastore, 1), (154, (.aload 8), 2), (156, (.bipush 6), 2), (158, (.iconst 0), 1), (159, .iastore, 1), (160, (.aload_n 0), 1), (161, (.iconst 0), 1), (162, (.putfield 117), 3), (165, (.aload_n 0), 1), (166, .dup, 1), (167, (.getfield 73), 3), (170, .dup_x1, 1), (171, (.iconst 1), 1), (172, .iadd, 1), (173, (.putfield 73), 3), (176, .ireturn, 1)]
theorem cto149 : ∀ q ∈ ct149, decode cX9_act q.1 = .ok (q.2.1, q.2.2) := by decide +kernel
/-- X9_mark -/
def ct150 : List (Nat × Instr × Nat) := [(0, (.iload_n 1), 1), (1, .i2l, 1), (2, (.lconst 0), 1), (3, (.ldc2_w 80), 3), (6, (.invokestatic 76), 3), (9, (.ifCond .ne 10), 3), (12, (.aload_n 0), 1), (13, (.bipush (-2)), 2), (15, (.invokevirtual 86), 3), (18, .ireturn, 1), (19, (.aload_n 0), 1), (20, (.getfield 121), 3), (23, (.iload_n 1), 1), (24, (.invokestatic 124), 3), (27, (.istore_n 3), 1), (28, (.aload_n 0), 1), (29, (.iload_n 2), 1), (30, (.ifCond .eq 14), 3), (33, (.aload_n 0), 1), (34, (.getfield 121), 3), (37, (.iconst 1), 1), (38, (.iload_n 1), 1), (39, .ishl, 1), (40, .ior, 1), (41, (.goto 13), 3), (44, (.aload_n 0), 1), (45, (.getfield 121), 3), (48, (.iconst 1), 1), (49, (.iload_n 1), 1), (50, .ishl, 1), (51, (.iconst (-1)), 1), (52, .ixor, 1), (53, .iand, 1), (54, (.putfield 121), 3), (57, (.aload_n 0), 1), (58, (.iconst 0), 1), (59, (.putfield 117), 3), (62, (.iload_n 3), 1), (63, (.iload_n 2), 1), (64, (.if_icmp .eq 7), 3), (67, (.iconst 1), 1), (68, (.goto 4), 3), (71, (.iconst 0), 1), (72, .ireturn, 1)]
theorem cto150 : ∀ q ∈ ct150, decode cX9_mark q.1 = .ok (q.2.1, q.2.2) := by decide +kernel
/-- X9_count -/
def ct151 : List (Nat × Instr × Nat) := [(0, (.iload_n 1), 1), (1, .i2l, 1), (2, (.lconst 0), 1), (3, (.ldc2_w 111), 3), (6, (.invokestatic 76), 3), (9, (.ifCond .eq 15), 3), (12, (.iload_n 2), 1), (13, .i2l, 1), (14, (.lconst 0), 1), (15, (.ldc2_w 127), 3), (18, (.invokestatic 76), 3), (21, (.ifCond .ne 10), 3), (24, (.aload_n 0), 1), (25, (.bipush (-2)), 2), (27, (.invokevirtual 86), 3), (30, .ireturn, 1), (31, (.aload_n 0), 1), (32, (.getfield 45), 3), (35, (.iload_n 1), 1), (36, .iaload, 1), (37, (.istore_n 3), 1), (38, (.aload_n 0), 1), (39, (.getfield 45), 3), (42, (.iload_n 1), 1), (43, (.iload_n 2), 1), (44, .iastore, 1), (45, (.aload_n 0), 1), (46, (.iconst 0), 1), (47, (.putfield 117), 3), (50, (.iload_n 3), 1), (51, .ireturn, 1)]
theorem cto151 : ∀ q ∈ ct151, decode cX9_count q.1 = .ok (q.2.1, q.2.2) := by decide +kernel
/-- X9_likes -/
def ct152 : List (Nat × Instr × Nat) := [(0, (.iload_n 1), 1), (1, .i2l, 1), (2, (.lconst 0), 1), (3, (.lconst 1), 1), (4, (.invokestatic 76), 3), (7, (.ifCond .eq 53), 3), (10, (.iload_n 2), 1), (11, .i2l, 1), (12, (.lconst 0), 1), (13, (.ldc2_w 129), 3), (16, (.invokestatic 76), 3), (19, (.ifCond .eq 41), 3), (22, (.iload_n 3), 1), (23, .i2l, 1), (24, (.iload_n 2), 1), (25, (.bipush 8), 2), (27, (.if_icmp .ge 9), 3), (30, (.ldc2_w 131), 3), (33, (.goto 6), 3), (36, (.ldc2_w 133), 3), (39, (.iload_n 2), 1), (40, (.bipush 8), 2), (42, (.if_icmp .ge 9), 3), (45, (.ldc2_w 99), 3), (48, (.goto 6), 3), (51, (.ldc2_w 113), 3), (54, (.invokestatic 76), 3), (57, (.ifCond .ne 10), 3), (60, (.aload_n 0), 1), (61, (.bipush (-2)), 2), (63, (.invokevirtual 86), 3), (66, .ireturn, 1), (67, (.aload_n 0), 1), (68, (.getfield 48), 3), (71, (.iload_n 1), 1), (72, .aaload, 1), (73, (.iload_n 2), 1), (74, (.iload_n 3), 1), (75, .iastore, 1), (76, (.iconst 1), 1), (77, .ireturn, 1)]
theorem cto152 : ∀ q ∈ ct152, decode cX9_likes q.1 = .ok (q.2.1, q.2.2) := by decide +kernel
/-- X9_lock -/
def ct153 : List (Nat × Instr × Nat) := [(0, (.iload_n 1), 1), (1, .i2l, 1), (2, (.lconst 0), 1), (3, (.lconst 1), 1), (4, (.invokestatic 76), 3), (7, (.ifCond .eq 12), 3), (10, (.aload_n 0), 1), (11, (.iload_n 2), 1), (12, .i2l, 1), (13, (.invokevirtual 135), 3), (16, (.ifCond .ne 10), 3), (19, (.aload_n 0), 1), (20, (.bipush (-2)), 2), (22, (.invokevirtual 86), 3), (25, .ireturn, 1), (26, (.aload_n 0), 1), (27, (.getfield 42), 3), (30, (.iload_n 2), 1), (31, .aaload, 1), (32, (.bipush 6), 2), (34, .iaload, 1), (35, (.iload_n 1), 1), (36, (.invokestatic 124), 3), (39, (.istore 4), 2), (41, (.aload_n 0), 1), (42, (.getfield 42), 3), (45, (.iload_n 2), 1), (46, .aaload, 1), (47, (.bipush 6), 2), (49, (.iload_n 3), 1), (50, (.ifCond .eq 19), 3), (53, (.aload_n 0), 1), (54, (.getfield 42), 3), (57, (.iload_n 2), 1), (58, .aaload, 1), (59, (.bipush 6), 2), (61, .iaload, 1), (62, (.iconst 1), 1), (63, (.iload_n 1), 1), (64, .ishl, 1), (65, .ior, 1), (66, (.goto 18), 3), (69, (.aload_n 0), 1), (70, (.getfield 42), 3), (73, (.iload_n 2), 1), (74, .aaload, 1), (75, (.bipush 6), 2), (77, .iaload, 1), (78, (.iconst 1), 1), (79, (.iload_n 1), 1), (80, .ishl, 1), (81, (.iconst (-1)), 1), (82, .ixor, 1), (83, .iand, 1), (84, .iastore, 1), (85, (.aload_n 0), 1), (86, (.iconst 0), 1), (87, (.putfield 117), 3), (90, (.iload 4), 2), (92, (.iload_n 3), 1), (93, (.if_icmp .eq 7), 3), (96, (.iconst 1), 1), (97, (.goto 4), 3), (100, (.iconst 0), 1), (101, .ireturn, 1)]
theorem cto153 : ∀ q ∈ ct153, decode cX9_lock q.1 = .ok (q.2.1, q.2.2) := by decide +kernel
/-- X9_hide -/
def ct154 : List (Nat × Instr × Nat) := [(0, (.iload_n 1), 1), (1, .i2l, 1), (2, (.lconst 0), 1), (3, (.ldc2_w 115), 3), (6, (.invokestatic 76), 3), (9, (.ifCond .ne 10), 3), (12, (.aload_n 0), 1), (13, (.bipush (-2)), 2), (15, (.invokevirtual 86), 3), (18, .ireturn, 1), (19, (.aload_n 0), 1), (20, (.getfield 139), 3), (23, (.istore_n 2), 1), (24, (.aload_n 0), 1), (25, (.iload_n 1), 1), (26, (.putfield 139), 3), (29, (.iload_n 2), 1), (30, .ireturn, 1)]
theorem cto154 : ∀ q ∈ ct154, decode cX9_hide q.1 = .ok (q.2.1, q.2.2) := by decide +kernel
/-- X9_feed -/
def ct155 : List (Nat × Instr × Nat) := [(0, (.iload_n 1), 1), (1, .i2l, 1), (2, (.lconst 0), 1), (3, (.ldc2_w 115), 3), (6, (.invokestatic 76), 3), (9, (.ifCond .ne 10), 3), (12, (.aload_n 0), 1), (13, (.bipush (-2)), 2), (15, (.invokevirtual 86), 3), (18, .ireturn, 1), (19, (.aload_n 0), 1), (20, (.getfield 142), 3), (23, (.sipush 250), 3), (26, (.if_icmp .ne 10), 3), (29, (.aload_n 0), 1), (30, (.bipush (-6)), 2), (32, (.invokevirtual 86), 3), (35, .ireturn, 1), (36, (.aload_n 0), 1), (37, (.getfield 34), 3), (40, (.aload_n 0), 1), (41, .dup, 1), (42, (.getfield 142), 3), (45, .dup_x1, 1), (46, (.iconst 1), 1), (47, .iadd, 1), (48, (.putfield 142), 3), (51, (.iload_n 1), 1), (52, .iastore, 1), (53, (.aload_n 0), 1), (54, (.getfield 142), 3), (57, .ireturn, 1)]
theorem cto155 : ∀ q ∈ ct155, decode cX9_feed q.1 = .ok (q.2.1, q.2.2) := by decide +kernel
/-- X9_wipe -/
def ct156 : List (Nat × Instr × Nat) := [(0, (.aload_n 0), 1), (1, (.getfield 142), 3), (4, (.istore_n 1), 1), (5, (.aload_n 0), 1), (6, (.iconst 0), 1), (7, (.putfield 142), 3), (10, (.iload_n 1), 1), (11, .ireturn, 1)]
theorem cto156 : ∀ q ∈ ct156, decode cX9_wipe q.1 = .ok (q.2.1, q.2.2) := by decide +kernel
/-- X9_isLetter -/
def ct157 : List (Nat × Instr × Nat) := [(0, (.iload_n 0), 1), (1, (.bipush 97), 2), (3, (.if_icmp .lt 13), 3), (6, (.iload_n 0), 1), (7, (.bipush 122), 2), (9, (.if_icmp .gt 7), 3), (12, (.iconst 1), 1), (13, (.goto 4), 3), (16, (.iconst 0), 1), (17, .ireturn, 1)]
theorem cto157 : ∀ q ∈ ct157, decode cX9_isLetter q.1 = .ok (q.2.1, q.2.2) := by decide +kernel
/-- X9_isDigit -/
def ct158 : List (Nat × Instr × Nat) := [(0, (.iload_n 0), 1), (1, (.bipush 48), 2), (3, (.if_icmp .lt 13), 3), (6, (.iload_n 0), 1), (7, (.bipush 57), 2), (9, (.if_icmp .gt 7), 3), (12, (.iconst 1), 1), (13, (.goto 4), 3), (16, (.iconst 0), 1), (17, .ireturn, 1)]
theorem cto158 : ∀ q ∈ ct158, decode cX9_isDigit q.1 = .ok (q.2.1, q.2.2) := by decide +kernel
end
section
def ct159_0 : List (Nat × Instr × Nat) := [(0, (.aload_n 0), 1), (1, (.getfield 145), 3), (4, (.aload_n 0), 1), (5, (.getfield 142), 3), (8, (.if_icmp .ge 30), 3), (11, (.aload_n 0), 1), (12, (.getfield 34), 3), (15, (.aload_n 0), 1), (16, (.getfield 145), 3), (19, .iaload, 1), (20, (.bipush 32), 2), (22, (.if_icmp .ne 16), 3), (25, (.aload_n 0), 1), (26, .dup, 1), (27, (.getfield 145), 3), (30, (.iconst 1), 1), (31, .iadd, 1), (32, (.putfield 145), 3), (35, (.goto (-35)), 3), (38, (.aload_n 0), 1), (39, (.aload_n 0), 1), (40, (.getfield 145), 3), (43, (.putfield 148), 3), (46, (.aload_n 0), 1), (47, (.iconst 0), 1), (48, (.putfield 151), 3), (51, (.aload_n 0), 1), (52, (.getfield 145), 3), (55, (.aload_n 0), 1), (56, (.getfield 142), 3), (59, (.if_icmp .ne 11), 3), (62, (.aload_n 0), 1), (63, (.iconst 0), 1), (64, (.putfield 154), 3), (67, (.goto 196), 3), (70, (.aload_n 0), 1), (71, (.getfield 34), 3), (74, (.aload_n 0), 1), (75, (.getfield 145), 3), (78, .iaload, 1), (79, (.invokestatic 157), 3), (82, (.ifCond .eq 47), 3), (85, (.aload_n 0), 1), (86, (.iconst 1), 1), (87, (.putfield 154), 3), (90, (.aload_n 0), 1), (91, (.getfield 145), 3), (94, (.aload_n 0), 1), (95, (.getfield 142), 3), (98, (.if_icmp .ge 165), 3), (101, (.aload_n 0), 1), (102, (.getfield 34), 3), (105, (.aload_n 0), 1), (106, (.getfield 145), 3), (109, .iaload, 1), (110, (.invokestatic 157), 3), (113, (.ifCond .eq 150), 3), (116, (.aload_n 0), 1), (117, .dup, 1), (118, (.getfield 145), 3), (121, (.iconst 1), 1), (122, .iadd, 1), (123, (.putfield 145), 3), (126, (.goto (-36)), 3), (129, (.aload_n 0), 1), (130, (.getfield 34), 3), (133, (.aload_n 0), 1), (134, (.getfield 145), 3), (137, .iaload, 1), (138, (.invokestatic 161), 3), (141, (.ifCond .eq 89), 3), (144, (.aload_n 0), 1), (145, (.iconst 2), 1), (146, (.putfield 154), 3), (149, (.aload_n 0), 1), (150, (.getfield 145), 3), (153, (.aload_n 0), 1), (154, (.getfield 142), 3), (157, (.if_icmp .ge 106), 3), (160, (.aload_n 0), 1), (161, (.getfield 34), 3), (164, (.aload_n 0), 1), (165, (.getfield 145), 3), (168, .iaload, 1), (169, (.invokestatic 161), 3), (172, (.ifCond .eq 91), 3), (175, (.aload_n 0), 1), (176, (.aload_n 0), 1), (177, (.getfield 145), 3), (180, (.aload_n 0), 1), (181, (.getfield 148), 3), (184, .isub, 1), (185, (.iconst 2), 1), (186, (.if_icmp .ge 26), 3), (189, (.aload_n 0), 1), (190, (.getfield 151), 3), (193, (.bipush 10), 2), (195, .imul, 1), (196, (.aload_n 0), 1), (197, (.getfield 34), 3)]
theorem cto159_0 : ∀ q ∈ ct159_0, decode cX9_look q.1 = .ok (q.2.1, q.2.2) := by decide +kernel
def ct159_1 : List (Nat × Instr × Nat) := [(200, (.aload_n 0), 1), (201, (.getfield 145), 3), (204, .iaload, 1), (205, .iadd, 1), (206, (.bipush 48), 2), (208, .isub, 1), (209, (.goto 5), 3), (212, (.ldc 164), 2), (214, (.putfield 151), 3), (217, (.aload_n 0), 1), (218, .dup, 1), (219, (.getfield 145), 3), (222, (.iconst 1), 1), (223, .iadd, 1), (224, (.putfield 145), 3), (227, (.goto (-78)), 3), (230, (.aload_n 0), 1), (231, (.aload_n 0), 1), (232, (.getfield 34), 3), (235, (.aload_n 0), 1), (236, (.getfield 145), 3), (239, .iaload, 1), (240, (.bipush 59), 2), (242, (.if_icmp .ne 7), 3), (245, (.iconst 3), 1), (246, (.goto 4), 3), (249, (.iconst 4), 1), (250, (.putfield 154), 3), (253, (.aload_n 0), 1), (254, .dup, 1), (255, (.getfield 145), 3), (258, (.iconst 1), 1), (259, .iadd, 1), (260, (.putfield 145), 3), (263, .return_, 1)]
theorem cto159_1 : ∀ q ∈ ct159_1, decode cX9_look q.1 = .ok (q.2.1, q.2.2) := by decide +kernel
/-- X9_look -/
def ct159 : List (Nat × Instr × Nat) := ct159_0 ++ (ct159_1)
theorem cto159 : ∀ q ∈ ct159, decode cX9_look q.1 = .ok (q.2.1, q.2.2) := List.forall_mem_append.mpr ⟨cto159_0, cto159_1⟩
/-- X9_wrong -/
def ct160 : List (Nat × Instr × Nat) := [(0, (.aload_n 0), 1), (1, (.aload_n 0), 1), (2, (.getfield 148), 3), (5, (.putfield 165), 3), (8, (.iconst 0), 1), (9, .ireturn, 1)]
theorem cto160 : ∀ q ∈ ct160, decode cX9_wrong q.1 = .ok (q.2.1, q.2.2) := by decide +kernel
/-- X9_isWord -/
def ct161 : List (Nat × Instr × Nat) := [(0, (.aload_n 0), 1), (1, (.getfield 154), 3), (4, (.iconst 1), 1), (5, (.if_icmp .ne 19), 3), (8, (.aload_n 0), 1), (9, (.getfield 145), 3), (12, (.aload_n 0), 1), (13, (.getfield 148), 3), (16, .isub, 1), (17, (.aload_n 1), 1), (18, (.invokevirtual 168), 3), (21, (.if_icmp .eq 5), 3), (24, (.iconst 0), 1), (25, .ireturn, 1), (26, (.iconst 0), 1), (27, (.istore_n 2), 1), (28, (.iload_n 2), 1), (29, (.aload_n 1), 1), (30, (.invokevirtual 168), 3), (33, (.if_icmp .ge 30), 3), (36, (.aload_n 0), 1), (37, (.getfield 34), 3), (40, (.aload_n 0), 1), (41, (.getfield 148), 3), (44, (.iload_n 2), 1), (45, .iadd, 1), (46, .iaload, 1), (47, (.aload_n 1), 1), (48, (.iload_n 2), 1), (49, (.invokevirtual 174), 3), (52, (.if_icmp .eq 5), 3), (55, (.iconst 0), 1), (56, .ireturn, 1), (57, (.iinc 2 1), 3), (60, (.goto (-32)), 3), (63, (.iconst 1), 1), (64, .ireturn, 1)]
theorem cto161 : ∀ q ∈ ct161, decode cX9_isWord q.1 = .ok (q.2.1, q.2.2) := by decide +kernel
/-- X9_number -/
def ct162 : List (Nat × Instr × Nat) := [(0, (.aload_n 0), 1), (1, (.getfield 154), 3), (4, (.iconst 2), 1), (5, (.if_icmp .ne 18), 3), (8, (.aload_n 0), 1), (9, (.getfield 151), 3), (12, .i2l, 1), (13, (.iload_n 2), 1), (14, .i2l, 1), (15, (.iload_n 3), 1), (16, .i2l, 1), (17, (.invokestatic 76), 3), (20, (.ifCond .ne 8), 3), (23, (.aload_n 0), 1), (24, (.invokevirtual 178), 3), (27, .ireturn, 1), (28, (.aload_n 0), 1), (29, (.getfield 61), 3), (32, (.iload_n 1), 1), (33, (.aload_n 0), 1), (34, (.getfield 151), 3), (37, .iastore, 1), (38, (.aload_n 0), 1), (39, (.invokevirtual 182), 3), (42, (.iconst 1), 1), (43, .ireturn, 1)]
theorem cto162 : ∀ q ∈ ct162, decode cX9_number q.1 = .ok (q.2.1, q.2.2) := by decide +kernel
/-- X9_tells -/
def ct163 : List (Nat × Instr × Nat) := [(0, (.aload_n 0), 1), (1, (.aload_n 1), 1), (2, (.invokevirtual 185), 3), (5, (.ifCond .ne 8), 3), (8, (.aload_n 0), 1), (9, (.invokevirtual 178), 3), (12, .ireturn, 1), (13, (.aload_n 0), 1), (14, (.invokevirtual 182), 3), (17, (.aload_n 0), 1), (18, (.iload_n 2), 1), (19, (.iload_n 3), 1), (20, (.iload 4), 2), (22, (.invokevirtual 189), 3), (25, .ireturn, 1)]
theorem cto163 : ∀ q ∈ ct163, decode cX9_tells q.1 = .ok (q.2.1, q.2.2) := by decide +kernel
/-- X9_actTold -/
def ct164 : List (Nat × Instr × Nat) := [(0, (.aload_n 0), 1), (1, (.ldc 193), 2), (3, (.iconst 0), 1), (4, (.iconst 0), 1), (5, (.iconst 5), 1), (6, (.invokevirtual 194), 3), (9, (.ifCond .eq 35), 3), (12, (.aload_n 0), 1), (13, (.iconst 1), 1), (14, (.iconst 0), 1), (15, (.bipush 7), 2), (17, (.invokevirtual 189), 3), (20, (.ifCond .eq 24), 3), (23, (.aload_n 0), 1), (24, (.iconst 2), 1), (25, (.iconst 0), 1), (26, (.iconst 3), 1), (27, (.invokevirtual 189), 3), (30, (.ifCond .eq 14), 3), (33, (.aload_n 0), 1), (34, (.iconst 3), 1), (35, (.iconst 1), 1), (36, (.bipush 9), 2), (38, (.invokevirtual 189), 3), (41, (.ifCond .ne 5), 3), (44, (.iconst 0), 1), (45, .ireturn, 1), (46, (.aload_n 0), 1), (47, (.aload_n 0), 1), (48, (.getfield 61), 3), (51, (.iconst 0), 1), (52, .iaload, 1), (53, (.aload_n 0), 1), (54, (.getfield 61), 3), (57, (.iconst 1), 1), (58, .iaload, 1), (59, (.aload_n 0), 1), (60, (.getfield 61), 3), (63, (.iconst 2), 1), (64, .iaload, 1), (65, (.aload_n 0), 1), (66, (.getfield 61), 3), (69, (.iconst 3), 1), (70, .iaload, 1), (71, (.iconst 0), 1), (72, (.iconst 0), 1), (73, (.invokevirtual 198), 3), (76, (.istore_n 1), 1), (77, (.aload_n 0), 1), (78, (.ldc 201), 2), (80, (.invokevirtual 185), 3), (83, (.ifCond .eq 40), 3), (86, (.aload_n 0), 1), (87, (.ldc 201), 2), (89, (.iconst 0), 1), (90, (.iconst 0), 1), (91, (.bipush 7), 2), (93, (.invokevirtual 194), 3), (96, (.ifCond .ne 5), 3), (99, (.iconst 0), 1), (100, .ireturn, 1), (101, (.aload_n 0), 1), (102, (.getfield 42), 3), (105, (.iload_n 1), 1), (106, .aaload, 1), (107, (.iconst 4), 1), (108, .dup2, 1), (109, .iaload, 1), (110, (.iconst 1), 1), (111, (.aload_n 0), 1), (112, (.getfield 61), 3), (115, (.iconst 0), 1), (116, .iaload, 1), (117, .ishl, 1), (118, .ior, 1), (119, .iastore, 1), (120, (.goto (-43)), 3), (123, (.aload_n 0), 1), (124, (.ldc 203), 2), (126, (.invokevirtual 185), 3), (129, (.ifCond .eq 40), 3), (132, (.aload_n 0), 1), (133, (.ldc 203), 2), (135, (.iconst 0), 1), (136, (.iconst 0), 1), (137, (.bipush 7), 2), (139, (.invokevirtual 194), 3), (142, (.ifCond .ne 5), 3), (145, (.iconst 0), 1), (146, .ireturn, 1), (147, (.aload_n 0), 1), (148, (.getfield 42), 3), (151, (.iload_n 1), 1), (152, .aaload, 1), (153, (.iconst 5), 1), (154, .dup2, 1), (155, .iaload, 1), (156, (.iconst 1), 1), (157, (.aload_n 0), 1), (158, (.getfield 61), 3), (161, (.iconst 0), 1), (162, .iaload, 1), (163, .ishl, 1), (164, .ior, 1), (165, .iastore, 1), (166, (.goto (-43)), 3), (169, (.iconst 1), 1), (170, .ireturn, 1)]
theorem cto164 : ∀ q ∈ ct164, decode cX9_actTold q.1 = .ok (q.2.1, q.2.2) := by decide +kernel
/-- X9_worthTold -/
def ct165 : List (Nat × Instr × Nat) := [(0, (.aload_n 0), 1), (1, (.aload_n 1), 1), (2, (.iconst 0), 1), (3, (.iconst 0), 1), (4, (.iconst 1), 1), (5, (.invokevirtual 194), 3), (8, (.ifCond .eq 42), 3), (11, (.aload_n 0), 1), (12, (.iconst 1), 1), (13, (.iconst 0), 1), (14, (.iload_n 2), 1), (15, (.ifCond .eq 8), 3), (18, (.bipush 7), 2), (20, (.goto 4), 3), (23, (.iconst 3), 1), (24, (.invokevirtual 189), 3), (27, (.ifCond .eq 23), 3), (30, (.aload_n 0), 1), (31, (.iconst 2), 1), (32, (.iconst 0), 1), (33, (.iload_n 2), 1), (34, (.ifCond .eq 8), 3), (37, (.bipush 99), 2), (39, (.goto 5), 3), (42, (.bipush 9), 2), (44, (.invokevirtual 189), 3), (47, (.ifCond .ne 5), 3), (50, (.iconst 0), 1), (51, .ireturn, 1), (52, (.aload_n 0), 1), (53, (.getfield 48), 3), (56, (.aload_n 0), 1), (57, (.getfield 61), 3), (60, (.iconst 0), 1), (61, .iaload, 1), (62, .aaload, 1), (63, (.iload_n 2), 1), (64, (.ifCond .eq 12), 3), (67, (.aload_n 0), 1), (68, (.getfield 61), 3), (71, (.iconst 1), 1), (72, .iaload, 1), (73, (.goto 12), 3), (76, (.bipush 8), 2), (78, (.aload_n 0), 1), (79, (.getfield 61), 3), (82, (.iconst 1), 1), (83, .iaload, 1), (84, .iadd, 1), (85, (.iload_n 3), 1), (86, (.aload_n 0), 1), (87, (.getfield 61), 3), (90, (.iconst 2), 1), (91, .iaload, 1), (92, .imul, 1), (93, .iastore, 1), (94, (.iconst 1), 1), (95, .ireturn, 1)]
theorem cto165 : ∀ q ∈ ct165, decode cX9_worthTold q.1 = .ok (q.2.1, q.2.2) := by decide +kernel
def ct166_0 : List (Nat × Instr × Nat) := [(0, (.aload_n 0), 1), (1, (.ldc 193), 2), (3, (.invokevirtual 185), 3), (6, (.ifCond .eq 17), 3), (9, (.aload_n 0), 1), (10, (.getfield 73), 3), (13, (.bipush 10), 2), (15, (.if_icmp .ge 8), 3), (18, (.aload_n 0), 1), (19, (.invokevirtual 205), 3), (22, .ireturn, 1), (23, (.aload_n 0), 1), (24, (.ldc 208), 2), (26, (.invokevirtual 185), 3), (29, (.ifCond .eq 41), 3), (32, (.aload_n 0), 1), (33, (.ldc 208), 2), (35, (.iconst 0), 1), (36, (.iconst 0), 1), (37, (.bipush 7), 2), (39, (.invokevirtual 194), 3), (42, (.istore_n 1), 1), (43, (.aload_n 0), 1), (44, .dup, 1), (45, (.getfield 121), 3), (48, (.iload_n 1), 1), (49, (.ifCond .eq 14), 3), (52, (.iconst 1), 1), (53, (.aload_n 0), 1), (54, (.getfield 61), 3), (57, (.iconst 0), 1), (58, .iaload, 1), (59, .ishl, 1), (60, (.goto 4), 3), (63, (.iconst 0), 1), (64, .ior, 1), (65, (.putfield 121), 3), (68, (.iload_n 1), 1), (69, .ireturn, 1), (70, (.aload_n 0), 1), (71, (.ldc 210), 2), (73, (.invokevirtual 185), 3), (76, (.ifCond .eq 47), 3), (79, (.aload_n 0), 1), (80, (.ldc 210), 2), (82, (.iconst 0), 1), (83, (.iconst 0), 1), (84, (.iconst 3), 1), (85, (.invokevirtual 194), 3), (88, (.ifCond .eq 14), 3), (91, (.aload_n 0), 1), (92, (.iconst 1), 1), (93, (.iconst 0), 1), (94, (.bipush 23), 2), (96, (.invokevirtual 189), 3), (99, (.ifCond .ne 5), 3), (102, (.iconst 0), 1), (103, .ireturn, 1), (104, (.aload_n 0), 1), (105, (.getfield 45), 3), (108, (.aload_n 0), 1), (109, (.getfield 61), 3), (112, (.iconst 0), 1), (113, .iaload, 1), (114, (.aload_n 0), 1), (115, (.getfield 61), 3), (118, (.iconst 1), 1), (119, .iaload, 1), (120, .iastore, 1), (121, (.iconst 1), 1), (122, .ireturn, 1), (123, (.aload_n 0), 1), (124, (.ldc 212), 2), (126, (.invokevirtual 185), 3), (129, (.ifCond .eq 12), 3), (132, (.aload_n 0), 1), (133, (.ldc 212), 2), (135, (.iconst 1), 1), (136, (.iconst 1), 1), (137, (.invokevirtual 214), 3), (140, .ireturn, 1), (141, (.aload_n 0), 1), (142, (.ldc 218), 2), (144, (.invokevirtual 185), 3), (147, (.ifCond .eq 12), 3), (150, (.aload_n 0), 1), (151, (.ldc 218), 2), (153, (.iconst 1), 1), (154, (.iconst (-1)), 1), (155, (.invokevirtual 214), 3), (158, .ireturn, 1), (159, (.aload_n 0), 1), (160, (.ldc 220), 2), (162, (.invokevirtual 185), 3), (165, (.ifCond .eq 12), 3), (168, (.aload_n 0), 1), (169, (.ldc 220), 2), (171, (.iconst 0), 1), (172, (.iconst 1), 1), (173, (.invokevirtual 214), 3)]
theorem cto166_0 : ∀ q ∈ ct166_0, decode cX9_statement q.1 = .ok (q.2.1, q.2.2) := by decide +kernel
def ct166_1 : List (Nat × Instr × Nat) := [(176, .ireturn, 1), (177, (.aload_n 0), 1), (178, (.ldc 221), 2), (180, (.invokevirtual 185), 3), (183, (.ifCond .eq 12), 3), (186, (.aload_n 0), 1), (187, (.ldc 221), 2), (189, (.iconst 0), 1), (190, (.iconst (-1)), 1), (191, (.invokevirtual 214), 3), (194, .ireturn, 1), (195, (.aload_n 0), 1), (196, (.ldc 223), 2), (198, (.invokevirtual 185), 3), (201, (.ifCond .eq 41), 3), (204, (.aload_n 0), 1), (205, (.ldc 223), 2), (207, (.iconst 0), 1), (208, (.iconst 0), 1), (209, (.bipush 7), 2), (211, (.invokevirtual 194), 3), (214, (.istore_n 1), 1), (215, (.aload_n 0), 1), (216, .dup, 1), (217, (.getfield 139), 3), (220, (.iload_n 1), 1), (221, (.ifCond .eq 14), 3), (224, (.iconst 1), 1), (225, (.aload_n 0), 1), (226, (.getfield 61), 3), (229, (.iconst 0), 1), (230, .iaload, 1), (231, .ishl, 1), (232, (.goto 4), 3), (235, (.iconst 0), 1), (236, .ior, 1), (237, (.putfield 139), 3), (240, (.iload_n 1), 1), (241, .ireturn, 1), (242, (.aload_n 0), 1), (243, (.ldc 225), 2), (245, (.iconst 0), 1), (246, (.iconst 0), 1), (247, (.iconst 1), 1), (248, (.invokevirtual 194), 3), (251, (.ifCond .eq 18), 3), (254, (.aload_n 0), 1), (255, (.iconst 1), 1), (256, (.iconst 0), 1), (257, (.aload_n 0), 1), (258, (.getfield 73), 3), (261, (.iconst 1), 1), (262, .isub, 1), (263, (.invokevirtual 189), 3), (266, (.ifCond .ne 5), 3), (269, (.iconst 0), 1), (270, .ireturn, 1), (271, (.aload_n 0), 1), (272, (.getfield 42), 3), (275, (.aload_n 0), 1), (276, (.getfield 61), 3), (279, (.iconst 1), 1), (280, .iaload, 1), (281, .aaload, 1), (282, (.bipush 6), 2), (284, .dup2, 1), (285, .iaload, 1), (286, (.iconst 1), 1), (287, (.aload_n 0), 1), (288, (.getfield 61), 3), (291, (.iconst 0), 1), (292, .iaload, 1), (293, .ishl, 1), (294, .ior, 1), (295, .iastore, 1), (296, (.iconst 1), 1), (297, .ireturn, 1)]
theorem cto166_1 : ∀ q ∈ ct166_1, decode cX9_statement q.1 = .ok (q.2.1, q.2.2) := by decide +kernel
/-- X9_statement -/
def ct166 : List (Nat × Instr × Nat) := ct166_0 ++ (ct166_1)
theorem cto166 : ∀ q ∈ ct166, decode cX9_statement q.1 = .ok (q.2.1, q.2.2) := List.forall_mem_append.mpr ⟨cto166_0, cto166_1⟩
/-- X9_readAll -/
def ct167 : List (Nat × Instr × Nat) := [(0, (.aload_n 0), 1), (1, (.iconst 1), 1), (2, (.putfield 227), 3), (5, (.aload_n 0), 1), (6, (.iconst 0), 1), (7, (.putfield 145), 3), (10, (.aload_n 0), 1), (11, (.invokevirtual 182), 3), (14, (.aload_n 0), 1), (15, (.invokevirtual 230), 3), (18, (.ifCond .ne 5), 3), (21, (.iconst 0), 1), (22, .ireturn, 1), (23, (.aload_n 0), 1), (24, (.getfield 154), 3), (27, (.ifCond .eq 42), 3), (30, (.aload_n 0), 1), (31, (.getfield 154), 3), (34, (.iconst 3), 1), (35, (.if_icmp .eq 8), 3), (38, (.aload_n 0), 1), (39, (.invokevirtual 178), 3), (42, .ireturn, 1), (43, (.aload_n 0), 1), (44, (.invokevirtual 182), 3), (47, (.aload_n 0), 1), (48, (.invokevirtual 230), 3), (51, (.ifCond .ne 5), 3), (54, (.iconst 0), 1), (55, .ireturn, 1), (56, (.aload_n 0), 1), (57, .dup, 1), (58, (.getfield 227), 3), (61, (.iconst 1), 1), (62, .iadd, 1), (63, (.putfield 227), 3), (66, (.goto (-43)), 3), (69, (.iconst 1), 1), (70, .ireturn, 1)]
theorem cto167 : ∀ q ∈ ct167, decode cX9_readAll q.1 = .ok (q.2.1, q.2.2) := by decide +kernel
/-- X9_town -/
def ct168 : List (Nat × Instr × Nat) := [(0, (.aload_n 0), 1), (1, (.getfield 51), 3), (4, (.iconst 0), 1), (5, .iaload, 1), (6, (.istore_n 1), 1), (7, (.aload_n 0), 1), (8, (.getfield 51), 3), (11, (.iconst 1), 1), (12, .iaload, 1), (13, (.istore_n 2), 1), (14, (.aload_n 0), 1), (15, (.invokevirtual 233), 3), (18, (.astore_n 3), 1), (19, (.aload_n 0), 1), (20, (.invokevirtual 237), 3), (23, (.istore 4), 2), (25, (.aload_n 0), 1), (26, (.iconst 0), 1), (27, (.putfield 142), 3), (30, (.iload 4), 2), (32, (.ifCond .ne 37), 3), (35, (.aload_n 0), 1), (36, (.aload_n 3), 1), (37, (.invokevirtual 240), 3), (40, (.aload_n 0), 1), (41, (.getfield 51), 3), (44, (.iconst 0), 1), (45, (.iload_n 1), 1), (46, .iastore, 1), (47, (.aload_n 0), 1), (48, (.getfield 51), 3), (51, (.iconst 1), 1), (52, (.iload_n 2), 1), (53, .iastore, 1), (54, (.aload_n 0), 1), (55, (.bipush (-2)), 2), (57, (.invokevirtual 86), 3), (60, .pop, 1), (61, (.bipush (-20)), 2), (63, (.aload_n 0), 1), (64, (.getfield 165), 3), (67, .isub, 1), (68, .ireturn, 1), (69, (.aload_n 0), 1), (70, (.iconst 0), 1), (71, (.putfield 117), 3), (74, (.aload_n 0), 1), (75, (.getfield 227), 3), (78, .ireturn, 1)]
theorem cto168 : ∀ q ∈ ct168, decode cX9_town q.1 = .ok (q.2.1, q.2.2) := by decide +kernel
/-- X9_actOf -/
def ct169 : List (Nat × Instr × Nat) := [(0, (.aload_n 0), 1), (1, (.iload_n 1), 1), (2, .i2l, 1), (3, (.invokevirtual 135), 3), (6, (.ifCond .eq 26), 3), (9, (.iload_n 2), 1), (10, .i2l, 1), (11, (.lconst 0), 1), (12, (.ldc2_w 97), 3), (15, (.invokestatic 76), 3), (18, (.ifCond .eq 14), 3), (21, (.aload_n 0), 1), (22, (.getfield 42), 3), (25, (.iload_n 1), 1), (26, .aaload, 1), (27, (.iload_n 2), 1), (28, .iaload, 1), (29, (.goto 9), 3), (32, (.aload_n 0), 1), (33, (.bipush (-2)), 2), (35, (.invokevirtual 86), 3), (38, .ireturn, 1)]
theorem cto169 : ∀ q ∈ ct169, decode cX9_actOf q.1 = .ok (q.2.1, q.2.2) := by decide +kernel
/-- X9_worthOf -/
def ct170 : List (Nat × Instr × Nat) := [(0, (.iload_n 1), 1), (1, .i2l, 1), (2, (.lconst 0), 1), (3, (.lconst 1), 1), (4, (.invokestatic 76), 3), (7, (.ifCond .eq 26), 3), (10, (.iload_n 2), 1), (11, .i2l, 1), (12, (.lconst 0), 1), (13, (.ldc2_w 129), 3), (16, (.invokestatic 76), 3), (19, (.ifCond .eq 14), 3), (22, (.aload_n 0), 1), (23, (.getfield 48), 3), (26, (.iload_n 1), 1), (27, .aaload, 1), (28, (.iload_n 2), 1), (29, .iaload, 1), (30, (.goto 12), 3), (33, (.ldc 244), 2), (35, (.aload_n 0), 1), (36, (.bipush (-2)), 2), (38, (.invokevirtual 86), 3), (41, .iadd, 1), (42, .ireturn, 1)]
theorem cto170 : ∀ q ∈ ct170, decode cX9_worthOf q.1 = .ok (q.2.1, q.2.2) := by decide +kernel
/-- X9_stands -/
def ct171 : List (Nat × Instr × Nat) := [(0, (.iload_n 1), 1), (1, .i2l, 1), (2, (.lconst 0), 1), (3, (.ldc2_w 97), 3), (6, (.invokestatic 76), 3), (9, (.ifCond .ne 10), 3), (12, (.aload_n 0), 1), (13, (.bipush (-2)), 2), (15, (.invokevirtual 86), 3), (18, .ireturn, 1), (19, (.iload_n 1), 1), (20, (.ifCond .ne 10), 3), (23, (.aload_n 0), 1), (24, (.getfield 121), 3), (27, (.goto 38), 3), (30, (.iload_n 1), 1), (31, (.iconst 1), 1), (32, (.if_icmp .ne 10), 3), (35, (.aload_n 0), 1), (36, (.getfield 139), 3), (39, (.goto 26), 3), (42, (.iload_n 1), 1), (43, (.bipush 6), 2), (45, (.if_icmp .ne 12), 3), (48, (.aload_n 0), 1), (49, (.getfield 245), 3), (52, (.iconst 2), 1), (53, .irem, 1), (54, (.goto 11), 3), (57, (.aload_n 0), 1), (58, (.getfield 45), 3), (61, (.iload_n 1), 1), (62, (.iconst 2), 1), (63, .isub, 1), (64, .iaload, 1), (65, .ireturn, 1)]
theorem cto171 : ∀ q ∈ ct171, decode cX9_stands q.1 = .ok (q.2.1, q.2.2) := by decide +kernel
/-- X9_canBe -/
def ct172 : List (Nat × Instr × Nat) := [(0, (.aload_n 0), 1), (1, (.getfield 42), 3), (4, (.iload_n 1), 1), (5, .aaload, 1), (6, (.astore_n 3), 1), (7, (.aload_n 3), 1), (8, (.bipush 6), 2), (10, .iaload, 1), (11, (.iload_n 2), 1), (12, (.invokestatic 124), 3), (15, (.ifCond .ne 27), 3), (18, (.aload_n 3), 1), (19, (.iconst 4), 1), (20, .iaload, 1), (21, (.aload_n 0), 1), (22, (.getfield 121), 3), (25, (.iconst (-1)), 1), (26, .ixor, 1), (27, .iand, 1), (28, (.ifCond .ne 14), 3), (31, (.aload_n 3), 1), (32, (.iconst 5), 1), (33, .iaload, 1), (34, (.aload_n 0), 1), (35, (.getfield 121), 3), (38, .iand, 1), (39, (.ifCond .eq 5), 3), (42, (.iconst 0), 1), (43, .ireturn, 1), (44, (.aload_n 0), 1), (45, (.getfield 121), 3), (48, (.aload_n 3), 1), (49, (.iconst 1), 1), (50, .iaload, 1), (51, (.invokestatic 124), 3), (54, (.istore 4), 2), (56, (.aload_n 3), 1), (57, (.iconst 0), 1), (58, .iaload, 1), (59, (.tableswitch 100 1 5 #[33, 44, 100, 47, 72]), 33), (92, (.iload 4), 2), (94, (.ifCond .ne 7), 3), (97, (.iconst 1), 1), (98, (.goto 4), 3), (101, (.iconst 0), 1), (102, .ireturn, 1), (103, (.iload 4), 2), (105, .ireturn, 1), (106, (.iload 4), 2), (108, (.ifCond .ne 21), 3), (111, (.aload_n 0), 1), (112, (.getfield 45), 3), (115, (.aload_n 3), 1), (116, (.iconst 2), 1), (117, .iaload, 1), (118, .iaload, 1), (119, (.aload_n 3), 1), (120, (.iconst 3), 1), (121, .iaload, 1), (122, (.if_icmp .lt 7), 3), (125, (.iconst 1), 1), (126, (.goto 4), 3), (129, (.iconst 0), 1), (130, .ireturn, 1), (131, (.iload 4), 2), (133, (.ifCond .eq 24), 3), (136, (.aload_n 0), 1), (137, (.getfield 45), 3), (140, (.aload_n 3), 1), (141, (.iconst 2), 1), (142, .iaload, 1), (143, .iaload, 1), (144, (.aload_n 3), 1), (145, (.iconst 3), 1), (146, .iaload, 1), (147, .iadd, 1), (148, (.bipush 23), 2), (150, (.if_icmp .gt 7), 3), (153, (.iconst 1), 1), (154, (.goto 4), 3), (157, (.iconst 0), 1), (158, .ireturn, 1), (159, (.iconst 1), 1), (160, .ireturn, 1)]
theorem cto172 : ∀ q ∈ ct172, decode cX9_canBe q.1 = .ok (q.2.1, q.2.2) := by decide +kernel
def ct173_0 : List (Nat × Instr × Nat) := [(0, (.iload_n 1), 1), (1, (.iconst (-1)), 1), (2, (.if_icmp .ne 4), 3), (5, .return_, 1), (6, (.aload_n 0), 1), (7, (.getfield 42), 3), (10, (.iload_n 1), 1), (11, .aaload, 1), (12, (.astore_n 2), 1), (13, (.aload_n 2), 1), (14, (.iconst 0), 1), (15, .iaload, 1), (16, (.tableswitch 153 1 5 #[36, 53, 72, 89, 120]), 36), (52, (.aload_n 0), 1), (53, .dup, 1), (54, (.getfield 121), 3), (57, (.iconst 1), 1), (58, (.aload_n 2), 1), (59, (.iconst 1), 1), (60, .iaload, 1), (61, .ishl, 1), (62, .ior, 1), (63, (.putfield 121), 3), (66, (.goto 145), 3), (69, (.aload_n 0), 1), (70, .dup, 1), (71, (.getfield 121), 3), (74, (.iconst 1), 1), (75, (.aload_n 2), 1), (76, (.iconst 1), 1), (77, .iaload, 1), (78, .ishl, 1), (79, (.iconst (-1)), 1), (80, .ixor, 1), (81, .iand, 1), (82, (.putfield 121), 3), (85, (.goto 126), 3), (88, (.aload_n 0), 1), (89, .dup, 1), (90, (.getfield 121), 3), (93, (.iconst 1), 1), (94, (.aload_n 2), 1), (95, (.iconst 1), 1), (96, .iaload, 1), (97, .ishl, 1), (98, .ixor, 1), (99, (.putfield 121), 3), (102, (.goto 109), 3), (105, (.aload_n 0), 1), (106, .dup, 1), (107, (.getfield 121), 3), (110, (.iconst 1), 1), (111, (.aload_n 2), 1), (112, (.iconst 1), 1), (113, .iaload, 1), (114, .ishl, 1), (115, .ior, 1), (116, (.putfield 121), 3), (119, (.aload_n 0), 1), (120, (.getfield 45), 3), (123, (.aload_n 2), 1), (124, (.iconst 2), 1), (125, .iaload, 1), (126, .dup2, 1), (127, .iaload, 1), (128, (.aload_n 2), 1), (129, (.iconst 3), 1), (130, .iaload, 1), (131, .isub, 1), (132, .iastore, 1), (133, (.goto 78), 3), (136, (.aload_n 0), 1), (137, .dup, 1), (138, (.getfield 121), 3), (141, (.iconst 1), 1), (142, (.aload_n 2), 1), (143, (.iconst 1), 1), (144, .iaload, 1), (145, .ishl, 1), (146, (.iconst (-1)), 1), (147, .ixor, 1), (148, .iand, 1), (149, (.putfield 121), 3), (152, (.aload_n 0), 1), (153, (.getfield 45), 3), (156, (.aload_n 2), 1), (157, (.iconst 2), 1), (158, .iaload, 1), (159, .dup2, 1), (160, .iaload, 1), (161, (.aload_n 2), 1), (162, (.iconst 3), 1), (163, .iaload, 1), (164, .iadd, 1), (165, .iastore, 1), (166, (.goto 45), 3), (169, (.aload_n 0), 1), (170, (.getfield 45), 3), (173, (.aload_n 2), 1), (174, (.iconst 2), 1)]
theorem cto173_0 : ∀ q ∈ ct173_0, decode cX9_doIt q.1 = .ok (q.2.1, q.2.2) := by decide +kernel
def ct173_1 : List (Nat × Instr × Nat) := [(175, .iaload, 1), (176, (.aload_n 0), 1), (177, (.getfield 45), 3), (180, (.aload_n 2), 1), (181, (.iconst 2), 1), (182, .iaload, 1), (183, .iaload, 1), (184, (.aload_n 2), 1), (185, (.iconst 3), 1), (186, .iaload, 1), (187, .iadd, 1), (188, (.bipush 23), 2), (190, (.if_icmp .le 8), 3), (193, (.bipush 23), 2), (195, (.goto 15), 3), (198, (.aload_n 0), 1), (199, (.getfield 45), 3), (202, (.aload_n 2), 1), (203, (.iconst 2), 1), (204, .iaload, 1), (205, .iaload, 1), (206, (.aload_n 2), 1), (207, (.iconst 3), 1), (208, .iaload, 1), (209, .iadd, 1), (210, .iastore, 1), (211, .return_, 1)]
theorem cto173_1 : ∀ q ∈ ct173_1, decode cX9_doIt q.1 = .ok (q.2.1, q.2.2) := by decide +kernel
/-- X9_doIt -/
def ct173 : List (Nat × Instr × Nat) := ct173_0 ++ (ct173_1)
theorem cto173 : ∀ q ∈ ct173, decode cX9_doIt q.1 = .ok (q.2.1, q.2.2) := List.forall_mem_append.mpr ⟨cto173_0, cto173_1⟩
/-- X9_valueOf -/
def ct174 : List (Nat × Instr × Nat) := [(0, (.iconst 0), 1), (1, (.istore_n 2), 1), (2, (.iconst 0), 1), (3, (.istore_n 3), 1), (4, (.iload_n 3), 1), (5, (.bipush 8), 2), (7, (.if_icmp .ge 35), 3), (10, (.iload_n 2), 1), (11, (.aload_n 0), 1), (12, (.getfield 121), 3), (15, (.iload_n 3), 1), (16, (.invokestatic 124), 3), (19, (.ifCond .eq 14), 3), (22, (.aload_n 0), 1), (23, (.getfield 48), 3), (26, (.iload_n 1), 1), (27, .aaload, 1), (28, (.iload_n 3), 1), (29, .iaload, 1), (30, (.goto 4), 3), (33, (.iconst 0), 1), (34, .iadd, 1), (35, (.istore_n 2), 1), (36, (.iinc 3 1), 3), (39, (.goto (-35)), 3), (42, (.iconst 0), 1), (43, (.istore_n 3), 1), (44, (.iload_n 3), 1), (45, (.iconst 4), 1), (46, (.if_icmp .ge 30), 3), (49, (.iload_n 2), 1), (50, (.aload_n 0), 1), (51, (.getfield 45), 3), (54, (.iload_n 3), 1), (55, .iaload, 1), (56, (.aload_n 0), 1), (57, (.getfield 48), 3), (60, (.iload_n 1), 1), (61, .aaload, 1), (62, (.bipush 8), 2), (64, (.iload_n 3), 1), (65, .iadd, 1), (66, .iaload, 1), (67, .imul, 1), (68, .iadd, 1), (69, (.istore_n 2), 1), (70, (.iinc 3 1), 3), (73, (.goto (-29)), 3), (76, (.iload_n 2), 1), (77, .ireturn, 1)]
theorem cto174 : ∀ q ∈ ct174, decode cX9_valueOf q.1 = .ok (q.2.1, q.2.2) := by decide +kernel
/-- X9_standing -/
def ct175 : List (Nat × Instr × Nat) := [(0, (.aload_n 0), 1), (1, (.getfield 121), 3), (4, .i2l, 1), (5, (.lstore_n 1), 1), (6, (.iconst 0), 1), (7, (.istore_n 3), 1), (8, (.iload_n 3), 1), (9, (.iconst 4), 1), (10, (.if_icmp .ge 23), 3), (13, (.lload_n 1), 1), (14, (.ldc2_w 248), 3), (17, .lmul, 1), (18, (.aload_n 0), 1), (19, (.getfield 45), 3), (22, (.iload_n 3), 1), (23, .iaload, 1), (24, .i2l, 1), (25, .ladd, 1), (26, (.lstore_n 1), 1), (27, (.iinc 3 1), 3), (30, (.goto (-22)), 3), (33, (.lload_n 1), 1), (34, .lreturn, 1)]
theorem cto175 : ∀ q ∈ ct175, decode cX9_standing q.1 = .ok (q.2.1, q.2.2) := by decide +kernel
/-- X9_putBack -/
def ct176 : List (Nat × Instr × Nat) := [(0, (.lload_n 1), 1), (1, (.lstore_n 3), 1), (2, (.iconst 3), 1), (3, (.istore 5), 2), (5, (.iload 5), 2), (7, (.ifCond .lt 28), 3), (10, (.aload_n 0), 1), (11, (.getfield 45), 3), (14, (.iload 5), 2), (16, (.lload_n 3), 1), (17, (.ldc2_w 248), 3), (20, .lrem, 1), (21, .l2i, 1), (22, .iastore, 1), (23, (.lload_n 3), 1), (24, (.ldc2_w 248), 3), (27, .ldiv, 1), (28, (.lstore_n 3), 1), (29, (.iinc 5 (-1)), 3), (32, (.goto (-27)), 3), (35, (.aload_n 0), 1), (36, (.lload_n 3), 1), (37, .l2i, 1), (38, (.putfield 121), 3), (41, .return_, 1)]
theorem cto176 : ∀ q ∈ ct176, decode cX9_putBack q.1 = .ok (q.2.1, q.2.2) := by decide +kernel
/-- X9_can -/
def ct177 : List (Nat × Instr × Nat) := [(0, (.iload_n 1), 1), (1, .i2l, 1), (2, (.lconst 0), 1), (3, (.lconst 1), 1), (4, (.invokestatic 76), 3), (7, (.ifCond .ne 10), 3), (10, (.aload_n 0), 1), (11, (.bipush (-2)), 2), (13, (.invokevirtual 86), 3), (16, .ireturn, 1), (17, (.iconst 0), 1), (18, (.istore_n 2), 1), (19, (.iconst 0), 1), (20, (.istore_n 3), 1), (21, (.iload_n 3), 1), (22, (.aload_n 0), 1), (23, (.getfield 73), 3), (26, (.if_icmp .ge 28), 3), (29, (.iload_n 2), 1), (30, (.aload_n 0), 1), (31, (.iload_n 3), 1), (32, (.iload_n 1), 1), (33, (.invokevirtual 250), 3), (36, (.ifCond .eq 9), 3), (39, (.iconst 1), 1), (40, (.iload_n 3), 1), (41, .ishl, 1), (42, (.goto 4), 3), (45, (.iconst 0), 1), (46, .ior, 1), (47, (.istore_n 2), 1), (48, (.iinc 3 1), 3), (51, (.goto (-30)), 3), (54, (.iload_n 2), 1), (55, .ireturn, 1)]
theorem cto177 : ∀ q ∈ ct177, decode cX9_can q.1 = .ok (q.2.1, q.2.2) := by decide +kernel
/-- X9_value -/
def ct178 : List (Nat × Instr × Nat) := [(0, (.iload_n 1), 1), (1, .i2l, 1), (2, (.lconst 0), 1), (3, (.lconst 1), 1), (4, (.invokestatic 76), 3), (7, (.ifCond .eq 11), 3), (10, (.aload_n 0), 1), (11, (.iload_n 1), 1), (12, (.invokevirtual 253), 3), (15, (.goto 12), 3), (18, (.ldc 244), 2), (20, (.aload_n 0), 1), (21, (.bipush (-2)), 2), (23, (.invokevirtual 86), 3), (26, .iadd, 1), (27, .ireturn, 1)]
theorem cto178 : ∀ q ∈ ct178, decode cX9_value q.1 = .ok (q.2.1, q.2.2) := by decide +kernel
/-- X9_gainBy -/
def ct179 : List (Nat × Instr × Nat) := [(0, (.aload_n 0), 1), (1, (.invokevirtual 256), 3), (4, (.lstore_n 3), 1), (5, (.aload_n 0), 1), (6, (.iload_n 1), 1), (7, (.invokevirtual 260), 3), (10, (.iload_n 2), 1), (11, (.ifCond .eq 17), 3), (14, (.aload_n 0), 1), (15, (.iconst 0), 1), (16, (.invokevirtual 253), 3), (19, (.aload_n 0), 1), (20, (.iconst 1), 1), (21, (.invokevirtual 253), 3), (24, .iadd, 1), (25, (.goto 13), 3), (28, (.aload_n 0), 1), (29, (.aload_n 0), 1), (30, (.getfield 245), 3), (33, (.iconst 2), 1), (34, .irem, 1), (35, (.invokevirtual 253), 3), (38, (.istore 5), 2), (40, (.aload_n 0), 1), (41, (.lload_n 3), 1), (42, (.invokevirtual 264), 3), (45, (.iload 5), 2), (47, .ireturn, 1)]
theorem cto179 : ∀ q ∈ ct179, decode cX9_gainBy q.1 = .ok (q.2.1, q.2.2) := by decide +kernel
/-- X9_gain -/
def ct180 : List (Nat × Instr × Nat) := [(0, (.iload_n 1), 1), (1, (.iconst (-1)), 1), (2, (.if_icmp .eq 22), 3), (5, (.aload_n 0), 1), (6, (.iload_n 1), 1), (7, .i2l, 1), (8, (.invokevirtual 135), 3), (11, (.ifCond .ne 13), 3), (14, (.ldc 244), 2), (16, (.aload_n 0), 1), (17, (.bipush (-2)), 2), (19, (.invokevirtual 86), 3), (22, .iadd, 1), (23, .ireturn, 1), (24, (.iload_n 1), 1), (25, (.iconst (-1)), 1), (26, (.if_icmp .eq 29), 3), (29, (.aload_n 0), 1), (30, (.iload_n 1), 1), (31, (.aload_n 0), 1), (32, (.getfield 245), 3), (35, (.iconst 2), 1), (36, .irem, 1), (37, (.invokevirtual 250), 3), (40, (.ifCond .ne 15), 3), (43, (.ldc 244), 2), (45, (.aload_n 0), 1), (46, (.bipush (-5)), 2), (48, (.invokevirtual 86), 3), (51, .iadd, 1), (52, (.goto 9), 3), (55, (.aload_n 0), 1), (56, (.iload_n 1), 1), (57, (.iconst 0), 1), (58, (.invokevirtual 268), 3), (61, .ireturn, 1)]
theorem cto180 : ∀ q ∈ ct180, decode cX9_gain q.1 = .ok (q.2.1, q.2.2) := by decide +kernel
/-- X9_goes -/
def ct181 : List (Nat × Instr × Nat) := [(0, (.aload_n 0), 1), (1, (.iconst 1), 1), (2, (.putfield 117), 3), (5, (.aload_n 0), 1), (6, (.aload_n 0), 1), (7, (.getfield 121), 3), (10, (.putfield 272), 3), (13, (.aload_n 0), 1), (14, (.getfield 45), 3), (17, (.aload_n 0), 1), (18, (.getfield 54), 3), (21, (.invokestatic 275), 3), (24, (.aload_n 0), 1), (25, (.iload_n 1), 1), (26, (.invokevirtual 260), 3), (29, (.aload_n 0), 1), (30, (.getfield 51), 3), (33, (.aload_n 0), 1), (34, (.getfield 245), 3), (37, (.iconst 2), 1), (38, .irem, 1), (39, .dup2, 1), (40, .iaload, 1), (41, (.aload_n 0), 1), (42, (.aload_n 0), 1), (43, (.getfield 245), 3), (46, (.iconst 2), 1), (47, .irem, 1), (48, (.invokevirtual 253), 3), (51, .iadd, 1), (52, .iastore, 1), (53, (.aload_n 0), 1), (54, .dup, 1), (55, (.getfield 245), 3), (58, (.iconst 1), 1), (59, .iadd, 1), (60, (.putfield 245), 3), (63, .return_, 1)]
theorem cto181 : ∀ q ∈ ct181, decode cX9_goes q.1 = .ok (q.2.1, q.2.2) := by decide +kernel
/-- X9_does -/
def ct182 : List (Nat × Instr × Nat) := [(0, (.iload_n 1), 1), (1, (.iconst (-1)), 1), (2, (.if_icmp .eq 19), 3), (5, (.aload_n 0), 1), (6, (.iload_n 1), 1), (7, .i2l, 1), (8, (.invokevirtual 135), 3), (11, (.ifCond .ne 10), 3), (14, (.aload_n 0), 1), (15, (.bipush (-2)), 2), (17, (.invokevirtual 86), 3), (20, .ireturn, 1), (21, (.iload_n 1), 1), (22, (.iconst (-1)), 1), (23, (.if_icmp .eq 24), 3), (26, (.aload_n 0), 1), (27, (.iload_n 1), 1), (28, (.aload_n 0), 1), (29, (.getfield 245), 3), (32, (.iconst 2), 1), (33, .irem, 1), (34, (.invokevirtual 250), 3), (37, (.ifCond .ne 10), 3), (40, (.aload_n 0), 1), (41, (.bipush (-5)), 2), (43, (.invokevirtual 86), 3), (46, .ireturn, 1), (47, (.aload_n 0), 1), (48, (.iload_n 1), 1), (49, (.invokevirtual 279), 3), (52, (.aload_n 0), 1), (53, (.getfield 245), 3), (56, .ireturn, 1)]
theorem cto182 : ∀ q ∈ ct182, decode cX9_does q.1 = .ok (q.2.1, q.2.2) := by decide +kernel
/-- X9_greatest -/
def ct183 : List (Nat × Instr × Nat) := [(0, (.iconst (-1)), 1), (1, (.istore_n 2), 1), (2, (.aload_n 0), 1), (3, (.iconst (-1)), 1), (4, (.iload_n 1), 1), (5, (.invokevirtual 268), 3), (8, (.istore_n 3), 1), (9, (.iconst 0), 1), (10, (.istore 4), 2), (12, (.iload 4), 2), (14, (.aload_n 0), 1), (15, (.getfield 73), 3), (18, (.if_icmp .ge 45), 3), (21, (.aload_n 0), 1), (22, (.iload 4), 2), (24, (.aload_n 0), 1), (25, (.getfield 245), 3), (28, (.iconst 2), 1), (29, .irem, 1), (30, (.invokevirtual 250), 3), (33, (.ifCond .eq 24), 3), (36, (.aload_n 0), 1), (37, (.iload 4), 2), (39, (.iload_n 1), 1), (40, (.invokevirtual 268), 3), (43, (.istore 5), 2), (45, (.iload 5), 2), (47, (.iload_n 3), 1), (48, (.if_icmp .le 9), 3), (51, (.iload 4), 2), (53, (.istore_n 2), 1), (54, (.iload 5), 2), (56, (.istore_n 3), 1), (57, (.iinc 4 1), 3), (60, (.goto (-48)), 3), (63, (.iload_n 2), 1), (64, .ireturn, 1)]
theorem cto183 : ∀ q ∈ ct183, decode cX9_greatest q.1 = .ok (q.2.1, q.2.2) := by decide +kernel
/-- X9_chosen -/
def ct184 : List (Nat × Instr × Nat) := [(0, (.aload_n 0), 1), (1, (.getfield 245), 3), (4, (.iconst 2), 1), (5, .irem, 1), (6, (.istore_n 3), 1), (7, (.iconst (-1)), 1), (8, (.istore 4), 2), (10, (.iload_n 1), 1), (11, (.tableswitch 129 1 5 #[33, 39, 45, 69, 91]), 33), (44, (.aload_n 0), 1), (45, (.iconst 0), 1), (46, (.invokevirtual 282), 3), (49, .ireturn, 1), (50, (.aload_n 0), 1), (51, (.iconst 1), 1), (52, (.invokevirtual 282), 3), (55, .ireturn, 1), (56, (.aload_n 0), 1), (57, (.iload_n 2), 1), (58, (.iconst 4), 1), (59, .irem, 1), (60, (.iconst 1), 1), (61, .iadd, 1), (62, (.aload_n 0), 1), (63, (.getfield 245), 3), (66, (.invokevirtual 286), 3), (69, (.aload_n 0), 1), (70, (.getfield 67), 3), (73, (.iload_n 2), 1), (74, (.iconst 4), 1), (75, .irem, 1), (76, (.iconst 1), 1), (77, .iadd, 1), (78, .iaload, 1), (79, .ireturn, 1), (80, (.aload_n 0), 1), (81, (.aload_n 0), 1), (82, (.iload_n 3), 1), (83, (.invokevirtual 253), 3), (86, (.iload_n 2), 1), (87, (.bipush 50), 2), (89, .isub, 1), (90, (.if_icmp .lt 7), 3), (93, (.iconst 1), 1), (94, (.goto 4), 3), (97, (.iconst 0), 1), (98, (.invokevirtual 282), 3), (101, .ireturn, 1), (102, (.aload_n 0), 1), (103, (.iconst 0), 1), (104, (.invokevirtual 282), 3), (107, (.istore 4), 2), (109, (.iload 4), 2), (111, (.iconst (-1)), 1), (112, (.if_icmp .eq 26), 3), (115, (.aload_n 0), 1), (116, (.iload 4), 2), (118, (.iconst 0), 1), (119, (.invokevirtual 268), 3), (122, (.aload_n 0), 1), (123, (.iconst (-1)), 1), (124, (.iconst 0), 1), (125, (.invokevirtual 268), 3), (128, (.iload_n 2), 1), (129, .iadd, 1), (130, (.if_icmp .le 8), 3), (133, (.iload 4), 2), (135, (.goto 4), 3), (138, (.iconst (-1)), 1), (139, .ireturn, 1), (140, (.iconst 0), 1), (141, (.istore 5), 2), (143, (.iload 5), 2), (145, (.aload_n 0), 1), (146, (.getfield 73), 3), (149, (.if_icmp .ge 22), 3), (152, (.aload_n 0), 1), (153, (.iload 5), 2), (155, (.iload_n 3), 1), (156, (.invokevirtual 250), 3), (159, (.ifCond .eq 6), 3), (162, (.iload 5), 2), (164, .ireturn, 1), (165, (.iinc 5 1), 3), (168, (.goto (-25)), 3), (171, (.iconst (-1)), 1), (172, .ireturn, 1)]
theorem cto184 : ∀ q ∈ ct184, decode cX9_chosen q.1 = .ok (q.2.1, q.2.2) := by decide +kernel
/-- X9_next -/
def ct185 : List (Nat × Instr × Nat) := [(0, (.aload_n 0), 1), (1, (.iload_n 1), 1), (2, (.invokevirtual 290), 3), (5, (.istore_n 2), 1), (6, (.iload_n 2), 1), (7, (.ifCond .eq 7), 3), (10, (.iload_n 2), 1), (11, (.goto 19), 3), (14, (.aload_n 0), 1), (15, (.aload_n 0), 1), (16, (.getfield 28), 3), (19, (.iload_n 1), 1), (20, .iaload, 1), (21, (.aload_n 0), 1), (22, (.getfield 31), 3), (25, (.iload_n 1), 1), (26, .iaload, 1), (27, (.invokevirtual 105), 3), (30, .ireturn, 1)]
theorem cto185 : ∀ q ∈ ct185, decode cX9_next q.1 = .ok (q.2.1, q.2.2) := by decide +kernel
/-- X9_fresh -/
def ct186 : List (Nat × Instr × Nat) := [(0, (.aload_n 0), 1), (1, (.getfield 293), 3), (4, (.ifnonnull 14), 3), (7, (.aload_n 0), 1), (8, (.new 8), 3), (11, .dup, 1), (12, (.invokespecial 297), 3), (15, (.putfield 293), 3), (18, (.aload_n 0), 1), (19, (.getfield 293), 3), (22, (.aload_n 0), 1), (23, (.invokevirtual 240), 3), (26, (.aload_n 0), 1), (27, (.getfield 293), 3), (30, (.getfield 51), 3), (33, (.iconst 0), 1), (34, (.iconst 0), 1), (35, .iastore, 1), (36, (.aload_n 0), 1), (37, (.getfield 293), 3), (40, (.getfield 51), 3), (43, (.iconst 1), 1), (44, (.iconst 0), 1), (45, .iastore, 1), (46, (.aload_n 0), 1), (47, (.getfield 293), 3), (50, .areturn, 1)]
theorem cto186 : ∀ q ∈ ct186, decode cX9_fresh q.1 = .ok (q.2.1, q.2.2) := by decide +kernel
/-- X9_runs -/
def ct187 : List (Nat × Instr × Nat) := [(0, (.aload_n 0), 1), (1, (.iconst 0), 1), (2, (.putfield 298), 3), (5, (.aload_n 0), 1), (6, (.iconst (-1)), 1), (7, (.putfield 301), 3), (10, (.iconst 0), 1), (11, (.istore 6), 2), (13, (.iload 6), 2), (15, (.iload 5), 2), (17, (.if_icmp .ge 68), 3), (20, (.aload_n 0), 1), (21, (.aload_n 0), 1), (22, (.getfield 245), 3), (25, (.iconst 2), 1), (26, .irem, 1), (27, (.ifCond .ne 12), 3), (30, (.aload_n 0), 1), (31, (.iload_n 1), 1), (32, (.iload_n 2), 1), (33, (.invokevirtual 105), 3), (36, (.goto 10), 3), (39, (.aload_n 0), 1), (40, (.iload_n 3), 1), (41, (.iload 4), 2), (43, (.invokevirtual 105), 3), (46, (.putfield 301), 3), (49, (.aload_n 0), 1), (50, .dup, 1), (51, (.getfield 298), 3), (54, (.aload_n 0), 1), (55, (.getfield 301), 3), (58, (.iconst (-1)), 1), (59, (.if_icmp .ne 7), 3), (62, (.iconst 0), 1), (63, (.goto 4), 3), (66, (.iconst 1), 1), (67, .iadd, 1), (68, (.putfield 298), 3), (71, (.aload_n 0), 1), (72, (.aload_n 0), 1), (73, (.getfield 301), 3), (76, (.invokevirtual 279), 3), (79, (.iinc 6 1), 3), (82, (.goto (-69)), 3), (85, .return_, 1)]
theorem cto187 : ∀ q ∈ ct187, decode cX9_runs q.1 = .ok (q.2.1, q.2.2) := by decide +kernel
/-- X9_run -/
def ct188 : List (Nat × Instr × Nat) := [(0, (.iload_n 1), 1), (1, .i2l, 1), (2, (.lconst 0), 1), (3, (.ldc2_w 80), 3), (6, (.invokestatic 76), 3), (9, (.ifCond .eq 40), 3), (12, (.iload_n 2), 1), (13, .i2l, 1), (14, (.lconst 0), 1), (15, (.ldc2_w 80), 3), (18, (.invokestatic 76), 3), (21, (.ifCond .eq 28), 3), (24, (.iload_n 3), 1), (25, .i2l, 1), (26, (.lconst 0), 1), (27, (.ldc2_w 304), 3), (30, (.invokestatic 76), 3), (33, (.ifCond .eq 16), 3), (36, (.iload 4), 2), (38, .i2l, 1), (39, (.lconst 0), 1), (40, (.ldc2_w 82), 3), (43, (.invokestatic 76), 3), (46, (.ifCond .ne 13), 3), (49, (.ldc 244), 2), (51, (.aload_n 0), 1), (52, (.bipush (-2)), 2), (54, (.invokevirtual 86), 3), (57, .iadd, 1), (58, .ireturn, 1), (59, (.aload_n 0), 1), (60, (.iload_n 1), 1), (61, (.iload_n 2), 1), (62, (.invokevirtual 306), 3), (65, (.istore 5), 2), (67, (.iload 5), 2), (69, (.ifCond .eq 9), 3), (72, (.ldc 244), 2), (74, (.iload 5), 2), (76, .iadd, 1), (77, .ireturn, 1), (78, (.aload_n 0), 1), (79, (.invokevirtual 233), 3), (82, (.aload_n 0), 1), (83, (.getfield 28), 3), (86, (.iload_n 1), 1), (87, .iaload, 1), (88, (.aload_n 0), 1), (89, (.getfield 31), 3), (92, (.iload_n 1), 1), (93, .iaload, 1), (94, (.aload_n 0), 1), (95, (.getfield 28), 3), (98, (.iload_n 2), 1), (99, .iaload, 1), (100, (.aload_n 0), 1), (101, (.getfield 31), 3), (104, (.iload_n 2), 1), (105, .iaload, 1), (106, (.iload_n 3), 1), (107, (.invokevirtual 309), 3), (110, (.iload 4), 2), (112, (.tableswitch 52 2 4 #[28, 36, 44]), 28), (140, (.aload_n 0), 1), (141, (.getfield 293), 3), (144, (.getfield 121), 3), (147, .ireturn, 1), (148, (.aload_n 0), 1), (149, (.getfield 293), 3), (152, (.getfield 298), 3), (155, .ireturn, 1), (156, (.aload_n 0), 1), (157, (.getfield 293), 3), (160, (.getfield 301), 3), (163, .ireturn, 1), (164, (.aload_n 0), 1), (165, (.getfield 293), 3), (168, (.getfield 51), 3), (171, (.iload 4), 2), (173, .iaload, 1), (174, .ireturn, 1)]
theorem cto188 : ∀ q ∈ ct188, decode cX9_run q.1 = .ok (q.2.1, q.2.2) := by decide +kernel
end
section
/-- X9_gainsBy -/
def ct189 : List (Nat × Instr × Nat) := [(0, (.aload_n 0), 1), (1, (.getfield 245), 3), (4, (.iconst 2), 1), (5, .irem, 1), (6, (.ifCond .ne 7), 3), (9, (.iload_n 1), 1), (10, (.goto 4), 3), (13, (.iload_n 2), 1), (14, (.istore 4), 2), (16, (.aload_n 0), 1), (17, (.getfield 245), 3), (20, (.iconst 2), 1), (21, .irem, 1), (22, (.ifCond .ne 7), 3), (25, (.iload_n 2), 1), (26, (.goto 4), 3), (29, (.iload_n 1), 1), (30, (.istore 5), 2), (32, (.aload_n 0), 1), (33, (.invokevirtual 233), 3), (36, (.aload_n 0), 1), (37, (.getfield 28), 3), (40, (.iload 4), 2), (42, .iaload, 1), (43, (.aload_n 0), 1), (44, (.getfield 31), 3), (47, (.iload 4), 2), (49, .iaload, 1), (50, (.aload_n 0), 1), (51, (.getfield 28), 3), (54, (.iload 5), 2), (56, .iaload, 1), (57, (.aload_n 0), 1), (58, (.getfield 31), 3), (61, (.iload 5), 2), (63, .iaload, 1), (64, (.iload_n 3), 1), (65, (.invokevirtual 309), 3), (68, (.aload_n 0), 1), (69, (.getfield 293), 3), (72, (.getfield 51), 3), (75, (.aload_n 0), 1), (76, (.getfield 245), 3), (79, (.iconst 2), 1), (80, .irem, 1), (81, .iaload, 1), (82, .ireturn, 1)]
theorem cto189 : ∀ q ∈ ct189, decode cX9_gainsBy q.1 = .ok (q.2.1, q.2.2) := by decide +kernel
/-- X9_head -/
def ct190 : List (Nat × Instr × Nat) := [(0, (.iload_n 1), 1), (1, .i2l, 1), (2, (.lconst 0), 1), (3, (.ldc2_w 80), 3), (6, (.invokestatic 76), 3), (9, (.ifCond .eq 15), 3), (12, (.iload_n 2), 1), (13, .i2l, 1), (14, (.lconst 1), 1), (15, (.ldc2_w 304), 3), (18, (.invokestatic 76), 3), (21, (.ifCond .ne 10), 3), (24, (.aload_n 0), 1), (25, (.bipush (-2)), 2), (27, (.invokevirtual 86), 3), (30, .ireturn, 1), (31, (.aload_n 0), 1), (32, (.iload_n 1), 1), (33, (.invokevirtual 290), 3), (36, (.istore_n 3), 1), (37, (.iload_n 3), 1), (38, (.ifCond .eq 5), 3), (41, (.iload_n 3), 1), (42, .ireturn, 1), (43, (.iconst (-1)), 1), (44, (.istore 4), 2), (46, (.iconst 0), 1), (47, (.istore 5), 2), (49, (.iconst 0), 1), (50, (.istore 6), 2), (52, (.iload 6), 2), (54, (.bipush 8), 2), (56, (.if_icmp .ge 51), 3), (59, (.aload_n 0), 1), (60, (.getfield 7), 3), (63, (.iload 6), 2), (65, .iaload, 1), (66, (.iconst 2), 1), (67, (.if_icmp .ne 34), 3), (70, (.aload_n 0), 1), (71, (.iload 6), 2), (73, (.iload_n 1), 1), (74, (.iload_n 2), 1), (75, (.invokevirtual 313), 3), (78, (.istore 7), 2), (80, (.iload 4), 2), (82, (.iconst (-1)), 1), (83, (.if_icmp .eq 10), 3), (86, (.iload 7), 2), (88, (.iload 5), 2), (90, (.if_icmp .le 11), 3), (93, (.iload 6), 2), (95, (.istore 4), 2), (97, (.iload 7), 2), (99, (.istore 5), 2), (101, (.iinc 6 1), 3), (104, (.goto (-52)), 3), (107, (.iload 4), 2), (109, .ireturn, 1)]
theorem cto190 : ∀ q ∈ ct190, decode cX9_head q.1 = .ok (q.2.1, q.2.2) := by decide +kernel
/-- X9_days -/
def ct191 : List (Nat × Instr × Nat) := [(0, (.iload_n 1), 1), (1, .i2l, 1), (2, (.lconst 0), 1), (3, (.ldc2_w 80), 3), (6, (.invokestatic 76), 3), (9, (.ifCond .eq 27), 3), (12, (.iload_n 2), 1), (13, .i2l, 1), (14, (.lconst 0), 1), (15, (.ldc2_w 80), 3), (18, (.invokestatic 76), 3), (21, (.ifCond .eq 15), 3), (24, (.iload_n 3), 1), (25, .i2l, 1), (26, (.lconst 1), 1), (27, (.ldc2_w 317), 3), (30, (.invokestatic 76), 3), (33, (.ifCond .ne 10), 3), (36, (.aload_n 0), 1), (37, (.bipush (-2)), 2), (39, (.invokevirtual 86), 3), (42, .ireturn, 1), (43, (.aload_n 0), 1), (44, (.iload_n 1), 1), (45, (.iload_n 2), 1), (46, (.invokevirtual 306), 3), (49, (.istore 4), 2), (51, (.iload 4), 2), (53, (.ifCond .eq 6), 3), (56, (.iload 4), 2), (58, .ireturn, 1), (59, (.aload_n 0), 1), (60, (.aload_n 0), 1), (61, (.getfield 28), 3), (64, (.iload_n 1), 1), (65, .iaload, 1), (66, (.aload_n 0), 1), (67, (.getfield 31), 3), (70, (.iload_n 1), 1), (71, .iaload, 1), (72, (.aload_n 0), 1), (73, (.getfield 28), 3), (76, (.iload_n 2), 1), (77, .iaload, 1), (78, (.aload_n 0), 1), (79, (.getfield 31), 3), (82, (.iload_n 2), 1), (83, .iaload, 1), (84, (.iload_n 3), 1), (85, (.invokevirtual 309), 3), (88, (.aload_n 0), 1), (89, (.getfield 245), 3), (92, .ireturn, 1)]
theorem cto191 : ∀ q ∈ ct191, decode cX9_days q.1 = .ok (q.2.1, q.2.2) := by decide +kernel
/-- X9_gained -/
def ct192 : List (Nat × Instr × Nat) := [(0, (.iload_n 1), 1), (1, .i2l, 1), (2, (.lconst 0), 1), (3, (.ldc2_w 319), 3), (6, (.invokestatic 76), 3), (9, (.ifCond .ne 13), 3), (12, (.ldc 244), 2), (14, (.aload_n 0), 1), (15, (.bipush (-2)), 2), (17, (.invokevirtual 86), 3), (20, .iadd, 1), (21, .ireturn, 1), (22, (.iload_n 1), 1), (23, (.iconst 2), 1), (24, (.if_icmp .ne 19), 3), (27, (.aload_n 0), 1), (28, (.getfield 51), 3), (31, (.iconst 0), 1), (32, .iaload, 1), (33, (.aload_n 0), 1), (34, (.getfield 51), 3), (37, (.iconst 1), 1), (38, .iaload, 1), (39, .iadd, 1), (40, (.goto 9), 3), (43, (.aload_n 0), 1), (44, (.getfield 51), 3), (47, (.iload_n 1), 1), (48, .iaload, 1), (49, .ireturn, 1)]
theorem cto192 : ∀ q ∈ ct192, decode cX9_gained q.1 = .ok (q.2.1, q.2.2) := by decide +kernel
/-- X9_noTold -/
def ct193 : List (Nat × Instr × Nat) := [(0, (.iload_n 1), 1), (1, .i2l, 1), (2, (.lconst 0), 1), (3, (.ldc2_w 80), 3), (6, (.invokestatic 76), 3), (9, (.ifCond .eq 15), 3), (12, (.iload_n 2), 1), (13, .i2l, 1), (14, (.lconst 0), 1), (15, (.ldc2_w 317), 3), (18, (.invokestatic 76), 3), (21, (.ifCond .ne 10), 3), (24, (.aload_n 0), 1), (25, (.bipush (-2)), 2), (27, (.invokevirtual 86), 3), (30, .ireturn, 1), (31, (.aload_n 0), 1), (32, (.iload_n 1), 1), (33, (.invokevirtual 90), 3), (36, (.istore_n 3), 1), (37, (.iload_n 3), 1), (38, (.ifCond .eq 5), 3), (41, (.iload_n 3), 1), (42, .ireturn, 1), (43, (.aload_n 0), 1), (44, (.getfield 16), 3), (47, (.iload_n 1), 1), (48, .iaload, 1), (49, (.iload_n 2), 1), (50, (.if_icmp .ge 12), 3), (53, (.aload_n 0), 1), (54, (.bipush (-2)), 2), (56, (.invokevirtual 86), 3), (59, (.goto 4), 3), (62, (.iconst 0), 1), (63, .ireturn, 1)]
theorem cto193 : ∀ q ∈ ct193, decode cX9_noTold q.1 = .ok (q.2.1, q.2.2) := by decide +kernel
/-- X9_goThrough -/
def ct194 : List (Nat × Instr × Nat) := [(0, (.aload_n 0), 1), (1, (.invokevirtual 233), 3), (4, (.astore_n 3), 1), (5, (.iconst 0), 1), (6, (.istore 4), 2), (8, (.iload 4), 2), (10, (.iload_n 2), 1), (11, (.if_icmp .ge 71), 3), (14, (.aload_n 0), 1), (15, (.aload_n 0), 1), (16, (.getfield 21), 3), (19, (.iload_n 1), 1), (20, .aaload, 1), (21, (.iload 4), 2), (23, .laload, 1), (24, (.invokevirtual 135), 3), (27, (.ifCond .eq 16), 3), (30, (.aload_n 0), 1), (31, (.getfield 21), 3), (34, (.iload_n 1), 1), (35, .aaload, 1), (36, (.iload 4), 2), (38, .laload, 1), (39, .l2i, 1), (40, (.goto 4), 3), (43, (.iconst (-1)), 1), (44, (.istore 5), 2), (46, (.iload 5), 2), (48, (.iconst (-1)), 1), (49, (.if_icmp .eq 21), 3), (52, (.aload_n 3), 1), (53, (.iload 5), 2), (55, (.aload_n 3), 1), (56, (.getfield 245), 3), (59, (.iconst 2), 1), (60, .irem, 1), (61, (.invokevirtual 250), 3), (64, (.ifCond .ne 6), 3), (67, (.iload 4), 2), (69, .ireturn, 1), (70, (.aload_n 3), 1), (71, (.iload 5), 2), (73, (.invokevirtual 279), 3), (76, (.iinc 4 1), 3), (79, (.goto (-71)), 3), (82, (.iconst (-1)), 1), (83, .ireturn, 1)]
theorem cto194 : ∀ q ∈ ct194, decode cX9_goThrough q.1 = .ok (q.2.1, q.2.2) := by decide +kernel
/-- X9_judge -/
def ct195 : List (Nat × Instr × Nat) := [(0, (.aload_n 0), 1), (1, (.iload_n 1), 1), (2, (.iload_n 2), 1), (3, (.invokevirtual 321), 3), (6, (.istore_n 3), 1), (7, (.iload_n 3), 1), (8, (.ifCond .eq 7), 3), (11, (.iload_n 3), 1), (12, (.goto 9), 3), (15, (.aload_n 0), 1), (16, (.iload_n 1), 1), (17, (.iload_n 2), 1), (18, (.invokevirtual 324), 3), (21, .ireturn, 1)]
theorem cto195 : ∀ q ∈ ct195, decode cX9_judge q.1 = .ok (q.2.1, q.2.2) := by decide +kernel
/-- X9_told -/
def ct196 : List (Nat × Instr × Nat) := [(0, (.iload_n 3), 1), (1, .i2l, 1), (2, (.lconst 0), 1), (3, (.ldc2_w 319), 3), (6, (.invokestatic 76), 3), (9, (.ifCond .ne 13), 3), (12, (.ldc 244), 2), (14, (.aload_n 0), 1), (15, (.bipush (-2)), 2), (17, (.invokevirtual 86), 3), (20, .iadd, 1), (21, .ireturn, 1), (22, (.aload_n 0), 1), (23, (.iload_n 1), 1), (24, (.iload_n 2), 1), (25, (.invokevirtual 321), 3), (28, (.istore 4), 2), (30, (.iload 4), 2), (32, (.ifCond .eq 9), 3), (35, (.ldc 244), 2), (37, (.iload 4), 2), (39, .iadd, 1), (40, .ireturn, 1), (41, (.aload_n 0), 1), (42, (.iload_n 1), 1), (43, (.iload_n 2), 1), (44, (.invokevirtual 324), 3), (47, (.iconst (-1)), 1), (48, (.if_icmp .eq 13), 3), (51, (.ldc 244), 2), (53, (.aload_n 0), 1), (54, (.bipush (-5)), 2), (56, (.invokevirtual 86), 3), (59, .iadd, 1), (60, .ireturn, 1), (61, (.iload_n 3), 1), (62, (.iconst 2), 1), (63, (.if_icmp .ne 13), 3), (66, (.aload_n 0), 1), (67, (.getfield 293), 3), (70, (.getfield 121), 3), (73, (.goto 12), 3), (76, (.aload_n 0), 1), (77, (.getfield 293), 3), (80, (.getfield 51), 3), (83, (.iload_n 3), 1), (84, .iaload, 1), (85, .ireturn, 1)]
theorem cto196 : ∀ q ∈ ct196, decode cX9_told q.1 = .ok (q.2.1, q.2.2) := by decide +kernel
def ct197_0 : List (Nat × Instr × Nat) := [(0, (.iload_n 2), 1), (1, (.iconst 2), 1), (2, .irem, 1), (3, (.istore_n 3), 1), (4, (.iconst 0), 1), (5, (.istore 4), 2), (7, (.aload_n 0), 1), (8, (.getfield 70), 3), (11, (.iload_n 1), 1), (12, .aaload, 1), (13, (.iconst 0), 1), (14, (.iconst 0), 1), (15, .iastore, 1), (16, (.aload_n 0), 1), (17, (.getfield 70), 3), (20, (.iload_n 1), 1), (21, .aaload, 1), (22, (.iconst 1), 1), (23, (.iconst 0), 1), (24, .iastore, 1), (25, (.iconst (-1)), 1), (26, (.istore 5), 2), (28, (.iconst (-1)), 1), (29, (.istore 6), 2), (31, (.iload 6), 2), (33, (.aload_n 0), 1), (34, (.getfield 73), 3), (37, (.if_icmp .ge 147), 3), (40, (.iload 6), 2), (42, (.iconst (-1)), 1), (43, (.if_icmp .eq 16), 3), (46, (.aload_n 0), 1), (47, (.iload 6), 2), (49, (.iload_n 3), 1), (50, (.invokevirtual 250), 3), (53, (.ifCond .ne 6), 3), (56, (.goto 122), 3), (59, (.aload_n 0), 1), (60, (.invokevirtual 256), 3), (63, (.lstore 7), 2), (65, (.aload_n 0), 1), (66, (.iload 6), 2), (68, (.invokevirtual 260), 3), (71, (.aload_n 0), 1), (72, (.iload_n 3), 1), (73, (.invokevirtual 253), 3), (76, (.istore 9), 2), (78, (.iconst 0), 1), (79, (.istore 10), 2), (81, (.iload_n 1), 1), (82, (.iconst 1), 1), (83, (.if_icmp .le 42), 3), (86, (.aload_n 0), 1), (87, (.iload_n 1), 1), (88, (.iconst 1), 1), (89, .isub, 1), (90, (.iload_n 2), 1), (91, (.iconst 1), 1), (92, .iadd, 1), (93, (.invokevirtual 286), 3), (96, (.iload 9), 2), (98, (.aload_n 0), 1), (99, (.getfield 64), 3), (102, (.iload_n 1), 1), (103, (.iconst 1), 1), (104, .isub, 1), (105, .aaload, 1), (106, (.iload_n 3), 1), (107, .iaload, 1), (108, .iadd, 1), (109, (.istore 9), 2), (111, (.aload_n 0), 1), (112, (.getfield 64), 3), (115, (.iload_n 1), 1), (116, (.iconst 1), 1), (117, .isub, 1), (118, .aaload, 1), (119, (.iconst 1), 1), (120, (.iload_n 3), 1), (121, .isub, 1), (122, .iaload, 1), (123, (.istore 10), 2), (125, (.aload_n 0), 1), (126, (.lload 7), 2), (128, (.invokevirtual 264), 3), (131, (.iload 4), 2), (133, (.ifCond .eq 16), 3), (136, (.iload 9), 2), (138, (.aload_n 0), 1), (139, (.getfield 70), 3), (142, (.iload_n 1), 1), (143, .aaload, 1), (144, (.iload_n 3), 1), (145, .iaload, 1), (146, (.if_icmp .le 32), 3), (149, (.iconst 1), 1), (150, (.istore 4), 2), (152, (.aload_n 0), 1), (153, (.getfield 70), 3), (156, (.iload_n 1), 1)]
theorem cto197_0 : ∀ q ∈ ct197_0, decode cX9_findBest q.1 = .ok (q.2.1, q.2.2) := by decide +kernel
def ct197_1 : List (Nat × Instr × Nat) := [(157, .aaload, 1), (158, (.iload_n 3), 1), (159, (.iload 9), 2), (161, .iastore, 1), (162, (.aload_n 0), 1), (163, (.getfield 70), 3), (166, (.iload_n 1), 1), (167, .aaload, 1), (168, (.iconst 1), 1), (169, (.iload_n 3), 1), (170, .isub, 1), (171, (.iload 10), 2), (173, .iastore, 1), (174, (.iload 6), 2), (176, (.istore 5), 2), (178, (.iinc 6 1), 3), (181, (.goto (-150)), 3), (184, (.aload_n 0), 1), (185, (.getfield 64), 3), (188, (.iload_n 1), 1), (189, .aaload, 1), (190, (.iconst 0), 1), (191, (.aload_n 0), 1), (192, (.getfield 70), 3), (195, (.iload_n 1), 1), (196, .aaload, 1), (197, (.iconst 0), 1), (198, .iaload, 1), (199, .iastore, 1), (200, (.aload_n 0), 1), (201, (.getfield 64), 3), (204, (.iload_n 1), 1), (205, .aaload, 1), (206, (.iconst 1), 1), (207, (.aload_n 0), 1), (208, (.getfield 70), 3), (211, (.iload_n 1), 1), (212, .aaload, 1), (213, (.iconst 1), 1), (214, .iaload, 1), (215, .iastore, 1), (216, (.aload_n 0), 1), (217, (.getfield 67), 3), (220, (.iload_n 1), 1), (221, (.iload 5), 2), (223, .iastore, 1), (224, .return_, 1)]
theorem cto197_1 : ∀ q ∈ ct197_1, decode cX9_findBest q.1 = .ok (q.2.1, q.2.2) := by decide +kernel
/-- X9_findBest -/
def ct197 : List (Nat × Instr × Nat) := ct197_0 ++ (ct197_1)
theorem cto197 : ∀ q ∈ ct197, decode cX9_findBest q.1 = .ok (q.2.1, q.2.2) := List.forall_mem_append.mpr ⟨cto197_0, cto197_1⟩
/-- X9_areDays -/
def ct198 : List (Nat × Instr × Nat) := [(0, (.iload_n 0), 1), (1, .i2l, 1), (2, (.lconst 1), 1), (3, (.ldc2_w 82), 3), (6, (.invokestatic 76), 3), (9, .ireturn, 1)]
theorem cto198 : ∀ q ∈ ct198, decode cX9_areDays q.1 = .ok (q.2.1, q.2.2) := by decide +kernel
/-- X9_best -/
def ct199 : List (Nat × Instr × Nat) := [(0, (.iload_n 1), 1), (1, (.invokestatic 327), 3), (4, (.ifCond .eq 15), 3), (7, (.iload_n 2), 1), (8, .i2l, 1), (9, (.lconst 0), 1), (10, (.ldc2_w 319), 3), (13, (.invokestatic 76), 3), (16, (.ifCond .ne 13), 3), (19, (.ldc 244), 2), (21, (.aload_n 0), 1), (22, (.bipush (-2)), 2), (24, (.invokevirtual 86), 3), (27, .iadd, 1), (28, .ireturn, 1), (29, (.aload_n 0), 1), (30, (.iload_n 1), 1), (31, (.aload_n 0), 1), (32, (.getfield 245), 3), (35, (.invokevirtual 286), 3), (38, (.iload_n 2), 1), (39, (.iconst 2), 1), (40, (.if_icmp .ne 12), 3), (43, (.aload_n 0), 1), (44, (.getfield 67), 3), (47, (.iload_n 1), 1), (48, .iaload, 1), (49, (.goto 11), 3), (52, (.aload_n 0), 1), (53, (.getfield 64), 3), (56, (.iload_n 1), 1), (57, .aaload, 1), (58, (.iload_n 2), 1), (59, .iaload, 1), (60, .ireturn, 1)]
theorem cto199 : ∀ q ∈ ct199, decode cX9_best q.1 = .ok (q.2.1, q.2.2) := by decide +kernel
/-- X9_mostAgainst -/
def ct200 : List (Nat × Instr × Nat) := [(0, (.iload_n 3), 1), (1, (.ifCond .ne 5), 3), (4, (.iconst 0), 1), (5, .ireturn, 1), (6, (.aload_n 0), 1), (7, (.invokevirtual 256), 3), (10, (.lstore 5), 2), (12, (.aload_n 0), 1), (13, (.getfield 245), 3), (16, (.iconst 2), 1), (17, .irem, 1), (18, (.iload 4), 2), (20, (.if_icmp .eq 55), 3), (23, (.aload_n 0), 1), (24, (.aload_n 0), 1), (25, (.iload_n 1), 1), (26, (.iload_n 2), 1), (27, (.invokevirtual 105), 3), (30, (.invokevirtual 260), 3), (33, (.aload_n 0), 1), (34, .dup, 1), (35, (.getfield 245), 3), (38, (.iconst 1), 1), (39, .iadd, 1), (40, (.putfield 245), 3), (43, (.aload_n 0), 1), (44, (.iload_n 1), 1), (45, (.iload_n 2), 1), (46, (.iload_n 3), 1), (47, (.iconst 1), 1), (48, .isub, 1), (49, (.iload 4), 2), (51, (.invokevirtual 330), 3), (54, (.istore 7), 2), (56, (.aload_n 0), 1), (57, .dup, 1), (58, (.getfield 245), 3), (61, (.iconst 1), 1), (62, .isub, 1), (63, (.putfield 245), 3), (66, (.aload_n 0), 1), (67, (.lload 5), 2), (69, (.invokevirtual 264), 3), (72, (.iload 7), 2), (74, .ireturn, 1), (75, (.iconst 0), 1), (76, (.istore 7), 2), (78, (.iconst (-1)), 1), (79, (.istore 8), 2), (81, (.iload 8), 2), (83, (.aload_n 0), 1), (84, (.getfield 73), 3), (87, (.if_icmp .ge 104), 3), (90, (.iload 8), 2), (92, (.iconst (-1)), 1), (93, (.if_icmp .eq 14), 3), (96, (.aload_n 0), 1), (97, (.iload 8), 2), (99, (.iload 4), 2), (101, (.invokevirtual 250), 3), (104, (.ifCond .eq 81), 3), (107, (.aload_n 0), 1), (108, (.iload 8), 2), (110, (.invokevirtual 260), 3), (113, (.aload_n 0), 1), (114, (.iload 4), 2), (116, (.invokevirtual 253), 3), (119, (.istore 9), 2), (121, (.aload_n 0), 1), (122, .dup, 1), (123, (.getfield 245), 3), (126, (.iconst 1), 1), (127, .iadd, 1), (128, (.putfield 245), 3), (131, (.iload 9), 2), (133, (.aload_n 0), 1), (134, (.iload_n 1), 1), (135, (.iload_n 2), 1), (136, (.iload_n 3), 1), (137, (.iconst 1), 1), (138, .isub, 1), (139, (.iload 4), 2), (141, (.invokevirtual 330), 3), (144, .iadd, 1), (145, (.istore 10), 2), (147, (.aload_n 0), 1), (148, .dup, 1), (149, (.getfield 245), 3), (152, (.iconst 1), 1), (153, .isub, 1), (154, (.putfield 245), 3), (157, (.aload_n 0), 1), (158, (.lload 5), 2), (160, (.invokevirtual 264), 3), (163, (.iload 8), 2), (165, (.iconst (-1)), 1), (166, (.if_icmp .eq 10), 3), (169, (.iload 10), 2), (171, (.iload 7), 2), (173, (.if_icmp .le 8), 3), (176, (.iload 10), 2), (178, (.goto 5), 3), (181, (.iload 7), 2), (183, (.istore 7), 2), (185, (.iinc 8 1), 3), (188, (.goto (-107)), 3), (191, (.iload 7), 2), (193, .ireturn, 1)]
theorem cto200 : ∀ q ∈ ct200, decode cX9_mostAgainst q.1 = .ok (q.2.1, q.2.2) := by decide +kernel
/-- X9_against -/
def ct201 : List (Nat × Instr × Nat) := [(0, (.iload_n 1), 1), (1, .i2l, 1), (2, (.lconst 0), 1), (3, (.ldc2_w 80), 3), (6, (.invokestatic 76), 3), (9, (.ifCond .eq 10), 3), (12, (.iload_n 2), 1), (13, (.invokestatic 327), 3), (16, (.ifCond .ne 13), 3), (19, (.ldc 244), 2), (21, (.aload_n 0), 1), (22, (.bipush (-2)), 2), (24, (.invokevirtual 86), 3), (27, .iadd, 1), (28, .ireturn, 1), (29, (.aload_n 0), 1), (30, (.iload_n 1), 1), (31, (.invokevirtual 290), 3), (34, (.istore_n 3), 1), (35, (.iload_n 3), 1), (36, (.ifCond .eq 10), 3), (39, (.ldc 244), 2), (41, (.iload_n 3), 1), (42, .iadd, 1), (43, (.goto 26), 3), (46, (.aload_n 0), 1), (47, (.aload_n 0), 1), (48, (.getfield 28), 3), (51, (.iload_n 1), 1), (52, .iaload, 1), (53, (.aload_n 0), 1), (54, (.getfield 31), 3), (57, (.iload_n 1), 1), (58, .iaload, 1), (59, (.iload_n 2), 1), (60, (.aload_n 0), 1), (61, (.getfield 245), 3), (64, (.iconst 2), 1), (65, .irem, 1), (66, (.invokevirtual 330), 3), (69, .ireturn, 1)]
theorem cto201 : ∀ q ∈ ct201, decode cX9_against q.1 = .ok (q.2.1, q.2.2) := by decide +kernel
/-- X9_mostTogether -/
def ct202 : List (Nat × Instr × Nat) := [(0, (.iload_n 1), 1), (1, (.ifCond .ne 5), 3), (4, (.iconst 0), 1), (5, .ireturn, 1), (6, (.aload_n 0), 1), (7, (.invokevirtual 256), 3), (10, (.lstore_n 3), 1), (11, (.iconst 0), 1), (12, (.istore 5), 2), (14, (.iconst (-1)), 1), (15, (.istore 6), 2), (17, (.iload 6), 2), (19, (.aload_n 0), 1), (20, (.getfield 73), 3), (23, (.if_icmp .ge 80), 3), (26, (.iload 6), 2), (28, (.iconst (-1)), 1), (29, (.if_icmp .eq 15), 3), (32, (.aload_n 0), 1), (33, (.iload 6), 2), (35, (.iload_n 2), 1), (36, (.iconst 2), 1), (37, .irem, 1), (38, (.invokevirtual 250), 3), (41, (.ifCond .eq 56), 3), (44, (.aload_n 0), 1), (45, (.iload 6), 2), (47, (.invokevirtual 260), 3), (50, (.aload_n 0), 1), (51, (.iload_n 2), 1), (52, (.iconst 2), 1), (53, .irem, 1), (54, (.invokevirtual 253), 3), (57, (.aload_n 0), 1), (58, (.iload_n 1), 1), (59, (.iconst 1), 1), (60, .isub, 1), (61, (.iload_n 2), 1), (62, (.iconst 1), 1), (63, .iadd, 1), (64, (.invokevirtual 334), 3), (67, .iadd, 1), (68, (.istore 7), 2), (70, (.aload_n 0), 1), (71, (.lload_n 3), 1), (72, (.invokevirtual 264), 3), (75, (.iload 6), 2), (77, (.iconst (-1)), 1), (78, (.if_icmp .eq 10), 3), (81, (.iload 7), 2), (83, (.iload 5), 2), (85, (.if_icmp .le 8), 3), (88, (.iload 7), 2), (90, (.goto 5), 3), (93, (.iload 5), 2), (95, (.istore 5), 2), (97, (.iinc 6 1), 3), (100, (.goto (-83)), 3), (103, (.iload 5), 2), (105, .ireturn, 1)]
theorem cto202 : ∀ q ∈ ct202, decode cX9_mostTogether q.1 = .ok (q.2.1, q.2.2) := by decide +kernel
/-- X9_together -/
def ct203 : List (Nat × Instr × Nat) := [(0, (.iload_n 1), 1), (1, (.invokestatic 327), 3), (4, (.ifCond .eq 15), 3), (7, (.aload_n 0), 1), (8, (.iload_n 1), 1), (9, (.aload_n 0), 1), (10, (.getfield 245), 3), (13, (.invokevirtual 334), 3), (16, (.goto 12), 3), (19, (.ldc 244), 2), (21, (.aload_n 0), 1), (22, (.bipush (-2)), 2), (24, (.invokevirtual 86), 3), (27, .iadd, 1), (28, .ireturn, 1)]
theorem cto203 : ∀ q ∈ ct203, decode cX9_together q.1 = .ok (q.2.1, q.2.2) := by decide +kernel
/-- X9_harm -/
def ct204 : List (Nat × Instr × Nat) := [(0, (.iload_n 1), 1), (1, (.invokestatic 327), 3), (4, (.ifCond .ne 13), 3), (7, (.ldc 244), 2), (9, (.aload_n 0), 1), (10, (.bipush (-2)), 2), (12, (.invokevirtual 86), 3), (15, .iadd, 1), (16, .ireturn, 1), (17, (.aload_n 0), 1), (18, (.iload_n 1), 1), (19, (.aload_n 0), 1), (20, (.getfield 245), 3), (23, (.invokevirtual 286), 3), (26, (.aload_n 0), 1), (27, (.iload_n 1), 1), (28, (.aload_n 0), 1), (29, (.getfield 245), 3), (32, (.invokevirtual 334), 3), (35, (.aload_n 0), 1), (36, (.getfield 64), 3), (39, (.iload_n 1), 1), (40, .aaload, 1), (41, (.iconst 0), 1), (42, .iaload, 1), (43, .isub, 1), (44, (.aload_n 0), 1), (45, (.getfield 64), 3), (48, (.iload_n 1), 1), (49, .aaload, 1), (50, (.iconst 1), 1), (51, .iaload, 1), (52, .isub, 1), (53, .ireturn, 1)]
theorem cto204 : ∀ q ∈ ct204, decode cX9_harm q.1 = .ok (q.2.1, q.2.2) := by decide +kernel
/-- X9_isDone -/
def ct205 : List (Nat × Instr × Nat) := [(0, (.iload_n 1), 1), (1, (.aload_n 0), 1), (2, (.getfield 121), 3), (5, (.iconst (-1)), 1), (6, .ixor, 1), (7, .iand, 1), (8, (.ifCond .ne 5), 3), (11, (.iconst 1), 1), (12, .ireturn, 1), (13, (.iload_n 2), 1), (14, (.ifCond .ne 5), 3), (17, (.iconst 0), 1), (18, .ireturn, 1), (19, (.aload_n 0), 1), (20, (.invokevirtual 256), 3), (23, (.lstore 6), 2), (25, (.iload 4), 2), (27, (.ifCond .eq 15), 3), (30, (.iload_n 3), 1), (31, (.iconst 2), 1), (32, .irem, 1), (33, (.iload 5), 2), (35, (.if_icmp .eq 7), 3), (38, (.iconst 1), 1), (39, (.goto 4), 3), (42, (.iconst 0), 1), (43, (.istore 8), 2), (45, (.iconst (-1)), 1), (46, (.istore 9), 2), (48, (.iload 9), 2), (50, (.iload 8), 2), (52, (.ifCond .eq 7), 3), (55, (.iconst 0), 1), (56, (.goto 7), 3), (59, (.aload_n 0), 1), (60, (.getfield 73), 3), (63, (.if_icmp .ge 63), 3), (66, (.iload 9), 2), (68, (.iconst (-1)), 1), (69, (.if_icmp .eq 15), 3), (72, (.aload_n 0), 1), (73, (.iload 9), 2), (75, (.iload_n 3), 1), (76, (.iconst 2), 1), (77, .irem, 1), (78, (.invokevirtual 250), 3), (81, (.ifCond .eq 39), 3), (84, (.aload_n 0), 1), (85, (.iload 9), 2), (87, (.invokevirtual 260), 3), (90, (.aload_n 0), 1), (91, (.iload_n 1), 1), (92, (.iload_n 2), 1), (93, (.iconst 1), 1), (94, .isub, 1), (95, (.iload_n 3), 1), (96, (.iconst 1), 1), (97, .iadd, 1), (98, (.iload 4), 2), (100, (.iload 5), 2), (102, (.invokevirtual 337), 3), (105, (.istore 10), 2), (107, (.aload_n 0), 1), (108, (.lload 6), 2), (110, (.invokevirtual 264), 3), (113, (.iload 10), 2), (115, (.ifCond .eq 5), 3), (118, (.iconst 1), 1), (119, .ireturn, 1), (120, (.iinc 9 1), 3), (123, (.goto (-75)), 3), (126, (.iconst 0), 1), (127, .ireturn, 1)]
theorem cto205 : ∀ q ∈ ct205, decode cX9_isDone q.1 = .ok (q.2.1, q.2.2) := by decide +kernel
/-- X9_workOf -/
def ct206 : List (Nat × Instr × Nat) := [(0, (.iconst 0), 1), (1, (.istore_n 3), 1), (2, (.iload_n 3), 1), (3, (.iconst 4), 1), (4, (.if_icmp .gt 31), 3), (7, (.aload_n 0), 1), (8, (.iload_n 1), 1), (9, (.iload_n 3), 1), (10, (.aload_n 0), 1), (11, (.getfield 245), 3), (14, (.iload_n 2), 1), (15, (.aload_n 0), 1), (16, (.getfield 245), 3), (19, (.iconst 2), 1), (20, .irem, 1), (21, (.invokevirtual 337), 3), (24, (.ifCond .eq 5), 3), (27, (.iload_n 3), 1), (28, .ireturn, 1), (29, (.iinc 3 1), 3), (32, (.goto (-30)), 3), (35, (.iconst (-1)), 1), (36, .ireturn, 1)]
theorem cto206 : ∀ q ∈ ct206, decode cX9_workOf q.1 = .ok (q.2.1, q.2.2) := by decide +kernel
/-- X9_work -/
def ct207 : List (Nat × Instr × Nat) := [(0, (.iload_n 1), 1), (1, .i2l, 1), (2, (.lconst 0), 1), (3, (.ldc2_w 115), 3), (6, (.invokestatic 76), 3), (9, (.ifCond .eq 12), 3), (12, (.aload_n 0), 1), (13, (.iload_n 1), 1), (14, (.iload_n 2), 1), (15, (.invokevirtual 341), 3), (18, (.goto 9), 3), (21, (.aload_n 0), 1), (22, (.bipush (-2)), 2), (24, (.invokevirtual 86), 3), (27, .ireturn, 1)]
theorem cto207 : ∀ q ∈ ct207, decode cX9_work q.1 = .ok (q.2.1, q.2.2) := by decide +kernel
/-- X9_reach -/
def ct208 : List (Nat × Instr × Nat) := [(0, (.iload_n 1), 1), (1, .i2l, 1), (2, (.lconst 0), 1), (3, (.ldc2_w 82), 3), (6, (.invokestatic 76), 3), (9, (.ifCond .ne 10), 3), (12, (.aload_n 0), 1), (13, (.bipush (-2)), 2), (15, (.invokevirtual 86), 3), (18, .ireturn, 1), (19, (.iconst 0), 1), (20, (.istore_n 2), 1), (21, (.iconst 0), 1), (22, (.istore_n 3), 1), (23, (.iload_n 3), 1), (24, (.bipush 8), 2), (26, (.if_icmp .ge 36), 3), (29, (.iload_n 2), 1), (30, (.aload_n 0), 1), (31, (.iconst 1), 1), (32, (.iload_n 3), 1), (33, .ishl, 1), (34, (.iload_n 1), 1), (35, (.aload_n 0), 1), (36, (.getfield 245), 3), (39, (.iconst 0), 1), (40, (.iconst 0), 1), (41, (.invokevirtual 337), 3), (44, (.ifCond .eq 9), 3), (47, (.iconst 1), 1), (48, (.iload_n 3), 1), (49, .ishl, 1), (50, (.goto 4), 3), (53, (.iconst 0), 1), (54, .ior, 1), (55, (.istore_n 2), 1), (56, (.iinc 3 1), 3), (59, (.goto (-36)), 3), (62, (.iload_n 2), 1), (63, .ireturn, 1)]
theorem cto208 : ∀ q ∈ ct208, decode cX9_reach q.1 = .ok (q.2.1, q.2.2) := by decide +kernel
/-- X9_foundBy -/
def ct209 : List (Nat × Instr × Nat) := [(0, (.aload_n 0), 1), (1, (.invokevirtual 256), 3), (4, (.lstore_n 2), 1), (5, (.iconst 0), 1), (6, (.istore 4), 2), (8, (.aload_n 0), 1), (9, (.aload_n 0), 1), (10, (.getfield 272), 3), (13, (.putfield 121), 3), (16, (.aload_n 0), 1), (17, (.getfield 54), 3), (20, (.aload_n 0), 1), (21, (.getfield 45), 3), (24, (.invokestatic 275), 3), (27, (.aload_n 0), 1), (28, (.invokevirtual 256), 3), (31, (.lstore 5), 2), (33, (.iconst (-1)), 1), (34, (.istore 7), 2), (36, (.iload 7), 2), (38, (.aload_n 0), 1), (39, (.getfield 73), 3), (42, (.if_icmp .ge 121), 3), (45, (.iload 7), 2), (47, (.iconst (-1)), 1), (48, (.if_icmp .eq 20), 3), (51, (.aload_n 0), 1), (52, (.iload 7), 2), (54, (.aload_n 0), 1), (55, (.getfield 245), 3), (58, (.iconst 1), 1), (59, .iadd, 1), (60, (.iconst 2), 1), (61, .irem, 1), (62, (.invokevirtual 250), 3), (65, (.ifCond .eq 92), 3), (68, (.aload_n 0), 1), (69, (.iload 7), 2), (71, (.invokevirtual 260), 3), (74, (.aload_n 0), 1), (75, (.invokevirtual 256), 3), (78, (.lstore 8), 2), (80, (.aload_n 0), 1), (81, (.lload 5), 2), (83, (.invokevirtual 264), 3), (86, (.lload 8), 2), (88, (.ldc2_w 344), 3), (91, .lrem, 1), (92, (.lload_n 2), 1), (93, (.ldc2_w 344), 3), (96, .lrem, 1), (97, .lcmp, 1), (98, (.ifCond .ne 27), 3), (101, (.lload 8), 2), (103, (.bipush 20), 2), (105, .lshr, 1), (106, (.lload_n 2), 1), (107, (.bipush 20), 2), (109, .lshr, 1), (110, .lxor, 1), (111, (.iload_n 1), 1), (112, (.iconst (-1)), 1), (113, .ixor, 1), (114, .i2l, 1), (115, .land, 1), (116, (.lconst 0), 1), (117, .lcmp, 1), (118, (.ifCond .ne 7), 3), (121, (.iconst 1), 1), (122, (.goto 4), 3), (125, (.iconst 0), 1), (126, (.istore 10), 2), (128, (.iload 4), 2), (130, (.iload 10), 2), (132, (.ifCond .eq 21), 3), (135, (.iconst 1), 1), (136, (.iload 7), 2), (138, (.iconst (-1)), 1), (139, (.if_icmp .ne 8), 3), (142, (.bipush 10), 2), (144, (.goto 5), 3), (147, (.iload 7), 2), (149, .ishl, 1), (150, (.goto 4), 3), (153, (.iconst 0), 1), (154, .ior, 1), (155, (.istore 4), 2), (157, (.iinc 7 1), 3), (160, (.goto (-124)), 3), (163, (.aload_n 0), 1), (164, (.lload_n 2), 1), (165, (.invokevirtual 264), 3), (168, (.iload 4), 2), (170, .ireturn, 1)]
theorem cto209 : ∀ q ∈ ct209, decode cX9_foundBy q.1 = .ok (q.2.1, q.2.2) := by decide +kernel
/-- X9_found -/
def ct210 : List (Nat × Instr × Nat) := [(0, (.aload_n 0), 1), (1, (.getfield 117), 3), (4, (.ifCond .eq 14), 3), (7, (.aload_n 0), 1), (8, (.aload_n 0), 1), (9, (.getfield 139), 3), (12, (.invokevirtual 346), 3), (15, (.goto 9), 3), (18, (.aload_n 0), 1), (19, (.bipush (-5)), 2), (21, (.invokevirtual 86), 3), (24, .ireturn, 1)]
theorem cto210 : ∀ q ∈ ct210, decode cX9_found q.1 = .ok (q.2.1, q.2.2) := by decide +kernel
/-- X9_say -/
def ct211 : List (Nat × Instr × Nat) := [(0, (.iload_n 1), 1), (1, .i2l, 1), (2, (.lconst 0), 1), (3, (.ldc2_w 349), 3), (6, (.invokestatic 76), 3), (9, (.ifCond .eq 13), 3), (12, (.iload_n 2), 1), (13, .i2l, 1), (14, (.lconst 0), 1), (15, (.lconst 1), 1), (16, (.invokestatic 76), 3), (19, (.ifCond .ne 10), 3), (22, (.aload_n 0), 1), (23, (.bipush (-2)), 2), (25, (.invokevirtual 86), 3), (28, .ireturn, 1), (29, (.aload_n 0), 1), (30, (.getfield 117), 3), (33, (.ifCond .ne 10), 3), (36, (.aload_n 0), 1), (37, (.bipush (-5)), 2), (39, (.invokevirtual 86), 3), (42, .ireturn, 1), (43, (.iload_n 1), 1), (44, (.aload_n 0), 1), (45, (.getfield 139), 3), (48, (.invokestatic 351), 3), (51, (.if_icmp .ge 7), 3), (54, (.iload_n 1), 1), (55, (.goto 10), 3), (58, (.aload_n 0), 1), (59, (.getfield 139), 3), (62, (.invokestatic 351), 3), (65, (.istore_n 3), 1), (66, (.iconst (-1)), 1), (67, (.istore 4), 2), (69, (.iconst 0), 1), (70, (.istore 5), 2), (72, (.iconst 0), 1), (73, (.istore 6), 2), (75, (.iload 6), 2), (77, (.sipush 256), 3), (80, (.if_icmp .ge 69), 3), (83, (.iload 6), 2), (85, (.aload_n 0), 1), (86, (.getfield 139), 3), (89, (.iconst (-1)), 1), (90, .ixor, 1), (91, .iand, 1), (92, (.ifCond .ne 51), 3), (95, (.iload 6), 2), (97, (.invokestatic 351), 3), (100, (.iload_n 3), 1), (101, (.if_icmp .ne 42), 3), (104, (.aload_n 0), 1), (105, (.aload_n 0), 1), (106, (.getfield 139), 3), (109, (.iload 6), 2), (111, (.iconst (-1)), 1), (112, .ixor, 1), (113, .iand, 1), (114, (.invokevirtual 346), 3), (117, (.invokestatic 351), 3), (120, (.istore 7), 2), (122, (.iload 4), 2), (124, (.iconst (-1)), 1), (125, (.if_icmp .eq 10), 3), (128, (.iload 7), 2), (130, (.iload 5), 2), (132, (.if_icmp .ge 11), 3), (135, (.iload 6), 2), (137, (.istore 4), 2), (139, (.iload 7), 2), (141, (.istore 5), 2), (143, (.iinc 6 1), 3), (146, (.goto (-71)), 3), (149, (.iload_n 2), 1), (150, (.ifCond .ne 8), 3), (153, (.iload 4), 2), (155, (.goto 5), 3), (158, (.iload 5), 2), (160, .ireturn, 1)]
theorem cto211 : ∀ q ∈ ct211, decode cX9_say q.1 = .ok (q.2.1, q.2.2) := by decide +kernel
/-- X9_lockingOf -/
def ct212 : List (Nat × Instr × Nat) := [(0, (.aload_n 0), 1), (1, (.getfield 245), 3), (4, (.iconst 2), 1), (5, .irem, 1), (6, (.istore_n 3), 1), (7, (.aload_n 0), 1), (8, (.iload_n 2), 1), (9, (.aload_n 0), 1), (10, (.getfield 245), 3), (13, (.invokevirtual 286), 3), (16, (.aload_n 0), 1), (17, (.getfield 64), 3), (20, (.iload_n 2), 1), (21, .aaload, 1), (22, (.iload_n 3), 1), (23, .iaload, 1), (24, (.istore 4), 2), (26, (.aload_n 0), 1), (27, (.getfield 42), 3), (30, (.iload_n 1), 1), (31, .aaload, 1), (32, (.bipush 6), 2), (34, .dup2, 1), (35, .iaload, 1), (36, (.iconst 2), 1), (37, (.iload_n 3), 1), (38, .ishr, 1), (39, .ior, 1), (40, .iastore, 1), (41, (.aload_n 0), 1), (42, (.iload_n 2), 1), (43, (.aload_n 0), 1), (44, (.getfield 245), 3), (47, (.invokevirtual 286), 3), (50, (.aload_n 0), 1), (51, (.getfield 42), 3), (54, (.iload_n 1), 1), (55, .aaload, 1), (56, (.bipush 6), 2), (58, .dup2, 1), (59, .iaload, 1), (60, (.iconst 2), 1), (61, (.iload_n 3), 1), (62, .ishr, 1), (63, (.iconst (-1)), 1), (64, .ixor, 1), (65, .iand, 1), (66, .iastore, 1), (67, (.aload_n 0), 1), (68, (.getfield 64), 3), (71, (.iload_n 2), 1), (72, .aaload, 1), (73, (.iload_n 3), 1), (74, .iaload, 1), (75, (.iload 4), 2), (77, .isub, 1), (78, .ireturn, 1)]
theorem cto212 : ∀ q ∈ ct212, decode cX9_lockingOf q.1 = .ok (q.2.1, q.2.2) := by decide +kernel
/-- X9_isLocked -/
def ct213 : List (Nat × Instr × Nat) := [(0, (.aload_n 0), 1), (1, (.getfield 42), 3), (4, (.iload_n 1), 1), (5, .aaload, 1), (6, (.bipush 6), 2), (8, .iaload, 1), (9, (.iconst 1), 1), (10, (.aload_n 0), 1), (11, (.getfield 245), 3), (14, (.iconst 2), 1), (15, .irem, 1), (16, .isub, 1), (17, (.invokestatic 124), 3), (20, .ireturn, 1)]
theorem cto213 : ∀ q ∈ ct213, decode cX9_isLocked q.1 = .ok (q.2.1, q.2.2) := by decide +kernel
/-- X9_locking -/
def ct214 : List (Nat × Instr × Nat) := [(0, (.aload_n 0), 1), (1, (.iload_n 1), 1), (2, .i2l, 1), (3, (.invokevirtual 135), 3), (6, (.ifCond .eq 10), 3), (9, (.iload_n 2), 1), (10, (.invokestatic 327), 3), (13, (.ifCond .ne 13), 3), (16, (.ldc 244), 2), (18, (.aload_n 0), 1), (19, (.bipush (-2)), 2), (21, (.invokevirtual 86), 3), (24, .iadd, 1), (25, .ireturn, 1), (26, (.aload_n 0), 1), (27, (.iload_n 1), 1), (28, (.invokevirtual 354), 3), (31, (.ifCond .eq 15), 3), (34, (.ldc 244), 2), (36, (.aload_n 0), 1), (37, (.bipush (-5)), 2), (39, (.invokevirtual 86), 3), (42, .iadd, 1), (43, (.goto 9), 3), (46, (.aload_n 0), 1), (47, (.iload_n 1), 1), (48, (.iload_n 2), 1), (49, (.invokevirtual 357), 3), (52, .ireturn, 1)]
theorem cto214 : ∀ q ∈ ct214, decode cX9_locking q.1 = .ok (q.2.1, q.2.2) := by decide +kernel
/-- X9_which -/
def ct215 : List (Nat × Instr × Nat) := [(0, (.iload_n 1), 1), (1, (.invokestatic 327), 3), (4, (.ifCond .ne 10), 3), (7, (.aload_n 0), 1), (8, (.bipush (-2)), 2), (10, (.invokevirtual 86), 3), (13, .ireturn, 1), (14, (.iconst (-1)), 1), (15, (.istore_n 2), 1), (16, (.iconst 0), 1), (17, (.istore_n 3), 1), (18, (.iconst 0), 1), (19, (.istore 4), 2), (21, (.iload 4), 2), (23, (.aload_n 0), 1), (24, (.getfield 73), 3), (27, (.if_icmp .ge 43), 3), (30, (.aload_n 0), 1), (31, (.iload 4), 2), (33, (.invokevirtual 354), 3), (36, (.ifCond .eq 7), 3), (39, (.iconst 0), 1), (40, (.goto 10), 3), (43, (.aload_n 0), 1), (44, (.iload 4), 2), (46, (.iload_n 1), 1), (47, (.invokevirtual 357), 3), (50, (.istore 5), 2), (52, (.iload 5), 2), (54, (.iload_n 3), 1), (55, (.if_icmp .le 9), 3), (58, (.iload 4), 2), (60, (.istore_n 2), 1), (61, (.iload 5), 2), (63, (.istore_n 3), 1), (64, (.iinc 4 1), 3), (67, (.goto (-46)), 3), (70, (.iload_n 2), 1), (71, .ireturn, 1)]
theorem cto215 : ∀ q ∈ ct215, decode cX9_which q.1 = .ok (q.2.1, q.2.2) := by decide +kernel
/-- X9_up -/
def ct216 : List (Nat × Instr × Nat) := [(0, (.iload_n 1), 1), (1, .i2l, 1), (2, (.lconst 1), 1), (3, (.ldc2_w 111), 3), (6, (.invokestatic 76), 3), (9, (.ifCond .ne 13), 3), (12, (.ldc 244), 2), (14, (.aload_n 0), 1), (15, (.bipush (-2)), 2), (17, (.invokevirtual 86), 3), (20, .iadd, 1), (21, .ireturn, 1), (22, (.aload_n 0), 1), (23, (.getfield 245), 3), (26, (.iconst 2), 1), (27, .irem, 1), (28, (.istore_n 2), 1), (29, (.aload_n 0), 1), (30, (.iload_n 1), 1), (31, (.aload_n 0), 1), (32, (.getfield 245), 3), (35, (.invokevirtual 286), 3), (38, (.aload_n 0), 1), (39, (.getfield 64), 3), (42, (.iload_n 1), 1), (43, .aaload, 1), (44, (.iload_n 2), 1), (45, .iaload, 1), (46, (.istore_n 3), 1), (47, (.iload_n 3), 1), (48, (.istore 4), 2), (50, (.aload_n 0), 1), (51, (.invokevirtual 256), 3), (54, (.lstore 5), 2), (56, (.iconst 0), 1), (57, (.istore 7), 2), (59, (.iload 7), 2), (61, (.aload_n 0), 1), (62, (.getfield 73), 3), (65, (.if_icmp .ge 68), 3), (68, (.aload_n 0), 1), (69, (.iload 7), 2), (71, (.iload_n 2), 1), (72, (.invokevirtual 250), 3), (75, (.ifCond .eq 52), 3), (78, (.aload_n 0), 1), (79, (.iload 7), 2), (81, (.invokevirtual 260), 3), (84, (.aload_n 0), 1), (85, (.iload_n 1), 1), (86, (.aload_n 0), 1), (87, (.getfield 245), 3), (90, (.invokevirtual 286), 3), (93, (.aload_n 0), 1), (94, (.lload 5), 2), (96, (.invokevirtual 264), 3), (99, (.aload_n 0), 1), (100, (.getfield 64), 3), (103, (.iload_n 1), 1), (104, .aaload, 1), (105, (.iload_n 2), 1), (106, .iaload, 1), (107, (.iload 4), 2), (109, (.if_icmp .le 14), 3), (112, (.aload_n 0), 1), (113, (.getfield 64), 3), (116, (.iload_n 1), 1), (117, .aaload, 1), (118, (.iload_n 2), 1), (119, .iaload, 1), (120, (.goto 5), 3), (123, (.iload 4), 2), (125, (.istore 4), 2), (127, (.iinc 7 1), 3), (130, (.goto (-71)), 3), (133, (.iload 4), 2), (135, (.iload_n 3), 1), (136, .isub, 1), (137, .ireturn, 1)]
theorem cto216 : ∀ q ∈ ct216, decode cX9_up q.1 = .ok (q.2.1, q.2.2) := by decide +kernel
/-- X9_pact -/
def ct217 : List (Nat × Instr × Nat) := [(0, (.iload_n 1), 1), (1, .i2l, 1), (2, (.lconst 0), 1), (3, (.ldc2_w 80), 3), (6, (.invokestatic 76), 3), (9, (.ifCond .eq 22), 3), (12, (.iload_n 2), 1), (13, .i2l, 1), (14, (.lconst 0), 1), (15, (.ldc2_w 80), 3), (18, (.invokestatic 76), 3), (21, (.ifCond .eq 10), 3), (24, (.iload_n 3), 1), (25, (.invokestatic 327), 3), (28, (.ifCond .ne 10), 3), (31, (.aload_n 0), 1), (32, (.bipush (-2)), 2), (34, (.invokevirtual 86), 3), (37, .ireturn, 1), (38, (.aload_n 0), 1), (39, (.iload_n 1), 1), (40, (.iload_n 2), 1), (41, (.invokevirtual 306), 3), (44, (.istore 4), 2), (46, (.iload 4), 2), (48, (.ifCond .eq 6), 3), (51, (.iload 4), 2), (53, .ireturn, 1), (54, (.aload_n 0), 1), (55, (.getfield 245), 3), (58, (.iconst 2), 1), (59, .irem, 1), (60, (.ifCond .ne 7), 3), (63, (.iload_n 1), 1), (64, (.goto 4), 3), (67, (.iload_n 2), 1), (68, (.istore 5), 2), (70, (.aload_n 0), 1), (71, (.getfield 245), 3), (74, (.iconst 2), 1), (75, .irem, 1), (76, (.ifCond .ne 7), 3), (79, (.iload_n 2), 1), (80, (.goto 4), 3), (83, (.iload_n 1), 1), (84, (.istore 6), 2), (86, (.aload_n 0), 1), (87, (.iload 5), 2), (89, (.iload 6), 2), (91, (.iload_n 3), 1), (92, (.invokevirtual 313), 3), (95, (.istore 7), 2), (97, (.aload_n 0), 1), (98, (.aload_n 0), 1), (99, (.getfield 28), 3), (102, (.iload 6), 2), (104, .iaload, 1), (105, (.aload_n 0), 1), (106, (.getfield 31), 3), (109, (.iload 6), 2), (111, .iaload, 1), (112, (.iload_n 3), 1), (113, (.aload_n 0), 1), (114, (.getfield 245), 3), (117, (.iconst 2), 1), (118, .irem, 1), (119, (.invokevirtual 330), 3), (122, (.iload 7), 2), (124, (.if_icmp .gt 7), 3), (127, (.iconst 1), 1), (128, (.goto 4), 3), (131, (.iconst 0), 1), (132, .ireturn, 1)]
theorem cto217 : ∀ q ∈ ct217, decode cX9_pact q.1 = .ok (q.2.1, q.2.2) := by decide +kernel
/-- X9_draw -/
def ct218 : List (Nat × Instr × Nat) := [(0, (.aload_n 0), 1), (1, (.aload_n 0), 1), (2, (.getfield 57), 3), (5, (.ldc_w 360), 3), (8, .imul, 1), (9, (.sipush 12345), 3), (12, .iadd, 1), (13, (.putfield 57), 3), (16, (.aload_n 0), 1), (17, (.getfield 57), 3), (20, (.bipush 16), 2), (22, .iushr, 1), (23, (.iload_n 1), 1), (24, .irem, 1), (25, .ireturn, 1)]
theorem cto218 : ∀ q ∈ ct218, decode cX9_draw q.1 = .ok (q.2.1, q.2.2) := by decide +kernel
/-- X9_leap -/
def ct219 : List (Nat × Instr × Nat) := [(0, (.aload_n 0), 1), (1, (.bipush 8), 2), (3, (.invokevirtual 361), 3), (6, (.istore_n 1), 1), (7, (.aload_n 0), 1), (8, .dup, 1), (9, (.getfield 121), 3), (12, (.iconst 1), 1), (13, (.iload_n 1), 1), (14, .ishl, 1), (15, .ixor, 1), (16, (.putfield 121), 3), (19, (.aload_n 0), 1), (20, (.iconst 0), 1), (21, (.putfield 117), 3), (24, (.iload_n 1), 1), (25, .ireturn, 1)]
theorem cto219 : ∀ q ∈ ct219, decode cX9_leap q.1 = .ok (q.2.1, q.2.2) := by decide +kernel
/-- X9_seed -/
def ct220 : List (Nat × Instr × Nat) := [(0, (.aload_n 0), 1), (1, (.getfield 57), 3), (4, (.istore_n 2), 1), (5, (.aload_n 0), 1), (6, (.iload_n 1), 1), (7, (.putfield 57), 3), (10, (.iload_n 2), 1), (11, .ireturn, 1)]
theorem cto220 : ∀ q ∈ ct220, decode cX9_seed q.1 = .ok (q.2.1, q.2.2) := by decide +kernel
/-- X9_over -/
def ct221 : List (Nat × Instr × Nat) := [(0, (.iconst 0), 1), (1, (.istore_n 2), 1), (2, (.iload_n 2), 1), (3, (.aload_n 0), 1), (4, .arraylength, 1), (5, (.if_icmp .ge 15), 3), (8, (.aload_n 1), 1), (9, (.iload_n 2), 1), (10, (.aload_n 0), 1), (11, (.iload_n 2), 1), (12, .iaload, 1), (13, .iastore, 1), (14, (.iinc 2 1), 3), (17, (.goto (-15)), 3), (20, .return_, 1)]
theorem cto221 : ∀ q ∈ ct221, decode cX9_over q.1 = .ok (q.2.1, q.2.2) := by decide +kernel
/-- X9_takeFrom -/
def ct222 : List (Nat × Instr × Nat) := [(0, (.aload_n 0), 1), (1, (.aload_n 1), 1), (2, (.getfield 73), 3), (5, (.putfield 73), 3), (8, (.iconst 0), 1), (9, (.istore_n 2), 1), (10, (.iload_n 2), 1), (11, (.bipush 10), 2), (13, (.if_icmp .ge 24), 3), (16, (.aload_n 1), 1), (17, (.getfield 42), 3), (20, (.iload_n 2), 1), (21, .aaload, 1), (22, (.aload_n 0), 1), (23, (.getfield 42), 3), (26, (.iload_n 2), 1), (27, .aaload, 1), (28, (.invokestatic 275), 3), (31, (.iinc 2 1), 3), (34, (.goto (-24)), 3), (37, (.aload_n 0), 1), (38, (.aload_n 1), 1), (39, (.getfield 121), 3), (42, (.putfield 121), 3), (45, (.aload_n 1), 1), (46, (.getfield 45), 3), (49, (.aload_n 0), 1), (50, (.getfield 45), 3), (53, (.invokestatic 275), 3), (56, (.aload_n 0), 1), (57, (.aload_n 1), 1), (58, (.getfield 245), 3), (61, (.putfield 245), 3), (64, (.aload_n 0), 1), (65, (.aload_n 1), 1), (66, (.getfield 139), 3), (69, (.putfield 139), 3), (72, (.aload_n 1), 1), (73, (.getfield 48), 3), (76, (.iconst 0), 1), (77, .aaload, 1), (78, (.aload_n 0), 1), (79, (.getfield 48), 3), (82, (.iconst 0), 1), (83, .aaload, 1), (84, (.invokestatic 275), 3), (87, (.aload_n 1), 1), (88, (.getfield 48), 3), (91, (.iconst 1), 1), (92, .aaload, 1), (93, (.aload_n 0), 1), (94, (.getfield 48), 3), (97, (.iconst 1), 1), (98, .aaload, 1), (99, (.invokestatic 275), 3), (102, (.aload_n 1), 1), (103, (.getfield 51), 3), (106, (.aload_n 0), 1), (107, (.getfield 51), 3), (110, (.invokestatic 275), 3), (113, (.aload_n 0), 1), (114, (.aload_n 1), 1), (115, (.getfield 117), 3), (118, (.putfield 117), 3), (121, (.aload_n 0), 1), (122, (.aload_n 1), 1), (123, (.getfield 272), 3), (126, (.putfield 272), 3), (129, (.aload_n 1), 1), (130, (.getfield 54), 3), (133, (.aload_n 0), 1), (134, (.getfield 54), 3), (137, (.invokestatic 275), 3), (140, (.aload_n 0), 1), (141, (.aload_n 1), 1), (142, (.getfield 57), 3), (145, (.putfield 57), 3), (148, .return_, 1)]
theorem cto222 : ∀ q ∈ ct222, decode cX9_takeFrom q.1 = .ok (q.2.1, q.2.2) := by decide +kernel
/-- X9_image -/
def ct223 : List (Nat × Instr × Nat) := [(0, (.aload_n 0), 1), (1, (.getfield 364), 3), (4, (.ifnonnull 14), 3), (7, (.aload_n 0), 1), (8, (.new 8), 3), (11, .dup, 1), (12, (.invokespecial 297), 3), (15, (.putfield 364), 3), (18, (.aload_n 0), 1), (19, (.getfield 364), 3), (22, (.aload_n 0), 1), (23, (.invokevirtual 240), 3), (26, (.iconst 1), 1), (27, .ireturn, 1)]
theorem cto223 : ∀ q ∈ ct223, decode cX9_image q.1 = .ok (q.2.1, q.2.2) := by decide +kernel
/-- X9_back -/
def ct224 : List (Nat × Instr × Nat) := [(0, (.aload_n 0), 1), (1, (.getfield 364), 3), (4, (.ifnonnull 10), 3), (7, (.aload_n 0), 1), (8, (.bipush (-5)), 2), (10, (.invokevirtual 86), 3), (13, .ireturn, 1), (14, (.aload_n 0), 1), (15, (.aload_n 0), 1), (16, (.getfield 364), 3), (19, (.invokevirtual 240), 3), (22, (.iconst 1), 1), (23, .ireturn, 1)]
theorem cto224 : ∀ q ∈ ct224, decode cX9_back q.1 = .ok (q.2.1, q.2.2) := by decide +kernel
/-- X9_status -/
def ct225 : List (Nat × Instr × Nat) := [(0, (.iconst 0), 1), (1, (.istore_n 2), 1), (2, (.iload_n 1), 1), (3, (.tableswitch 168 0 7 #[45, 50, 58, 63, 87, 125, 130, 135]), 45), (48, (.aload_n 0), 1), (49, (.getfield 73), 3), (52, .ireturn, 1), (53, (.aload_n 0), 1), (54, (.getfield 121), 3), (57, (.invokestatic 351), 3), (60, .ireturn, 1), (61, (.aload_n 0), 1), (62, (.getfield 245), 3), (65, .ireturn, 1), (66, (.iconst 0), 1), (67, (.istore_n 3), 1), (68, (.iload_n 3), 1), (69, (.iconst 4), 1), (70, (.if_icmp .ge 18), 3), (73, (.iload_n 2), 1), (74, (.aload_n 0), 1), (75, (.getfield 45), 3), (78, (.iload_n 3), 1), (79, .iaload, 1), (80, .iadd, 1), (81, (.istore_n 2), 1), (82, (.iinc 3 1), 3), (85, (.goto (-17)), 3), (88, (.iload_n 2), 1), (89, .ireturn, 1), (90, (.iconst 0), 1), (91, (.istore_n 3), 1), (92, (.iload_n 3), 1), (93, (.aload_n 0), 1), (94, (.getfield 73), 3), (97, (.if_icmp .ge 29), 3), (100, (.iload_n 2), 1), (101, (.aload_n 0), 1), (102, (.getfield 42), 3), (105, (.iload_n 3), 1), (106, .aaload, 1), (107, (.bipush 6), 2), (109, .iaload, 1), (110, (.ifCond .eq 7), 3), (113, (.iconst 1), 1), (114, (.goto 4), 3), (117, (.iconst 0), 1), (118, .iadd, 1), (119, (.istore_n 2), 1), (120, (.iinc 3 1), 3), (123, (.goto (-31)), 3), (126, (.iload_n 2), 1), (127, .ireturn, 1), (128, (.aload_n 0), 1), (129, (.getfield 142), 3), (132, .ireturn, 1), (133, (.aload_n 0), 1), (134, (.getfield 57), 3), (137, .ireturn, 1), (138, (.iconst 0), 1), (139, (.istore_n 3), 1), (140, (.iload_n 3), 1), (141, (.bipush 8), 2), (143, (.if_icmp .ge 26), 3), (146, (.iload_n 2), 1), (147, (.aload_n 0), 1), (148, (.getfield 7), 3), (151, (.iload_n 3), 1), (152, .iaload, 1), (153, (.ifCond .eq 7), 3), (156, (.iconst 1), 1), (157, (.goto 4), 3), (160, (.iconst 0), 1), (161, .iadd, 1), (162, (.istore_n 2), 1), (163, (.iinc 3 1), 3), (166, (.goto (-26)), 3), (169, (.iload_n 2), 1), (170, .ireturn, 1), (171, (.iload_n 1), 1), (172, .i2l, 1), (173, (.ldc2_w 367), 3), (176, (.ldc2_w 369), 3), (179, (.invokestatic 76), 3), (182, (.ifCond .eq 15), 3), (185, (.aload_n 0), 1), (186, (.getfield 37), 3), (189, (.iload_n 1), 1), (190, (.bipush 10), 2), (192, .isub, 1), (193, .iaload, 1), (194, (.goto 4), 3), (197, (.iconst (-1)), 1), (198, .ireturn, 1)]
theorem cto225 : ∀ q ∈ ct225, decode cX9_status q.1 = .ok (q.2.1, q.2.2) := by decide +kernel
end
section
/-- J6_bitCount_0f7a4 -/
def ct226 : List (Nat × Instr × Nat) := [(0, (.iload_n 0), 1), (1, (.iload_n 0), 1), (2, (.iconst 1), 1), (3, .iushr, 1), (4, (.ldc_w 265), 3), (7, .iand, 1), (8, .isub, 1), (9, (.istore_n 0), 1), (10, (.iload_n 0), 1), (11, (.ldc_w 266), 3), (14, .iand, 1), (15, (.iload_n 0), 1), (16, (.iconst 2), 1), (17, .iushr, 1), (18, (.ldc_w 266), 3), (21, .iand, 1), (22, .iadd, 1), (23, (.istore_n 0), 1), (24, (.iload_n 0), 1), (25, (.iload_n 0), 1), (26, (.iconst 4), 1), (27, .iushr, 1), (28, .iadd, 1), (29, (.ldc_w 267), 3), (32, .iand, 1), (33, (.istore_n 0), 1), (34, (.iload_n 0), 1), (35, (.iload_n 0), 1), (36, (.bipush 8), 2), (38, .iushr, 1), (39, .iadd, 1), (40, (.istore_n 0), 1), (41, (.iload_n 0), 1), (42, (.iload_n 0), 1), (43, (.bipush 16), 2), (45, .iushr, 1), (46, .iadd, 1), (47, (.istore_n 0), 1), (48, (.iload_n 0), 1), (49, (.bipush 63), 2), (51, .iand, 1), (52, .ireturn, 1)]
theorem cto226 : ∀ q ∈ ct226, decode cJ6_bitCount_0f7a4 q.1 = .ok (q.2.1, q.2.2) := by decide +kernel
/-- J0_length_8abf5 -/
def ct227 : List (Nat × Instr × Nat) := [(0, (.aload_n 0), 1), (1, (.getfield 9), 3), (4, .arraylength, 1), (5, (.aload_n 0), 1), (6, (.invokevirtual 335), 3), (9, .ishr, 1), (10, .ireturn, 1)]
theorem cto227 : ∀ q ∈ ct227, decode cJ0_length_8abf5 q.1 = .ok (q.2.1, q.2.2) := by decide +kernel
/-- J0_charAt_5068e -/
def ct228 : List (Nat × Instr × Nat) := [(0, (.aload_n 0), 1), (1, (.invokevirtual 492), 3), (4, (.ifCond .eq 12), 3), (7, (.aload_n 0), 1), (8, (.getfield 9), 3), (11, (.iload_n 1), 1), (12, (.invokestatic 495), 3), (15, .ireturn, 1), (16, (.aload_n 0), 1), (17, (.getfield 9), 3), (20, (.iload_n 1), 1), (21, (.invokestatic 498), 3), (24, .ireturn, 1)]
theorem cto228 : ∀ q ∈ ct228, decode cJ0_charAt_5068e q.1 = .ok (q.2.1, q.2.2) := by decide +kernel
/-- J0_coder_7d493 -/
def ct229 : List (Nat × Instr × Nat) := [(0, (.getstatic 38), 3), (3, (.ifCond .eq 10), 3), (6, (.aload_n 0), 1), (7, (.getfield 15), 3), (10, (.goto 4), 3), (13, (.iconst 1), 1), (14, .ireturn, 1)]
theorem cto229 : ∀ q ∈ ct229, decode cJ0_coder_7d493 q.1 = .ok (q.2.1, q.2.2) := by decide +kernel
/-- J0_isLatin1_aae02 -/
def ct230 : List (Nat × Instr × Nat) := [(0, (.getstatic 38), 3), (3, (.ifCond .eq 14), 3), (6, (.aload_n 0), 1), (7, (.getfield 15), 3), (10, (.ifCond .ne 7), 3), (13, (.iconst 1), 1), (14, (.goto 4), 3), (17, (.iconst 0), 1), (18, .ireturn, 1)]
theorem cto230 : ∀ q ∈ ct230, decode cJ0_isLatin1_aae02 q.1 = .ok (q.2.1, q.2.2) := by decide +kernel
/-- J1_charAt_3b067 -/
def ct231 : List (Nat × Instr × Nat) := [(0, (.iload_n 1), 1), (1, (.aload_n 0), 1), (2, .arraylength, 1), (3, (.invokestatic 9), 3), (6, (.aload_n 0), 1), (7, (.iload_n 1), 1), (8, .baload, 1), (9, (.sipush 255), 3), (12, .iand, 1), (13, .i2c, 1), (14, .ireturn, 1)]
theorem cto231 : ∀ q ∈ ct231, decode cJ1_charAt_3b067 q.1 = .ok (q.2.1, q.2.2) := by decide +kernel
/-- J7_fill_d0a16 -/
def ct232 : List (Nat × Instr × Nat) := [(0, (.iconst 0), 1), (1, (.istore_n 3), 1), (2, (.aload_n 0), 1), (3, .arraylength, 1), (4, (.istore 4), 2), (6, (.iload_n 3), 1), (7, (.iload 4), 2), (9, (.if_icmp .ge 13), 3), (12, (.aload_n 0), 1), (13, (.iload_n 3), 1), (14, (.lload_n 1), 1), (15, .lastore, 1), (16, (.iinc 3 1), 3), (19, (.goto (-13)), 3), (22, .return_, 1)]
theorem cto232 : ∀ q ∈ ct232, decode cJ7_fill_d0a16 q.1 = .ok (q.2.1, q.2.2) := by decide +kernel
/-- J7_fill_53178 -/
def ct233 : List (Nat × Instr × Nat) := [(0, (.iconst 0), 1), (1, (.istore_n 2), 1), (2, (.aload_n 0), 1), (3, .arraylength, 1), (4, (.istore_n 3), 1), (5, (.iload_n 2), 1), (6, (.iload_n 3), 1), (7, (.if_icmp .ge 13), 3), (10, (.aload_n 0), 1), (11, (.iload_n 2), 1), (12, (.iload_n 1), 1), (13, .iastore, 1), (14, (.iinc 2 1), 3), (17, (.goto (-12)), 3), (20, .return_, 1)]
theorem cto233 : ∀ q ∈ ct233, decode cJ7_fill_53178 q.1 = .ok (q.2.1, q.2.2) := by decide +kernel
end
section
def ct0_0 : List (Nat × Instr × Nat) := [(0, (.new 7), 3), (3, .dup, 1), (4, (.invokespecial 9), 3), (7, (.astore_n 1), 1), (8, (.new 10), 3), (11, .dup, 1), (12, (.invokespecial 12), 3), (15, (.astore_n 2), 1), (16, (.iconst 0), 1), (17, (.istore_n 3), 1), (18, (.iload_n 3), 1), (19, (.aload_n 0), 1), (20, .arraylength, 1), (21, (.bipush 7), 2), (23, .isub, 1), (24, (.if_icmp .gt 1730), 3), (27, (.aload_n 0), 1), (28, (.iload_n 3), 1), (29, .iaload, 1), (30, (.bipush 63), 2), (32, .iand, 1), (33, (.tableswitch 1715 0 46 #[203, 246, 319, 382, 416, 439, 482, 515, 590, 639, 672, 715, 774, 797, 820, 833, 846, 879, 912, 935, 958, 981, 1004, 1027, 1050, 1103, 1136, 1179, 1202, 1235, 1278, 1311, 1344, 1367, 1390, 1439, 1462, 1475, 1508, 1541, 1564, 1587, 1630, 1643, 1666, 1679, 1692]), 203), (236, (.aload_n 1), 1), (237, (.aload_n 0), 1), (238, (.iload_n 3), 1), (239, (.iconst 1), 1), (240, .iadd, 1), (241, .iaload, 1), (242, (.aload_n 0), 1), (243, (.iload_n 3), 1), (244, (.iconst 2), 1), (245, .iadd, 1), (246, .iaload, 1), (247, (.aload_n 0), 1), (248, (.iload_n 3), 1), (249, (.iconst 3), 1), (250, .iadd, 1), (251, .iaload, 1), (252, (.invokevirtual 13), 3), (255, (.aload_n 2), 1), (256, (.aload_n 0), 1), (257, (.iload_n 3), 1), (258, (.iconst 1), 1), (259, .iadd, 1), (260, .iaload, 1), (261, (.aload_n 0), 1), (262, (.iload_n 3), 1), (263, (.iconst 2), 1), (264, .iadd, 1), (265, .iaload, 1), (266, (.aload_n 0), 1), (267, (.iload_n 3), 1), (268, (.iconst 3), 1), (269, .iadd, 1), (270, .iaload, 1), (271, (.invokevirtual 17), 3), (274, (.if_icmp .eq 1474), 3), (277, (.iconst 0), 1), (278, .ireturn, 1), (279, (.aload_n 1), 1), (280, (.aload_n 0), 1), (281, (.iload_n 3), 1), (282, (.iconst 1), 1), (283, .iadd, 1), (284, .iaload, 1), (285, (.aload_n 0), 1), (286, (.iload_n 3), 1), (287, (.iconst 2), 1), (288, .iadd, 1), (289, .iaload, 1), (290, (.aload_n 0), 1), (291, (.iload_n 3), 1), (292, (.iconst 3), 1), (293, .iadd, 1), (294, .iaload, 1), (295, .i2l, 1), (296, (.bipush 32), 2), (298, .lshl, 1), (299, (.aload_n 0), 1), (300, (.iload_n 3), 1), (301, (.iconst 4), 1), (302, .iadd, 1), (303, .iaload, 1), (304, .i2l, 1), (305, (.ldc2_w 18), 3), (308, .land, 1), (309, .lor, 1), (310, (.invokevirtual 20), 3), (313, (.aload_n 2), 1), (314, (.aload_n 0), 1), (315, (.iload_n 3), 1), (316, (.iconst 1), 1), (317, .iadd, 1), (318, .iaload, 1), (319, (.aload_n 0), 1), (320, (.iload_n 3), 1), (321, (.iconst 2), 1), (322, .iadd, 1), (323, .iaload, 1), (324, (.aload_n 0), 1)]
theorem cto0_0 : ∀ q ∈ ct0_0, decode cL_law q.1 = .ok (q.2.1, q.2.2) := by decide +kernel
def ct0_1 : List (Nat × Instr × Nat) := [(325, (.iload_n 3), 1), (326, (.iconst 3), 1), (327, .iadd, 1), (328, .iaload, 1), (329, .i2l, 1), (330, (.bipush 32), 2), (332, .lshl, 1), (333, (.aload_n 0), 1), (334, (.iload_n 3), 1), (335, (.iconst 4), 1), (336, .iadd, 1), (337, .iaload, 1), (338, .i2l, 1), (339, (.ldc2_w 18), 3), (342, .land, 1), (343, .lor, 1), (344, (.invokevirtual 24), 3), (347, (.if_icmp .eq 1401), 3), (350, (.iconst 0), 1), (351, .ireturn, 1), (352, (.aload_n 1), 1), (353, (.aload_n 0), 1), (354, (.iload_n 3), 1), (355, (.iconst 1), 1), (356, .iadd, 1), (357, .iaload, 1), (358, (.aload_n 0), 1), (359, (.iload_n 3), 1), (360, (.iconst 2), 1), (361, .iadd, 1), (362, .iaload, 1), (363, (.aload_n 0), 1), (364, (.iload_n 3), 1), (365, (.iconst 3), 1), (366, .iadd, 1), (367, .iaload, 1), (368, (.aload_n 0), 1), (369, (.iload_n 3), 1), (370, (.iconst 4), 1), (371, .iadd, 1), (372, .iaload, 1), (373, (.aload_n 0), 1), (374, (.iload_n 3), 1), (375, (.iconst 5), 1), (376, .iadd, 1), (377, .iaload, 1), (378, (.invokevirtual 25), 3), (381, (.aload_n 2), 1), (382, (.aload_n 0), 1), (383, (.iload_n 3), 1), (384, (.iconst 1), 1), (385, .iadd, 1), (386, .iaload, 1), (387, (.aload_n 0), 1), (388, (.iload_n 3), 1), (389, (.iconst 2), 1), (390, .iadd, 1), (391, .iaload, 1), (392, (.aload_n 0), 1), (393, (.iload_n 3), 1), (394, (.iconst 3), 1), (395, .iadd, 1), (396, .iaload, 1), (397, (.aload_n 0), 1), (398, (.iload_n 3), 1), (399, (.iconst 4), 1), (400, .iadd, 1), (401, .iaload, 1), (402, (.aload_n 0), 1), (403, (.iload_n 3), 1), (404, (.iconst 5), 1), (405, .iadd, 1), (406, .iaload, 1), (407, (.invokevirtual 29), 3), (410, (.if_icmp .eq 1338), 3), (413, (.iconst 0), 1), (414, .ireturn, 1), (415, (.aload_n 1), 1), (416, (.aload_n 0), 1), (417, (.iload_n 3), 1), (418, (.iconst 1), 1), (419, .iadd, 1), (420, .iaload, 1), (421, (.aload_n 0), 1), (422, (.iload_n 3), 1), (423, (.iconst 2), 1), (424, .iadd, 1), (425, .iaload, 1), (426, (.invokevirtual 30), 3), (429, (.aload_n 2), 1), (430, (.aload_n 0), 1), (431, (.iload_n 3), 1), (432, (.iconst 1), 1), (433, .iadd, 1), (434, .iaload, 1), (435, (.aload_n 0), 1), (436, (.iload_n 3), 1), (437, (.iconst 2), 1), (438, .iadd, 1), (439, .iaload, 1)]
theorem cto0_1 : ∀ q ∈ ct0_1, decode cL_law q.1 = .ok (q.2.1, q.2.2) := by decide +kernel
def ct0_2 : List (Nat × Instr × Nat) := [(440, (.invokevirtual 34), 3), (443, .lcmp, 1), (444, (.ifCond .eq 1304), 3), (447, (.iconst 0), 1), (448, .ireturn, 1), (449, (.aload_n 1), 1), (450, (.aload_n 0), 1), (451, (.iload_n 3), 1), (452, (.iconst 1), 1), (453, .iadd, 1), (454, .iaload, 1), (455, (.invokevirtual 35), 3), (458, (.aload_n 2), 1), (459, (.aload_n 0), 1), (460, (.iload_n 3), 1), (461, (.iconst 1), 1), (462, .iadd, 1), (463, .iaload, 1), (464, (.invokevirtual 39), 3), (467, (.if_icmp .eq 1281), 3), (470, (.iconst 0), 1), (471, .ireturn, 1), (472, (.aload_n 1), 1), (473, (.aload_n 0), 1), (474, (.iload_n 3), 1), (475, (.iconst 1), 1), (476, .iadd, 1), (477, .iaload, 1), (478, (.aload_n 0), 1), (479, (.iload_n 3), 1), (480, (.iconst 2), 1), (481, .iadd, 1), (482, .iaload, 1), (483, (.aload_n 0), 1), (484, (.iload_n 3), 1), (485, (.iconst 3), 1), (486, .iadd, 1), (487, .iaload, 1), (488, (.invokevirtual 40), 3), (491, (.aload_n 2), 1), (492, (.aload_n 0), 1), (493, (.iload_n 3), 1), (494, (.iconst 1), 1), (495, .iadd, 1), (496, .iaload, 1), (497, (.aload_n 0), 1), (498, (.iload_n 3), 1), (499, (.iconst 2), 1), (500, .iadd, 1), (501, .iaload, 1), (502, (.aload_n 0), 1), (503, (.iload_n 3), 1), (504, (.iconst 3), 1), (505, .iadd, 1), (506, .iaload, 1), (507, (.invokevirtual 43), 3), (510, (.if_icmp .eq 1238), 3), (513, (.iconst 0), 1), (514, .ireturn, 1), (515, (.aload_n 1), 1), (516, (.aload_n 0), 1), (517, (.iload_n 3), 1), (518, (.iconst 1), 1), (519, .iadd, 1), (520, .iaload, 1), (521, (.aload_n 0), 1), (522, (.iload_n 3), 1), (523, (.iconst 2), 1), (524, .iadd, 1), (525, .iaload, 1), (526, (.invokevirtual 44), 3), (529, (.aload_n 2), 1), (530, (.aload_n 0), 1), (531, (.iload_n 3), 1), (532, (.iconst 1), 1), (533, .iadd, 1), (534, .iaload, 1), (535, (.aload_n 0), 1), (536, (.iload_n 3), 1), (537, (.iconst 2), 1), (538, .iadd, 1), (539, .iaload, 1), (540, (.invokevirtual 48), 3), (543, (.if_icmp .eq 1205), 3), (546, (.iconst 0), 1), (547, .ireturn, 1), (548, (.aload_n 1), 1), (549, (.aload_n 0), 1), (550, (.iload_n 3), 1), (551, (.iconst 1), 1), (552, .iadd, 1), (553, .iaload, 1), (554, (.aload_n 0), 1), (555, (.iload_n 3), 1), (556, (.iconst 2), 1), (557, .iadd, 1), (558, .iaload, 1), (559, (.aload_n 0), 1), (560, (.iload_n 3), 1), (561, (.iconst 3), 1)]
theorem cto0_2 : ∀ q ∈ ct0_2, decode cL_law q.1 = .ok (q.2.1, q.2.2) := by decide +kernel
def ct0_3 : List (Nat × Instr × Nat) := [(562, .iadd, 1), (563, .iaload, 1), (564, (.aload_n 0), 1), (565, (.iload_n 3), 1), (566, (.iconst 4), 1), (567, .iadd, 1), (568, .iaload, 1), (569, (.aload_n 0), 1), (570, (.iload_n 3), 1), (571, (.iconst 5), 1), (572, .iadd, 1), (573, .iaload, 1), (574, (.aload_n 0), 1), (575, (.iload_n 3), 1), (576, (.bipush 6), 2), (578, .iadd, 1), (579, .iaload, 1), (580, (.invokevirtual 49), 3), (583, (.aload_n 2), 1), (584, (.aload_n 0), 1), (585, (.iload_n 3), 1), (586, (.iconst 1), 1), (587, .iadd, 1), (588, .iaload, 1), (589, (.aload_n 0), 1), (590, (.iload_n 3), 1), (591, (.iconst 2), 1), (592, .iadd, 1), (593, .iaload, 1), (594, (.aload_n 0), 1), (595, (.iload_n 3), 1), (596, (.iconst 3), 1), (597, .iadd, 1), (598, .iaload, 1), (599, (.aload_n 0), 1), (600, (.iload_n 3), 1), (601, (.iconst 4), 1), (602, .iadd, 1), (603, .iaload, 1), (604, (.aload_n 0), 1), (605, (.iload_n 3), 1), (606, (.iconst 5), 1), (607, .iadd, 1), (608, .iaload, 1), (609, (.aload_n 0), 1), (610, (.iload_n 3), 1), (611, (.bipush 6), 2), (613, .iadd, 1), (614, .iaload, 1), (615, (.invokevirtual 53), 3), (618, (.if_icmp .eq 1130), 3), (621, (.iconst 0), 1), (622, .ireturn, 1), (623, (.aload_n 1), 1), (624, (.aload_n 0), 1), (625, (.iload_n 3), 1), (626, (.iconst 1), 1), (627, .iadd, 1), (628, .iaload, 1), (629, (.aload_n 0), 1), (630, (.iload_n 3), 1), (631, (.iconst 2), 1), (632, .iadd, 1), (633, .iaload, 1), (634, (.ifCond .eq 7), 3), (637, (.iconst 1), 1), (638, (.goto 4), 3), (641, (.iconst 0), 1), (642, (.invokevirtual 54), 3), (645, (.aload_n 2), 1), (646, (.aload_n 0), 1), (647, (.iload_n 3), 1), (648, (.iconst 1), 1), (649, .iadd, 1), (650, .iaload, 1), (651, (.aload_n 0), 1), (652, (.iload_n 3), 1), (653, (.iconst 2), 1), (654, .iadd, 1), (655, .iaload, 1), (656, (.ifCond .eq 7), 3), (659, (.iconst 1), 1), (660, (.goto 4), 3), (663, (.iconst 0), 1), (664, (.invokevirtual 58), 3), (667, (.if_icmp .eq 1081), 3), (670, (.iconst 0), 1), (671, .ireturn, 1), (672, (.aload_n 1), 1), (673, (.aload_n 0), 1), (674, (.iload_n 3), 1), (675, (.iconst 1), 1), (676, .iadd, 1), (677, .iaload, 1), (678, (.aload_n 0), 1), (679, (.iload_n 3), 1), (680, (.iconst 2), 1), (681, .iadd, 1), (682, .iaload, 1), (683, (.invokevirtual 59), 3)]
theorem cto0_3 : ∀ q ∈ ct0_3, decode cL_law q.1 = .ok (q.2.1, q.2.2) := by decide +kernel
def ct0_4 : List (Nat × Instr × Nat) := [(686, (.aload_n 2), 1), (687, (.aload_n 0), 1), (688, (.iload_n 3), 1), (689, (.iconst 1), 1), (690, .iadd, 1), (691, .iaload, 1), (692, (.aload_n 0), 1), (693, (.iload_n 3), 1), (694, (.iconst 2), 1), (695, .iadd, 1), (696, .iaload, 1), (697, (.invokevirtual 62), 3), (700, (.if_icmp .eq 1048), 3), (703, (.iconst 0), 1), (704, .ireturn, 1), (705, (.aload_n 1), 1), (706, (.aload_n 0), 1), (707, (.iload_n 3), 1), (708, (.iconst 1), 1), (709, .iadd, 1), (710, .iaload, 1), (711, (.aload_n 0), 1), (712, (.iload_n 3), 1), (713, (.iconst 2), 1), (714, .iadd, 1), (715, .iaload, 1), (716, (.aload_n 0), 1), (717, (.iload_n 3), 1), (718, (.iconst 3), 1), (719, .iadd, 1), (720, .iaload, 1), (721, (.invokevirtual 63), 3), (724, (.aload_n 2), 1), (725, (.aload_n 0), 1), (726, (.iload_n 3), 1), (727, (.iconst 1), 1), (728, .iadd, 1), (729, .iaload, 1), (730, (.aload_n 0), 1), (731, (.iload_n 3), 1), (732, (.iconst 2), 1), (733, .iadd, 1), (734, .iaload, 1), (735, (.aload_n 0), 1), (736, (.iload_n 3), 1), (737, (.iconst 3), 1), (738, .iadd, 1), (739, .iaload, 1), (740, (.invokevirtual 66), 3), (743, (.if_icmp .eq 1005), 3), (746, (.iconst 0), 1), (747, .ireturn, 1), (748, (.aload_n 1), 1), (749, (.aload_n 0), 1), (750, (.iload_n 3), 1), (751, (.iconst 1), 1), (752, .iadd, 1), (753, .iaload, 1), (754, (.aload_n 0), 1), (755, (.iload_n 3), 1), (756, (.iconst 2), 1), (757, .iadd, 1), (758, .iaload, 1), (759, (.aload_n 0), 1), (760, (.iload_n 3), 1), (761, (.iconst 3), 1), (762, .iadd, 1), (763, .iaload, 1), (764, (.ifCond .eq 7), 3), (767, (.iconst 1), 1), (768, (.goto 4), 3), (771, (.iconst 0), 1), (772, (.invokevirtual 67), 3), (775, (.aload_n 2), 1), (776, (.aload_n 0), 1), (777, (.iload_n 3), 1), (778, (.iconst 1), 1), (779, .iadd, 1), (780, .iaload, 1), (781, (.aload_n 0), 1), (782, (.iload_n 3), 1), (783, (.iconst 2), 1), (784, .iadd, 1), (785, .iaload, 1), (786, (.aload_n 0), 1), (787, (.iload_n 3), 1), (788, (.iconst 3), 1), (789, .iadd, 1), (790, .iaload, 1), (791, (.ifCond .eq 7), 3), (794, (.iconst 1), 1), (795, (.goto 4), 3), (798, (.iconst 0), 1), (799, (.invokevirtual 71), 3), (802, (.if_icmp .eq 946), 3), (805, (.iconst 0), 1), (806, .ireturn, 1), (807, (.aload_n 1), 1), (808, (.aload_n 0), 1), (809, (.iload_n 3), 1)]
theorem cto0_4 : ∀ q ∈ ct0_4, decode cL_law q.1 = .ok (q.2.1, q.2.2) := by decide +kernel
def ct0_5 : List (Nat × Instr × Nat) := [(810, (.iconst 1), 1), (811, .iadd, 1), (812, .iaload, 1), (813, (.invokevirtual 72), 3), (816, (.aload_n 2), 1), (817, (.aload_n 0), 1), (818, (.iload_n 3), 1), (819, (.iconst 1), 1), (820, .iadd, 1), (821, .iaload, 1), (822, (.invokevirtual 75), 3), (825, (.if_icmp .eq 923), 3), (828, (.iconst 0), 1), (829, .ireturn, 1), (830, (.aload_n 1), 1), (831, (.aload_n 0), 1), (832, (.iload_n 3), 1), (833, (.iconst 1), 1), (834, .iadd, 1), (835, .iaload, 1), (836, (.invokevirtual 76), 3), (839, (.aload_n 2), 1), (840, (.aload_n 0), 1), (841, (.iload_n 3), 1), (842, (.iconst 1), 1), (843, .iadd, 1), (844, .iaload, 1), (845, (.invokevirtual 79), 3), (848, (.if_icmp .eq 900), 3), (851, (.iconst 0), 1), (852, .ireturn, 1), (853, (.aload_n 1), 1), (854, (.invokevirtual 80), 3), (857, (.aload_n 2), 1), (858, (.invokevirtual 84), 3), (861, (.if_icmp .eq 887), 3), (864, (.iconst 0), 1), (865, .ireturn, 1), (866, (.aload_n 1), 1), (867, (.invokevirtual 85), 3), (870, (.aload_n 2), 1), (871, (.invokevirtual 88), 3), (874, (.if_icmp .eq 874), 3), (877, (.iconst 0), 1), (878, .ireturn, 1), (879, (.aload_n 1), 1), (880, (.aload_n 0), 1), (881, (.iload_n 3), 1), (882, (.iconst 1), 1), (883, .iadd, 1), (884, .iaload, 1), (885, (.aload_n 0), 1), (886, (.iload_n 3), 1), (887, (.iconst 2), 1), (888, .iadd, 1), (889, .iaload, 1), (890, (.invokevirtual 89), 3), (893, (.aload_n 2), 1), (894, (.aload_n 0), 1), (895, (.iload_n 3), 1), (896, (.iconst 1), 1), (897, .iadd, 1), (898, .iaload, 1), (899, (.aload_n 0), 1), (900, (.iload_n 3), 1), (901, (.iconst 2), 1), (902, .iadd, 1), (903, .iaload, 1), (904, (.invokevirtual 92), 3), (907, (.if_icmp .eq 841), 3), (910, (.iconst 0), 1), (911, .ireturn, 1), (912, (.aload_n 1), 1), (913, (.aload_n 0), 1), (914, (.iload_n 3), 1), (915, (.iconst 1), 1), (916, .iadd, 1), (917, .iaload, 1), (918, (.aload_n 0), 1), (919, (.iload_n 3), 1), (920, (.iconst 2), 1), (921, .iadd, 1), (922, .iaload, 1), (923, (.invokevirtual 93), 3), (926, (.aload_n 2), 1), (927, (.aload_n 0), 1), (928, (.iload_n 3), 1), (929, (.iconst 1), 1), (930, .iadd, 1), (931, .iaload, 1), (932, (.aload_n 0), 1), (933, (.iload_n 3), 1), (934, (.iconst 2), 1), (935, .iadd, 1), (936, .iaload, 1), (937, (.invokevirtual 96), 3), (940, (.if_icmp .eq 808), 3), (943, (.iconst 0), 1), (944, .ireturn, 1), (945, (.aload_n 1), 1)]
theorem cto0_5 : ∀ q ∈ ct0_5, decode cL_law q.1 = .ok (q.2.1, q.2.2) := by decide +kernel
def ct0_6 : List (Nat × Instr × Nat) := [(946, (.aload_n 0), 1), (947, (.iload_n 3), 1), (948, (.iconst 1), 1), (949, .iadd, 1), (950, .iaload, 1), (951, (.invokevirtual 97), 3), (954, (.aload_n 2), 1), (955, (.aload_n 0), 1), (956, (.iload_n 3), 1), (957, (.iconst 1), 1), (958, .iadd, 1), (959, .iaload, 1), (960, (.invokevirtual 100), 3), (963, (.if_icmp .eq 785), 3), (966, (.iconst 0), 1), (967, .ireturn, 1), (968, (.aload_n 1), 1), (969, (.aload_n 0), 1), (970, (.iload_n 3), 1), (971, (.iconst 1), 1), (972, .iadd, 1), (973, .iaload, 1), (974, (.invokevirtual 101), 3), (977, (.aload_n 2), 1), (978, (.aload_n 0), 1), (979, (.iload_n 3), 1), (980, (.iconst 1), 1), (981, .iadd, 1), (982, .iaload, 1), (983, (.invokevirtual 104), 3), (986, (.if_icmp .eq 762), 3), (989, (.iconst 0), 1), (990, .ireturn, 1), (991, (.aload_n 1), 1), (992, (.aload_n 0), 1), (993, (.iload_n 3), 1), (994, (.iconst 1), 1), (995, .iadd, 1), (996, .iaload, 1), (997, (.invokevirtual 105), 3), (1000, (.aload_n 2), 1), (1001, (.aload_n 0), 1), (1002, (.iload_n 3), 1), (1003, (.iconst 1), 1), (1004, .iadd, 1), (1005, .iaload, 1), (1006, (.invokevirtual 108), 3), (1009, (.if_icmp .eq 739), 3), (1012, (.iconst 0), 1), (1013, .ireturn, 1), (1014, (.aload_n 1), 1), (1015, (.aload_n 0), 1), (1016, (.iload_n 3), 1), (1017, (.iconst 1), 1), (1018, .iadd, 1), (1019, .iaload, 1), (1020, (.invokevirtual 109), 3), (1023, (.aload_n 2), 1), (1024, (.aload_n 0), 1), (1025, (.iload_n 3), 1), (1026, (.iconst 1), 1), (1027, .iadd, 1), (1028, .iaload, 1), (1029, (.invokevirtual 112), 3), (1032, (.if_icmp .eq 716), 3), (1035, (.iconst 0), 1), (1036, .ireturn, 1), (1037, (.aload_n 1), 1), (1038, (.aload_n 0), 1), (1039, (.iload_n 3), 1), (1040, (.iconst 1), 1), (1041, .iadd, 1), (1042, .iaload, 1), (1043, (.invokevirtual 113), 3), (1046, (.aload_n 2), 1), (1047, (.aload_n 0), 1), (1048, (.iload_n 3), 1), (1049, (.iconst 1), 1), (1050, .iadd, 1), (1051, .iaload, 1), (1052, (.invokevirtual 116), 3), (1055, (.if_icmp .eq 693), 3), (1058, (.iconst 0), 1), (1059, .ireturn, 1), (1060, (.aload_n 1), 1), (1061, (.aload_n 0), 1), (1062, (.iload_n 3), 1), (1063, (.iconst 1), 1), (1064, .iadd, 1), (1065, .iaload, 1), (1066, (.invokevirtual 117), 3), (1069, (.aload_n 2), 1), (1070, (.aload_n 0), 1), (1071, (.iload_n 3), 1), (1072, (.iconst 1), 1), (1073, .iadd, 1), (1074, .iaload, 1), (1075, (.invokevirtual 120), 3), (1078, (.if_icmp .eq 670), 3), (1081, (.iconst 0), 1)]
theorem cto0_6 : ∀ q ∈ ct0_6, decode cL_law q.1 = .ok (q.2.1, q.2.2) := by decide +kernel
def ct0_7 : List (Nat × Instr × Nat) := [(1082, .ireturn, 1), (1083, (.aload_n 1), 1), (1084, (.aload_n 0), 1), (1085, (.iload_n 3), 1), (1086, (.iconst 1), 1), (1087, .iadd, 1), (1088, .iaload, 1), (1089, (.aload_n 0), 1), (1090, (.iload_n 3), 1), (1091, (.iconst 2), 1), (1092, .iadd, 1), (1093, .iaload, 1), (1094, (.aload_n 0), 1), (1095, (.iload_n 3), 1), (1096, (.iconst 3), 1), (1097, .iadd, 1), (1098, .iaload, 1), (1099, (.aload_n 0), 1), (1100, (.iload_n 3), 1), (1101, (.iconst 4), 1), (1102, .iadd, 1), (1103, .iaload, 1), (1104, (.invokevirtual 121), 3), (1107, (.aload_n 2), 1), (1108, (.aload_n 0), 1), (1109, (.iload_n 3), 1), (1110, (.iconst 1), 1), (1111, .iadd, 1), (1112, .iaload, 1), (1113, (.aload_n 0), 1), (1114, (.iload_n 3), 1), (1115, (.iconst 2), 1), (1116, .iadd, 1), (1117, .iaload, 1), (1118, (.aload_n 0), 1), (1119, (.iload_n 3), 1), (1120, (.iconst 3), 1), (1121, .iadd, 1), (1122, .iaload, 1), (1123, (.aload_n 0), 1), (1124, (.iload_n 3), 1), (1125, (.iconst 4), 1), (1126, .iadd, 1), (1127, .iaload, 1), (1128, (.invokevirtual 125), 3), (1131, (.if_icmp .eq 617), 3), (1134, (.iconst 0), 1), (1135, .ireturn, 1), (1136, (.aload_n 1), 1), (1137, (.aload_n 0), 1), (1138, (.iload_n 3), 1), (1139, (.iconst 1), 1), (1140, .iadd, 1), (1141, .iaload, 1), (1142, (.aload_n 0), 1), (1143, (.iload_n 3), 1), (1144, (.iconst 2), 1), (1145, .iadd, 1), (1146, .iaload, 1), (1147, (.invokevirtual 126), 3), (1150, (.aload_n 2), 1), (1151, (.aload_n 0), 1), (1152, (.iload_n 3), 1), (1153, (.iconst 1), 1), (1154, .iadd, 1), (1155, .iaload, 1), (1156, (.aload_n 0), 1), (1157, (.iload_n 3), 1), (1158, (.iconst 2), 1), (1159, .iadd, 1), (1160, .iaload, 1), (1161, (.invokevirtual 129), 3), (1164, (.if_icmp .eq 584), 3), (1167, (.iconst 0), 1), (1168, .ireturn, 1), (1169, (.aload_n 1), 1), (1170, (.aload_n 0), 1), (1171, (.iload_n 3), 1), (1172, (.iconst 1), 1), (1173, .iadd, 1), (1174, .iaload, 1), (1175, (.aload_n 0), 1), (1176, (.iload_n 3), 1), (1177, (.iconst 2), 1), (1178, .iadd, 1), (1179, .iaload, 1), (1180, (.aload_n 0), 1), (1181, (.iload_n 3), 1), (1182, (.iconst 3), 1), (1183, .iadd, 1), (1184, .iaload, 1), (1185, (.invokevirtual 130), 3), (1188, (.aload_n 2), 1), (1189, (.aload_n 0), 1), (1190, (.iload_n 3), 1), (1191, (.iconst 1), 1), (1192, .iadd, 1), (1193, .iaload, 1), (1194, (.aload_n 0), 1), (1195, (.iload_n 3), 1)]
theorem cto0_7 : ∀ q ∈ ct0_7, decode cL_law q.1 = .ok (q.2.1, q.2.2) := by decide +kernel
def ct0_8 : List (Nat × Instr × Nat) := [(1196, (.iconst 2), 1), (1197, .iadd, 1), (1198, .iaload, 1), (1199, (.aload_n 0), 1), (1200, (.iload_n 3), 1), (1201, (.iconst 3), 1), (1202, .iadd, 1), (1203, .iaload, 1), (1204, (.invokevirtual 133), 3), (1207, (.if_icmp .eq 541), 3), (1210, (.iconst 0), 1), (1211, .ireturn, 1), (1212, (.aload_n 1), 1), (1213, (.aload_n 0), 1), (1214, (.iload_n 3), 1), (1215, (.iconst 1), 1), (1216, .iadd, 1), (1217, .iaload, 1), (1218, (.invokevirtual 134), 3), (1221, (.aload_n 2), 1), (1222, (.aload_n 0), 1), (1223, (.iload_n 3), 1), (1224, (.iconst 1), 1), (1225, .iadd, 1), (1226, .iaload, 1), (1227, (.invokevirtual 137), 3), (1230, (.if_icmp .eq 518), 3), (1233, (.iconst 0), 1), (1234, .ireturn, 1), (1235, (.aload_n 1), 1), (1236, (.aload_n 0), 1), (1237, (.iload_n 3), 1), (1238, (.iconst 1), 1), (1239, .iadd, 1), (1240, .iaload, 1), (1241, (.aload_n 0), 1), (1242, (.iload_n 3), 1), (1243, (.iconst 2), 1), (1244, .iadd, 1), (1245, .iaload, 1), (1246, (.invokevirtual 138), 3), (1249, (.aload_n 2), 1), (1250, (.aload_n 0), 1), (1251, (.iload_n 3), 1), (1252, (.iconst 1), 1), (1253, .iadd, 1), (1254, .iaload, 1), (1255, (.aload_n 0), 1), (1256, (.iload_n 3), 1), (1257, (.iconst 2), 1), (1258, .iadd, 1), (1259, .iaload, 1), (1260, (.invokevirtual 141), 3), (1263, (.if_icmp .eq 485), 3), (1266, (.iconst 0), 1), (1267, .ireturn, 1), (1268, (.aload_n 1), 1), (1269, (.aload_n 0), 1), (1270, (.iload_n 3), 1), (1271, (.iconst 1), 1), (1272, .iadd, 1), (1273, .iaload, 1), (1274, (.aload_n 0), 1), (1275, (.iload_n 3), 1), (1276, (.iconst 2), 1), (1277, .iadd, 1), (1278, .iaload, 1), (1279, (.aload_n 0), 1), (1280, (.iload_n 3), 1), (1281, (.iconst 3), 1), (1282, .iadd, 1), (1283, .iaload, 1), (1284, (.invokevirtual 142), 3), (1287, (.aload_n 2), 1), (1288, (.aload_n 0), 1), (1289, (.iload_n 3), 1), (1290, (.iconst 1), 1), (1291, .iadd, 1), (1292, .iaload, 1), (1293, (.aload_n 0), 1), (1294, (.iload_n 3), 1), (1295, (.iconst 2), 1), (1296, .iadd, 1), (1297, .iaload, 1), (1298, (.aload_n 0), 1), (1299, (.iload_n 3), 1), (1300, (.iconst 3), 1), (1301, .iadd, 1), (1302, .iaload, 1), (1303, (.invokevirtual 145), 3), (1306, (.if_icmp .eq 442), 3), (1309, (.iconst 0), 1), (1310, .ireturn, 1), (1311, (.aload_n 1), 1), (1312, (.aload_n 0), 1), (1313, (.iload_n 3), 1), (1314, (.iconst 1), 1), (1315, .iadd, 1), (1316, .iaload, 1), (1317, (.aload_n 0), 1)]
theorem cto0_8 : ∀ q ∈ ct0_8, decode cL_law q.1 = .ok (q.2.1, q.2.2) := by decide +kernel
def ct0_9 : List (Nat × Instr × Nat) := [(1318, (.iload_n 3), 1), (1319, (.iconst 2), 1), (1320, .iadd, 1), (1321, .iaload, 1), (1322, (.invokevirtual 146), 3), (1325, (.aload_n 2), 1), (1326, (.aload_n 0), 1), (1327, (.iload_n 3), 1), (1328, (.iconst 1), 1), (1329, .iadd, 1), (1330, .iaload, 1), (1331, (.aload_n 0), 1), (1332, (.iload_n 3), 1), (1333, (.iconst 2), 1), (1334, .iadd, 1), (1335, .iaload, 1), (1336, (.invokevirtual 149), 3), (1339, (.if_icmp .eq 409), 3), (1342, (.iconst 0), 1), (1343, .ireturn, 1), (1344, (.aload_n 1), 1), (1345, (.aload_n 0), 1), (1346, (.iload_n 3), 1), (1347, (.iconst 1), 1), (1348, .iadd, 1), (1349, .iaload, 1), (1350, (.aload_n 0), 1), (1351, (.iload_n 3), 1), (1352, (.iconst 2), 1), (1353, .iadd, 1), (1354, .iaload, 1), (1355, (.invokevirtual 150), 3), (1358, (.aload_n 2), 1), (1359, (.aload_n 0), 1), (1360, (.iload_n 3), 1), (1361, (.iconst 1), 1), (1362, .iadd, 1), (1363, .iaload, 1), (1364, (.aload_n 0), 1), (1365, (.iload_n 3), 1), (1366, (.iconst 2), 1), (1367, .iadd, 1), (1368, .iaload, 1), (1369, (.invokevirtual 153), 3), (1372, (.if_icmp .eq 376), 3), (1375, (.iconst 0), 1), (1376, .ireturn, 1), (1377, (.aload_n 1), 1), (1378, (.aload_n 0), 1), (1379, (.iload_n 3), 1), (1380, (.iconst 1), 1), (1381, .iadd, 1), (1382, .iaload, 1), (1383, (.invokevirtual 154), 3), (1386, (.aload_n 2), 1), (1387, (.aload_n 0), 1), (1388, (.iload_n 3), 1), (1389, (.iconst 1), 1), (1390, .iadd, 1), (1391, .iaload, 1), (1392, (.invokevirtual 157), 3), (1395, (.if_icmp .eq 353), 3), (1398, (.iconst 0), 1), (1399, .ireturn, 1), (1400, (.aload_n 1), 1), (1401, (.aload_n 0), 1), (1402, (.iload_n 3), 1), (1403, (.iconst 1), 1), (1404, .iadd, 1), (1405, .iaload, 1), (1406, (.invokevirtual 158), 3), (1409, (.aload_n 2), 1), (1410, (.aload_n 0), 1), (1411, (.iload_n 3), 1), (1412, (.iconst 1), 1), (1413, .iadd, 1), (1414, .iaload, 1), (1415, (.invokevirtual 161), 3), (1418, (.if_icmp .eq 330), 3), (1421, (.iconst 0), 1), (1422, .ireturn, 1), (1423, (.aload_n 1), 1), (1424, (.aload_n 0), 1), (1425, (.iload_n 3), 1), (1426, (.iconst 1), 1), (1427, .iadd, 1), (1428, .iaload, 1), (1429, (.aload_n 0), 1), (1430, (.iload_n 3), 1), (1431, (.iconst 2), 1), (1432, .iadd, 1), (1433, .iaload, 1), (1434, (.ifCond .eq 7), 3), (1437, (.iconst 1), 1), (1438, (.goto 4), 3), (1441, (.iconst 0), 1), (1442, (.invokevirtual 162), 3), (1445, (.aload_n 2), 1), (1446, (.aload_n 0), 1), (1447, (.iload_n 3), 1)]
theorem cto0_9 : ∀ q ∈ ct0_9, decode cL_law q.1 = .ok (q.2.1, q.2.2) := by decide +kernel
def ct0_10 : List (Nat × Instr × Nat) := [(1448, (.iconst 1), 1), (1449, .iadd, 1), (1450, .iaload, 1), (1451, (.aload_n 0), 1), (1452, (.iload_n 3), 1), (1453, (.iconst 2), 1), (1454, .iadd, 1), (1455, .iaload, 1), (1456, (.ifCond .eq 7), 3), (1459, (.iconst 1), 1), (1460, (.goto 4), 3), (1463, (.iconst 0), 1), (1464, (.invokevirtual 165), 3), (1467, (.if_icmp .eq 281), 3), (1470, (.iconst 0), 1), (1471, .ireturn, 1), (1472, (.aload_n 1), 1), (1473, (.aload_n 0), 1), (1474, (.iload_n 3), 1), (1475, (.iconst 1), 1), (1476, .iadd, 1), (1477, .iaload, 1), (1478, (.invokevirtual 166), 3), (1481, (.aload_n 2), 1), (1482, (.aload_n 0), 1), (1483, (.iload_n 3), 1), (1484, (.iconst 1), 1), (1485, .iadd, 1), (1486, .iaload, 1), (1487, (.invokevirtual 169), 3), (1490, (.if_icmp .eq 258), 3), (1493, (.iconst 0), 1), (1494, .ireturn, 1), (1495, (.aload_n 1), 1), (1496, (.invokevirtual 170), 3), (1499, (.aload_n 2), 1), (1500, (.invokevirtual 173), 3), (1503, (.if_icmp .eq 245), 3), (1506, (.iconst 0), 1), (1507, .ireturn, 1), (1508, (.aload_n 1), 1), (1509, (.aload_n 0), 1), (1510, (.iload_n 3), 1), (1511, (.iconst 1), 1), (1512, .iadd, 1), (1513, .iaload, 1), (1514, (.aload_n 0), 1), (1515, (.iload_n 3), 1), (1516, (.iconst 2), 1), (1517, .iadd, 1), (1518, .iaload, 1), (1519, (.invokevirtual 174), 3), (1522, (.aload_n 2), 1), (1523, (.aload_n 0), 1), (1524, (.iload_n 3), 1), (1525, (.iconst 1), 1), (1526, .iadd, 1), (1527, .iaload, 1), (1528, (.aload_n 0), 1), (1529, (.iload_n 3), 1), (1530, (.iconst 2), 1), (1531, .iadd, 1), (1532, .iaload, 1), (1533, (.invokevirtual 177), 3), (1536, (.if_icmp .eq 212), 3), (1539, (.iconst 0), 1), (1540, .ireturn, 1), (1541, (.aload_n 1), 1), (1542, (.aload_n 0), 1), (1543, (.iload_n 3), 1), (1544, (.iconst 1), 1), (1545, .iadd, 1), (1546, .iaload, 1), (1547, (.aload_n 0), 1), (1548, (.iload_n 3), 1), (1549, (.iconst 2), 1), (1550, .iadd, 1), (1551, .iaload, 1), (1552, (.invokevirtual 178), 3), (1555, (.aload_n 2), 1), (1556, (.aload_n 0), 1), (1557, (.iload_n 3), 1), (1558, (.iconst 1), 1), (1559, .iadd, 1), (1560, .iaload, 1), (1561, (.aload_n 0), 1), (1562, (.iload_n 3), 1), (1563, (.iconst 2), 1), (1564, .iadd, 1), (1565, .iaload, 1), (1566, (.invokevirtual 181), 3), (1569, (.if_icmp .eq 179), 3), (1572, (.iconst 0), 1), (1573, .ireturn, 1), (1574, (.aload_n 1), 1), (1575, (.aload_n 0), 1), (1576, (.iload_n 3), 1), (1577, (.iconst 1), 1), (1578, .iadd, 1), (1579, .iaload, 1)]
theorem cto0_10 : ∀ q ∈ ct0_10, decode cL_law q.1 = .ok (q.2.1, q.2.2) := by decide +kernel
def ct0_11 : List (Nat × Instr × Nat) := [(1580, (.invokevirtual 182), 3), (1583, (.aload_n 2), 1), (1584, (.aload_n 0), 1), (1585, (.iload_n 3), 1), (1586, (.iconst 1), 1), (1587, .iadd, 1), (1588, .iaload, 1), (1589, (.invokevirtual 185), 3), (1592, (.if_icmp .eq 156), 3), (1595, (.iconst 0), 1), (1596, .ireturn, 1), (1597, (.aload_n 1), 1), (1598, (.aload_n 0), 1), (1599, (.iload_n 3), 1), (1600, (.iconst 1), 1), (1601, .iadd, 1), (1602, .iaload, 1), (1603, (.invokevirtual 186), 3), (1606, (.aload_n 2), 1), (1607, (.aload_n 0), 1), (1608, (.iload_n 3), 1), (1609, (.iconst 1), 1), (1610, .iadd, 1), (1611, .iaload, 1), (1612, (.invokevirtual 189), 3), (1615, (.if_icmp .eq 133), 3), (1618, (.iconst 0), 1), (1619, .ireturn, 1), (1620, (.aload_n 1), 1), (1621, (.aload_n 0), 1), (1622, (.iload_n 3), 1), (1623, (.iconst 1), 1), (1624, .iadd, 1), (1625, .iaload, 1), (1626, (.aload_n 0), 1), (1627, (.iload_n 3), 1), (1628, (.iconst 2), 1), (1629, .iadd, 1), (1630, .iaload, 1), (1631, (.aload_n 0), 1), (1632, (.iload_n 3), 1), (1633, (.iconst 3), 1), (1634, .iadd, 1), (1635, .iaload, 1), (1636, (.invokevirtual 190), 3), (1639, (.aload_n 2), 1), (1640, (.aload_n 0), 1), (1641, (.iload_n 3), 1), (1642, (.iconst 1), 1), (1643, .iadd, 1), (1644, .iaload, 1), (1645, (.aload_n 0), 1), (1646, (.iload_n 3), 1), (1647, (.iconst 2), 1), (1648, .iadd, 1), (1649, .iaload, 1), (1650, (.aload_n 0), 1), (1651, (.iload_n 3), 1), (1652, (.iconst 3), 1), (1653, .iadd, 1), (1654, .iaload, 1), (1655, (.invokevirtual 193), 3), (1658, (.if_icmp .eq 90), 3), (1661, (.iconst 0), 1), (1662, .ireturn, 1), (1663, (.aload_n 1), 1), (1664, (.invokevirtual 194), 3), (1667, (.aload_n 2), 1), (1668, (.invokevirtual 197), 3), (1671, (.if_icmp .eq 77), 3), (1674, (.iconst 0), 1), (1675, .ireturn, 1), (1676, (.aload_n 1), 1), (1677, (.aload_n 0), 1), (1678, (.iload_n 3), 1), (1679, (.iconst 1), 1), (1680, .iadd, 1), (1681, .iaload, 1), (1682, (.invokevirtual 198), 3), (1685, (.aload_n 2), 1), (1686, (.aload_n 0), 1), (1687, (.iload_n 3), 1), (1688, (.iconst 1), 1), (1689, .iadd, 1), (1690, .iaload, 1), (1691, (.invokevirtual 201), 3), (1694, (.if_icmp .eq 54), 3), (1697, (.iconst 0), 1), (1698, .ireturn, 1), (1699, (.aload_n 1), 1), (1700, (.invokevirtual 202), 3), (1703, (.aload_n 2), 1), (1704, (.invokevirtual 205), 3), (1707, (.if_icmp .eq 41), 3), (1710, (.iconst 0), 1), (1711, .ireturn, 1), (1712, (.aload_n 1), 1), (1713, (.invokevirtual 206), 3), (1716, (.aload_n 2), 1), (1717, (.invokevirtual 209), 3)]
theorem cto0_11 : ∀ q ∈ ct0_11, decode cL_law q.1 = .ok (q.2.1, q.2.2) := by decide +kernel
def ct0_12 : List (Nat × Instr × Nat) := [(1720, (.if_icmp .eq 28), 3), (1723, (.iconst 0), 1), (1724, .ireturn, 1), (1725, (.aload_n 1), 1), (1726, (.aload_n 0), 1), (1727, (.iload_n 3), 1), (1728, (.iconst 1), 1), (1729, .iadd, 1), (1730, .iaload, 1), (1731, (.invokevirtual 210), 3), (1734, (.aload_n 2), 1), (1735, (.aload_n 0), 1), (1736, (.iload_n 3), 1), (1737, (.iconst 1), 1), (1738, .iadd, 1), (1739, .iaload, 1), (1740, (.invokevirtual 213), 3), (1743, (.if_icmp .eq 5), 3), (1746, (.iconst 0), 1), (1747, .ireturn, 1), (1748, (.iinc 3 7), 3), (1751, (.goto (-1733)), 3), (1754, (.iconst 1), 1), (1755, .ireturn, 1)]
theorem cto0_12 : ∀ q ∈ ct0_12, decode cL_law q.1 = .ok (q.2.1, q.2.2) := by decide +kernel
/-- L_law -/
def ct0 : List (Nat × Instr × Nat) := ct0_0 ++ (ct0_1 ++ (ct0_2 ++ (ct0_3 ++ (ct0_4 ++ (ct0_5 ++ (ct0_6 ++ (ct0_7 ++ (ct0_8 ++ (ct0_9 ++ (ct0_10 ++ (ct0_11 ++ (ct0_12))))))))))))
theorem cto0 : ∀ q ∈ ct0, decode cL_law q.1 = .ok (q.2.1, q.2.2) := List.forall_mem_append.mpr ⟨cto0_0, List.forall_mem_append.mpr ⟨cto0_1, List.forall_mem_append.mpr ⟨cto0_2, List.forall_mem_append.mpr ⟨cto0_3, List.forall_mem_append.mpr ⟨cto0_4, List.forall_mem_append.mpr ⟨cto0_5, List.forall_mem_append.mpr ⟨cto0_6, List.forall_mem_append.mpr ⟨cto0_7, List.forall_mem_append.mpr ⟨cto0_8, List.forall_mem_append.mpr ⟨cto0_9, List.forall_mem_append.mpr ⟨cto0_10, List.forall_mem_append.mpr ⟨cto0_11, cto0_12⟩⟩⟩⟩⟩⟩⟩⟩⟩⟩⟩⟩
end
section
noncomputable def lm_mt0 : List lm_M := [(14, yL_law, cL_law, 4, (some .boolean), ct0, (0, 0, 0, 0)),
  (0, yX0_init, cX0_init, 2, none, ct1, (208, 72, 207, 0)),
  (0, yX0_firstAct, cX0_firstAct, 3, (some .int), ct2, (463, 72, 461, 462)),
  (0, yX0_gainOf, cX0_gainOf, 4, (some .int), ct3, (812, 72, 810, 811)),
  (0, yX0_forgetIfChanged, cX0_forgetIfChanged, 1, none, ct4, (467, 72, 466, 4)),
  (0, yX0_gainAt, cX0_gainAt, 3, (some .int), ct5, (492, 72, 491, 7)),
  (0, yX0_placeOf, cX0_placeOf, 5, (some .int), ct6, (474, 72, 473, 5)),
  (0, yX0_workOut, cX0_workOut, 13, none, ct7, (479, 72, 478, 6)),
  (1, yX1_init, cX1_init, 3, none, ct8, (233, 73, 232, 0)),
  (1, yX1_isUnder, cX1_isUnder, 4, (some .boolean), ct9, (413, 73, 412, 0)),
  (1, yX1_choose, cX1_choose, 3, (some .int), ct10, (419, 73, 417, 418)),
  (1, yX1_mostToday, cX1_mostToday, 9, (some .int), ct11, (424, 73, 423, 3)),
  (1, yX1_isContent, cX1_isContent, 3, (some .boolean), ct12, (496, 73, 495, 8)),
  (1, yX1_ownUnlessIdle, cX1_ownUnlessIdle, 6, (some .int), ct13, (500, 73, 499, 9)),
  (1, yX1_firstAllowed, cX1_firstAllowed, 3, (some .int), ct14, (504, 73, 503, 10)),
  (2, yX2_mostAgainst, cX2_mostAgainst, 12, (some .int), ct15, (820, 85, 819, 0)),
  (2, yX2_mostOfBoth, cX2_mostOfBoth, 8, (some .int), ct16, (838, 85, 837, 0)),
  (2, yX2_canStand, cX2_canStand, 8, (some .boolean), ct17, (850, 85, 849, 0)),
  (2, yX2_marksWithin, cX2_marksWithin, 6, (some .int), ct18, (858, 85, 857, 0)),
  (3, yX3_init, cX3_init, 1, none, ct19, (274, 75, 273, 0)),
  (3, yX3_isRow, cX3_isRow, 1, (some .boolean), ct20, (363, 75, 361, 362)),
  (3, yX3_isRule, cX3_isRule, 1, (some .boolean), ct21, (359, 75, 357, 358)),
  (3, yX3_ruleKind, cX3_ruleKind, 1, (some .int), ct22, (410, 75, 408, 409)),
  (3, yX3_takeRow, cX3_takeRow, 3, none, ct23, (344, 75, 342, 343)),
  (3, yX3_takeRule, cX3_takeRule, 3, none, ct24, (398, 75, 396, 397)),
  (3, yX3_hasCell, cX3_hasCell, 2, (some .boolean), ct25, (367, 75, 365, 366)),
  (3, yX3_hasCells, cX3_hasCells, 3, (some .boolean), ct26, (379, 75, 377, 378)),
  (3, yX3_put, cX3_put, 4, none, ct27, (371, 75, 369, 370)),
  (4, yX4_marksIn, cX4_marksIn, 1, (some .int), ct28, (717, 79, 716, 0)),
  (4, yX4_isStanding, cX4_isStanding, 2, (some .boolean), ct29, (439, 79, 438, 0)),
  (4, yX4_turned, cX4_turned, 2, (some .int), ct30, (449, 79, 448, 0)),
  (4, yX4_countIn, cX4_countIn, 2, (some .int), ct31, (442, 79, 441, 0)),
  (4, yX4_withCount, cX4_withCount, 4, (some .int), ct32, (452, 79, 451, 0)),
  (4, yX4_allCountsIn, cX4_allCountsIn, 3, (some .int), ct33, (930, 79, 929, 0)),
  (4, yX4_awakeIn, cX4_awakeIn, 1, (some .int), ct34, (427, 79, 426, 0)),
  (4, yX4_nextDay, cX4_nextDay, 1, (some .int), ct35, (487, 79, 486, 0)),
  (5, yX5_init, cX5_init, 1, none, ct36, (182, 71, 181, 0)),
  (5, yX5_add, cX5_add, 2, none, ct37, (564, 71, 562, 563)),
  (5, yX5_readInto, cX5_readInto, 3, (some .int), ct38, (581, 71, 579, 580)),
  (5, yX5_advance, cX5_advance, 2, none, ct39, (585, 71, 584, 12))]
noncomputable def lm_mt1 : List lm_M := [(5, yX5_sortOf, cX5_sortOf, 1, (some .int), ct40, (588, 71, 587, 0)),
  (5, yX5_isWord, cX5_isWord, 3, (some .boolean), ct41, (597, 71, 596, 14)),
  (5, yX5_takeNumber, cX5_takeNumber, 5, (some .int), ct42, (654, 71, 653, 16)),
  (5, yX5_readStatement, cX5_readStatement, 2, (some .boolean), ct43, (592, 71, 591, 13)),
  (5, yX5_readAct, cX5_readAct, 8, (some .boolean), ct44, (649, 71, 648, 15)),
  (5, yX5_takeMarksBehind, cX5_takeMarksBehind, 5, (some .int), ct45, (659, 71, 658, 17)),
  (5, yX5_readMark, cX5_readMark, 3, (some .boolean), ct46, (666, 71, 665, 18)),
  (5, yX5_readCount, cX5_readCount, 4, (some .boolean), ct47, (671, 71, 670, 19)),
  (5, yX5_readMarkWorth, cX5_readMarkWorth, 6, (some .boolean), ct48, (677, 71, 676, 20)),
  (5, yX5_readCountWorth, cX5_readCountWorth, 6, (some .boolean), ct49, (684, 71, 683, 21)),
  (5, yX5_readHidden, cX5_readHidden, 3, (some .boolean), ct50, (690, 71, 689, 22)),
  (5, yX5_readLock, cX5_readLock, 4, (some .boolean), ct51, (695, 71, 694, 23)),
  (6, yX6_init, cX6_init, 1, none, ct52, (99, 70, 98, 0)),
  (6, yX6_become, cX6_become, 2, none, ct53, (576, 70, 574, 575)),
  (6, yX6_isFull, cX6_isFull, 1, (some .boolean), ct54, (512, 70, 510, 511)),
  (6, yX6_addAct, cX6_addAct, 8, (some .int), ct55, (516, 70, 514, 515)),
  (6, yX6_setWorth, cX6_setWorth, 4, none, ct56, (539, 70, 537, 538)),
  (6, yX6_isLocked, cX6_isLocked, 3, (some .boolean), ct57, (436, 70, 434, 435)),
  (6, yX6_setLocked, cX6_setLocked, 5, none, ct58, (552, 70, 550, 551)),
  (6, yX6_lockedActs, cX6_lockedActs, 3, (some .int), ct59, (935, 70, 933, 934)),
  (6, yX6_allows, cX6_allows, 6, (some .boolean), ct60, (432, 70, 430, 431)),
  (6, yX6_after, cX6_after, 5, (some .int), ct61, (446, 70, 444, 445)),
  (6, yX6_valueTo, cX6_valueTo, 6, (some .int), ct62, (459, 70, 457, 458)),
  (6, yX6_live, cX6_live, 3, none, ct63, (745, 70, 743, 744)),
  (6, yX6_likelyActs, cX6_likelyActs, 7, (some .int), ct64, (868, 70, 866, 867)),
  (6, yX6_drawMark, cX6_drawMark, 1, (some .int), ct65, (910, 70, 908, 909)),
  (7, yX7_init, cX7_init, 3, none, ct66, (246, 74, 245, 0)),
  (7, yX7_goByRules, cX7_goByRules, 6, none, ct67, (761, 74, 759, 760)),
  (7, yX7_goByRow, cX7_goByRow, 7, (some .int), ct68, (796, 74, 794, 795)),
  (7, yX7_begin, cX7_begin, 1, none, ct69, (765, 74, 764, 26)),
  (7, yX7_go, cX7_go, 3, none, ct70, (772, 74, 771, 27)),
  (8, yX8_init, cX8_init, 2, none, ct71, (91, 69, 90, 0)),
  (8, yX8_refuse, cX8_refuse, 2, (some .int), ct72, (340, 69, 339, 0)),
  (8, yX8_refuseGain, cX8_refuseGain, 2, (some .int), ct73, (709, 69, 708, 24)),
  (8, yX8_isWithin, cX8_isWithin, 3, (some .boolean), ct74, (336, 69, 335, 0)),
  (8, yX8_isShelf, cX8_isShelf, 1, (some .boolean), ct75, (333, 69, 332, 0)),
  (8, yX8_isHalf, cX8_isHalf, 1, (some .boolean), ct76, (535, 69, 534, 0)),
  (8, yX8_isAhead, cX8_isAhead, 1, (some .boolean), ct77, (808, 69, 807, 0)),
  (8, yX8_isAct, cX8_isAct, 2, (some .boolean), ct78, (547, 69, 546, 11)),
  (8, yX8_isActOrNone, cX8_isActOrNone, 2, (some .boolean), ct79, (736, 69, 735, 25))]
noncomputable def lm_mt2 : List lm_M := [(8, yX8_lackOfRules, cX8_lackOfRules, 3, (some .int), ct80, (406, 69, 405, 2)),
  (8, yX8_lackOfRow, cX8_lackOfRow, 3, (some .int), ct81, (355, 69, 354, 1)),
  (8, yX8_row, cX8_row, 4, (some .int), ct82, (330, 69, 328, 329)),
  (8, yX8_set, cX8_set, 6, (some .int), ct83, (351, 69, 349, 350)),
  (8, yX8_copy, cX8_copy, 9, (some .int), ct84, (375, 69, 373, 374)),
  (8, yX8_element, cX8_element, 3, (some .long), ct85, (386, 69, 384, 385)),
  (8, yX8_holds, cX8_holds, 2, (some .int), ct86, (390, 69, 388, 389)),
  (8, yX8_rule, cX8_rule, 4, (some .int), ct87, (394, 69, 392, 393)),
  (8, yX8_says, cX8_says, 5, (some .int), ct88, (402, 69, 400, 401)),
  (8, yX8_act, cX8_act, 9, (some .int), ct89, (508, 69, 506, 507)),
  (8, yX8_mark, cX8_mark, 3, (some .int), ct90, (520, 69, 518, 519)),
  (8, yX8_count, cX8_count, 4, (some .int), ct91, (526, 69, 524, 525)),
  (8, yX8_likes, cX8_likes, 5, (some .int), ct92, (532, 69, 530, 531)),
  (8, yX8_lock, cX8_lock, 4, (some .int), ct93, (543, 69, 541, 542)),
  (8, yX8_hide, cX8_hide, 3, (some .int), ct94, (556, 69, 554, 555)),
  (8, yX8_feed, cX8_feed, 2, (some .int), ct95, (560, 69, 558, 559)),
  (8, yX8_wipe, cX8_wipe, 2, (some .int), ct96, (568, 69, 566, 567)),
  (8, yX8_town, cX8_town, 3, (some .int), ct97, (572, 69, 570, 571)),
  (8, yX8_actOf, cX8_actOf, 3, (some .int), ct98, (701, 69, 699, 700)),
  (8, yX8_worthOf, cX8_worthOf, 3, (some .int), ct99, (705, 69, 703, 704)),
  (8, yX8_stands, cX8_stands, 2, (some .int), ct100, (714, 69, 712, 713)),
  (8, yX8_can, cX8_can, 4, (some .int), ct101, (722, 69, 720, 721)),
  (8, yX8_value, cX8_value, 2, (some .int), ct102, (727, 69, 725, 726)),
  (8, yX8_gain, cX8_gain, 3, (some .int), ct103, (732, 69, 730, 731)),
  (8, yX8_does, cX8_does, 2, (some .int), ct104, (741, 69, 739, 740)),
  (8, yX8_next, cX8_next, 3, (some .int), ct105, (753, 69, 751, 752)),
  (8, yX8_run, cX8_run, 7, (some .int), ct106, (757, 69, 755, 756)),
  (8, yX8_head, cX8_head, 8, (some .int), ct107, (779, 69, 777, 778)),
  (8, yX8_days, cX8_days, 7, (some .int), ct108, (784, 69, 782, 783)),
  (8, yX8_gained, cX8_gained, 2, (some .int), ct109, (788, 69, 786, 787)),
  (8, yX8_judge, cX8_judge, 4, (some .int), ct110, (792, 69, 790, 791)),
  (8, yX8_told, cX8_told, 5, (some .int), ct111, (801, 69, 799, 800)),
  (8, yX8_best, cX8_best, 3, (some .int), ct112, (805, 69, 803, 804)),
  (8, yX8_against, cX8_against, 4, (some .int), ct113, (817, 69, 815, 816)),
  (8, yX8_together, cX8_together, 2, (some .int), ct114, (835, 69, 833, 834)),
  (8, yX8_harm, cX8_harm, 3, (some .int), ct115, (843, 69, 841, 842)),
  (8, yX8_work, cX8_work, 5, (some .int), ct116, (847, 69, 845, 846)),
  (8, yX8_reach, cX8_reach, 2, (some .int), ct117, (855, 69, 853, 854)),
  (8, yX8_found, cX8_found, 1, (some .int), ct118, (864, 69, 862, 863)),
  (8, yX8_say, cX8_say, 9, (some .int), ct119, (873, 69, 871, 872))]
noncomputable def lm_mt3 : List lm_M := [(8, yX8_locking, cX8_locking, 4, (some .int), ct120, (885, 69, 883, 884)),
  (8, yX8_gainsWithLock, cX8_gainsWithLock, 5, (some .int), ct121, (889, 69, 888, 28)),
  (8, yX8_which, cX8_which, 7, (some .int), ct122, (893, 69, 891, 892)),
  (8, yX8_up, cX8_up, 6, (some .int), ct123, (897, 69, 895, 896)),
  (8, yX8_pact, cX8_pact, 8, (some .int), ct124, (902, 69, 900, 901)),
  (8, yX8_leap, cX8_leap, 2, (some .int), ct125, (906, 69, 904, 905)),
  (8, yX8_seed, cX8_seed, 3, (some .int), ct126, (915, 69, 913, 914)),
  (8, yX8_image, cX8_image, 1, (some .int), ct127, (919, 69, 917, 918)),
  (8, yX8_back, cX8_back, 1, (some .int), ct128, (923, 69, 921, 922)),
  (8, yX8_status, cX8_status, 2, (some .int), ct129, (927, 69, 925, 926)),
  (8, yX8_filledShelves, cX8_filledShelves, 3, (some .int), ct130, (939, 69, 938, 29)),
  (9, yX9_init, cX9_init, 1, none, ct131, (944, 76, 943, 0)),
  (9, yX9_refuse, cX9_refuse, 2, (some .int), ct132, (1072, 76, 1071, 30)),
  (9, yX9_in, cX9_in, 6, (some .boolean), ct133, (1066, 76, 1065, 0)),
  (9, yX9_isAct, cX9_isAct, 3, (some .boolean), ct134, (1180, 76, 1179, 41)),
  (9, yX9_has, cX9_has, 2, (some .boolean), ct135, (1136, 76, 1135, 0)),
  (9, yX9_bits, cX9_bits, 3, (some .int), ct136, (1414, 76, 1413, 0)),
  (9, yX9_row, cX9_row, 5, (some .int), ct137, (1062, 76, 1060, 1061)),
  (9, yX9_fit, cX9_fit, 3, (some .long), ct138, (1083, 76, 1082, 0)),
  (9, yX9_noRow, cX9_noRow, 2, (some .int), ct139, (1080, 76, 1079, 31)),
  (9, yX9_noRule, cX9_noRule, 2, (some .int), ct140, (1307, 76, 1306, 54)),
  (9, yX9_noRules, cX9_noRules, 3, (some .int), ct141, (1316, 76, 1315, 55)),
  (9, yX9_set, cX9_set, 6, (some .int), ct142, (1076, 76, 1074, 1075)),
  (9, yX9_copy, cX9_copy, 7, (some .int), ct143, (1087, 76, 1085, 1086)),
  (9, yX9_element, cX9_element, 3, (some .long), ct144, (1091, 76, 1089, 1090)),
  (9, yX9_holds, cX9_holds, 2, (some .int), ct145, (1095, 76, 1093, 1094)),
  (9, yX9_rule, cX9_rule, 4, (some .int), ct146, (1099, 76, 1097, 1098)),
  (9, yX9_isUnder, cX9_isUnder, 2, (some .boolean), ct147, (1108, 76, 1107, 0)),
  (9, yX9_says, cX9_says, 3, (some .int), ct148, (1105, 76, 1103, 1104)),
  (9, yX9_act, cX9_act, 9, (some .int), ct149, (1152, 76, 1150, 1151)),
  (9, yX9_mark, cX9_mark, 4, (some .int), ct150, (1160, 76, 1158, 1159)),
  (9, yX9_count, cX9_count, 4, (some .int), ct151, (1164, 76, 1162, 1163)),
  (9, yX9_likes, cX9_likes, 4, (some .int), ct152, (1169, 76, 1167, 1168)),
  (9, yX9_lock, cX9_lock, 5, (some .int), ct153, (1176, 76, 1174, 1175)),
  (9, yX9_hide, cX9_hide, 3, (some .int), ct154, (1184, 76, 1182, 1183)),
  (9, yX9_feed, cX9_feed, 2, (some .int), ct155, (1188, 76, 1186, 1187)),
  (9, yX9_wipe, cX9_wipe, 2, (some .int), ct156, (1192, 76, 1190, 1191)),
  (9, yX9_isLetter, cX9_isLetter, 1, (some .boolean), ct157, (1220, 76, 1219, 0)),
  (9, yX9_isDigit, cX9_isDigit, 1, (some .boolean), ct158, (1223, 76, 1222, 0)),
  (9, yX9_look, cX9_look, 1, none, ct159, (1217, 76, 1216, 45))]
noncomputable def lm_mt4 : List lm_M := [(9, yX9_wrong, cX9_wrong, 1, (some .boolean), ct160, (1247, 76, 1246, 50)),
  (9, yX9_isWord, cX9_isWord, 3, (some .boolean), ct161, (1233, 76, 1232, 47)),
  (9, yX9_number, cX9_number, 4, (some .boolean), ct162, (1251, 76, 1250, 51)),
  (9, yX9_tells, cX9_tells, 5, (some .boolean), ct163, (1243, 76, 1242, 49)),
  (9, yX9_actTold, cX9_actTold, 2, (some .boolean), ct164, (1239, 76, 1238, 48)),
  (9, yX9_worthTold, cX9_worthTold, 4, (some .boolean), ct165, (1261, 76, 1260, 52)),
  (9, yX9_statement, cX9_statement, 2, (some .boolean), ct166, (1228, 76, 1227, 46)),
  (9, yX9_readAll, cX9_readAll, 1, (some .boolean), ct167, (1213, 76, 1212, 44)),
  (9, yX9_town, cX9_town, 5, (some .int), ct168, (1196, 76, 1194, 1195)),
  (9, yX9_actOf, cX9_actOf, 3, (some .int), ct169, (1270, 76, 1268, 1269)),
  (9, yX9_worthOf, cX9_worthOf, 3, (some .int), ct170, (1274, 76, 1272, 1273)),
  (9, yX9_stands, cX9_stands, 2, (some .int), ct171, (1279, 76, 1277, 1278)),
  (9, yX9_canBe, cX9_canBe, 5, (some .boolean), ct172, (1144, 76, 1143, 39)),
  (9, yX9_doIt, cX9_doIt, 3, none, ct173, (1129, 76, 1128, 36)),
  (9, yX9_valueOf, cX9_valueOf, 4, (some .int), ct174, (1133, 76, 1132, 37)),
  (9, yX9_standing, cX9_standing, 4, (some .long), ct175, (1124, 76, 1123, 35)),
  (9, yX9_putBack, cX9_putBack, 6, none, ct176, (1140, 76, 1139, 38)),
  (9, yX9_can, cX9_can, 4, (some .int), ct177, (1283, 76, 1281, 1282)),
  (9, yX9_value, cX9_value, 2, (some .int), ct178, (1287, 76, 1285, 1286)),
  (9, yX9_gainBy, cX9_gainBy, 6, (some .int), ct179, (1120, 76, 1119, 34)),
  (9, yX9_gain, cX9_gain, 2, (some .int), ct180, (1291, 76, 1289, 1290)),
  (9, yX9_goes, cX9_goes, 2, none, ct181, (1299, 76, 1298, 53)),
  (9, yX9_does, cX9_does, 2, (some .int), ct182, (1295, 76, 1293, 1294)),
  (9, yX9_greatest, cX9_greatest, 6, (some .int), ct183, (1116, 76, 1115, 33)),
  (9, yX9_chosen, cX9_chosen, 6, (some .int), ct184, (1112, 76, 1111, 32)),
  (9, yX9_next, cX9_next, 3, (some .int), ct185, (1303, 76, 1301, 1302)),
  (9, yX9_fresh, cX9_fresh, 1, (some (.object "AwakeByHalvesModel")), ct186, (1200, 76, 1199, 42)),
  (9, yX9_runs, cX9_runs, 7, none, ct187, (1320, 76, 1319, 56)),
  (9, yX9_run, cX9_run, 6, (some .int), ct188, (1311, 76, 1309, 1310)),
  (9, yX9_gainsBy, cX9_gainsBy, 6, (some .int), ct189, (1328, 76, 1327, 57)),
  (9, yX9_head, cX9_head, 8, (some .int), ct190, (1324, 76, 1322, 1323)),
  (9, yX9_days, cX9_days, 5, (some .int), ct191, (1332, 76, 1330, 1331)),
  (9, yX9_gained, cX9_gained, 2, (some .int), ct192, (1337, 76, 1335, 1336)),
  (9, yX9_noTold, cX9_noTold, 4, (some .int), ct193, (1346, 76, 1345, 58)),
  (9, yX9_goThrough, cX9_goThrough, 6, (some .int), ct194, (1350, 76, 1349, 59)),
  (9, yX9_judge, cX9_judge, 4, (some .int), ct195, (1342, 76, 1340, 1341)),
  (9, yX9_told, cX9_told, 5, (some .int), ct196, (1354, 76, 1352, 1353)),
  (9, yX9_findBest, cX9_findBest, 11, none, ct197, (1148, 76, 1147, 40)),
  (9, yX9_areDays, cX9_areDays, 1, (some .boolean), ct198, (1361, 76, 1360, 0)),
  (9, yX9_best, cX9_best, 3, (some .int), ct199, (1358, 76, 1356, 1357))]
noncomputable def lm_mt5 : List lm_M := [(9, yX9_mostAgainst, cX9_mostAgainst, 11, (some .int), ct200, (1369, 76, 1368, 60)),
  (9, yX9_against, cX9_against, 4, (some .int), ct201, (1365, 76, 1363, 1364)),
  (9, yX9_mostTogether, cX9_mostTogether, 8, (some .int), ct202, (1377, 76, 1376, 61)),
  (9, yX9_together, cX9_together, 2, (some .int), ct203, (1373, 76, 1371, 1372)),
  (9, yX9_harm, cX9_harm, 2, (some .int), ct204, (1381, 76, 1379, 1380)),
  (9, yX9_isDone, cX9_isDone, 11, (some .boolean), ct205, (1393, 76, 1392, 63)),
  (9, yX9_workOf, cX9_workOf, 4, (some .int), ct206, (1389, 76, 1388, 62)),
  (9, yX9_work, cX9_work, 3, (some .int), ct207, (1385, 76, 1383, 1384)),
  (9, yX9_reach, cX9_reach, 4, (some .int), ct208, (1397, 76, 1395, 1396)),
  (9, yX9_foundBy, cX9_foundBy, 11, (some .int), ct209, (1405, 76, 1404, 64)),
  (9, yX9_found, cX9_found, 1, (some .int), ct210, (1401, 76, 1399, 1400)),
  (9, yX9_say, cX9_say, 8, (some .int), ct211, (1410, 76, 1408, 1409)),
  (9, yX9_lockingOf, cX9_lockingOf, 5, (some .int), ct212, (1426, 76, 1425, 66)),
  (9, yX9_isLocked, cX9_isLocked, 2, (some .boolean), ct213, (1422, 76, 1421, 65)),
  (9, yX9_locking, cX9_locking, 3, (some .int), ct214, (1418, 76, 1416, 1417)),
  (9, yX9_which, cX9_which, 6, (some .int), ct215, (1430, 76, 1428, 1429)),
  (9, yX9_up, cX9_up, 8, (some .int), ct216, (1434, 76, 1432, 1433)),
  (9, yX9_pact, cX9_pact, 8, (some .int), ct217, (1438, 76, 1436, 1437)),
  (9, yX9_draw, cX9_draw, 2, (some .int), ct218, (1446, 76, 1445, 67)),
  (9, yX9_leap, cX9_leap, 2, (some .int), ct219, (1442, 76, 1440, 1441)),
  (9, yX9_seed, cX9_seed, 3, (some .int), ct220, (1451, 76, 1449, 1450)),
  (9, yX9_over, cX9_over, 3, none, ct221, (1209, 76, 1208, 0)),
  (9, yX9_takeFrom, cX9_takeFrom, 3, none, ct222, (1206, 76, 1205, 43)),
  (9, yX9_image, cX9_image, 1, (some .int), ct223, (1455, 76, 1453, 1454)),
  (9, yX9_back, cX9_back, 1, (some .int), ct224, (1459, 76, 1457, 1458)),
  (9, yX9_status, cX9_status, 4, (some .int), ct225, (1463, 76, 1461, 1462)),
  (12, yJ6_bitCount_0f7a4, cJ6_bitCount_0f7a4, 1, (some .int), ct226, (876, 86, 875, 0)),
  (10, yJ0_length_8abf5, cJ0_length_8abf5, 1, (some .int), ct227, (601, 81, 599, 600)),
  (10, yJ0_charAt_5068e, cJ0_charAt_5068e, 2, (some .char), ct228, (611, 81, 609, 610)),
  (10, yJ0_coder_7d493, cJ0_coder_7d493, 1, (some .byte), ct229, (605, 81, 603, 604)),
  (10, yJ0_isLatin1_aae02, cJ0_isLatin1_aae02, 1, (some .boolean), ct230, (615, 81, 613, 614)),
  (11, yJ1_charAt_3b067, cJ1_charAt_3b067, 2, (some .char), ct231, (618, 82, 617, 0)),
  (13, yJ7_fill_d0a16, cJ7_fill_d0a16, 5, none, ct232, (347, 77, 346, 0)),
  (13, yJ7_fill_53178, cJ7_fill_53178, 4, none, ct233, (470, 77, 469, 0))]
noncomputable def lm_mt : List lm_M := lm_mt0 ++ (lm_mt1 ++ (lm_mt2 ++ (lm_mt3 ++ (lm_mt4 ++ (lm_mt5)))))
def lm_m0 : lm_M := (0, ⟨"", "", ""⟩, ⟨#[]⟩, 0, none, [], (0, 0, 0, 0))
noncomputable def lm_m (f : Nat) : lm_M := lm_mt.getD f lm_m0
end
section
def lm_kF_0 : List (Nat × Nat × Nat × Nat) := [(11, 0, 1, 211), (15, 0, 2, 212), (18, 0, 3, 213), (21, 0, 4, 214), (24, 0, 5, 215), (28, 0, 0, 210), (42, 4, 16, 141), (65, 4, 9, 123)]
def lm_kF_1 : List (Nat × Nat × Nat × Nat) := [(9, 1, 0, 235), (15, 1, 1, 236), (33, 2, 3, 284), (60, 4, 9, 122)]
def lm_kF_2 : List (Nat × Nat × Nat × Nat) := [(16, 4, 9, 120)]
def lm_kF_3 : List (Nat × Nat × Nat × Nat) := [(9, 2, 0, 276), (15, 2, 1, 279), (19, 2, 2, 281), (22, 2, 3, 283)]
def lm_kF_4 : List (Nat × Nat × Nat × Nat) := []
def lm_kF_5 : List (Nat × Nat × Nat × Nat) := [(9, 3, 0, 184), (15, 3, 1, 185), (19, 3, 2, 187), (22, 3, 3, 189), (25, 3, 4, 190), (115, 4, 10, 128), (128, 4, 11, 131), (131, 4, 9, 125)]
def lm_kF_6 : List (Nat × Nat × Nat × Nat) := [(9, 4, 0, 101), (15, 4, 1, 103), (18, 4, 2, 105), (21, 4, 3, 107), (24, 4, 4, 109), (27, 4, 5, 111), (30, 4, 6, 113), (33, 4, 7, 115), (36, 4, 8, 117), (39, 4, 9, 119), (43, 4, 10, 126), (46, 4, 11, 130), (49, 4, 12, 133), (52, 4, 13, 135), (55, 4, 14, 137), (58, 4, 15, 138), (62, 4, 16, 140)]
def lm_kF_7 : List (Nat × Nat × Nat × Nat) := [(9, 5, 2, 250), (15, 5, 3, 252), (19, 5, 4, 254), (22, 5, 5, 256), (25, 5, 0, 248), (29, 5, 1, 249), (52, 2, 0, 277), (58, 4, 9, 121), (67, 4, 10, 127)]
def lm_kF_8 : List (Nat × Nat × Nat × Nat) := [(12, 6, 0, 296), (16, 6, 1, 297), (19, 6, 2, 298), (22, 6, 3, 299), (29, 6, 4, 300), (35, 6, 5, 301), (44, 6, 6, 302), (53, 6, 7, 303), (62, 6, 8, 304), (66, 6, 9, 305), (80, 4, 9, 124), (95, 2, 2, 282), (116, 2, 1, 280), (123, 2, 0, 278), (146, 2, 3, 285), (149, 4, 10, 129), (159, 4, 15, 139), (195, 4, 11, 132), (198, 3, 1, 186), (210, 3, 2, 188), (213, 4, 0, 102), (216, 4, 1, 104), (219, 4, 2, 106), (222, 4, 3, 108), (225, 4, 4, 110), (228, 4, 5, 112), (231, 4, 6, 114), (237, 4, 7, 116), (261, 4, 12, 134), (268, 5, 3, 253), (269, 5, 4, 255), (272, 5, 5, 257), (275, 5, 2, 251), (279, 4, 8, 118), (332, 4, 13, 136)]
def lm_kF_9 : List (Nat × Nat × Nat × Nat) := [(7, 7, 0, 950), (13, 7, 1, 951), (16, 7, 2, 952), (21, 7, 3, 953), (24, 7, 4, 954), (28, 7, 5, 955), (31, 7, 6, 956), (34, 7, 7, 957), (37, 7, 9, 959), (42, 7, 11, 961), (45, 7, 13, 963), (48, 7, 16, 966), (51, 7, 17, 967), (54, 7, 20, 970), (57, 7, 21, 971), (61, 7, 29, 979), (64, 7, 33, 983), (67, 7, 34, 984), (70, 7, 35, 985), (73, 7, 10, 960), (117, 7, 18, 968), (121, 7, 12, 962), (139, 7, 15, 965), (142, 7, 8, 958), (145, 7, 24, 974), (148, 7, 26, 976), (151, 7, 27, 977), (154, 7, 25, 975), (165, 7, 28, 978), (227, 7, 30, 980), (245, 7, 14, 964), (272, 7, 19, 969), (293, 7, 23, 973), (298, 7, 31, 981), (301, 7, 32, 982), (364, 7, 22, 972)]
def lm_kF_10 : List (Nat × Nat × Nat × Nat) := [(9, 30, 0, 1467), (15, 30, 1, 1468)]
def lm_kF_11 : List (Nat × Nat × Nat × Nat) := []
def lm_kF_12 : List (Nat × Nat × Nat × Nat) := []
def lm_kF_13 : List (Nat × Nat × Nat × Nat) := []
def lm_kF_14 : List (Nat × Nat × Nat × Nat) := []
def lm_kF (c : Nat) : List (Nat × Nat × Nat × Nat) := [lm_kF_0, lm_kF_1, lm_kF_2, lm_kF_3, lm_kF_4, lm_kF_5, lm_kF_6, lm_kF_7, lm_kF_8, lm_kF_9, lm_kF_10, lm_kF_11, lm_kF_12, lm_kF_13, lm_kF_14].getD c []
def lm_kM_0 : List (Nat × Nat × Nat × Nat × Nat) := [(5, 5, 0, 0, 209), (32, 0, 4, 0, 464), (35, 0, 6, 2, 471), (39, 0, 5, 2, 489), (47, 1, 233, 2, 468), (56, 0, 7, 3, 476), (60, 1, 34, 1, 480), (68, 0, 60, 3, 482), (72, 0, 61, 2, 483), (75, 0, 62, 2, 484), (78, 1, 35, 1, 485)]
def lm_kM_1 : List (Nat × Nat × Nat × Nat × Nat) := [(3, 5, 0, 0, 234), (23, 0, 22, 0, 420), (29, 0, 11, 2, 421), (37, 0, 2, 2, 460), (43, 0, 12, 2, 493), (47, 0, 13, 2, 497), (50, 0, 14, 1, 501), (54, 1, 34, 1, 425), (65, 0, 60, 3, 429), (69, 0, 61, 2, 443), (72, 0, 62, 2, 456)]
def lm_kM_2 : List (Nat × Nat × Nat × Nat × Nat) := [(9, 1, 34, 1, 821), (22, 0, 60, 3, 823), (26, 0, 61, 2, 824), (30, 0, 62, 2, 825), (33, 1, 35, 1, 826), (36, 0, 10, 2, 827), (42, 1, 15, 5, 828), (48, 8, 0, 2, 829), (53, 1, 16, 3, 839), (57, 1, 17, 5, 851), (61, 1, 28, 1, 859), (64, 1, 18, 3, 860)]
def lm_kM_3 : List (Nat × Nat × Nat × Nat × Nat) := [(3, 5, 0, 0, 275), (25, 1, 232, 2, 345)]
def lm_kM_4 : List (Nat × Nat × Nat × Nat × Nat) := [(11, 1, 31, 2, 931)]
def lm_kM_5 : List (Nat × Nat × Nat × Nat × Nat) := [(3, 5, 0, 0, 183), (28, 0, 39, 0, 582), (31, 0, 43, 1, 589), (35, 1, 40, 1, 586), (39, 0, 227, 0, 598), (45, 0, 228, 1, 608), (51, 0, 41, 1, 594), (55, 0, 44, 1, 646), (60, 0, 46, 1, 663), (65, 0, 47, 1, 668), (70, 0, 48, 2, 674), (78, 0, 49, 2, 681), (85, 0, 50, 1, 687), (90, 0, 51, 1, 692), (93, 0, 54, 0, 650), (99, 0, 42, 2, 651), (105, 0, 45, 1, 656), (111, 0, 55, 6, 661), (118, 1, 32, 3, 672), (124, 0, 56, 3, 678), (134, 0, 58, 3, 696)]
def lm_kM_6 : List (Nat × Nat × Nat × Nat × Nat) := [(3, 5, 0, 0, 100), (65, 6, 0, 0, 577), (71, 0, 57, 2, 433), (75, 1, 29, 2, 437), (80, 1, 31, 2, 440), (84, 1, 30, 2, 447), (87, 1, 32, 3, 450), (91, 9, 0, 2, 453), (96, 1, 34, 1, 746), (100, 0, 61, 2, 747), (103, 0, 62, 2, 748), (106, 1, 35, 1, 749), (109, 0, 60, 3, 869)]
def lm_kM_7 : List (Nat × Nat × Nat × Nat × Nat) := [(3, 5, 0, 0, 247), (33, 0, 69, 0, 762), (36, 1, 34, 1, 767), (42, 0, 10, 2, 768), (48, 0, 70, 1, 769), (63, 0, 60, 3, 797), (68, 1, 233, 2, 766), (74, 0, 61, 2, 773), (78, 0, 62, 2, 774), (81, 1, 35, 1, 775)]
def lm_kM_8 : List (Nat × Nat × Nat × Nat × Nat) := [(3, 5, 0, 0, 92), (11, 4, 52, 0, 97), (28, 4, 36, 0, 180), (41, 2, 1, 1, 206), (50, 2, 8, 2, 231), (59, 2, 66, 2, 244), (70, 4, 19, 0, 272), (72, 0, 72, 1, 337), (76, 1, 74, 3, 334), (84, 0, 78, 1, 544), (88, 0, 20, 0, 360), (92, 0, 21, 0, 356), (98, 1, 75, 1, 331), (101, 0, 23, 2, 341), (105, 0, 81, 2, 352), (109, 0, 25, 1, 364), (112, 0, 27, 2, 368), (119, 0, 26, 2, 376), (127, 6, 0, 0, 380), (133, 0, 24, 2, 395), (136, 0, 80, 2, 403), (139, 0, 22, 0, 407), (143, 1, 9, 2, 411), (152, 0, 10, 2, 416), (156, 0, 54, 0, 509), (162, 0, 55, 6, 513), (166, 1, 29, 2, 521), (171, 1, 30, 2, 522), (174, 1, 31, 2, 527), (177, 1, 32, 3, 528), (181, 1, 76, 1, 533), (184, 0, 56, 3, 536), (188, 0, 57, 2, 548), (191, 0, 58, 3, 549), (199, 0, 37, 1, 561), (203, 0, 53, 1, 573), (206, 0, 38, 1, 578), (234, 0, 73, 1, 706), (240, 1, 28, 1, 715), (243, 1, 34, 1, 718), (246, 0, 60, 3, 723), (249, 0, 62, 2, 728), (252, 0, 79, 1, 733), (255, 0, 61, 2, 737), (258, 0, 63, 1, 742), (264, 0, 67, 3, 758), (280, 0, 68, 2, 793), (283, 1, 77, 1, 806), (286, 0, 3, 3, 809), (289, 0, 2, 2, 813), (292, 3, 15, 5, 818), (298, 3, 16, 3, 836), (302, 3, 17, 5, 848), (306, 3, 18, 3, 856), (309, 0, 64, 1, 865), (312, 1, 226, 1, 874), (317, 9, 0, 2, 880), (323, 0, 121, 2, 886), (326, 8, 0, 2, 898), (329, 0, 65, 0, 907), (335, 1, 33, 1, 928), (338, 0, 59, 0, 932), (341, 0, 130, 0, 936)]
def lm_kM_9 : List (Nat × Nat × Nat × Nat × Nat) := [(1, 5, 0, 0, 945), (76, 1, 133, 3, 1064), (86, 0, 132, 1, 1069), (90, 0, 139, 1, 1077), (93, 1, 138, 2, 1081), (101, 1, 147, 2, 1106), (105, 0, 184, 2, 1109), (124, 1, 135, 2, 1134), (135, 0, 134, 1, 1177), (157, 1, 157, 1, 1218), (161, 1, 158, 1, 1221), (168, 0, 227, 0, 1234), (174, 0, 228, 1, 1235), (178, 0, 160, 0, 1244), (182, 0, 159, 0, 1214), (185, 0, 161, 1, 1230), (189, 0, 162, 3, 1248), (194, 0, 163, 4, 1240), (198, 0, 149, 6, 1252), (205, 0, 164, 0, 1236), (214, 0, 165, 3, 1258), (230, 0, 166, 0, 1225), (233, 0, 186, 0, 1197), (237, 0, 167, 0, 1210), (240, 0, 222, 1, 1203), (250, 0, 172, 2, 1141), (253, 0, 174, 1, 1130), (256, 0, 175, 0, 1121), (260, 0, 173, 1, 1126), (264, 0, 176, 1, 1137), (268, 0, 179, 2, 1117), (275, 1, 221, 2, 1207), (279, 0, 181, 1, 1296), (282, 0, 183, 1, 1113), (286, 0, 197, 2, 1145), (290, 0, 140, 1, 1304), (297, 2, 131, 0, 1202), (306, 0, 141, 2, 1313), (309, 0, 187, 5, 1317), (313, 0, 189, 3, 1325), (321, 0, 193, 2, 1343), (324, 0, 194, 2, 1347), (327, 1, 198, 1, 1359), (330, 0, 200, 4, 1366), (334, 0, 202, 2, 1374), (337, 0, 205, 5, 1390), (341, 0, 206, 2, 1386), (346, 0, 209, 1, 1402), (351, 1, 136, 1, 1412), (354, 0, 213, 1, 1419), (357, 0, 212, 2, 1423), (361, 0, 218, 1, 1443)]
def lm_kM_10 : List (Nat × Nat × Nat × Nat × Nat) := [(335, 0, 229, 0, 602), (492, 0, 230, 0, 612), (495, 1, 231, 2, 616)]
def lm_kM_11 : List (Nat × Nat × Nat × Nat × Nat) := [(9, 7, 0, 2, 619)]
def lm_kM_12 : List (Nat × Nat × Nat × Nat × Nat) := []
def lm_kM_13 : List (Nat × Nat × Nat × Nat × Nat) := []
def lm_kM_14 : List (Nat × Nat × Nat × Nat × Nat) := [(9, 2, 71, 0, 89), (12, 2, 131, 0, 942), (13, 0, 82, 3, 327), (17, 0, 137, 3, 1059), (20, 0, 83, 3, 348), (24, 0, 142, 3, 1073), (25, 0, 84, 5, 372), (29, 0, 143, 5, 1084), (30, 0, 85, 2, 383), (34, 0, 144, 2, 1088), (35, 0, 86, 1, 387), (39, 0, 145, 1, 1092), (40, 0, 87, 3, 391), (43, 0, 146, 3, 1096), (44, 0, 88, 2, 399), (48, 0, 148, 2, 1102), (49, 0, 89, 6, 505), (53, 0, 149, 6, 1149), (54, 0, 90, 2, 517), (58, 0, 150, 2, 1157), (59, 0, 91, 2, 523), (62, 0, 151, 2, 1161), (63, 0, 92, 3, 529), (66, 0, 152, 3, 1166), (67, 0, 93, 3, 540), (71, 0, 153, 3, 1173), (72, 0, 94, 1, 553), (75, 0, 154, 1, 1181), (76, 0, 95, 1, 557), (79, 0, 155, 1, 1185), (80, 0, 96, 0, 565), (84, 0, 156, 0, 1189), (85, 0, 97, 0, 569), (88, 0, 168, 0, 1193), (89, 0, 98, 2, 698), (92, 0, 169, 2, 1267), (93, 0, 99, 2, 702), (96, 0, 170, 2, 1271), (97, 0, 100, 1, 711), (100, 0, 171, 1, 1276), (101, 0, 101, 1, 719), (104, 0, 177, 1, 1280), (105, 0, 102, 1, 724), (108, 0, 178, 1, 1284), (109, 0, 103, 1, 729), (112, 0, 180, 1, 1288), (113, 0, 104, 1, 738), (116, 0, 182, 1, 1292), (117, 0, 105, 1, 750), (120, 0, 185, 1, 1300), (121, 0, 106, 4, 754), (125, 0, 188, 4, 1308), (126, 0, 107, 2, 776), (129, 0, 190, 2, 1321), (130, 0, 108, 3, 781), (133, 0, 191, 3, 1329), (134, 0, 109, 1, 785), (137, 0, 192, 1, 1334), (138, 0, 110, 2, 789), (141, 0, 195, 2, 1339), (142, 0, 111, 3, 798), (145, 0, 196, 3, 1351), (146, 0, 112, 2, 802), (149, 0, 199, 2, 1355), (150, 0, 113, 2, 814), (153, 0, 201, 2, 1362), (154, 0, 114, 1, 832), (157, 0, 203, 1, 1370), (158, 0, 115, 1, 840), (161, 0, 204, 1, 1378), (162, 0, 116, 2, 844), (165, 0, 207, 2, 1382), (166, 0, 117, 1, 852), (169, 0, 208, 1, 1394), (170, 0, 118, 0, 861), (173, 0, 210, 0, 1398), (174, 0, 119, 2, 870), (177, 0, 211, 2, 1407), (178, 0, 120, 2, 882), (181, 0, 214, 2, 1415), (182, 0, 122, 1, 890), (185, 0, 215, 1, 1427), (186, 0, 123, 1, 894), (189, 0, 216, 1, 1431), (190, 0, 124, 3, 899), (193, 0, 217, 3, 1435), (194, 0, 125, 0, 903), (197, 0, 219, 0, 1439), (198, 0, 126, 1, 912), (201, 0, 220, 1, 1448), (202, 0, 127, 0, 916), (205, 0, 223, 0, 1452), (206, 0, 128, 0, 920), (209, 0, 224, 0, 1456), (210, 0, 129, 1, 924), (213, 0, 225, 1, 1460)]
def lm_kM (c : Nat) : List (Nat × Nat × Nat × Nat × Nat) := [lm_kM_0, lm_kM_1, lm_kM_2, lm_kM_3, lm_kM_4, lm_kM_5, lm_kM_6, lm_kM_7, lm_kM_8, lm_kM_9, lm_kM_10, lm_kM_11, lm_kM_12, lm_kM_13, lm_kM_14].getD c []
def lm_kC_0 : List (Nat × Nat × Nat × Nat) := []
def lm_kC_1 : List (Nat × Nat × Nat × Nat) := []
def lm_kC_2 : List (Nat × Nat × Nat × Nat) := []
def lm_kC_3 : List (Nat × Nat × Nat × Nat) := []
def lm_kC_4 : List (Nat × Nat × Nat × Nat) := []
def lm_kC_5 : List (Nat × Nat × Nat × Nat) := []
def lm_kC_6 : List (Nat × Nat × Nat × Nat) := []
def lm_kC_7 : List (Nat × Nat × Nat × Nat) := []
def lm_kC_8 : List (Nat × Nat × Nat × Nat) := [(9, 4, 17, 95), (26, 3, 5, 178), (33, 2, 4, 202), (39, 0, 6, 204), (48, 1, 2, 229), (57, 5, 6, 242)]
def lm_kC_9 : List (Nat × Nat × Nat × Nat) := [(8, 7, 36, 1201), (19, 106, 0, 946), (40, 105, 0, 948)]
def lm_kC_10 : List (Nat × Nat × Nat × Nat) := []
def lm_kC_11 : List (Nat × Nat × Nat × Nat) := []
def lm_kC_12 : List (Nat × Nat × Nat × Nat) := []
def lm_kC_13 : List (Nat × Nat × Nat × Nat) := []
def lm_kC_14 : List (Nat × Nat × Nat × Nat) := [(7, 6, 10, 87), (10, 7, 36, 940)]
def lm_kC (c : Nat) : List (Nat × Nat × Nat × Nat) := [lm_kC_0, lm_kC_1, lm_kC_2, lm_kC_3, lm_kC_4, lm_kC_5, lm_kC_6, lm_kC_7, lm_kC_8, lm_kC_9, lm_kC_10, lm_kC_11, lm_kC_12, lm_kC_13, lm_kC_14].getD c []
def lm_kV_0 : List (Nat × Value × Nat) := [(55, .int (-1640531535), 475), (64, .int (-2000000000), 481)]
def lm_kV_1 : List (Nat × Value × Nat) := [(59, .int (-2000000000), 428)]
def lm_kV_2 : List (Nat × Value × Nat) := [(15, .int (-2000000000), 822)]
def lm_kV_3 : List (Nat × Value × Nat) := []
def lm_kV_4 : List (Nat × Value × Nat) := [(15, .int (268435456), 488)]
def lm_kV_5 : List (Nat × Value × Nat) := [(49, .ref 1, 593), (58, .ref 4, 662), (63, .ref 5, 667), (68, .ref 6, 673), (74, .ref 7, 679), (76, .ref 8, 680), (81, .ref 9, 685), (83, .ref 10, 686), (88, .ref 11, 691), (103, .ref 2, 655), (109, .ref 3, 660)]
def lm_kV_6 : List (Nat × Value × Nat) := [(113, .int (1103515245), 911)]
def lm_kV_7 : List (Nat × Value × Nat) := []
def lm_kV_8 : List (Nat × Value × Nat) := [(71, .int (-1000000), 710), (278, .int (-2000000000), 780), (322, .int (2000000000), 881)]
def lm_kV_9 : List (Nat × Value × Nat) := [(164, .int (100000), 1224), (193, .ref 12, 1229), (201, .ref 13, 1253), (203, .ref 14, 1254), (208, .ref 15, 1255), (210, .ref 16, 1256), (212, .ref 17, 1257), (218, .ref 18, 1262), (220, .ref 19, 1263), (221, .ref 20, 1264), (223, .ref 21, 1265), (225, .ref 22, 1266), (244, .int (-1000000), 1275), (360, .int (1103515245), 1447)]
def lm_kV_10 : List (Nat × Value × Nat) := []
def lm_kV_11 : List (Nat × Value × Nat) := []
def lm_kV_12 : List (Nat × Value × Nat) := [(265, .int (1431655765), 877), (266, .int (858993459), 878), (267, .int (252645135), 879)]
def lm_kV_13 : List (Nat × Value × Nat) := []
def lm_kV_14 : List (Nat × Value × Nat) := []
def lm_kV (c : Nat) : List (Nat × Value × Nat) := [lm_kV_0, lm_kV_1, lm_kV_2, lm_kV_3, lm_kV_4, lm_kV_5, lm_kV_6, lm_kV_7, lm_kV_8, lm_kV_9, lm_kV_10, lm_kV_11, lm_kV_12, lm_kV_13, lm_kV_14].getD c []
def lm_kL_0 : List (Nat × Int64 × Nat) := []
def lm_kL_1 : List (Nat × Int64 × Nat) := []
def lm_kL_2 : List (Nat × Int64 × Nat) := []
def lm_kL_3 : List (Nat × Int64 × Nat) := []
def lm_kL_4 : List (Nat × Int64 × Nat) := []
def lm_kL_5 : List (Nat × Int64 × Nat) := []
def lm_kL_6 : List (Nat × Int64 × Nat) := []
def lm_kL_7 : List (Nat × Int64 × Nat) := []
def lm_kL_8 : List (Nat × Int64 × Nat) := []
def lm_kL_9 : List (Nat × Int64 × Nat) := [(80, (7), 1063), (82, (4), 1067), (84, (40), 1068), (97, (6), 1100), (99, (99), 1101), (109, (5), 1153), (111, (3), 1154), (113, (9), 1155), (115, (255), 1156), (127, (23), 1165), (129, (11), 1170), (131, (-99), 1171), (133, (-9), 1172), (248, (32), 1125), (304, (60), 1312), (317, (20), 1333), (319, (2), 1338), (344, (1048576), 1406), (349, (8), 1411), (367, (12), 1464), (369, (16), 1465)]
def lm_kL_10 : List (Nat × Int64 × Nat) := []
def lm_kL_11 : List (Nat × Int64 × Nat) := []
def lm_kL_12 : List (Nat × Int64 × Nat) := []
def lm_kL_13 : List (Nat × Int64 × Nat) := []
def lm_kL_14 : List (Nat × Int64 × Nat) := [(18, (4294967295), 1466)]
def lm_kL (c : Nat) : List (Nat × Int64 × Nat) := [lm_kL_0, lm_kL_1, lm_kL_2, lm_kL_3, lm_kL_4, lm_kL_5, lm_kL_6, lm_kL_7, lm_kL_8, lm_kL_9, lm_kL_10, lm_kL_11, lm_kL_12, lm_kL_13, lm_kL_14].getD c []
def lm_kS_0 : List (Nat × Value × Nat) := []
def lm_kS_1 : List (Nat × Value × Nat) := [(19, .ref 60, 414)]
def lm_kS_2 : List (Nat × Value × Nat) := []
def lm_kS_3 : List (Nat × Value × Nat) := []
def lm_kS_4 : List (Nat × Value × Nat) := []
def lm_kS_5 : List (Nat × Value × Nat) := []
def lm_kS_6 : List (Nat × Value × Nat) := []
def lm_kS_7 : List (Nat × Value × Nat) := []
def lm_kS_8 : List (Nat × Value × Nat) := []
def lm_kS_9 : List (Nat × Value × Nat) := []
def lm_kS_10 : List (Nat × Value × Nat) := [(38, .int 1, 606)]
def lm_kS_11 : List (Nat × Value × Nat) := []
def lm_kS_12 : List (Nat × Value × Nat) := []
def lm_kS_13 : List (Nat × Value × Nat) := []
def lm_kS_14 : List (Nat × Value × Nat) := []
def lm_kS (c : Nat) : List (Nat × Value × Nat) := [lm_kS_0, lm_kS_1, lm_kS_2, lm_kS_3, lm_kS_4, lm_kS_5, lm_kS_6, lm_kS_7, lm_kS_8, lm_kS_9, lm_kS_10, lm_kS_11, lm_kS_12, lm_kS_13, lm_kS_14].getD c []
def lm_fts : List (List Nat) := [[1, 1, 1, 1, 1, 0], [1, 1], [1, 0, 0, 0], [1, 0, 0, 0, 0], [1, 1, 1, 1, 1, 1, 1, 1, 1, 0, 0, 0, 0, 0, 0, 2, 0], [1, 1, 1, 0, 0, 0], [1, 1, 1, 2, 1, 1, 1, 1, 1, 1], [1, 1, 1, 1, 1, 1, 1, 1, 0, 1, 0, 1, 0, 1, 0, 0, 1, 1, 2, 0, 1, 0, 1, 1, 0, 0, 0, 0, 0, 1, 0, 0, 0, 1, 1, 1]]
def lm_ft (ci k : Nat) : Nat := (lm_fts.getD ci []).getD k 9
def lm_nf (ci : Nat) : Nat := (lm_fts.getD ci []).length
def lm_fins : List (List Bool) := [[true, true, true, true, true, false], [true, true], [true, false, false, false], [true, false, false, false, false], [true, true, true, true, true, true, true, true, true, false, false, false, false, false, false, false, false], [true, true, true, false, false, false], [true, true, true, false, true, true, true, true, true, true], [true, true, true, true, true, true, true, true, false, true, false, true, false, true, false, false, true, true, false, false, true, false, false, false, false, false, false, false, false, true, false, false, false, true, true, true]]
def lm_fin (ci k : Nat) : Bool := (lm_fins.getD ci []).getD k true
def lm_inits : List Nat := [1, 8, 19, 36, 52, 66, 71, 131]
def lm_at (f pc : Nat) : Option Nat := if f = 186 then some 700 else if f = 223 then some 1000 else none
end
section
/-! LM: a small machine over the decoded instructions of the program. Addresses below 64 are old cells (0 the script, 1.. the texts, 31.. their bytes, 60 RULE_ABOVE); from 64 on the cells that the run makes.
A heap: ints, longs, references (address, slot); kind of a cell (0 none, 1 int[], 2 long[], 4 Shelf[], 5 int[][], 6 long[][], 8 byte[], 10 + number of its class); length; next address; cells, slots made. -/
abbrev lm_X : Type := (Nat → Nat → Option Nat) × (Nat → Nat) × (Nat → Nat) × Nat × Nat × Nat
abbrev lm_H : Type := (Nat → Nat → Int32) × (Nat → Nat → Int64) × lm_X
abbrev lm_R : Type := (Nat × List Value × List Value × lm_H) ⊕ ((Option Value × lm_H) ⊕ (Nat × List Value × Nat × List Value × lm_H))
def lm_up {α : Type} (f : Nat → Nat → α) (a k : Nat) (v : α) : Nat → Nat → α := fun b j => if b = a then (if j = k then v else f b j) else f b j
def lm_row {α : Type} (f : Nat → Nat → α) (a : Nat) (g : Nat → α) : Nat → Nat → α := fun b => if b = a then g else f b
abbrev lm_nx (pc : Nat) (ls st : List Value) (h : lm_H) : Option lm_R := some (.inl (pc, ls, st, h))
def lm_jk : Value := .retAddr 0
/-- a value of one slot into a local: a long whose second half it takes is gone -/
def lm_s1 (ls : List Value) (i : Nat) (v : Value) : List Value := match i with
  | 0 => ls.set 0 v
  | j + 1 => match ls[j]? with
    | some w => if w.category = 2 then (ls.set j lm_jk).set (j + 1) v else ls.set (j + 1) v
    | none => ls.set (j + 1) v
def lm_s2 (ls : List Value) (i : Nat) (v : Value) : List Value := (lm_s1 ls i v).set (i + 1) lm_jk
def lm_tg (pc : Nat) (off : Int) : Option Nat := match (pc : Int) + off with
  | .ofNat t => some t
  | .negSucc _ => none
def lm_br {α : Type} (c : ClassFile.Cond) (x y : Int32) (A B : α) : α := match c with
  | .eq => if x = y then A else B
  | .ne => if x = y then B else A
  | .lt => if x < y then A else B
  | .ge => if x < y then B else A
  | .gt => if y < x then A else B
  | .le => if y < x then B else A
def lm_sw (x : Int32) : Int → List Int → Int → Int
  | _, [], d => d
  | lo, o :: os, d => if x = Int32.ofInt lo then o else lm_sw x (lo + 1) os d
def lm_lk (x : Int32) : List (Int × Int) → Int → Int
  | [], d => d
  | q :: qs, d => if x = Int32.ofInt q.1 then q.2 else lm_lk x qs d
def lm_fk (ci k : Nat) : Nat := if ci = 30 then (if k = 0 then 1 else 0) else lm_ft ci k
def lm_fv (h : lm_H) (ci a k : Nat) : Value := if lm_fk ci k = 1 then va_rf (h.2.2.1 a k) else .int (h.1 a k)
def lm_pok (f c ci k : Nat) : Bool := decide (ci < 8) && (!(lm_fin ci k) || (lm_inits.contains f && decide (lm_cis.getD c 99 = ci)))
def lm_u1 {α : Type} (f : Nat → α) (a : Nat) (v : α) : Nat → α := fun b => if b = a then v else f b
/-- cells a .. a + n - 1 -/
def lm_us {α : Type} (f : Nat → α) (a n : Nat) (v : α) : Nat → α := fun b => if a ≤ b ∧ b < a + n then v else f b
def lm_put (h : lm_H) (ty a k : Nat) (v : Value) : Option lm_H := match v with
  | .int x => if ty = 0 then some (lm_up h.1 a k x, h.2) else if ty = 2 ∧ (x = 0 ∨ x = 1) then some (lm_up h.1 a k x, h.2) else none
  | .ref b => if ty = 1 then some (h.1, h.2.1, lm_up h.2.2.1 a k (some b), h.2.2.2) else none
  | _ => none
def lm_new (h : lm_H) (a ci N : Nat) : lm_H := (lm_row h.1 a (fun _ => 0), h.2.1, lm_row h.2.2.1 a (fun _ => none), lm_u1 h.2.2.2.1 a (10 + ci), h.2.2.2.2.1, a + 1, h.2.2.2.2.2.2.1 + 1, h.2.2.2.2.2.2.2 + N)
def lm_arr (h : lm_H) (a kd n : Nat) : lm_H := (lm_row h.1 a (fun _ => 0), lm_row h.2.1 a (fun _ => 0), lm_row h.2.2.1 a (fun _ => none), lm_u1 h.2.2.2.1 a kd, lm_u1 h.2.2.2.2.1 a n, a + 1, h.2.2.2.2.2.2.1 + 1, h.2.2.2.2.2.2.2 + n)
/-- new T[n][m]: the outer one at a, the inner ones behind it -/
def lm_mul (h : lm_H) (a kd ki n m : Nat) : lm_H := (lm_us h.1 a (n + 1) (fun _ => 0), lm_us h.2.1 a (n + 1) (fun _ => 0), lm_row (lm_us h.2.2.1 a (n + 1) (fun _ => none)) a (fun j => if j < n then some (a + 1 + j) else none),
  lm_u1 (lm_us h.2.2.2.1 a (n + 1) ki) a kd, lm_u1 (lm_us h.2.2.2.2.1 a (n + 1) m) a n, a + n + 1, h.2.2.2.2.2.2.1 + 1 + n, h.2.2.2.2.2.2.2 + n + n * m)
noncomputable def lm_iv (w : Option (Nat × Nat × Nat × Nat)) (op pc : Nat) (ls st : List Value) (h : lm_H) : Option lm_R := match w with
  | none => none
  | some (kind, g, n, _) =>
    if kind = 0 then (match st.drop n with
      | .ref a :: r => if op = 0 ∧ n ≤ st.length ∧ (r.map Value.category).sum ≤ 8 ∧ h.2.2.2.1 a = 10 + lm_cis.getD (lm_m g).1 99 then some (.inr (.inr (g, .ref a :: (st.take n).reverse, pc + 3, r, h))) else none
      | _ => none)
    else if kind = 1 ∨ kind = 3 then (if op = 1 ∧ n ≤ st.length ∧ ((st.drop n).map Value.category).sum ≤ 8 then some (.inr (.inr (g, (st.take n).reverse, pc + 3, st.drop n, h))) else none)
    else if kind = 2 ∨ kind = 4 then (match st.drop n with
      | .ref a :: r => if op = 2 ∧ n ≤ st.length ∧ (r.map Value.category).sum ≤ 8 then some (.inr (.inr (g, .ref a :: (st.take n).reverse, pc + 3, r, h))) else none
      | _ => none)
    else if kind = 5 then (match st with
      | .ref _ :: r => if op = 2 ∧ (r.map Value.category).sum ≤ 8 then lm_nx (pc + 3) ls r h else none
      | _ => none)
    else if kind = 6 then (match st with
      | .int n :: .int dp :: .ref a1 :: .int sp :: .ref a0 :: r => if op = 1 ∧ (r.map Value.category).sum ≤ 8 ∧ h.2.2.2.1 a0 = 2 ∧ h.2.2.2.1 a1 = 2 ∧ 64 ≤ a0 ∧ 64 ≤ a1 ∧ ¬ sp < 0 ∧ ¬ dp < 0 ∧ ¬ n < 0 ∧ sp.toNatClampNeg + n.toNatClampNeg ≤ h.2.2.2.2.1 a0 ∧ dp.toNatClampNeg + n.toNatClampNeg ≤ h.2.2.2.2.1 a1 then
          lm_nx (pc + 3) ls r (h.1, lm_row h.2.1 a1 (va_cpy (h.2.1 a0) (h.2.1 a1) sp.toNatClampNeg dp.toNatClampNeg n.toNatClampNeg), h.2.2)
        else if op = 1 ∧ (r.map Value.category).sum ≤ 8 ∧ h.2.2.2.1 a0 = 1 ∧ h.2.2.2.1 a1 = 1 ∧ 64 ≤ a0 ∧ 64 ≤ a1 ∧ ¬ sp < 0 ∧ ¬ dp < 0 ∧ ¬ n < 0 ∧ sp.toNatClampNeg + n.toNatClampNeg ≤ h.2.2.2.2.1 a0 ∧ dp.toNatClampNeg + n.toNatClampNeg ≤ h.2.2.2.2.1 a1 then
          lm_nx (pc + 3) ls r (lm_row h.1 a1 (va_cpy (h.1 a0) (h.1 a1) sp.toNatClampNeg dp.toNatClampNeg n.toNatClampNeg), h.2) else none
      | _ => none)
    else if kind = 7 then (match st with
      | .int n :: .int i :: r => if op = 1 ∧ (r.map Value.category).sum ≤ 8 ∧ ¬ i < 0 ∧ i < n then lm_nx (pc + 3) ls r h else none
      | _ => none)
    else if kind = 8 then (match st with
      | .int y :: .int x :: r => if op = 1 ∧ (r.map Value.category).sum ≤ 8 then lm_nx (pc + 3) ls (.int (if x < y then y else x) :: r) h else none
      | _ => none)
    else if kind = 9 then (match st with
      | .int y :: .int x :: r => if op = 1 ∧ (r.map Value.category).sum ≤ 8 then lm_nx (pc + 3) ls (.int (if y < x then y else x) :: r) h else none
      | _ => none)
    else none
def lm_i1 (pc : Nat) (ls st : List Value) (h : lm_H) (g : Int32 → Value) : Option lm_R := match st with
  | .int x :: r => lm_nx (pc + 1) ls (g x :: r) h
  | _ => none
def lm_i2 (pc : Nat) (ls st : List Value) (h : lm_H) (g : Int32 → Int32 → Int32) : Option lm_R := match st with
  | .int y :: .int x :: r => lm_nx (pc + 1) ls (.int (g x y) :: r) h
  | _ => none
def lm_l2 (pc : Nat) (ls st : List Value) (h : lm_H) (g : Int64 → Int64 → Int64) : Option lm_R := match st with
  | .long y :: .long x :: r => lm_nx (pc + 1) ls (.long (g x y) :: r) h
  | _ => none
def lm_ls (pc : Nat) (ls st : List Value) (h : lm_H) (g : Int64 → Int32 → Int64) : Option lm_R := match st with
  | .int y :: .long x :: r => lm_nx (pc + 1) ls (.long (g x y) :: r) h
  | _ => none
def lm_li (pc : Nat) (ls st : List Value) (h : lm_H) (i : Nat) : Option lm_R := match ls[i]? with
  | some (.int x) => lm_nx pc ls (.int x :: st) h
  | _ => none
def lm_ll (pc : Nat) (ls st : List Value) (h : lm_H) (i : Nat) : Option lm_R := match ls[i]? with
  | some (.long x) => lm_nx pc ls (.long x :: st) h
  | _ => none
def lm_la (pc : Nat) (ls st : List Value) (h : lm_H) (i : Nat) : Option lm_R := match ls[i]? with
  | some (.ref x) => lm_nx pc ls (.ref x :: st) h
  | _ => none
def lm_si (pc : Nat) (ls st : List Value) (h : lm_H) (i : Nat) : Option lm_R := match st with
  | .int x :: r => if i < ls.length then lm_nx pc (lm_s1 ls i (.int x)) r h else none
  | _ => none
def lm_sl (pc : Nat) (ls st : List Value) (h : lm_H) (i : Nat) : Option lm_R := match st with
  | .long x :: r => if i + 1 < ls.length then lm_nx pc (lm_s2 ls i (.long x)) r h else none
  | _ => none
def lm_sa (pc : Nat) (ls st : List Value) (h : lm_H) (i : Nat) : Option lm_R := match st with
  | .ref x :: r => if i < ls.length then lm_nx pc (lm_s1 ls i (.ref x)) r h else none
  | _ => none
def lm_go (pc : Nat) (off : Int) (ls st : List Value) (h : lm_H) : Option lm_R := match lm_tg pc off with
  | some t => lm_nx t ls st h
  | none => none
def lm_bt (pc : Nat) (off : Int) (co : ClassFile.Cond) (x y : Int32) (ls st : List Value) (h : lm_H) : Option lm_R := match lm_tg pc off with
  | some t => lm_br co x y (lm_nx t ls st h) (lm_nx (pc + 3) ls st h)
  | none => none
def lm_ir (pc : Nat) (a : Nat) (i : Int32) (ls st : List Value) (h : lm_H) (ok : Bool) (v : Value) : Option lm_R :=
  if ok = true ∧ ¬ (i < 0 ∨ h.2.2.2.2.1 a ≤ i.toNatClampNeg) then lm_nx (pc + 1) ls (v :: st) h else none
noncomputable def lm_i (f c pc : Nat) (i : Instr) (ls st : List Value) (h : lm_H) : Option lm_R := match i with
  | .iconst n => lm_nx (pc + 1) ls (.int (Int32.ofInt n) :: st) h
  | .bipush n => lm_nx (pc + 2) ls (.int (Int8.ofInt n).toInt32 :: st) h
  | .sipush n => lm_nx (pc + 3) ls (.int (Int16.ofInt n).toInt32 :: st) h
  | .lconst n => lm_nx (pc + 1) ls (.long (Int64.ofNat n) :: st) h
  | .ldc idx => match (lm_kV c).lookup idx with
    | some (v, _) => lm_nx (pc + 2) ls (v :: st) h
    | none => none
  | .ldc_w idx => match (lm_kV c).lookup idx with
    | some (.int v, _) => lm_nx (pc + 3) ls (.int v :: st) h
    | _ => none
  | .ldc2_w idx => match (lm_kL c).lookup idx with
    | some (v, _) => lm_nx (pc + 3) ls (.long v :: st) h
    | none => none
  | .getstatic idx => match (lm_kS c).lookup idx with
    | some (v, _) => lm_nx (pc + 3) ls (v :: st) h
    | none => none
  | .iload k => lm_li (pc + 2) ls st h k
  | .iload_n k => lm_li (pc + 1) ls st h k
  | .lload k => lm_ll (pc + 2) ls st h k
  | .lload_n k => lm_ll (pc + 1) ls st h k
  | .aload k => lm_la (pc + 2) ls st h k
  | .aload_n k => lm_la (pc + 1) ls st h k
  | .istore k => lm_si (pc + 2) ls st h k
  | .istore_n k => lm_si (pc + 1) ls st h k
  | .lstore k => lm_sl (pc + 2) ls st h k
  | .lstore_n k => lm_sl (pc + 1) ls st h k
  | .astore k => lm_sa (pc + 2) ls st h k
  | .astore_n k => lm_sa (pc + 1) ls st h k
  | .iinc k n => match ls[k]? with
    | some (.int x) => lm_nx (pc + 3) (lm_s1 ls k (.int (x + Int32.ofInt n))) st h
    | _ => none
  | .iadd => lm_i2 pc ls st h (fun x y => x + y)
  | .isub => lm_i2 pc ls st h (fun x y => x - y)
  | .imul => lm_i2 pc ls st h (fun x y => x * y)
  | .iand => lm_i2 pc ls st h (fun x y => x &&& y)
  | .ior => lm_i2 pc ls st h (fun x y => x ||| y)
  | .ixor => lm_i2 pc ls st h (fun x y => x ^^^ y)
  | .ishl => lm_i2 pc ls st h (fun x y => x <<< (y &&& 31))
  | .ishr => lm_i2 pc ls st h (fun x y => x >>> (y &&& 31))
  | .iushr => lm_i2 pc ls st h (fun x y => (x.toUInt32 >>> (y.toUInt32 &&& Int32.toUInt32 31)).toInt32)
  | .irem => match st with
    | .int y :: .int x :: r => if y = 0 then none else lm_nx (pc + 1) ls (.int (x - x / y * y) :: r) h
    | _ => none
  | .ineg => lm_i1 pc ls st h (fun x => .int (-x))
  | .i2l => lm_i1 pc ls st h (fun x => .long x.toInt64)
  | .i2b => lm_i1 pc ls st h (fun x => .int x.toInt8.toInt32)
  | .i2s => lm_i1 pc ls st h (fun x => .int x.toInt16.toInt32)
  | .i2c => lm_i1 pc ls st h (fun x => .int (x.toUInt32 % 65536).toInt32)
  | .l2i => match st with
    | .long x :: r => lm_nx (pc + 1) ls (.int x.toInt32 :: r) h
    | _ => none
  | .ladd => lm_l2 pc ls st h (fun x y => x + y)
  | .lmul => lm_l2 pc ls st h (fun x y => x * y)
  | .land => lm_l2 pc ls st h (fun x y => x &&& y)
  | .lor => lm_l2 pc ls st h (fun x y => x ||| y)
  | .lxor => lm_l2 pc ls st h (fun x y => x ^^^ y)
  | .ldiv => match st with
    | .long y :: .long x :: r => if y = 0 then none else lm_nx (pc + 1) ls (.long (x / y) :: r) h
    | _ => none
  | .lrem => match st with
    | .long y :: .long x :: r => if y = 0 then none else lm_nx (pc + 1) ls (.long (x - x / y * y) :: r) h
    | _ => none
  | .lshl => lm_ls pc ls st h (fun x y => x <<< (y.toInt64 &&& 63))
  | .lshr => lm_ls pc ls st h (fun x y => x >>> (y.toInt64 &&& 63))
  | .lcmp => match st with
    | .long y :: .long x :: r => lm_nx (pc + 1) ls (.int (lg_cmp x y) :: r) h
    | _ => none
  | .dup => match st with
    | .int x :: r => lm_nx (pc + 1) ls (.int x :: .int x :: r) h
    | .ref x :: r => lm_nx (pc + 1) ls (.ref x :: .ref x :: r) h
    | _ => none
  | .dup_x1 => match st with
    | .int x :: .ref y :: r => lm_nx (pc + 1) ls (.int x :: .ref y :: .int x :: r) h
    | _ => none
  | .dup2 => match st with
    | .int x :: .ref y :: r => lm_nx (pc + 1) ls (.int x :: .ref y :: .int x :: .ref y :: r) h
    | _ => none
  | .pop => match st with
    | .int _ :: r => lm_nx (pc + 1) ls r h
    | _ => none
  | .goto off => lm_go pc off ls st h
  | .if_icmp co off => match st with
    | .int y :: .int x :: r => lm_bt pc off co x y ls r h
    | _ => none
  | .ifCond co off => match st with
    | .int x :: r => lm_bt pc off co x 0 ls r h
    | _ => none
  | .ifnonnull off => match st with
    | .ref _ :: r => lm_go pc off ls r h
    | .null :: r => lm_nx (pc + 3) ls r h
    | _ => none
  | .tableswitch d lo hi os => match st with
    | .int x :: r => if hi - lo + 1 = (os.size : Int) ∧ -2147483648 ≤ lo ∧ hi ≤ 2147483647 then lm_go pc (lm_sw x lo os.toList d) ls r h else none
    | _ => none
  | .lookupswitch d ps => match st with
    | .int x :: r => if (ps.toList.zip (ps.toList.drop 1)).all (fun (a, next) => a.1 < next.1) = true ∧ ps.toList.all (fun q => decide (-2147483648 ≤ q.1 ∧ q.1 ≤ 2147483647)) = true then lm_go pc (lm_lk x ps.toList d) ls r h else none
    | _ => none
  | .getfield idx => match (lm_kF c).lookup idx with
    | some (ci, k, _) => (match st with
      | .ref a :: r => if h.2.2.2.1 a = 10 + ci then lm_nx (pc + 3) ls (lm_fv h ci a k :: r) h else none
      | _ => none)
    | none => none
  | .putfield idx => match (lm_kF c).lookup idx with
    | some (ci, k, _) => (match st with
      | v :: .ref a :: r => if h.2.2.2.1 a = 10 + ci ∧ 64 ≤ a ∧ lm_pok f c ci k = true then (match lm_put h (lm_ft ci k) a k v with
          | some h1 => lm_nx (pc + 3) ls r h1
          | none => none) else none
      | _ => none)
    | none => none
  | .iaload => match st with
    | .int i :: .ref a :: r => lm_ir pc a i ls r h (decide (h.2.2.2.1 a = 1)) (.int (h.1 a i.toNatClampNeg))
    | _ => none
  | .laload => match st with
    | .int i :: .ref a :: r => lm_ir pc a i ls r h (decide (h.2.2.2.1 a = 2)) (.long (h.2.1 a i.toNatClampNeg))
    | _ => none
  | .baload => match st with
    | .int i :: .ref a :: r => lm_ir pc a i ls r h (decide (h.2.2.2.1 a = 8)) (.int (h.1 a i.toNatClampNeg))
    | _ => none
  | .aaload => match st with
    | .int i :: .ref a :: r => lm_ir pc a i ls r h (decide (4 ≤ h.2.2.2.1 a ∧ h.2.2.2.1 a ≤ 6)) (va_rf (h.2.2.1 a i.toNatClampNeg))
    | _ => none
  | .iastore => match st with
    | .int x :: .int i :: .ref a :: r => if h.2.2.2.1 a = 1 ∧ 64 ≤ a ∧ ¬ (i < 0 ∨ h.2.2.2.2.1 a ≤ i.toNatClampNeg) then lm_nx (pc + 1) ls r (lm_up h.1 a i.toNatClampNeg x, h.2) else none
    | _ => none
  | .lastore => match st with
    | .long x :: .int i :: .ref a :: r => if h.2.2.2.1 a = 2 ∧ 64 ≤ a ∧ ¬ (i < 0 ∨ h.2.2.2.2.1 a ≤ i.toNatClampNeg) then lm_nx (pc + 1) ls r (h.1, lm_up h.2.1 a i.toNatClampNeg x, h.2.2) else none
    | _ => none
  | .aastore => match st with
    | .ref b :: .int i :: .ref a :: r => if h.2.2.2.1 a = 4 ∧ 64 ≤ a ∧ 64 ≤ b ∧ h.2.2.2.1 b = 12 ∧ ¬ (i < 0 ∨ h.2.2.2.2.1 a ≤ i.toNatClampNeg) then lm_nx (pc + 1) ls r (h.1, h.2.1, lm_up h.2.2.1 a i.toNatClampNeg (some b), h.2.2.2) else none
    | _ => none
  | .arraylength => match st with
    | .ref a :: r => if h.2.2.2.1 a ≠ 0 ∧ h.2.2.2.1 a < 10 then lm_nx (pc + 1) ls (.int (Int32.ofNat (h.2.2.2.2.1 a)) :: r) h else none
    | _ => none
  | .new idx => match (lm_kC c).lookup idx with
    | some (ci, N, _) => if h.2.2.2.1 ((lm_at f pc).getD h.2.2.2.2.2.1) = 0 ∧ 64 ≤ (lm_at f pc).getD h.2.2.2.2.2.1 ∧ ci < 8 then lm_nx (pc + 3) ls (.ref ((lm_at f pc).getD h.2.2.2.2.2.1) :: st) (lm_new h ((lm_at f pc).getD h.2.2.2.2.2.1) ci N) else none
    | none => none
  | .newarray ty => match st with
    | .int n :: r => if h.2.2.2.1 h.2.2.2.2.2.1 = 0 ∧ 64 ≤ h.2.2.2.2.2.1 ∧ ¬ n < 0 ∧ n.toNatClampNeg ≤ 100000 ∧ (ty = .int ∨ ty = .long) then lm_nx (pc + 2) ls (.ref h.2.2.2.2.2.1 :: r) (lm_arr h h.2.2.2.2.2.1 (if ty = .int then 1 else 2) n.toNatClampNeg) else none
    | _ => none
  | .anewarray idx => match (lm_kC c).lookup idx with
    | some (ci, _, _) => (match st with
      | .int n :: r => if h.2.2.2.1 h.2.2.2.2.2.1 = 0 ∧ 64 ≤ h.2.2.2.2.2.1 ∧ ¬ n < 0 ∧ n.toNatClampNeg ≤ 100000 ∧ ci = 2 then lm_nx (pc + 3) ls (.ref h.2.2.2.2.2.1 :: r) (lm_arr h h.2.2.2.2.2.1 4 n.toNatClampNeg) else none
      | _ => none)
    | none => none
  | .multianewarray idx dm => match (lm_kC c).lookup idx with
    | some (ci, _, _) => (match st with
      | .int m :: .int n :: r => if dm = 2 ∧ (ci = 105 ∨ ci = 106) ∧ 64 ≤ h.2.2.2.2.2.1 ∧ ¬ n < 0 ∧ ¬ m < 0 ∧ n.toNatClampNeg ≤ 1000 ∧ m.toNatClampNeg ≤ 1000 ∧ (List.range (n.toNatClampNeg + 1)).all (fun j => h.2.2.2.1 (h.2.2.2.2.2.1 + j) == 0) = true then
          lm_nx (pc + 4) ls (.ref h.2.2.2.2.2.1 :: r) (lm_mul h h.2.2.2.2.2.1 (if ci = 105 then 5 else 6) (if ci = 105 then 1 else 2) n.toNatClampNeg m.toNatClampNeg) else none
      | _ => none)
    | none => none
  | .invokevirtual idx => lm_iv ((lm_kM c).lookup idx) 0 pc ls st h
  | .invokestatic idx => lm_iv ((lm_kM c).lookup idx) 1 pc ls st h
  | .invokespecial idx => lm_iv ((lm_kM c).lookup idx) 2 pc ls st h
  | .ireturn => match st with
    | [.int v] => match (lm_m f).2.2.2.2.1 with
      | some .int => some (.inr (.inl (some (.int v), h)))
      | some ty => if narrow ty (.int v) = .int v then some (.inr (.inl (some (.int v), h))) else none
      | none => none
    | _ => none
  | .lreturn => match st with
    | [.long v] => match (lm_m f).2.2.2.2.1 with
      | some .long => some (.inr (.inl (some (.long v), h)))
      | _ => none
    | _ => none
  | .areturn => match st with
    | [.ref v] => match (lm_m f).2.2.2.2.1 with
      | some (.object _) => some (.inr (.inl (some (.ref v), h)))
      | _ => none
    | _ => none
  | .return_ => match st with
    | [] => match (lm_m f).2.2.2.2.1 with
      | none => some (.inr (.inl (none, h)))
      | some _ => none
    | _ => none
  | _ => none
noncomputable def lm_st (f pc : Nat) (ls st : List Value) (h : lm_H) : Option lm_R := match (lm_m f).2.2.2.2.2.1.lookup pc with
  | some (i, _) => lm_i f (lm_m f).1 pc i ls st h
  | none => none
def lm_exp : List Value → List Value
  | [] => []
  | v :: r => if v.category = 2 then v :: lm_jk :: lm_exp r else v :: lm_exp r
def lm_ini (n : Nat) (as : List Value) : List Value := lm_exp as ++ List.replicate (n - (lm_exp as).length) lm_jk
/-- n: steps, d: how deep calls may go -/
noncomputable def lm_ex : Nat → Nat → Nat → Nat → List Value → List Value → lm_H → Option (Option Value × lm_H)
  | 0, _, _, _, _, _, _ => none
  | n + 1, d, f, pc, ls, st, h => match lm_st f pc ls st h with
    | none => none
    | some (.inl q) => lm_ex n d f q.1 q.2.1 q.2.2.1 q.2.2.2
    | some (.inr (.inl r)) => some r
    | some (.inr (.inr q)) => match d with
      | 0 => none
      | e + 1 => if (lm_exp q.2.1).length ≤ (lm_m q.1).2.2.2.1 then (match lm_ex n e q.1 0 (lm_ini (lm_m q.1).2.2.2.1 q.2.1) [] q.2.2.2.2 with
        | some r => lm_ex n (e + 1) f q.2.2.1 ls (r.1.toList ++ q.2.2.2.1) r.2
        | none => none) else none
/-- the instructions' own lengths -/
def lm_len (i : Instr) : Nat := match i with
  | .bipush _ | .ldc _ | .iload _ | .lload _ | .aload _ | .istore _ | .lstore _ | .astore _ | .newarray _ => 2
  | .sipush _ | .ldc_w _ | .ldc2_w _ | .getstatic _ | .iinc _ _ | .goto _ | .if_icmp _ _ | .ifCond _ _ | .ifnonnull _ | .getfield _ | .putfield _ | .new _ | .anewarray _ | .invokevirtual _ | .invokestatic _ | .invokespecial _ => 3
  | .multianewarray _ _ => 4
  | _ => 1
def lm_lok (q : Nat × Instr × Nat) : Bool := match q.2.1 with
  | .tableswitch .. | .lookupswitch .. => true
  | i => q.2.2 == lm_len i
end
section
def lm_virt : List Nat := [2, 3, 4, 5, 6, 7, 10, 11, 12, 13, 14, 20, 21, 22, 23, 24, 25, 26, 27, 37, 38, 39, 41, 42, 43, 44, 45, 46, 47, 48, 49, 50, 51, 53, 54, 55, 56, 57, 58, 59, 60, 61, 62, 63, 64, 65, 67, 68, 69, 70, 72, 73, 78, 79, 80, 81, 82, 83, 84, 85, 86, 87, 88, 89, 90, 91, 92, 93, 94, 95, 96, 97, 98, 99, 100, 101, 102, 103, 104, 105, 106, 107, 108, 109, 110, 111, 112, 113, 114, 115, 116, 117, 118, 119, 120, 121, 122, 123, 124, 125, 126, 127, 128, 129, 130, 132, 134, 137, 139, 140, 141, 142, 143, 144, 145, 146, 148, 149, 150, 151, 152, 153, 154, 155, 156, 159, 160, 161, 162, 163, 164, 165, 166, 167, 168, 169, 170, 171, 172, 173, 174, 175, 176, 177, 178, 179, 180, 181, 182, 183, 184, 185, 186, 187, 188, 189, 190, 191, 192, 193, 194, 195, 196, 197, 199, 200, 201, 202, 203, 204, 205, 206, 207, 208, 209, 210, 211, 212, 213, 214, 215, 216, 217, 218, 219, 220, 222, 223, 224, 225, 227, 228, 229, 230]
def lm_stat : List Nat := [9, 15, 16, 17, 18, 28, 29, 30, 31, 32, 33, 34, 35, 40, 74, 75, 76, 77, 133, 135, 136, 138, 147, 157, 158, 198, 221, 226, 231, 232, 233]
theorem lm_tk1 {w : Jvm.Cond} (h : w ∈ tables_1_1) : w ∈ lw_tbl := List.mem_append_right _ (show w ∈ tables_1 from List.mem_append_left _ h)
theorem lm_tk2 {w : Jvm.Cond} (h : w ∈ tables_1_2) : w ∈ lw_tbl := List.mem_append_right _ (show w ∈ tables_1 from List.mem_append_right _ (List.mem_append_left _ h))
theorem lm_tk3 {w : Jvm.Cond} (h : w ∈ tables_1_3) : w ∈ lw_tbl := List.mem_append_right _ (show w ∈ tables_1 from List.mem_append_right _ (List.mem_append_right _ (List.mem_append_left _ h)))
theorem lm_tk4 {w : Jvm.Cond} (h : w ∈ tables_1_4) : w ∈ lw_tbl := List.mem_append_right _ (show w ∈ tables_1 from List.mem_append_right _ (List.mem_append_right _ (List.mem_append_right _ (List.mem_append_left _ h))))
theorem lm_tk5 {w : Jvm.Cond} (h : w ∈ tables_1_5) : w ∈ lw_tbl := List.mem_append_right _ (show w ∈ tables_1 from List.mem_append_right _ (List.mem_append_right _ (List.mem_append_right _ (List.mem_append_right _ (List.mem_append_left _ h)))))
theorem lm_tk6 {w : Jvm.Cond} (h : w ∈ tables_1_6) : w ∈ lw_tbl := List.mem_append_right _ (show w ∈ tables_1 from List.mem_append_right _ (List.mem_append_right _ (List.mem_append_right _ (List.mem_append_right _ (List.mem_append_right _ (h))))))
set_option maxRecDepth 100000 in
theorem lm_cw1 : Cond.code yX0_init cX0_init 2 none ∈ lw_tbl := lm_tk1 (List.mem_of_getElem? (i := 140) rfl)
set_option maxRecDepth 100000 in
theorem lm_cw2 : Cond.code yX0_firstAct cX0_firstAct 3 (some .int) ∈ lw_tbl := lm_tk2 (List.mem_of_getElem? (i := 155) rfl)
set_option maxRecDepth 100000 in
theorem lm_cw3 : Cond.code yX0_gainOf cX0_gainOf 4 (some .int) ∈ lw_tbl := lm_tk4 (List.mem_of_getElem? (i := 24) rfl)
set_option maxRecDepth 100000 in
theorem lm_cw4 : Cond.code yX0_forgetIfChanged cX0_forgetIfChanged 1 none ∈ lw_tbl := lm_tk2 (List.mem_of_getElem? (i := 159) rfl)
set_option maxRecDepth 100000 in
theorem lm_cw5 : Cond.code yX0_gainAt cX0_gainAt 3 (some .int) ∈ lw_tbl := lm_tk2 (List.mem_of_getElem? (i := 184) rfl)
set_option maxRecDepth 100000 in
theorem lm_cw6 : Cond.code yX0_placeOf cX0_placeOf 5 (some .int) ∈ lw_tbl := lm_tk2 (List.mem_of_getElem? (i := 166) rfl)
set_option maxRecDepth 100000 in
theorem lm_cw7 : Cond.code yX0_workOut cX0_workOut 13 none ∈ lw_tbl := lm_tk2 (List.mem_of_getElem? (i := 171) rfl)
set_option maxRecDepth 100000 in
theorem lm_cw8 : Cond.code yX1_init cX1_init 3 none ∈ lw_tbl := lm_tk1 (List.mem_of_getElem? (i := 165) rfl)
set_option maxRecDepth 100000 in
theorem lm_cw9 : Cond.code yX1_isUnder cX1_isUnder 4 (some .boolean) ∈ lw_tbl := lm_tk2 (List.mem_of_getElem? (i := 105) rfl)
set_option maxRecDepth 100000 in
theorem lm_cw10 : Cond.code yX1_choose cX1_choose 3 (some .int) ∈ lw_tbl := lm_tk2 (List.mem_of_getElem? (i := 111) rfl)
set_option maxRecDepth 100000 in
theorem lm_cw11 : Cond.code yX1_mostToday cX1_mostToday 9 (some .int) ∈ lw_tbl := lm_tk2 (List.mem_of_getElem? (i := 116) rfl)
set_option maxRecDepth 100000 in
theorem lm_cw12 : Cond.code yX1_isContent cX1_isContent 3 (some .boolean) ∈ lw_tbl := lm_tk2 (List.mem_of_getElem? (i := 188) rfl)
set_option maxRecDepth 100000 in
theorem lm_cw13 : Cond.code yX1_ownUnlessIdle cX1_ownUnlessIdle 6 (some .int) ∈ lw_tbl := lm_tk2 (List.mem_of_getElem? (i := 192) rfl)
set_option maxRecDepth 100000 in
theorem lm_cw14 : Cond.code yX1_firstAllowed cX1_firstAllowed 3 (some .int) ∈ lw_tbl := lm_tk2 (List.mem_of_getElem? (i := 196) rfl)
set_option maxRecDepth 100000 in
theorem lm_cw15 : Cond.code yX2_mostAgainst cX2_mostAgainst 12 (some .int) ∈ lw_tbl := lm_tk4 (List.mem_of_getElem? (i := 32) rfl)
set_option maxRecDepth 100000 in
theorem lm_cw16 : Cond.code yX2_mostOfBoth cX2_mostOfBoth 8 (some .int) ∈ lw_tbl := lm_tk4 (List.mem_of_getElem? (i := 50) rfl)
set_option maxRecDepth 100000 in
theorem lm_cw17 : Cond.code yX2_canStand cX2_canStand 8 (some .boolean) ∈ lw_tbl := lm_tk4 (List.mem_of_getElem? (i := 62) rfl)
set_option maxRecDepth 100000 in
theorem lm_cw18 : Cond.code yX2_marksWithin cX2_marksWithin 6 (some .int) ∈ lw_tbl := lm_tk4 (List.mem_of_getElem? (i := 70) rfl)
set_option maxRecDepth 100000 in
theorem lm_cw19 : Cond.code yX3_init cX3_init 1 none ∈ lw_tbl := lm_tk1 (List.mem_of_getElem? (i := 206) rfl)
set_option maxRecDepth 100000 in
theorem lm_cw20 : Cond.code yX3_isRow cX3_isRow 1 (some .boolean) ∈ lw_tbl := lm_tk2 (List.mem_of_getElem? (i := 55) rfl)
set_option maxRecDepth 100000 in
theorem lm_cw21 : Cond.code yX3_isRule cX3_isRule 1 (some .boolean) ∈ lw_tbl := lm_tk2 (List.mem_of_getElem? (i := 51) rfl)
set_option maxRecDepth 100000 in
theorem lm_cw22 : Cond.code yX3_ruleKind cX3_ruleKind 1 (some .int) ∈ lw_tbl := lm_tk2 (List.mem_of_getElem? (i := 102) rfl)
set_option maxRecDepth 100000 in
theorem lm_cw23 : Cond.code yX3_takeRow cX3_takeRow 3 none ∈ lw_tbl := lm_tk2 (List.mem_of_getElem? (i := 36) rfl)
set_option maxRecDepth 100000 in
theorem lm_cw24 : Cond.code yX3_takeRule cX3_takeRule 3 none ∈ lw_tbl := lm_tk2 (List.mem_of_getElem? (i := 90) rfl)
set_option maxRecDepth 100000 in
theorem lm_cw25 : Cond.code yX3_hasCell cX3_hasCell 2 (some .boolean) ∈ lw_tbl := lm_tk2 (List.mem_of_getElem? (i := 59) rfl)
set_option maxRecDepth 100000 in
theorem lm_cw26 : Cond.code yX3_hasCells cX3_hasCells 3 (some .boolean) ∈ lw_tbl := lm_tk2 (List.mem_of_getElem? (i := 71) rfl)
set_option maxRecDepth 100000 in
theorem lm_cw27 : Cond.code yX3_put cX3_put 4 none ∈ lw_tbl := lm_tk2 (List.mem_of_getElem? (i := 63) rfl)
set_option maxRecDepth 100000 in
theorem lm_cw28 : Cond.code yX4_marksIn cX4_marksIn 1 (some .int) ∈ lw_tbl := lm_tk3 (List.mem_of_getElem? (i := 169) rfl)
set_option maxRecDepth 100000 in
theorem lm_cw29 : Cond.code yX4_isStanding cX4_isStanding 2 (some .boolean) ∈ lw_tbl := lm_tk2 (List.mem_of_getElem? (i := 131) rfl)
set_option maxRecDepth 100000 in
theorem lm_cw30 : Cond.code yX4_turned cX4_turned 2 (some .int) ∈ lw_tbl := lm_tk2 (List.mem_of_getElem? (i := 141) rfl)
set_option maxRecDepth 100000 in
theorem lm_cw31 : Cond.code yX4_countIn cX4_countIn 2 (some .int) ∈ lw_tbl := lm_tk2 (List.mem_of_getElem? (i := 134) rfl)
set_option maxRecDepth 100000 in
theorem lm_cw32 : Cond.code yX4_withCount cX4_withCount 4 (some .int) ∈ lw_tbl := lm_tk2 (List.mem_of_getElem? (i := 144) rfl)
set_option maxRecDepth 100000 in
theorem lm_cw33 : Cond.code yX4_allCountsIn cX4_allCountsIn 3 (some .int) ∈ lw_tbl := lm_tk4 (List.mem_of_getElem? (i := 142) rfl)
set_option maxRecDepth 100000 in
theorem lm_cw34 : Cond.code yX4_awakeIn cX4_awakeIn 1 (some .int) ∈ lw_tbl := lm_tk2 (List.mem_of_getElem? (i := 119) rfl)
set_option maxRecDepth 100000 in
theorem lm_cw35 : Cond.code yX4_nextDay cX4_nextDay 1 (some .int) ∈ lw_tbl := lm_tk2 (List.mem_of_getElem? (i := 179) rfl)
set_option maxRecDepth 100000 in
theorem lm_cw36 : Cond.code yX5_init cX5_init 1 none ∈ lw_tbl := lm_tk1 (List.mem_of_getElem? (i := 114) rfl)
set_option maxRecDepth 100000 in
theorem lm_cw37 : Cond.code yX5_add cX5_add 2 none ∈ lw_tbl := lm_tk3 (List.mem_of_getElem? (i := 16) rfl)
set_option maxRecDepth 100000 in
theorem lm_cw38 : Cond.code yX5_readInto cX5_readInto 3 (some .int) ∈ lw_tbl := lm_tk3 (List.mem_of_getElem? (i := 33) rfl)
set_option maxRecDepth 100000 in
theorem lm_cw39 : Cond.code yX5_advance cX5_advance 2 none ∈ lw_tbl := lm_tk3 (List.mem_of_getElem? (i := 37) rfl)
set_option maxRecDepth 100000 in
theorem lm_cw40 : Cond.code yX5_sortOf cX5_sortOf 1 (some .int) ∈ lw_tbl := lm_tk3 (List.mem_of_getElem? (i := 40) rfl)
set_option maxRecDepth 100000 in
theorem lm_cw41 : Cond.code yX5_isWord cX5_isWord 3 (some .boolean) ∈ lw_tbl := lm_tk3 (List.mem_of_getElem? (i := 49) rfl)
set_option maxRecDepth 100000 in
theorem lm_cw42 : Cond.code yX5_takeNumber cX5_takeNumber 5 (some .int) ∈ lw_tbl := lm_tk3 (List.mem_of_getElem? (i := 106) rfl)
set_option maxRecDepth 100000 in
theorem lm_cw43 : Cond.code yX5_readStatement cX5_readStatement 2 (some .boolean) ∈ lw_tbl := lm_tk3 (List.mem_of_getElem? (i := 44) rfl)
set_option maxRecDepth 100000 in
theorem lm_cw44 : Cond.code yX5_readAct cX5_readAct 8 (some .boolean) ∈ lw_tbl := lm_tk3 (List.mem_of_getElem? (i := 101) rfl)
set_option maxRecDepth 100000 in
theorem lm_cw45 : Cond.code yX5_takeMarksBehind cX5_takeMarksBehind 5 (some .int) ∈ lw_tbl := lm_tk3 (List.mem_of_getElem? (i := 111) rfl)
set_option maxRecDepth 100000 in
theorem lm_cw46 : Cond.code yX5_readMark cX5_readMark 3 (some .boolean) ∈ lw_tbl := lm_tk3 (List.mem_of_getElem? (i := 118) rfl)
set_option maxRecDepth 100000 in
theorem lm_cw47 : Cond.code yX5_readCount cX5_readCount 4 (some .boolean) ∈ lw_tbl := lm_tk3 (List.mem_of_getElem? (i := 123) rfl)
set_option maxRecDepth 100000 in
theorem lm_cw48 : Cond.code yX5_readMarkWorth cX5_readMarkWorth 6 (some .boolean) ∈ lw_tbl := lm_tk3 (List.mem_of_getElem? (i := 129) rfl)
set_option maxRecDepth 100000 in
theorem lm_cw49 : Cond.code yX5_readCountWorth cX5_readCountWorth 6 (some .boolean) ∈ lw_tbl := lm_tk3 (List.mem_of_getElem? (i := 136) rfl)
set_option maxRecDepth 100000 in
theorem lm_cw50 : Cond.code yX5_readHidden cX5_readHidden 3 (some .boolean) ∈ lw_tbl := lm_tk3 (List.mem_of_getElem? (i := 142) rfl)
set_option maxRecDepth 100000 in
theorem lm_cw51 : Cond.code yX5_readLock cX5_readLock 4 (some .boolean) ∈ lw_tbl := lm_tk3 (List.mem_of_getElem? (i := 147) rfl)
set_option maxRecDepth 100000 in
theorem lm_cw52 : Cond.code yX6_init cX6_init 1 none ∈ lw_tbl := lm_tk1 (List.mem_of_getElem? (i := 31) rfl)
set_option maxRecDepth 100000 in
theorem lm_cw53 : Cond.code yX6_become cX6_become 2 none ∈ lw_tbl := lm_tk3 (List.mem_of_getElem? (i := 28) rfl)
set_option maxRecDepth 100000 in
theorem lm_cw54 : Cond.code yX6_isFull cX6_isFull 1 (some .boolean) ∈ lw_tbl := lm_tk2 (List.mem_of_getElem? (i := 204) rfl)
set_option maxRecDepth 100000 in
theorem lm_cw55 : Cond.code yX6_addAct cX6_addAct 8 (some .int) ∈ lw_tbl := lm_tk2 (List.mem_of_getElem? (i := 208) rfl)
set_option maxRecDepth 100000 in
theorem lm_cw56 : Cond.code yX6_setWorth cX6_setWorth 4 none ∈ lw_tbl := lm_tk2 (List.mem_of_getElem? (i := 231) rfl)
set_option maxRecDepth 100000 in
theorem lm_cw57 : Cond.code yX6_isLocked cX6_isLocked 3 (some .boolean) ∈ lw_tbl := lm_tk2 (List.mem_of_getElem? (i := 128) rfl)
set_option maxRecDepth 100000 in
theorem lm_cw58 : Cond.code yX6_setLocked cX6_setLocked 5 none ∈ lw_tbl := lm_tk3 (List.mem_of_getElem? (i := 4) rfl)
set_option maxRecDepth 100000 in
theorem lm_cw59 : Cond.code yX6_lockedActs cX6_lockedActs 3 (some .int) ∈ lw_tbl := lm_tk4 (List.mem_of_getElem? (i := 147) rfl)
set_option maxRecDepth 100000 in
theorem lm_cw60 : Cond.code yX6_allows cX6_allows 6 (some .boolean) ∈ lw_tbl := lm_tk2 (List.mem_of_getElem? (i := 124) rfl)
set_option maxRecDepth 100000 in
theorem lm_cw61 : Cond.code yX6_after cX6_after 5 (some .int) ∈ lw_tbl := lm_tk2 (List.mem_of_getElem? (i := 138) rfl)
set_option maxRecDepth 100000 in
theorem lm_cw62 : Cond.code yX6_valueTo cX6_valueTo 6 (some .int) ∈ lw_tbl := lm_tk2 (List.mem_of_getElem? (i := 151) rfl)
set_option maxRecDepth 100000 in
theorem lm_cw63 : Cond.code yX6_live cX6_live 3 none ∈ lw_tbl := lm_tk3 (List.mem_of_getElem? (i := 197) rfl)
set_option maxRecDepth 100000 in
theorem lm_cw64 : Cond.code yX6_likelyActs cX6_likelyActs 7 (some .int) ∈ lw_tbl := lm_tk4 (List.mem_of_getElem? (i := 80) rfl)
set_option maxRecDepth 100000 in
theorem lm_cw65 : Cond.code yX6_drawMark cX6_drawMark 1 (some .int) ∈ lw_tbl := lm_tk4 (List.mem_of_getElem? (i := 122) rfl)
set_option maxRecDepth 100000 in
theorem lm_cw66 : Cond.code yX7_init cX7_init 3 none ∈ lw_tbl := lm_tk1 (List.mem_of_getElem? (i := 178) rfl)
set_option maxRecDepth 100000 in
theorem lm_cw67 : Cond.code yX7_goByRules cX7_goByRules 6 none ∈ lw_tbl := lm_tk3 (List.mem_of_getElem? (i := 213) rfl)
set_option maxRecDepth 100000 in
theorem lm_cw68 : Cond.code yX7_goByRow cX7_goByRow 7 (some .int) ∈ lw_tbl := lm_tk4 (List.mem_of_getElem? (i := 8) rfl)
set_option maxRecDepth 100000 in
theorem lm_cw69 : Cond.code yX7_begin cX7_begin 1 none ∈ lw_tbl := lm_tk3 (List.mem_of_getElem? (i := 217) rfl)
set_option maxRecDepth 100000 in
theorem lm_cw70 : Cond.code yX7_go cX7_go 3 none ∈ lw_tbl := lm_tk3 (List.mem_of_getElem? (i := 224) rfl)
set_option maxRecDepth 100000 in
theorem lm_cw71 : Cond.code yX8_init cX8_init 2 none ∈ lw_tbl := lm_tk1 (List.mem_of_getElem? (i := 23) rfl)
set_option maxRecDepth 100000 in
theorem lm_cw72 : Cond.code yX8_refuse cX8_refuse 2 (some .int) ∈ lw_tbl := lm_tk2 (List.mem_of_getElem? (i := 32) rfl)
set_option maxRecDepth 100000 in
theorem lm_cw73 : Cond.code yX8_refuseGain cX8_refuseGain 2 (some .int) ∈ lw_tbl := lm_tk3 (List.mem_of_getElem? (i := 161) rfl)
set_option maxRecDepth 100000 in
theorem lm_cw74 : Cond.code yX8_isWithin cX8_isWithin 3 (some .boolean) ∈ lw_tbl := lm_tk2 (List.mem_of_getElem? (i := 28) rfl)
set_option maxRecDepth 100000 in
theorem lm_cw75 : Cond.code yX8_isShelf cX8_isShelf 1 (some .boolean) ∈ lw_tbl := lm_tk2 (List.mem_of_getElem? (i := 25) rfl)
set_option maxRecDepth 100000 in
theorem lm_cw76 : Cond.code yX8_isHalf cX8_isHalf 1 (some .boolean) ∈ lw_tbl := lm_tk2 (List.mem_of_getElem? (i := 227) rfl)
set_option maxRecDepth 100000 in
theorem lm_cw77 : Cond.code yX8_isAhead cX8_isAhead 1 (some .boolean) ∈ lw_tbl := lm_tk4 (List.mem_of_getElem? (i := 20) rfl)
set_option maxRecDepth 100000 in
theorem lm_cw78 : Cond.code yX8_isAct cX8_isAct 2 (some .boolean) ∈ lw_tbl := lm_tk2 (List.mem_of_getElem? (i := 239) rfl)
set_option maxRecDepth 100000 in
theorem lm_cw79 : Cond.code yX8_isActOrNone cX8_isActOrNone 2 (some .boolean) ∈ lw_tbl := lm_tk3 (List.mem_of_getElem? (i := 188) rfl)
set_option maxRecDepth 100000 in
theorem lm_cw80 : Cond.code yX8_lackOfRules cX8_lackOfRules 3 (some .int) ∈ lw_tbl := lm_tk2 (List.mem_of_getElem? (i := 98) rfl)
set_option maxRecDepth 100000 in
theorem lm_cw81 : Cond.code yX8_lackOfRow cX8_lackOfRow 3 (some .int) ∈ lw_tbl := lm_tk2 (List.mem_of_getElem? (i := 47) rfl)
set_option maxRecDepth 100000 in
theorem lm_cw82 : Cond.code yX8_row cX8_row 4 (some .int) ∈ lw_tbl := lm_tk2 (List.mem_of_getElem? (i := 22) rfl)
set_option maxRecDepth 100000 in
theorem lm_cw83 : Cond.code yX8_set cX8_set 6 (some .int) ∈ lw_tbl := lm_tk2 (List.mem_of_getElem? (i := 43) rfl)
set_option maxRecDepth 100000 in
theorem lm_cw84 : Cond.code yX8_copy cX8_copy 9 (some .int) ∈ lw_tbl := lm_tk2 (List.mem_of_getElem? (i := 67) rfl)
set_option maxRecDepth 100000 in
theorem lm_cw85 : Cond.code yX8_element cX8_element 3 (some .long) ∈ lw_tbl := lm_tk2 (List.mem_of_getElem? (i := 78) rfl)
set_option maxRecDepth 100000 in
theorem lm_cw86 : Cond.code yX8_holds cX8_holds 2 (some .int) ∈ lw_tbl := lm_tk2 (List.mem_of_getElem? (i := 82) rfl)
set_option maxRecDepth 100000 in
theorem lm_cw87 : Cond.code yX8_rule cX8_rule 4 (some .int) ∈ lw_tbl := lm_tk2 (List.mem_of_getElem? (i := 86) rfl)
set_option maxRecDepth 100000 in
theorem lm_cw88 : Cond.code yX8_says cX8_says 5 (some .int) ∈ lw_tbl := lm_tk2 (List.mem_of_getElem? (i := 94) rfl)
set_option maxRecDepth 100000 in
theorem lm_cw89 : Cond.code yX8_act cX8_act 9 (some .int) ∈ lw_tbl := lm_tk2 (List.mem_of_getElem? (i := 200) rfl)
set_option maxRecDepth 100000 in
theorem lm_cw90 : Cond.code yX8_mark cX8_mark 3 (some .int) ∈ lw_tbl := lm_tk2 (List.mem_of_getElem? (i := 212) rfl)
set_option maxRecDepth 100000 in
theorem lm_cw91 : Cond.code yX8_count cX8_count 4 (some .int) ∈ lw_tbl := lm_tk2 (List.mem_of_getElem? (i := 218) rfl)
set_option maxRecDepth 100000 in
theorem lm_cw92 : Cond.code yX8_likes cX8_likes 5 (some .int) ∈ lw_tbl := lm_tk2 (List.mem_of_getElem? (i := 224) rfl)
set_option maxRecDepth 100000 in
theorem lm_cw93 : Cond.code yX8_lock cX8_lock 4 (some .int) ∈ lw_tbl := lm_tk2 (List.mem_of_getElem? (i := 235) rfl)
set_option maxRecDepth 100000 in
theorem lm_cw94 : Cond.code yX8_hide cX8_hide 3 (some .int) ∈ lw_tbl := lm_tk3 (List.mem_of_getElem? (i := 8) rfl)
set_option maxRecDepth 100000 in
theorem lm_cw95 : Cond.code yX8_feed cX8_feed 2 (some .int) ∈ lw_tbl := lm_tk3 (List.mem_of_getElem? (i := 12) rfl)
set_option maxRecDepth 100000 in
theorem lm_cw96 : Cond.code yX8_wipe cX8_wipe 2 (some .int) ∈ lw_tbl := lm_tk3 (List.mem_of_getElem? (i := 20) rfl)
set_option maxRecDepth 100000 in
theorem lm_cw97 : Cond.code yX8_town cX8_town 3 (some .int) ∈ lw_tbl := lm_tk3 (List.mem_of_getElem? (i := 24) rfl)
set_option maxRecDepth 100000 in
theorem lm_cw98 : Cond.code yX8_actOf cX8_actOf 3 (some .int) ∈ lw_tbl := lm_tk3 (List.mem_of_getElem? (i := 153) rfl)
set_option maxRecDepth 100000 in
theorem lm_cw99 : Cond.code yX8_worthOf cX8_worthOf 3 (some .int) ∈ lw_tbl := lm_tk3 (List.mem_of_getElem? (i := 157) rfl)
set_option maxRecDepth 100000 in
theorem lm_cw100 : Cond.code yX8_stands cX8_stands 2 (some .int) ∈ lw_tbl := lm_tk3 (List.mem_of_getElem? (i := 166) rfl)
set_option maxRecDepth 100000 in
theorem lm_cw101 : Cond.code yX8_can cX8_can 4 (some .int) ∈ lw_tbl := lm_tk3 (List.mem_of_getElem? (i := 174) rfl)
set_option maxRecDepth 100000 in
theorem lm_cw102 : Cond.code yX8_value cX8_value 2 (some .int) ∈ lw_tbl := lm_tk3 (List.mem_of_getElem? (i := 179) rfl)
set_option maxRecDepth 100000 in
theorem lm_cw103 : Cond.code yX8_gain cX8_gain 3 (some .int) ∈ lw_tbl := lm_tk3 (List.mem_of_getElem? (i := 184) rfl)
set_option maxRecDepth 100000 in
theorem lm_cw104 : Cond.code yX8_does cX8_does 2 (some .int) ∈ lw_tbl := lm_tk3 (List.mem_of_getElem? (i := 193) rfl)
set_option maxRecDepth 100000 in
theorem lm_cw105 : Cond.code yX8_next cX8_next 3 (some .int) ∈ lw_tbl := lm_tk3 (List.mem_of_getElem? (i := 205) rfl)
set_option maxRecDepth 100000 in
theorem lm_cw106 : Cond.code yX8_run cX8_run 7 (some .int) ∈ lw_tbl := lm_tk3 (List.mem_of_getElem? (i := 209) rfl)
set_option maxRecDepth 100000 in
theorem lm_cw107 : Cond.code yX8_head cX8_head 8 (some .int) ∈ lw_tbl := lm_tk3 (List.mem_of_getElem? (i := 231) rfl)
set_option maxRecDepth 100000 in
theorem lm_cw108 : Cond.code yX8_days cX8_days 7 (some .int) ∈ lw_tbl := lm_tk3 (List.mem_of_getElem? (i := 236) rfl)
set_option maxRecDepth 100000 in
theorem lm_cw109 : Cond.code yX8_gained cX8_gained 2 (some .int) ∈ lw_tbl := lm_tk4 (List.mem_of_getElem? (i := 0) rfl)
set_option maxRecDepth 100000 in
theorem lm_cw110 : Cond.code yX8_judge cX8_judge 4 (some .int) ∈ lw_tbl := lm_tk4 (List.mem_of_getElem? (i := 4) rfl)
set_option maxRecDepth 100000 in
theorem lm_cw111 : Cond.code yX8_told cX8_told 5 (some .int) ∈ lw_tbl := lm_tk4 (List.mem_of_getElem? (i := 13) rfl)
set_option maxRecDepth 100000 in
theorem lm_cw112 : Cond.code yX8_best cX8_best 3 (some .int) ∈ lw_tbl := lm_tk4 (List.mem_of_getElem? (i := 17) rfl)
set_option maxRecDepth 100000 in
theorem lm_cw113 : Cond.code yX8_against cX8_against 4 (some .int) ∈ lw_tbl := lm_tk4 (List.mem_of_getElem? (i := 29) rfl)
set_option maxRecDepth 100000 in
theorem lm_cw114 : Cond.code yX8_together cX8_together 2 (some .int) ∈ lw_tbl := lm_tk4 (List.mem_of_getElem? (i := 47) rfl)
set_option maxRecDepth 100000 in
theorem lm_cw115 : Cond.code yX8_harm cX8_harm 3 (some .int) ∈ lw_tbl := lm_tk4 (List.mem_of_getElem? (i := 55) rfl)
set_option maxRecDepth 100000 in
theorem lm_cw116 : Cond.code yX8_work cX8_work 5 (some .int) ∈ lw_tbl := lm_tk4 (List.mem_of_getElem? (i := 59) rfl)
set_option maxRecDepth 100000 in
theorem lm_cw117 : Cond.code yX8_reach cX8_reach 2 (some .int) ∈ lw_tbl := lm_tk4 (List.mem_of_getElem? (i := 67) rfl)
set_option maxRecDepth 100000 in
theorem lm_cw118 : Cond.code yX8_found cX8_found 1 (some .int) ∈ lw_tbl := lm_tk4 (List.mem_of_getElem? (i := 76) rfl)
set_option maxRecDepth 100000 in
theorem lm_cw119 : Cond.code yX8_say cX8_say 9 (some .int) ∈ lw_tbl := lm_tk4 (List.mem_of_getElem? (i := 85) rfl)
set_option maxRecDepth 100000 in
theorem lm_cw120 : Cond.code yX8_locking cX8_locking 4 (some .int) ∈ lw_tbl := lm_tk4 (List.mem_of_getElem? (i := 97) rfl)
set_option maxRecDepth 100000 in
theorem lm_cw121 : Cond.code yX8_gainsWithLock cX8_gainsWithLock 5 (some .int) ∈ lw_tbl := lm_tk4 (List.mem_of_getElem? (i := 101) rfl)
set_option maxRecDepth 100000 in
theorem lm_cw122 : Cond.code yX8_which cX8_which 7 (some .int) ∈ lw_tbl := lm_tk4 (List.mem_of_getElem? (i := 105) rfl)
set_option maxRecDepth 100000 in
theorem lm_cw123 : Cond.code yX8_up cX8_up 6 (some .int) ∈ lw_tbl := lm_tk4 (List.mem_of_getElem? (i := 109) rfl)
set_option maxRecDepth 100000 in
theorem lm_cw124 : Cond.code yX8_pact cX8_pact 8 (some .int) ∈ lw_tbl := lm_tk4 (List.mem_of_getElem? (i := 114) rfl)
set_option maxRecDepth 100000 in
theorem lm_cw125 : Cond.code yX8_leap cX8_leap 2 (some .int) ∈ lw_tbl := lm_tk4 (List.mem_of_getElem? (i := 118) rfl)
set_option maxRecDepth 100000 in
theorem lm_cw126 : Cond.code yX8_seed cX8_seed 3 (some .int) ∈ lw_tbl := lm_tk4 (List.mem_of_getElem? (i := 127) rfl)
set_option maxRecDepth 100000 in
theorem lm_cw127 : Cond.code yX8_image cX8_image 1 (some .int) ∈ lw_tbl := lm_tk4 (List.mem_of_getElem? (i := 131) rfl)
set_option maxRecDepth 100000 in
theorem lm_cw128 : Cond.code yX8_back cX8_back 1 (some .int) ∈ lw_tbl := lm_tk4 (List.mem_of_getElem? (i := 135) rfl)
set_option maxRecDepth 100000 in
theorem lm_cw129 : Cond.code yX8_status cX8_status 2 (some .int) ∈ lw_tbl := lm_tk4 (List.mem_of_getElem? (i := 139) rfl)
set_option maxRecDepth 100000 in
theorem lm_cw130 : Cond.code yX8_filledShelves cX8_filledShelves 3 (some .int) ∈ lw_tbl := lm_tk4 (List.mem_of_getElem? (i := 151) rfl)
set_option maxRecDepth 100000 in
theorem lm_cw131 : Cond.code yX9_init cX9_init 1 none ∈ lw_tbl := lm_tk4 (List.mem_of_getElem? (i := 156) rfl)
set_option maxRecDepth 100000 in
theorem lm_cw132 : Cond.code yX9_refuse cX9_refuse 2 (some .int) ∈ lw_tbl := lm_tk5 (List.mem_of_getElem? (i := 44) rfl)
set_option maxRecDepth 100000 in
theorem lm_cw133 : Cond.code yX9_in cX9_in 6 (some .boolean) ∈ lw_tbl := lm_tk5 (List.mem_of_getElem? (i := 38) rfl)
set_option maxRecDepth 100000 in
theorem lm_cw134 : Cond.code yX9_isAct cX9_isAct 3 (some .boolean) ∈ lw_tbl := lm_tk5 (List.mem_of_getElem? (i := 152) rfl)
set_option maxRecDepth 100000 in
theorem lm_cw135 : Cond.code yX9_has cX9_has 2 (some .boolean) ∈ lw_tbl := lm_tk5 (List.mem_of_getElem? (i := 108) rfl)
set_option maxRecDepth 100000 in
theorem lm_cw136 : Cond.code yX9_bits cX9_bits 3 (some .int) ∈ lw_tbl := lm_tk6 (List.mem_of_getElem? (i := 146) rfl)
set_option maxRecDepth 100000 in
theorem lm_cw137 : Cond.code yX9_row cX9_row 5 (some .int) ∈ lw_tbl := lm_tk5 (List.mem_of_getElem? (i := 34) rfl)
set_option maxRecDepth 100000 in
theorem lm_cw138 : Cond.code yX9_fit cX9_fit 3 (some .long) ∈ lw_tbl := lm_tk5 (List.mem_of_getElem? (i := 55) rfl)
set_option maxRecDepth 100000 in
theorem lm_cw139 : Cond.code yX9_noRow cX9_noRow 2 (some .int) ∈ lw_tbl := lm_tk5 (List.mem_of_getElem? (i := 52) rfl)
set_option maxRecDepth 100000 in
theorem lm_cw140 : Cond.code yX9_noRule cX9_noRule 2 (some .int) ∈ lw_tbl := lm_tk6 (List.mem_of_getElem? (i := 39) rfl)
set_option maxRecDepth 100000 in
theorem lm_cw141 : Cond.code yX9_noRules cX9_noRules 3 (some .int) ∈ lw_tbl := lm_tk6 (List.mem_of_getElem? (i := 48) rfl)
set_option maxRecDepth 100000 in
theorem lm_cw142 : Cond.code yX9_set cX9_set 6 (some .int) ∈ lw_tbl := lm_tk5 (List.mem_of_getElem? (i := 48) rfl)
set_option maxRecDepth 100000 in
theorem lm_cw143 : Cond.code yX9_copy cX9_copy 7 (some .int) ∈ lw_tbl := lm_tk5 (List.mem_of_getElem? (i := 59) rfl)
set_option maxRecDepth 100000 in
theorem lm_cw144 : Cond.code yX9_element cX9_element 3 (some .long) ∈ lw_tbl := lm_tk5 (List.mem_of_getElem? (i := 63) rfl)
set_option maxRecDepth 100000 in
theorem lm_cw145 : Cond.code yX9_holds cX9_holds 2 (some .int) ∈ lw_tbl := lm_tk5 (List.mem_of_getElem? (i := 67) rfl)
set_option maxRecDepth 100000 in
theorem lm_cw146 : Cond.code yX9_rule cX9_rule 4 (some .int) ∈ lw_tbl := lm_tk5 (List.mem_of_getElem? (i := 71) rfl)
set_option maxRecDepth 100000 in
theorem lm_cw147 : Cond.code yX9_isUnder cX9_isUnder 2 (some .boolean) ∈ lw_tbl := lm_tk5 (List.mem_of_getElem? (i := 80) rfl)
set_option maxRecDepth 100000 in
theorem lm_cw148 : Cond.code yX9_says cX9_says 3 (some .int) ∈ lw_tbl := lm_tk5 (List.mem_of_getElem? (i := 77) rfl)
set_option maxRecDepth 100000 in
theorem lm_cw149 : Cond.code yX9_act cX9_act 9 (some .int) ∈ lw_tbl := lm_tk5 (List.mem_of_getElem? (i := 124) rfl)
set_option maxRecDepth 100000 in
theorem lm_cw150 : Cond.code yX9_mark cX9_mark 4 (some .int) ∈ lw_tbl := lm_tk5 (List.mem_of_getElem? (i := 132) rfl)
set_option maxRecDepth 100000 in
theorem lm_cw151 : Cond.code yX9_count cX9_count 4 (some .int) ∈ lw_tbl := lm_tk5 (List.mem_of_getElem? (i := 136) rfl)
set_option maxRecDepth 100000 in
theorem lm_cw152 : Cond.code yX9_likes cX9_likes 4 (some .int) ∈ lw_tbl := lm_tk5 (List.mem_of_getElem? (i := 141) rfl)
set_option maxRecDepth 100000 in
theorem lm_cw153 : Cond.code yX9_lock cX9_lock 5 (some .int) ∈ lw_tbl := lm_tk5 (List.mem_of_getElem? (i := 148) rfl)
set_option maxRecDepth 100000 in
theorem lm_cw154 : Cond.code yX9_hide cX9_hide 3 (some .int) ∈ lw_tbl := lm_tk5 (List.mem_of_getElem? (i := 156) rfl)
set_option maxRecDepth 100000 in
theorem lm_cw155 : Cond.code yX9_feed cX9_feed 2 (some .int) ∈ lw_tbl := lm_tk5 (List.mem_of_getElem? (i := 160) rfl)
set_option maxRecDepth 100000 in
theorem lm_cw156 : Cond.code yX9_wipe cX9_wipe 2 (some .int) ∈ lw_tbl := lm_tk5 (List.mem_of_getElem? (i := 164) rfl)
set_option maxRecDepth 100000 in
theorem lm_cw157 : Cond.code yX9_isLetter cX9_isLetter 1 (some .boolean) ∈ lw_tbl := lm_tk5 (List.mem_of_getElem? (i := 192) rfl)
set_option maxRecDepth 100000 in
theorem lm_cw158 : Cond.code yX9_isDigit cX9_isDigit 1 (some .boolean) ∈ lw_tbl := lm_tk5 (List.mem_of_getElem? (i := 195) rfl)
set_option maxRecDepth 100000 in
theorem lm_cw159 : Cond.code yX9_look cX9_look 1 none ∈ lw_tbl := lm_tk5 (List.mem_of_getElem? (i := 189) rfl)
set_option maxRecDepth 100000 in
theorem lm_cw160 : Cond.code yX9_wrong cX9_wrong 1 (some .boolean) ∈ lw_tbl := lm_tk5 (List.mem_of_getElem? (i := 219) rfl)
set_option maxRecDepth 100000 in
theorem lm_cw161 : Cond.code yX9_isWord cX9_isWord 3 (some .boolean) ∈ lw_tbl := lm_tk5 (List.mem_of_getElem? (i := 205) rfl)
set_option maxRecDepth 100000 in
theorem lm_cw162 : Cond.code yX9_number cX9_number 4 (some .boolean) ∈ lw_tbl := lm_tk5 (List.mem_of_getElem? (i := 223) rfl)
set_option maxRecDepth 100000 in
theorem lm_cw163 : Cond.code yX9_tells cX9_tells 5 (some .boolean) ∈ lw_tbl := lm_tk5 (List.mem_of_getElem? (i := 215) rfl)
set_option maxRecDepth 100000 in
theorem lm_cw164 : Cond.code yX9_actTold cX9_actTold 2 (some .boolean) ∈ lw_tbl := lm_tk5 (List.mem_of_getElem? (i := 211) rfl)
set_option maxRecDepth 100000 in
theorem lm_cw165 : Cond.code yX9_worthTold cX9_worthTold 4 (some .boolean) ∈ lw_tbl := lm_tk5 (List.mem_of_getElem? (i := 233) rfl)
set_option maxRecDepth 100000 in
theorem lm_cw166 : Cond.code yX9_statement cX9_statement 2 (some .boolean) ∈ lw_tbl := lm_tk5 (List.mem_of_getElem? (i := 200) rfl)
set_option maxRecDepth 100000 in
theorem lm_cw167 : Cond.code yX9_readAll cX9_readAll 1 (some .boolean) ∈ lw_tbl := lm_tk5 (List.mem_of_getElem? (i := 185) rfl)
set_option maxRecDepth 100000 in
theorem lm_cw168 : Cond.code yX9_town cX9_town 5 (some .int) ∈ lw_tbl := lm_tk5 (List.mem_of_getElem? (i := 168) rfl)
set_option maxRecDepth 100000 in
theorem lm_cw169 : Cond.code yX9_actOf cX9_actOf 3 (some .int) ∈ lw_tbl := lm_tk6 (List.mem_of_getElem? (i := 2) rfl)
set_option maxRecDepth 100000 in
theorem lm_cw170 : Cond.code yX9_worthOf cX9_worthOf 3 (some .int) ∈ lw_tbl := lm_tk6 (List.mem_of_getElem? (i := 6) rfl)
set_option maxRecDepth 100000 in
theorem lm_cw171 : Cond.code yX9_stands cX9_stands 2 (some .int) ∈ lw_tbl := lm_tk6 (List.mem_of_getElem? (i := 11) rfl)
set_option maxRecDepth 100000 in
theorem lm_cw172 : Cond.code yX9_canBe cX9_canBe 5 (some .boolean) ∈ lw_tbl := lm_tk5 (List.mem_of_getElem? (i := 116) rfl)
set_option maxRecDepth 100000 in
theorem lm_cw173 : Cond.code yX9_doIt cX9_doIt 3 none ∈ lw_tbl := lm_tk5 (List.mem_of_getElem? (i := 101) rfl)
set_option maxRecDepth 100000 in
theorem lm_cw174 : Cond.code yX9_valueOf cX9_valueOf 4 (some .int) ∈ lw_tbl := lm_tk5 (List.mem_of_getElem? (i := 105) rfl)
set_option maxRecDepth 100000 in
theorem lm_cw175 : Cond.code yX9_standing cX9_standing 4 (some .long) ∈ lw_tbl := lm_tk5 (List.mem_of_getElem? (i := 96) rfl)
set_option maxRecDepth 100000 in
theorem lm_cw176 : Cond.code yX9_putBack cX9_putBack 6 none ∈ lw_tbl := lm_tk5 (List.mem_of_getElem? (i := 112) rfl)
set_option maxRecDepth 100000 in
theorem lm_cw177 : Cond.code yX9_can cX9_can 4 (some .int) ∈ lw_tbl := lm_tk6 (List.mem_of_getElem? (i := 15) rfl)
set_option maxRecDepth 100000 in
theorem lm_cw178 : Cond.code yX9_value cX9_value 2 (some .int) ∈ lw_tbl := lm_tk6 (List.mem_of_getElem? (i := 19) rfl)
set_option maxRecDepth 100000 in
theorem lm_cw179 : Cond.code yX9_gainBy cX9_gainBy 6 (some .int) ∈ lw_tbl := lm_tk5 (List.mem_of_getElem? (i := 92) rfl)
set_option maxRecDepth 100000 in
theorem lm_cw180 : Cond.code yX9_gain cX9_gain 2 (some .int) ∈ lw_tbl := lm_tk6 (List.mem_of_getElem? (i := 23) rfl)
set_option maxRecDepth 100000 in
theorem lm_cw181 : Cond.code yX9_goes cX9_goes 2 none ∈ lw_tbl := lm_tk6 (List.mem_of_getElem? (i := 31) rfl)
set_option maxRecDepth 100000 in
theorem lm_cw182 : Cond.code yX9_does cX9_does 2 (some .int) ∈ lw_tbl := lm_tk6 (List.mem_of_getElem? (i := 27) rfl)
set_option maxRecDepth 100000 in
theorem lm_cw183 : Cond.code yX9_greatest cX9_greatest 6 (some .int) ∈ lw_tbl := lm_tk5 (List.mem_of_getElem? (i := 88) rfl)
set_option maxRecDepth 100000 in
theorem lm_cw184 : Cond.code yX9_chosen cX9_chosen 6 (some .int) ∈ lw_tbl := lm_tk5 (List.mem_of_getElem? (i := 84) rfl)
set_option maxRecDepth 100000 in
theorem lm_cw185 : Cond.code yX9_next cX9_next 3 (some .int) ∈ lw_tbl := lm_tk6 (List.mem_of_getElem? (i := 35) rfl)
set_option maxRecDepth 100000 in
theorem lm_cw186 : Cond.code yX9_fresh cX9_fresh 1 (some (.object "AwakeByHalvesModel")) ∈ lw_tbl := lm_tk5 (List.mem_of_getElem? (i := 172) rfl)
set_option maxRecDepth 100000 in
theorem lm_cw187 : Cond.code yX9_runs cX9_runs 7 none ∈ lw_tbl := lm_tk6 (List.mem_of_getElem? (i := 52) rfl)
set_option maxRecDepth 100000 in
theorem lm_cw188 : Cond.code yX9_run cX9_run 6 (some .int) ∈ lw_tbl := lm_tk6 (List.mem_of_getElem? (i := 43) rfl)
set_option maxRecDepth 100000 in
theorem lm_cw189 : Cond.code yX9_gainsBy cX9_gainsBy 6 (some .int) ∈ lw_tbl := lm_tk6 (List.mem_of_getElem? (i := 60) rfl)
set_option maxRecDepth 100000 in
theorem lm_cw190 : Cond.code yX9_head cX9_head 8 (some .int) ∈ lw_tbl := lm_tk6 (List.mem_of_getElem? (i := 56) rfl)
set_option maxRecDepth 100000 in
theorem lm_cw191 : Cond.code yX9_days cX9_days 5 (some .int) ∈ lw_tbl := lm_tk6 (List.mem_of_getElem? (i := 64) rfl)
set_option maxRecDepth 100000 in
theorem lm_cw192 : Cond.code yX9_gained cX9_gained 2 (some .int) ∈ lw_tbl := lm_tk6 (List.mem_of_getElem? (i := 69) rfl)
set_option maxRecDepth 100000 in
theorem lm_cw193 : Cond.code yX9_noTold cX9_noTold 4 (some .int) ∈ lw_tbl := lm_tk6 (List.mem_of_getElem? (i := 78) rfl)
set_option maxRecDepth 100000 in
theorem lm_cw194 : Cond.code yX9_goThrough cX9_goThrough 6 (some .int) ∈ lw_tbl := lm_tk6 (List.mem_of_getElem? (i := 82) rfl)
set_option maxRecDepth 100000 in
theorem lm_cw195 : Cond.code yX9_judge cX9_judge 4 (some .int) ∈ lw_tbl := lm_tk6 (List.mem_of_getElem? (i := 74) rfl)
set_option maxRecDepth 100000 in
theorem lm_cw196 : Cond.code yX9_told cX9_told 5 (some .int) ∈ lw_tbl := lm_tk6 (List.mem_of_getElem? (i := 86) rfl)
set_option maxRecDepth 100000 in
theorem lm_cw197 : Cond.code yX9_findBest cX9_findBest 11 none ∈ lw_tbl := lm_tk5 (List.mem_of_getElem? (i := 120) rfl)
set_option maxRecDepth 100000 in
theorem lm_cw198 : Cond.code yX9_areDays cX9_areDays 1 (some .boolean) ∈ lw_tbl := lm_tk6 (List.mem_of_getElem? (i := 93) rfl)
set_option maxRecDepth 100000 in
theorem lm_cw199 : Cond.code yX9_best cX9_best 3 (some .int) ∈ lw_tbl := lm_tk6 (List.mem_of_getElem? (i := 90) rfl)
set_option maxRecDepth 100000 in
theorem lm_cw200 : Cond.code yX9_mostAgainst cX9_mostAgainst 11 (some .int) ∈ lw_tbl := lm_tk6 (List.mem_of_getElem? (i := 101) rfl)
set_option maxRecDepth 100000 in
theorem lm_cw201 : Cond.code yX9_against cX9_against 4 (some .int) ∈ lw_tbl := lm_tk6 (List.mem_of_getElem? (i := 97) rfl)
set_option maxRecDepth 100000 in
theorem lm_cw202 : Cond.code yX9_mostTogether cX9_mostTogether 8 (some .int) ∈ lw_tbl := lm_tk6 (List.mem_of_getElem? (i := 109) rfl)
set_option maxRecDepth 100000 in
theorem lm_cw203 : Cond.code yX9_together cX9_together 2 (some .int) ∈ lw_tbl := lm_tk6 (List.mem_of_getElem? (i := 105) rfl)
set_option maxRecDepth 100000 in
theorem lm_cw204 : Cond.code yX9_harm cX9_harm 2 (some .int) ∈ lw_tbl := lm_tk6 (List.mem_of_getElem? (i := 113) rfl)
set_option maxRecDepth 100000 in
theorem lm_cw205 : Cond.code yX9_isDone cX9_isDone 11 (some .boolean) ∈ lw_tbl := lm_tk6 (List.mem_of_getElem? (i := 125) rfl)
set_option maxRecDepth 100000 in
theorem lm_cw206 : Cond.code yX9_workOf cX9_workOf 4 (some .int) ∈ lw_tbl := lm_tk6 (List.mem_of_getElem? (i := 121) rfl)
set_option maxRecDepth 100000 in
theorem lm_cw207 : Cond.code yX9_work cX9_work 3 (some .int) ∈ lw_tbl := lm_tk6 (List.mem_of_getElem? (i := 117) rfl)
set_option maxRecDepth 100000 in
theorem lm_cw208 : Cond.code yX9_reach cX9_reach 4 (some .int) ∈ lw_tbl := lm_tk6 (List.mem_of_getElem? (i := 129) rfl)
set_option maxRecDepth 100000 in
theorem lm_cw209 : Cond.code yX9_foundBy cX9_foundBy 11 (some .int) ∈ lw_tbl := lm_tk6 (List.mem_of_getElem? (i := 137) rfl)
set_option maxRecDepth 100000 in
theorem lm_cw210 : Cond.code yX9_found cX9_found 1 (some .int) ∈ lw_tbl := lm_tk6 (List.mem_of_getElem? (i := 133) rfl)
set_option maxRecDepth 100000 in
theorem lm_cw211 : Cond.code yX9_say cX9_say 8 (some .int) ∈ lw_tbl := lm_tk6 (List.mem_of_getElem? (i := 142) rfl)
set_option maxRecDepth 100000 in
theorem lm_cw212 : Cond.code yX9_lockingOf cX9_lockingOf 5 (some .int) ∈ lw_tbl := lm_tk6 (List.mem_of_getElem? (i := 158) rfl)
set_option maxRecDepth 100000 in
theorem lm_cw213 : Cond.code yX9_isLocked cX9_isLocked 2 (some .boolean) ∈ lw_tbl := lm_tk6 (List.mem_of_getElem? (i := 154) rfl)
set_option maxRecDepth 100000 in
theorem lm_cw214 : Cond.code yX9_locking cX9_locking 3 (some .int) ∈ lw_tbl := lm_tk6 (List.mem_of_getElem? (i := 150) rfl)
set_option maxRecDepth 100000 in
theorem lm_cw215 : Cond.code yX9_which cX9_which 6 (some .int) ∈ lw_tbl := lm_tk6 (List.mem_of_getElem? (i := 162) rfl)
set_option maxRecDepth 100000 in
theorem lm_cw216 : Cond.code yX9_up cX9_up 8 (some .int) ∈ lw_tbl := lm_tk6 (List.mem_of_getElem? (i := 166) rfl)
set_option maxRecDepth 100000 in
theorem lm_cw217 : Cond.code yX9_pact cX9_pact 8 (some .int) ∈ lw_tbl := lm_tk6 (List.mem_of_getElem? (i := 170) rfl)
set_option maxRecDepth 100000 in
theorem lm_cw218 : Cond.code yX9_draw cX9_draw 2 (some .int) ∈ lw_tbl := lm_tk6 (List.mem_of_getElem? (i := 178) rfl)
set_option maxRecDepth 100000 in
theorem lm_cw219 : Cond.code yX9_leap cX9_leap 2 (some .int) ∈ lw_tbl := lm_tk6 (List.mem_of_getElem? (i := 174) rfl)
set_option maxRecDepth 100000 in
theorem lm_cw220 : Cond.code yX9_seed cX9_seed 3 (some .int) ∈ lw_tbl := lm_tk6 (List.mem_of_getElem? (i := 183) rfl)
set_option maxRecDepth 100000 in
theorem lm_cw221 : Cond.code yX9_over cX9_over 3 none ∈ lw_tbl := lm_tk5 (List.mem_of_getElem? (i := 181) rfl)
set_option maxRecDepth 100000 in
theorem lm_cw222 : Cond.code yX9_takeFrom cX9_takeFrom 3 none ∈ lw_tbl := lm_tk5 (List.mem_of_getElem? (i := 178) rfl)
set_option maxRecDepth 100000 in
theorem lm_cw223 : Cond.code yX9_image cX9_image 1 (some .int) ∈ lw_tbl := lm_tk6 (List.mem_of_getElem? (i := 187) rfl)
set_option maxRecDepth 100000 in
theorem lm_cw224 : Cond.code yX9_back cX9_back 1 (some .int) ∈ lw_tbl := lm_tk6 (List.mem_of_getElem? (i := 191) rfl)
set_option maxRecDepth 100000 in
theorem lm_cw225 : Cond.code yX9_status cX9_status 4 (some .int) ∈ lw_tbl := lm_tk6 (List.mem_of_getElem? (i := 195) rfl)
set_option maxRecDepth 100000 in
theorem lm_cw226 : Cond.code yJ6_bitCount_0f7a4 cJ6_bitCount_0f7a4 1 (some .int) ∈ lw_tbl := lm_tk4 (List.mem_of_getElem? (i := 88) rfl)
set_option maxRecDepth 100000 in
theorem lm_cw227 : Cond.code yJ0_length_8abf5 cJ0_length_8abf5 1 (some .int) ∈ lw_tbl := lm_tk3 (List.mem_of_getElem? (i := 53) rfl)
set_option maxRecDepth 100000 in
theorem lm_cw228 : Cond.code yJ0_charAt_5068e cJ0_charAt_5068e 2 (some .char) ∈ lw_tbl := lm_tk3 (List.mem_of_getElem? (i := 63) rfl)
set_option maxRecDepth 100000 in
theorem lm_cw229 : Cond.code yJ0_coder_7d493 cJ0_coder_7d493 1 (some .byte) ∈ lw_tbl := lm_tk3 (List.mem_of_getElem? (i := 57) rfl)
set_option maxRecDepth 100000 in
theorem lm_cw230 : Cond.code yJ0_isLatin1_aae02 cJ0_isLatin1_aae02 1 (some .boolean) ∈ lw_tbl := lm_tk3 (List.mem_of_getElem? (i := 67) rfl)
set_option maxRecDepth 100000 in
theorem lm_cw231 : Cond.code yJ1_charAt_3b067 cJ1_charAt_3b067 2 (some .char) ∈ lw_tbl := lm_tk3 (List.mem_of_getElem? (i := 70) rfl)
set_option maxRecDepth 100000 in
theorem lm_cw232 : Cond.code yJ7_fill_d0a16 cJ7_fill_d0a16 5 none ∈ lw_tbl := lm_tk2 (List.mem_of_getElem? (i := 39) rfl)
set_option maxRecDepth 100000 in
theorem lm_cw233 : Cond.code yJ7_fill_53178 cJ7_fill_53178 4 none ∈ lw_tbl := lm_tk2 (List.mem_of_getElem? (i := 162) rfl)
set_option maxRecDepth 100000 in
theorem lm_cws0 : ∀ x ∈ lm_mt0.drop 1, Cond.code x.2.1 x.2.2.1 x.2.2.2.1 x.2.2.2.2.1 ∈ lw_tbl := List.forall_mem_cons.mpr ⟨lm_cw1, List.forall_mem_cons.mpr ⟨lm_cw2, List.forall_mem_cons.mpr ⟨lm_cw3, List.forall_mem_cons.mpr ⟨lm_cw4, List.forall_mem_cons.mpr ⟨lm_cw5, List.forall_mem_cons.mpr ⟨lm_cw6, List.forall_mem_cons.mpr ⟨lm_cw7, List.forall_mem_cons.mpr ⟨lm_cw8, List.forall_mem_cons.mpr ⟨lm_cw9, List.forall_mem_cons.mpr ⟨lm_cw10, List.forall_mem_cons.mpr ⟨lm_cw11, List.forall_mem_cons.mpr ⟨lm_cw12, List.forall_mem_cons.mpr ⟨lm_cw13, List.forall_mem_cons.mpr ⟨lm_cw14, List.forall_mem_cons.mpr ⟨lm_cw15, List.forall_mem_cons.mpr ⟨lm_cw16, List.forall_mem_cons.mpr ⟨lm_cw17, List.forall_mem_cons.mpr ⟨lm_cw18, List.forall_mem_cons.mpr ⟨lm_cw19, List.forall_mem_cons.mpr ⟨lm_cw20, List.forall_mem_cons.mpr ⟨lm_cw21, List.forall_mem_cons.mpr ⟨lm_cw22, List.forall_mem_cons.mpr ⟨lm_cw23, List.forall_mem_cons.mpr ⟨lm_cw24, List.forall_mem_cons.mpr ⟨lm_cw25, List.forall_mem_cons.mpr ⟨lm_cw26, List.forall_mem_cons.mpr ⟨lm_cw27, List.forall_mem_cons.mpr ⟨lm_cw28, List.forall_mem_cons.mpr ⟨lm_cw29, List.forall_mem_cons.mpr ⟨lm_cw30, List.forall_mem_cons.mpr ⟨lm_cw31, List.forall_mem_cons.mpr ⟨lm_cw32, List.forall_mem_cons.mpr ⟨lm_cw33, List.forall_mem_cons.mpr ⟨lm_cw34, List.forall_mem_cons.mpr ⟨lm_cw35, List.forall_mem_cons.mpr ⟨lm_cw36, List.forall_mem_cons.mpr ⟨lm_cw37, List.forall_mem_cons.mpr ⟨lm_cw38, List.forall_mem_cons.mpr ⟨lm_cw39, fun _ h => absurd h List.not_mem_nil⟩⟩⟩⟩⟩⟩⟩⟩⟩⟩⟩⟩⟩⟩⟩⟩⟩⟩⟩⟩⟩⟩⟩⟩⟩⟩⟩⟩⟩⟩⟩⟩⟩⟩⟩⟩⟩⟩⟩
set_option maxRecDepth 100000 in
theorem lm_cws1 : ∀ x ∈ lm_mt1, Cond.code x.2.1 x.2.2.1 x.2.2.2.1 x.2.2.2.2.1 ∈ lw_tbl := List.forall_mem_cons.mpr ⟨lm_cw40, List.forall_mem_cons.mpr ⟨lm_cw41, List.forall_mem_cons.mpr ⟨lm_cw42, List.forall_mem_cons.mpr ⟨lm_cw43, List.forall_mem_cons.mpr ⟨lm_cw44, List.forall_mem_cons.mpr ⟨lm_cw45, List.forall_mem_cons.mpr ⟨lm_cw46, List.forall_mem_cons.mpr ⟨lm_cw47, List.forall_mem_cons.mpr ⟨lm_cw48, List.forall_mem_cons.mpr ⟨lm_cw49, List.forall_mem_cons.mpr ⟨lm_cw50, List.forall_mem_cons.mpr ⟨lm_cw51, List.forall_mem_cons.mpr ⟨lm_cw52, List.forall_mem_cons.mpr ⟨lm_cw53, List.forall_mem_cons.mpr ⟨lm_cw54, List.forall_mem_cons.mpr ⟨lm_cw55, List.forall_mem_cons.mpr ⟨lm_cw56, List.forall_mem_cons.mpr ⟨lm_cw57, List.forall_mem_cons.mpr ⟨lm_cw58, List.forall_mem_cons.mpr ⟨lm_cw59, List.forall_mem_cons.mpr ⟨lm_cw60, List.forall_mem_cons.mpr ⟨lm_cw61, List.forall_mem_cons.mpr ⟨lm_cw62, List.forall_mem_cons.mpr ⟨lm_cw63, List.forall_mem_cons.mpr ⟨lm_cw64, List.forall_mem_cons.mpr ⟨lm_cw65, List.forall_mem_cons.mpr ⟨lm_cw66, List.forall_mem_cons.mpr ⟨lm_cw67, List.forall_mem_cons.mpr ⟨lm_cw68, List.forall_mem_cons.mpr ⟨lm_cw69, List.forall_mem_cons.mpr ⟨lm_cw70, List.forall_mem_cons.mpr ⟨lm_cw71, List.forall_mem_cons.mpr ⟨lm_cw72, List.forall_mem_cons.mpr ⟨lm_cw73, List.forall_mem_cons.mpr ⟨lm_cw74, List.forall_mem_cons.mpr ⟨lm_cw75, List.forall_mem_cons.mpr ⟨lm_cw76, List.forall_mem_cons.mpr ⟨lm_cw77, List.forall_mem_cons.mpr ⟨lm_cw78, List.forall_mem_cons.mpr ⟨lm_cw79, fun _ h => absurd h List.not_mem_nil⟩⟩⟩⟩⟩⟩⟩⟩⟩⟩⟩⟩⟩⟩⟩⟩⟩⟩⟩⟩⟩⟩⟩⟩⟩⟩⟩⟩⟩⟩⟩⟩⟩⟩⟩⟩⟩⟩⟩⟩
set_option maxRecDepth 100000 in
theorem lm_cws2 : ∀ x ∈ lm_mt2, Cond.code x.2.1 x.2.2.1 x.2.2.2.1 x.2.2.2.2.1 ∈ lw_tbl := List.forall_mem_cons.mpr ⟨lm_cw80, List.forall_mem_cons.mpr ⟨lm_cw81, List.forall_mem_cons.mpr ⟨lm_cw82, List.forall_mem_cons.mpr ⟨lm_cw83, List.forall_mem_cons.mpr ⟨lm_cw84, List.forall_mem_cons.mpr ⟨lm_cw85, List.forall_mem_cons.mpr ⟨lm_cw86, List.forall_mem_cons.mpr ⟨lm_cw87, List.forall_mem_cons.mpr ⟨lm_cw88, List.forall_mem_cons.mpr ⟨lm_cw89, List.forall_mem_cons.mpr ⟨lm_cw90, List.forall_mem_cons.mpr ⟨lm_cw91, List.forall_mem_cons.mpr ⟨lm_cw92, List.forall_mem_cons.mpr ⟨lm_cw93, List.forall_mem_cons.mpr ⟨lm_cw94, List.forall_mem_cons.mpr ⟨lm_cw95, List.forall_mem_cons.mpr ⟨lm_cw96, List.forall_mem_cons.mpr ⟨lm_cw97, List.forall_mem_cons.mpr ⟨lm_cw98, List.forall_mem_cons.mpr ⟨lm_cw99, List.forall_mem_cons.mpr ⟨lm_cw100, List.forall_mem_cons.mpr ⟨lm_cw101, List.forall_mem_cons.mpr ⟨lm_cw102, List.forall_mem_cons.mpr ⟨lm_cw103, List.forall_mem_cons.mpr ⟨lm_cw104, List.forall_mem_cons.mpr ⟨lm_cw105, List.forall_mem_cons.mpr ⟨lm_cw106, List.forall_mem_cons.mpr ⟨lm_cw107, List.forall_mem_cons.mpr ⟨lm_cw108, List.forall_mem_cons.mpr ⟨lm_cw109, List.forall_mem_cons.mpr ⟨lm_cw110, List.forall_mem_cons.mpr ⟨lm_cw111, List.forall_mem_cons.mpr ⟨lm_cw112, List.forall_mem_cons.mpr ⟨lm_cw113, List.forall_mem_cons.mpr ⟨lm_cw114, List.forall_mem_cons.mpr ⟨lm_cw115, List.forall_mem_cons.mpr ⟨lm_cw116, List.forall_mem_cons.mpr ⟨lm_cw117, List.forall_mem_cons.mpr ⟨lm_cw118, List.forall_mem_cons.mpr ⟨lm_cw119, fun _ h => absurd h List.not_mem_nil⟩⟩⟩⟩⟩⟩⟩⟩⟩⟩⟩⟩⟩⟩⟩⟩⟩⟩⟩⟩⟩⟩⟩⟩⟩⟩⟩⟩⟩⟩⟩⟩⟩⟩⟩⟩⟩⟩⟩⟩
set_option maxRecDepth 100000 in
theorem lm_cws3 : ∀ x ∈ lm_mt3, Cond.code x.2.1 x.2.2.1 x.2.2.2.1 x.2.2.2.2.1 ∈ lw_tbl := List.forall_mem_cons.mpr ⟨lm_cw120, List.forall_mem_cons.mpr ⟨lm_cw121, List.forall_mem_cons.mpr ⟨lm_cw122, List.forall_mem_cons.mpr ⟨lm_cw123, List.forall_mem_cons.mpr ⟨lm_cw124, List.forall_mem_cons.mpr ⟨lm_cw125, List.forall_mem_cons.mpr ⟨lm_cw126, List.forall_mem_cons.mpr ⟨lm_cw127, List.forall_mem_cons.mpr ⟨lm_cw128, List.forall_mem_cons.mpr ⟨lm_cw129, List.forall_mem_cons.mpr ⟨lm_cw130, List.forall_mem_cons.mpr ⟨lm_cw131, List.forall_mem_cons.mpr ⟨lm_cw132, List.forall_mem_cons.mpr ⟨lm_cw133, List.forall_mem_cons.mpr ⟨lm_cw134, List.forall_mem_cons.mpr ⟨lm_cw135, List.forall_mem_cons.mpr ⟨lm_cw136, List.forall_mem_cons.mpr ⟨lm_cw137, List.forall_mem_cons.mpr ⟨lm_cw138, List.forall_mem_cons.mpr ⟨lm_cw139, List.forall_mem_cons.mpr ⟨lm_cw140, List.forall_mem_cons.mpr ⟨lm_cw141, List.forall_mem_cons.mpr ⟨lm_cw142, List.forall_mem_cons.mpr ⟨lm_cw143, List.forall_mem_cons.mpr ⟨lm_cw144, List.forall_mem_cons.mpr ⟨lm_cw145, List.forall_mem_cons.mpr ⟨lm_cw146, List.forall_mem_cons.mpr ⟨lm_cw147, List.forall_mem_cons.mpr ⟨lm_cw148, List.forall_mem_cons.mpr ⟨lm_cw149, List.forall_mem_cons.mpr ⟨lm_cw150, List.forall_mem_cons.mpr ⟨lm_cw151, List.forall_mem_cons.mpr ⟨lm_cw152, List.forall_mem_cons.mpr ⟨lm_cw153, List.forall_mem_cons.mpr ⟨lm_cw154, List.forall_mem_cons.mpr ⟨lm_cw155, List.forall_mem_cons.mpr ⟨lm_cw156, List.forall_mem_cons.mpr ⟨lm_cw157, List.forall_mem_cons.mpr ⟨lm_cw158, List.forall_mem_cons.mpr ⟨lm_cw159, fun _ h => absurd h List.not_mem_nil⟩⟩⟩⟩⟩⟩⟩⟩⟩⟩⟩⟩⟩⟩⟩⟩⟩⟩⟩⟩⟩⟩⟩⟩⟩⟩⟩⟩⟩⟩⟩⟩⟩⟩⟩⟩⟩⟩⟩⟩
set_option maxRecDepth 100000 in
theorem lm_cws4 : ∀ x ∈ lm_mt4, Cond.code x.2.1 x.2.2.1 x.2.2.2.1 x.2.2.2.2.1 ∈ lw_tbl := List.forall_mem_cons.mpr ⟨lm_cw160, List.forall_mem_cons.mpr ⟨lm_cw161, List.forall_mem_cons.mpr ⟨lm_cw162, List.forall_mem_cons.mpr ⟨lm_cw163, List.forall_mem_cons.mpr ⟨lm_cw164, List.forall_mem_cons.mpr ⟨lm_cw165, List.forall_mem_cons.mpr ⟨lm_cw166, List.forall_mem_cons.mpr ⟨lm_cw167, List.forall_mem_cons.mpr ⟨lm_cw168, List.forall_mem_cons.mpr ⟨lm_cw169, List.forall_mem_cons.mpr ⟨lm_cw170, List.forall_mem_cons.mpr ⟨lm_cw171, List.forall_mem_cons.mpr ⟨lm_cw172, List.forall_mem_cons.mpr ⟨lm_cw173, List.forall_mem_cons.mpr ⟨lm_cw174, List.forall_mem_cons.mpr ⟨lm_cw175, List.forall_mem_cons.mpr ⟨lm_cw176, List.forall_mem_cons.mpr ⟨lm_cw177, List.forall_mem_cons.mpr ⟨lm_cw178, List.forall_mem_cons.mpr ⟨lm_cw179, List.forall_mem_cons.mpr ⟨lm_cw180, List.forall_mem_cons.mpr ⟨lm_cw181, List.forall_mem_cons.mpr ⟨lm_cw182, List.forall_mem_cons.mpr ⟨lm_cw183, List.forall_mem_cons.mpr ⟨lm_cw184, List.forall_mem_cons.mpr ⟨lm_cw185, List.forall_mem_cons.mpr ⟨lm_cw186, List.forall_mem_cons.mpr ⟨lm_cw187, List.forall_mem_cons.mpr ⟨lm_cw188, List.forall_mem_cons.mpr ⟨lm_cw189, List.forall_mem_cons.mpr ⟨lm_cw190, List.forall_mem_cons.mpr ⟨lm_cw191, List.forall_mem_cons.mpr ⟨lm_cw192, List.forall_mem_cons.mpr ⟨lm_cw193, List.forall_mem_cons.mpr ⟨lm_cw194, List.forall_mem_cons.mpr ⟨lm_cw195, List.forall_mem_cons.mpr ⟨lm_cw196, List.forall_mem_cons.mpr ⟨lm_cw197, List.forall_mem_cons.mpr ⟨lm_cw198, List.forall_mem_cons.mpr ⟨lm_cw199, fun _ h => absurd h List.not_mem_nil⟩⟩⟩⟩⟩⟩⟩⟩⟩⟩⟩⟩⟩⟩⟩⟩⟩⟩⟩⟩⟩⟩⟩⟩⟩⟩⟩⟩⟩⟩⟩⟩⟩⟩⟩⟩⟩⟩⟩⟩
set_option maxRecDepth 100000 in
theorem lm_cws5 : ∀ x ∈ lm_mt5, Cond.code x.2.1 x.2.2.1 x.2.2.2.1 x.2.2.2.2.1 ∈ lw_tbl := List.forall_mem_cons.mpr ⟨lm_cw200, List.forall_mem_cons.mpr ⟨lm_cw201, List.forall_mem_cons.mpr ⟨lm_cw202, List.forall_mem_cons.mpr ⟨lm_cw203, List.forall_mem_cons.mpr ⟨lm_cw204, List.forall_mem_cons.mpr ⟨lm_cw205, List.forall_mem_cons.mpr ⟨lm_cw206, List.forall_mem_cons.mpr ⟨lm_cw207, List.forall_mem_cons.mpr ⟨lm_cw208, List.forall_mem_cons.mpr ⟨lm_cw209, List.forall_mem_cons.mpr ⟨lm_cw210, List.forall_mem_cons.mpr ⟨lm_cw211, List.forall_mem_cons.mpr ⟨lm_cw212, List.forall_mem_cons.mpr ⟨lm_cw213, List.forall_mem_cons.mpr ⟨lm_cw214, List.forall_mem_cons.mpr ⟨lm_cw215, List.forall_mem_cons.mpr ⟨lm_cw216, List.forall_mem_cons.mpr ⟨lm_cw217, List.forall_mem_cons.mpr ⟨lm_cw218, List.forall_mem_cons.mpr ⟨lm_cw219, List.forall_mem_cons.mpr ⟨lm_cw220, List.forall_mem_cons.mpr ⟨lm_cw221, List.forall_mem_cons.mpr ⟨lm_cw222, List.forall_mem_cons.mpr ⟨lm_cw223, List.forall_mem_cons.mpr ⟨lm_cw224, List.forall_mem_cons.mpr ⟨lm_cw225, List.forall_mem_cons.mpr ⟨lm_cw226, List.forall_mem_cons.mpr ⟨lm_cw227, List.forall_mem_cons.mpr ⟨lm_cw228, List.forall_mem_cons.mpr ⟨lm_cw229, List.forall_mem_cons.mpr ⟨lm_cw230, List.forall_mem_cons.mpr ⟨lm_cw231, List.forall_mem_cons.mpr ⟨lm_cw232, List.forall_mem_cons.mpr ⟨lm_cw233, fun _ h => absurd h List.not_mem_nil⟩⟩⟩⟩⟩⟩⟩⟩⟩⟩⟩⟩⟩⟩⟩⟩⟩⟩⟩⟩⟩⟩⟩⟩⟩⟩⟩⟩⟩⟩⟩⟩⟩⟩
theorem lm_cws : ∀ x ∈ lm_mt.drop 1, Cond.code x.2.1 x.2.2.1 x.2.2.2.1 x.2.2.2.2.1 ∈ lw_tbl := (show ∀ x ∈ lm_mt0.drop 1 ++ (lm_mt1 ++ (lm_mt2 ++ (lm_mt3 ++ (lm_mt4 ++ (lm_mt5))))), Cond.code x.2.1 x.2.2.1 x.2.2.2.1 x.2.2.2.2.1 ∈ lw_tbl from List.forall_mem_append.mpr ⟨lm_cws0, List.forall_mem_append.mpr ⟨lm_cws1, List.forall_mem_append.mpr ⟨lm_cws2, List.forall_mem_append.mpr ⟨lm_cws3, List.forall_mem_append.mpr ⟨lm_cws4, lm_cws5⟩⟩⟩⟩⟩)
end
section
/-- a method's own words -/
abbrev lm_okm (x : lm_M) : Prop := lw_tbl[x.2.2.2.2.2.2.2.1]? = some (.initialized x.2.1.cls) ∧ plainName x.2.1.cls = true ∧ x.2.1.cls ≠ "java/lang/invoke/MethodHandle" ∧ x.2.1.cls ≠ "java/lang/invoke/VarHandle" ∧ lm_own x.1 = x.2.1.cls
set_option maxRecDepth 100000 in
theorem lm_mt_ok : ∀ x ∈ lm_mt.drop 1, lm_okm x := by decide +kernel
set_option maxRecDepth 100000 in
theorem lm_virt_ok : ∀ f ∈ lm_virt, lw_tbl[(lm_m f).2.2.2.2.2.2.2.2.1]? = some (.instanceMethod (lm_m f).2.1) ∧ lw_tbl[(lm_m f).2.2.2.2.2.2.2.2.2]? = some (.selects (lm_m f).2.1.cls (lm_m f).2.1 (lm_m f).2.1) ∧ 0 < f ∧ f < lm_mt.length := by decide +kernel
set_option maxRecDepth 100000 in
theorem lm_stat_ok : ∀ f ∈ lm_stat, lw_tbl[(lm_m f).2.2.2.2.2.2.2.2.1]? = some (.static (lm_m f).2.1) ∧ 0 < f ∧ f < lm_mt.length := by decide +kernel
set_option maxRecDepth 100000 in
theorem lm_inits_ok : ∀ f ∈ lm_inits, lw_tbl[(lm_m f).2.2.2.2.2.2.2.2.1]? = some (.instanceMethod (lm_m f).2.1) ∧ (lm_m f).2.1.name = "<init>" ∧ (lm_m f).2.2.2.2.1 = none ∧ 0 < f ∧ f < lm_mt.length := by decide +kernel
abbrev lm_np (y : MethodName) (n : Nat) : Prop := (parseMethodDescriptor y.desc).map (fun d => d.parameters.length) = some n
/-- a call's words: kinds 0 virtual, 1 static, 2 <init>, 3 and 4 the last two of a nest mate, 5 Object.<init>, 6 arraycopy, 7 String.checkIndex -/
noncomputable def lm_okc (c : Nat) (q : Nat × Nat × Nat × Nat × Nat) : Bool := match q.2.1 with
  | 0 => decide (lw_tbl[q.2.2.2.2]? = some (.methodLink (lm_own c) q.1 (lm_m q.2.2.1).2.1)) && decide (lm_np (lm_m q.2.2.1).2.1 q.2.2.2.1) && lm_virt.contains q.2.2.1
  | 1 => decide (lw_tbl[q.2.2.2.2]? = some (.methodLink (lm_own c) q.1 (lm_m q.2.2.1).2.1)) && decide (lm_np (lm_m q.2.2.1).2.1 q.2.2.2.1) && lm_stat.contains q.2.2.1
  | 2 => decide (lw_tbl[q.2.2.2.2]? = some (.methodLink (lm_own c) q.1 (lm_m q.2.2.1).2.1)) && decide (lm_np (lm_m q.2.2.1).2.1 q.2.2.2.1) && lm_inits.contains q.2.2.1
  | 3 => decide (lw_tbl[q.2.2.2.2]? = some (.methodLinkNest (lm_own c) q.1 (lm_m q.2.2.1).2.1 "AwakeByHalves")) && decide (lm_np (lm_m q.2.2.1).2.1 q.2.2.2.1) && lm_stat.contains q.2.2.1
  | 4 => decide (lw_tbl[q.2.2.2.2]? = some (.methodLinkNest (lm_own c) q.1 (lm_m q.2.2.1).2.1 "AwakeByHalves")) && decide (lm_np (lm_m q.2.2.1).2.1 q.2.2.2.1) && lm_inits.contains q.2.2.1
  | 5 => decide (lw_tbl[q.2.2.2.2]? = some (.methodLink (lm_own c) q.1 objectInit))
  | 6 => decide (lw_tbl[q.2.2.2.2]? = some (.methodLink (lm_own c) q.1 arraycopyName))
  | 7 => decide (lw_tbl[q.2.2.2.2]? = some (.methodLink (lm_own c) q.1 ⟨"java/lang/String", "checkIndex", "(II)V"⟩))
  | 8 => decide (lw_tbl[q.2.2.2.2]? = some (.methodLink (lm_own c) q.1 Lib.Math.max.name))
  | 9 => decide (lw_tbl[q.2.2.2.2]? = some (.methodLink (lm_own c) q.1 Lib.Math.min.name))
  | _ => false
abbrev lm_cl (ci : Nat) : vw_C := vwCl.getD ci ("", TX0, 0)
abbrev lm_okf (c : Nat) (q : Nat × Nat × Nat × Nat) : Prop :=
  (q.2.1 ≠ 30 → q.2.1 < 8 ∧ lw_tbl[q.2.2.2]? = some (.fieldLink (lm_own c) q.1 ((lm_cl q.2.1).2.1 q.2.2.1).1 ((lm_cl q.2.1).2.1 q.2.2.1).2.1 ((lm_cl q.2.1).2.1 q.2.2.1).2.2.1) ∧ q.2.2.1 < (lm_cl q.2.1).2.2) ∧
  (q.2.1 = 30 → (q.2.2.1 = 0 ∧ lw_tbl[q.2.2.2]? = some (.fieldLink (lm_own c) q.1 "java/lang/String" "value" "[B")) ∨ (q.2.2.1 = 1 ∧ lw_tbl[q.2.2.2]? = some (.fieldLink (lm_own c) q.1 "java/lang/String" "coder" "B")))
abbrev lm_okn (c : Nat) (q : Nat × Nat × Nat × Nat) : Prop :=
  (q.2.1 < 8 → lw_tbl[q.2.2.2]? = some (.classLink (lm_own c) q.1 (lm_cl q.2.1).1) ∧ q.2.2.1 = (lm_cl q.2.1).2.2) ∧
  (q.2.1 = 105 → lw_tbl[q.2.2.2]? = some (.classLink (lm_own c) q.1 "[[I")) ∧ (q.2.1 = 106 → lw_tbl[q.2.2.2]? = some (.classLink (lm_own c) q.1 "[[J"))
set_option maxRecDepth 100000 in
theorem lm_okc_0 : ∀ q ∈ lm_kM_0, lm_okc 0 q = true := by decide +kernel
set_option maxRecDepth 100000 in
theorem lm_okf_0 : ∀ q ∈ lm_kF_0, lm_okf 0 q := by decide +kernel
set_option maxRecDepth 100000 in
theorem lm_okn_0 : ∀ q ∈ lm_kC_0, lm_okn 0 q := by decide +kernel
set_option maxRecDepth 100000 in
theorem lm_okc_1 : ∀ q ∈ lm_kM_1, lm_okc 1 q = true := by decide +kernel
set_option maxRecDepth 100000 in
theorem lm_okf_1 : ∀ q ∈ lm_kF_1, lm_okf 1 q := by decide +kernel
set_option maxRecDepth 100000 in
theorem lm_okn_1 : ∀ q ∈ lm_kC_1, lm_okn 1 q := by decide +kernel
set_option maxRecDepth 100000 in
theorem lm_okc_2 : ∀ q ∈ lm_kM_2, lm_okc 2 q = true := by decide +kernel
set_option maxRecDepth 100000 in
theorem lm_okf_2 : ∀ q ∈ lm_kF_2, lm_okf 2 q := by decide +kernel
set_option maxRecDepth 100000 in
theorem lm_okn_2 : ∀ q ∈ lm_kC_2, lm_okn 2 q := by decide +kernel
set_option maxRecDepth 100000 in
theorem lm_okc_3 : ∀ q ∈ lm_kM_3, lm_okc 3 q = true := by decide +kernel
set_option maxRecDepth 100000 in
theorem lm_okf_3 : ∀ q ∈ lm_kF_3, lm_okf 3 q := by decide +kernel
set_option maxRecDepth 100000 in
theorem lm_okn_3 : ∀ q ∈ lm_kC_3, lm_okn 3 q := by decide +kernel
set_option maxRecDepth 100000 in
theorem lm_okc_4 : ∀ q ∈ lm_kM_4, lm_okc 4 q = true := by decide +kernel
set_option maxRecDepth 100000 in
theorem lm_okf_4 : ∀ q ∈ lm_kF_4, lm_okf 4 q := by decide +kernel
set_option maxRecDepth 100000 in
theorem lm_okn_4 : ∀ q ∈ lm_kC_4, lm_okn 4 q := by decide +kernel
set_option maxRecDepth 100000 in
theorem lm_okc_5 : ∀ q ∈ lm_kM_5, lm_okc 5 q = true := by decide +kernel
set_option maxRecDepth 100000 in
theorem lm_okf_5 : ∀ q ∈ lm_kF_5, lm_okf 5 q := by decide +kernel
set_option maxRecDepth 100000 in
theorem lm_okn_5 : ∀ q ∈ lm_kC_5, lm_okn 5 q := by decide +kernel
set_option maxRecDepth 100000 in
theorem lm_okc_6 : ∀ q ∈ lm_kM_6, lm_okc 6 q = true := by decide +kernel
set_option maxRecDepth 100000 in
theorem lm_okf_6 : ∀ q ∈ lm_kF_6, lm_okf 6 q := by decide +kernel
set_option maxRecDepth 100000 in
theorem lm_okn_6 : ∀ q ∈ lm_kC_6, lm_okn 6 q := by decide +kernel
set_option maxRecDepth 100000 in
theorem lm_okc_7 : ∀ q ∈ lm_kM_7, lm_okc 7 q = true := by decide +kernel
set_option maxRecDepth 100000 in
theorem lm_okf_7 : ∀ q ∈ lm_kF_7, lm_okf 7 q := by decide +kernel
set_option maxRecDepth 100000 in
theorem lm_okn_7 : ∀ q ∈ lm_kC_7, lm_okn 7 q := by decide +kernel
set_option maxRecDepth 100000 in
theorem lm_okc_8 : ∀ q ∈ lm_kM_8, lm_okc 8 q = true := by decide +kernel
set_option maxRecDepth 100000 in
theorem lm_okf_8 : ∀ q ∈ lm_kF_8, lm_okf 8 q := by decide +kernel
set_option maxRecDepth 100000 in
theorem lm_okn_8 : ∀ q ∈ lm_kC_8, lm_okn 8 q := by decide +kernel
set_option maxRecDepth 100000 in
theorem lm_okc_9 : ∀ q ∈ lm_kM_9, lm_okc 9 q = true := by decide +kernel
set_option maxRecDepth 100000 in
theorem lm_okf_9 : ∀ q ∈ lm_kF_9, lm_okf 9 q := by decide +kernel
set_option maxRecDepth 100000 in
theorem lm_okn_9 : ∀ q ∈ lm_kC_9, lm_okn 9 q := by decide +kernel
set_option maxRecDepth 100000 in
theorem lm_okc_10 : ∀ q ∈ lm_kM_10, lm_okc 10 q = true := by decide +kernel
set_option maxRecDepth 100000 in
theorem lm_okf_10 : ∀ q ∈ lm_kF_10, lm_okf 10 q := by decide +kernel
set_option maxRecDepth 100000 in
theorem lm_okn_10 : ∀ q ∈ lm_kC_10, lm_okn 10 q := by decide +kernel
set_option maxRecDepth 100000 in
theorem lm_okc_11 : ∀ q ∈ lm_kM_11, lm_okc 11 q = true := by decide +kernel
set_option maxRecDepth 100000 in
theorem lm_okf_11 : ∀ q ∈ lm_kF_11, lm_okf 11 q := by decide +kernel
set_option maxRecDepth 100000 in
theorem lm_okn_11 : ∀ q ∈ lm_kC_11, lm_okn 11 q := by decide +kernel
set_option maxRecDepth 100000 in
theorem lm_okc_12 : ∀ q ∈ lm_kM_12, lm_okc 12 q = true := by decide +kernel
set_option maxRecDepth 100000 in
theorem lm_okf_12 : ∀ q ∈ lm_kF_12, lm_okf 12 q := by decide +kernel
set_option maxRecDepth 100000 in
theorem lm_okn_12 : ∀ q ∈ lm_kC_12, lm_okn 12 q := by decide +kernel
set_option maxRecDepth 100000 in
theorem lm_okc_13 : ∀ q ∈ lm_kM_13, lm_okc 13 q = true := by decide +kernel
set_option maxRecDepth 100000 in
theorem lm_okf_13 : ∀ q ∈ lm_kF_13, lm_okf 13 q := by decide +kernel
set_option maxRecDepth 100000 in
theorem lm_okn_13 : ∀ q ∈ lm_kC_13, lm_okn 13 q := by decide +kernel
set_option maxRecDepth 100000 in
theorem lm_okc_14 : ∀ q ∈ lm_kM_14, lm_okc 14 q = true := by decide +kernel
set_option maxRecDepth 100000 in
theorem lm_okf_14 : ∀ q ∈ lm_kF_14, lm_okf 14 q := by decide +kernel
set_option maxRecDepth 100000 in
theorem lm_okn_14 : ∀ q ∈ lm_kC_14, lm_okn 14 q := by decide +kernel
theorem lm_okc_all (c : Nat) : ∀ q ∈ lm_kM c, lm_okc c q = true := by
  unfold lm_kM
  match c with
  | 0 => exact lm_okc_0
  | 1 => exact lm_okc_1
  | 2 => exact lm_okc_2
  | 3 => exact lm_okc_3
  | 4 => exact lm_okc_4
  | 5 => exact lm_okc_5
  | 6 => exact lm_okc_6
  | 7 => exact lm_okc_7
  | 8 => exact lm_okc_8
  | 9 => exact lm_okc_9
  | 10 => exact lm_okc_10
  | 11 => exact lm_okc_11
  | 12 => exact lm_okc_12
  | 13 => exact lm_okc_13
  | 14 => exact lm_okc_14
  | n + 15 => exact fun q h => absurd h (by simp)
theorem lm_okf_all (c : Nat) : ∀ q ∈ lm_kF c, lm_okf c q := by
  unfold lm_kF
  match c with
  | 0 => exact lm_okf_0
  | 1 => exact lm_okf_1
  | 2 => exact lm_okf_2
  | 3 => exact lm_okf_3
  | 4 => exact lm_okf_4
  | 5 => exact lm_okf_5
  | 6 => exact lm_okf_6
  | 7 => exact lm_okf_7
  | 8 => exact lm_okf_8
  | 9 => exact lm_okf_9
  | 10 => exact lm_okf_10
  | 11 => exact lm_okf_11
  | 12 => exact lm_okf_12
  | 13 => exact lm_okf_13
  | 14 => exact lm_okf_14
  | n + 15 => exact fun q h => absurd h (by simp)
theorem lm_okn_all (c : Nat) : ∀ q ∈ lm_kC c, lm_okn c q := by
  unfold lm_kC
  match c with
  | 0 => exact lm_okn_0
  | 1 => exact lm_okn_1
  | 2 => exact lm_okn_2
  | 3 => exact lm_okn_3
  | 4 => exact lm_okn_4
  | 5 => exact lm_okn_5
  | 6 => exact lm_okn_6
  | 7 => exact lm_okn_7
  | 8 => exact lm_okn_8
  | 9 => exact lm_okn_9
  | 10 => exact lm_okn_10
  | 11 => exact lm_okn_11
  | 12 => exact lm_okn_12
  | 13 => exact lm_okn_13
  | 14 => exact lm_okn_14
  | n + 15 => exact fun q h => absurd h (by simp)
end
section
def lm_okv (c : Nat) (q : Nat × Value × Nat) : Bool := match q.2.1 with
  | .int v => decide (lw_tbl[q.2.2]? = some (.constant (lm_own c) q.1 v))
  | .ref _ => true
  | _ => false
abbrev lm_okl (c : Nat) (q : Nat × Int64 × Nat) : Prop := lw_tbl[q.2.2]? = some (.constantLong (lm_own c) q.1 q.2.1)
abbrev lm_oks (c : Nat) (q : Nat × Value × Nat) : Prop := (q.2.1 = .ref 60 ∧ lw_tbl[q.2.2]? = some (.fieldLinkNest (lm_own c) q.1 "AwakeByHalves" "RULE_ABOVE" "[I" "AwakeByHalves")) ∨ (q.2.1 = .int 1 ∧ lw_tbl[q.2.2]? = some (.fieldLink (lm_own c) q.1 "java/lang/String" "COMPACT_STRINGS" "Z"))
set_option maxRecDepth 100000 in
theorem lm_okv_0 : ∀ q ∈ lm_kV_0, lm_okv 0 q = true := by decide +kernel
set_option maxRecDepth 100000 in
theorem lm_okl_0 : ∀ q ∈ lm_kL_0, lm_okl 0 q := by decide +kernel
set_option maxRecDepth 100000 in
theorem lm_oks_0 : ∀ q ∈ lm_kS_0, lm_oks 0 q := by decide +kernel
set_option maxRecDepth 100000 in
theorem lm_okv_1 : ∀ q ∈ lm_kV_1, lm_okv 1 q = true := by decide +kernel
set_option maxRecDepth 100000 in
theorem lm_okl_1 : ∀ q ∈ lm_kL_1, lm_okl 1 q := by decide +kernel
set_option maxRecDepth 100000 in
theorem lm_oks_1 : ∀ q ∈ lm_kS_1, lm_oks 1 q := by decide +kernel
set_option maxRecDepth 100000 in
theorem lm_okv_2 : ∀ q ∈ lm_kV_2, lm_okv 2 q = true := by decide +kernel
set_option maxRecDepth 100000 in
theorem lm_okl_2 : ∀ q ∈ lm_kL_2, lm_okl 2 q := by decide +kernel
set_option maxRecDepth 100000 in
theorem lm_oks_2 : ∀ q ∈ lm_kS_2, lm_oks 2 q := by decide +kernel
set_option maxRecDepth 100000 in
theorem lm_okv_3 : ∀ q ∈ lm_kV_3, lm_okv 3 q = true := by decide +kernel
set_option maxRecDepth 100000 in
theorem lm_okl_3 : ∀ q ∈ lm_kL_3, lm_okl 3 q := by decide +kernel
set_option maxRecDepth 100000 in
theorem lm_oks_3 : ∀ q ∈ lm_kS_3, lm_oks 3 q := by decide +kernel
set_option maxRecDepth 100000 in
theorem lm_okv_4 : ∀ q ∈ lm_kV_4, lm_okv 4 q = true := by decide +kernel
set_option maxRecDepth 100000 in
theorem lm_okl_4 : ∀ q ∈ lm_kL_4, lm_okl 4 q := by decide +kernel
set_option maxRecDepth 100000 in
theorem lm_oks_4 : ∀ q ∈ lm_kS_4, lm_oks 4 q := by decide +kernel
set_option maxRecDepth 100000 in
theorem lm_okv_5 : ∀ q ∈ lm_kV_5, lm_okv 5 q = true := by decide +kernel
set_option maxRecDepth 100000 in
theorem lm_okl_5 : ∀ q ∈ lm_kL_5, lm_okl 5 q := by decide +kernel
set_option maxRecDepth 100000 in
theorem lm_oks_5 : ∀ q ∈ lm_kS_5, lm_oks 5 q := by decide +kernel
set_option maxRecDepth 100000 in
theorem lm_okv_6 : ∀ q ∈ lm_kV_6, lm_okv 6 q = true := by decide +kernel
set_option maxRecDepth 100000 in
theorem lm_okl_6 : ∀ q ∈ lm_kL_6, lm_okl 6 q := by decide +kernel
set_option maxRecDepth 100000 in
theorem lm_oks_6 : ∀ q ∈ lm_kS_6, lm_oks 6 q := by decide +kernel
set_option maxRecDepth 100000 in
theorem lm_okv_7 : ∀ q ∈ lm_kV_7, lm_okv 7 q = true := by decide +kernel
set_option maxRecDepth 100000 in
theorem lm_okl_7 : ∀ q ∈ lm_kL_7, lm_okl 7 q := by decide +kernel
set_option maxRecDepth 100000 in
theorem lm_oks_7 : ∀ q ∈ lm_kS_7, lm_oks 7 q := by decide +kernel
set_option maxRecDepth 100000 in
theorem lm_okv_8 : ∀ q ∈ lm_kV_8, lm_okv 8 q = true := by decide +kernel
set_option maxRecDepth 100000 in
theorem lm_okl_8 : ∀ q ∈ lm_kL_8, lm_okl 8 q := by decide +kernel
set_option maxRecDepth 100000 in
theorem lm_oks_8 : ∀ q ∈ lm_kS_8, lm_oks 8 q := by decide +kernel
set_option maxRecDepth 100000 in
theorem lm_okv_9 : ∀ q ∈ lm_kV_9, lm_okv 9 q = true := by decide +kernel
set_option maxRecDepth 100000 in
theorem lm_okl_9 : ∀ q ∈ lm_kL_9, lm_okl 9 q := by decide +kernel
set_option maxRecDepth 100000 in
theorem lm_oks_9 : ∀ q ∈ lm_kS_9, lm_oks 9 q := by decide +kernel
set_option maxRecDepth 100000 in
theorem lm_okv_10 : ∀ q ∈ lm_kV_10, lm_okv 10 q = true := by decide +kernel
set_option maxRecDepth 100000 in
theorem lm_okl_10 : ∀ q ∈ lm_kL_10, lm_okl 10 q := by decide +kernel
set_option maxRecDepth 100000 in
theorem lm_oks_10 : ∀ q ∈ lm_kS_10, lm_oks 10 q := by decide +kernel
set_option maxRecDepth 100000 in
theorem lm_okv_11 : ∀ q ∈ lm_kV_11, lm_okv 11 q = true := by decide +kernel
set_option maxRecDepth 100000 in
theorem lm_okl_11 : ∀ q ∈ lm_kL_11, lm_okl 11 q := by decide +kernel
set_option maxRecDepth 100000 in
theorem lm_oks_11 : ∀ q ∈ lm_kS_11, lm_oks 11 q := by decide +kernel
set_option maxRecDepth 100000 in
theorem lm_okv_12 : ∀ q ∈ lm_kV_12, lm_okv 12 q = true := by decide +kernel
set_option maxRecDepth 100000 in
theorem lm_okl_12 : ∀ q ∈ lm_kL_12, lm_okl 12 q := by decide +kernel
set_option maxRecDepth 100000 in
theorem lm_oks_12 : ∀ q ∈ lm_kS_12, lm_oks 12 q := by decide +kernel
set_option maxRecDepth 100000 in
theorem lm_okv_13 : ∀ q ∈ lm_kV_13, lm_okv 13 q = true := by decide +kernel
set_option maxRecDepth 100000 in
theorem lm_okl_13 : ∀ q ∈ lm_kL_13, lm_okl 13 q := by decide +kernel
set_option maxRecDepth 100000 in
theorem lm_oks_13 : ∀ q ∈ lm_kS_13, lm_oks 13 q := by decide +kernel
set_option maxRecDepth 100000 in
theorem lm_okv_14 : ∀ q ∈ lm_kV_14, lm_okv 14 q = true := by decide +kernel
set_option maxRecDepth 100000 in
theorem lm_okl_14 : ∀ q ∈ lm_kL_14, lm_okl 14 q := by decide +kernel
set_option maxRecDepth 100000 in
theorem lm_oks_14 : ∀ q ∈ lm_kS_14, lm_oks 14 q := by decide +kernel
theorem lm_okv_all (c : Nat) : ∀ q ∈ lm_kV c, lm_okv c q = true := by
  unfold lm_kV
  match c with
  | 0 => exact lm_okv_0
  | 1 => exact lm_okv_1
  | 2 => exact lm_okv_2
  | 3 => exact lm_okv_3
  | 4 => exact lm_okv_4
  | 5 => exact lm_okv_5
  | 6 => exact lm_okv_6
  | 7 => exact lm_okv_7
  | 8 => exact lm_okv_8
  | 9 => exact lm_okv_9
  | 10 => exact lm_okv_10
  | 11 => exact lm_okv_11
  | 12 => exact lm_okv_12
  | 13 => exact lm_okv_13
  | 14 => exact lm_okv_14
  | n + 15 => exact fun q h => absurd h (by simp)
theorem lm_okl_all (c : Nat) : ∀ q ∈ lm_kL c, lm_okl c q := by
  unfold lm_kL
  match c with
  | 0 => exact lm_okl_0
  | 1 => exact lm_okl_1
  | 2 => exact lm_okl_2
  | 3 => exact lm_okl_3
  | 4 => exact lm_okl_4
  | 5 => exact lm_okl_5
  | 6 => exact lm_okl_6
  | 7 => exact lm_okl_7
  | 8 => exact lm_okl_8
  | 9 => exact lm_okl_9
  | 10 => exact lm_okl_10
  | 11 => exact lm_okl_11
  | 12 => exact lm_okl_12
  | 13 => exact lm_okl_13
  | 14 => exact lm_okl_14
  | n + 15 => exact fun q h => absurd h (by simp)
theorem lm_oks_all (c : Nat) : ∀ q ∈ lm_kS c, lm_oks c q := by
  unfold lm_kS
  match c with
  | 0 => exact lm_oks_0
  | 1 => exact lm_oks_1
  | 2 => exact lm_oks_2
  | 3 => exact lm_oks_3
  | 4 => exact lm_oks_4
  | 5 => exact lm_oks_5
  | 6 => exact lm_oks_6
  | 7 => exact lm_oks_7
  | 8 => exact lm_oks_8
  | 9 => exact lm_oks_9
  | 10 => exact lm_oks_10
  | 11 => exact lm_oks_11
  | 12 => exact lm_oks_12
  | 13 => exact lm_oks_13
  | 14 => exact lm_oks_14
  | n + 15 => exact fun q h => absurd h (by simp)
set_option maxRecDepth 100000 in
theorem lm_lens : ∀ x ∈ lm_mt, ∀ q ∈ x.2.2.2.2.2.1, lm_lok q = true := by decide +kernel
set_option maxRecDepth 100000 in
theorem lm_decs0 : ∀ x ∈ lm_mt0, ∀ q ∈ x.2.2.2.2.2.1, decode x.2.2.1 q.1 = .ok (q.2.1, q.2.2) := List.forall_mem_cons.mpr ⟨cto0, List.forall_mem_cons.mpr ⟨cto1, List.forall_mem_cons.mpr ⟨cto2, List.forall_mem_cons.mpr ⟨cto3, List.forall_mem_cons.mpr ⟨cto4, List.forall_mem_cons.mpr ⟨cto5, List.forall_mem_cons.mpr ⟨cto6, List.forall_mem_cons.mpr ⟨cto7, List.forall_mem_cons.mpr ⟨cto8, List.forall_mem_cons.mpr ⟨cto9, List.forall_mem_cons.mpr ⟨cto10, List.forall_mem_cons.mpr ⟨cto11, List.forall_mem_cons.mpr ⟨cto12, List.forall_mem_cons.mpr ⟨cto13, List.forall_mem_cons.mpr ⟨cto14, List.forall_mem_cons.mpr ⟨cto15, List.forall_mem_cons.mpr ⟨cto16, List.forall_mem_cons.mpr ⟨cto17, List.forall_mem_cons.mpr ⟨cto18, List.forall_mem_cons.mpr ⟨cto19, List.forall_mem_cons.mpr ⟨cto20, List.forall_mem_cons.mpr ⟨cto21, List.forall_mem_cons.mpr ⟨cto22, List.forall_mem_cons.mpr ⟨cto23, List.forall_mem_cons.mpr ⟨cto24, List.forall_mem_cons.mpr ⟨cto25, List.forall_mem_cons.mpr ⟨cto26, List.forall_mem_cons.mpr ⟨cto27, List.forall_mem_cons.mpr ⟨cto28, List.forall_mem_cons.mpr ⟨cto29, List.forall_mem_cons.mpr ⟨cto30, List.forall_mem_cons.mpr ⟨cto31, List.forall_mem_cons.mpr ⟨cto32, List.forall_mem_cons.mpr ⟨cto33, List.forall_mem_cons.mpr ⟨cto34, List.forall_mem_cons.mpr ⟨cto35, List.forall_mem_cons.mpr ⟨cto36, List.forall_mem_cons.mpr ⟨cto37, List.forall_mem_cons.mpr ⟨cto38, List.forall_mem_cons.mpr ⟨cto39, fun _ h => absurd h List.not_mem_nil⟩⟩⟩⟩⟩⟩⟩⟩⟩⟩⟩⟩⟩⟩⟩⟩⟩⟩⟩⟩⟩⟩⟩⟩⟩⟩⟩⟩⟩⟩⟩⟩⟩⟩⟩⟩⟩⟩⟩⟩
set_option maxRecDepth 100000 in
theorem lm_decs1 : ∀ x ∈ lm_mt1, ∀ q ∈ x.2.2.2.2.2.1, decode x.2.2.1 q.1 = .ok (q.2.1, q.2.2) := List.forall_mem_cons.mpr ⟨cto40, List.forall_mem_cons.mpr ⟨cto41, List.forall_mem_cons.mpr ⟨cto42, List.forall_mem_cons.mpr ⟨cto43, List.forall_mem_cons.mpr ⟨cto44, List.forall_mem_cons.mpr ⟨cto45, List.forall_mem_cons.mpr ⟨cto46, List.forall_mem_cons.mpr ⟨cto47, List.forall_mem_cons.mpr ⟨cto48, List.forall_mem_cons.mpr ⟨cto49, List.forall_mem_cons.mpr ⟨cto50, List.forall_mem_cons.mpr ⟨cto51, List.forall_mem_cons.mpr ⟨cto52, List.forall_mem_cons.mpr ⟨cto53, List.forall_mem_cons.mpr ⟨cto54, List.forall_mem_cons.mpr ⟨cto55, List.forall_mem_cons.mpr ⟨cto56, List.forall_mem_cons.mpr ⟨cto57, List.forall_mem_cons.mpr ⟨cto58, List.forall_mem_cons.mpr ⟨cto59, List.forall_mem_cons.mpr ⟨cto60, List.forall_mem_cons.mpr ⟨cto61, List.forall_mem_cons.mpr ⟨cto62, List.forall_mem_cons.mpr ⟨cto63, List.forall_mem_cons.mpr ⟨cto64, List.forall_mem_cons.mpr ⟨cto65, List.forall_mem_cons.mpr ⟨cto66, List.forall_mem_cons.mpr ⟨cto67, List.forall_mem_cons.mpr ⟨cto68, List.forall_mem_cons.mpr ⟨cto69, List.forall_mem_cons.mpr ⟨cto70, List.forall_mem_cons.mpr ⟨cto71, List.forall_mem_cons.mpr ⟨cto72, List.forall_mem_cons.mpr ⟨cto73, List.forall_mem_cons.mpr ⟨cto74, List.forall_mem_cons.mpr ⟨cto75, List.forall_mem_cons.mpr ⟨cto76, List.forall_mem_cons.mpr ⟨cto77, List.forall_mem_cons.mpr ⟨cto78, List.forall_mem_cons.mpr ⟨cto79, fun _ h => absurd h List.not_mem_nil⟩⟩⟩⟩⟩⟩⟩⟩⟩⟩⟩⟩⟩⟩⟩⟩⟩⟩⟩⟩⟩⟩⟩⟩⟩⟩⟩⟩⟩⟩⟩⟩⟩⟩⟩⟩⟩⟩⟩⟩
set_option maxRecDepth 100000 in
theorem lm_decs2 : ∀ x ∈ lm_mt2, ∀ q ∈ x.2.2.2.2.2.1, decode x.2.2.1 q.1 = .ok (q.2.1, q.2.2) := List.forall_mem_cons.mpr ⟨cto80, List.forall_mem_cons.mpr ⟨cto81, List.forall_mem_cons.mpr ⟨cto82, List.forall_mem_cons.mpr ⟨cto83, List.forall_mem_cons.mpr ⟨cto84, List.forall_mem_cons.mpr ⟨cto85, List.forall_mem_cons.mpr ⟨cto86, List.forall_mem_cons.mpr ⟨cto87, List.forall_mem_cons.mpr ⟨cto88, List.forall_mem_cons.mpr ⟨cto89, List.forall_mem_cons.mpr ⟨cto90, List.forall_mem_cons.mpr ⟨cto91, List.forall_mem_cons.mpr ⟨cto92, List.forall_mem_cons.mpr ⟨cto93, List.forall_mem_cons.mpr ⟨cto94, List.forall_mem_cons.mpr ⟨cto95, List.forall_mem_cons.mpr ⟨cto96, List.forall_mem_cons.mpr ⟨cto97, List.forall_mem_cons.mpr ⟨cto98, List.forall_mem_cons.mpr ⟨cto99, List.forall_mem_cons.mpr ⟨cto100, List.forall_mem_cons.mpr ⟨cto101, List.forall_mem_cons.mpr ⟨cto102, List.forall_mem_cons.mpr ⟨cto103, List.forall_mem_cons.mpr ⟨cto104, List.forall_mem_cons.mpr ⟨cto105, List.forall_mem_cons.mpr ⟨cto106, List.forall_mem_cons.mpr ⟨cto107, List.forall_mem_cons.mpr ⟨cto108, List.forall_mem_cons.mpr ⟨cto109, List.forall_mem_cons.mpr ⟨cto110, List.forall_mem_cons.mpr ⟨cto111, List.forall_mem_cons.mpr ⟨cto112, List.forall_mem_cons.mpr ⟨cto113, List.forall_mem_cons.mpr ⟨cto114, List.forall_mem_cons.mpr ⟨cto115, List.forall_mem_cons.mpr ⟨cto116, List.forall_mem_cons.mpr ⟨cto117, List.forall_mem_cons.mpr ⟨cto118, List.forall_mem_cons.mpr ⟨cto119, fun _ h => absurd h List.not_mem_nil⟩⟩⟩⟩⟩⟩⟩⟩⟩⟩⟩⟩⟩⟩⟩⟩⟩⟩⟩⟩⟩⟩⟩⟩⟩⟩⟩⟩⟩⟩⟩⟩⟩⟩⟩⟩⟩⟩⟩⟩
set_option maxRecDepth 100000 in
theorem lm_decs3 : ∀ x ∈ lm_mt3, ∀ q ∈ x.2.2.2.2.2.1, decode x.2.2.1 q.1 = .ok (q.2.1, q.2.2) := List.forall_mem_cons.mpr ⟨cto120, List.forall_mem_cons.mpr ⟨cto121, List.forall_mem_cons.mpr ⟨cto122, List.forall_mem_cons.mpr ⟨cto123, List.forall_mem_cons.mpr ⟨cto124, List.forall_mem_cons.mpr ⟨cto125, List.forall_mem_cons.mpr ⟨cto126, List.forall_mem_cons.mpr ⟨cto127, List.forall_mem_cons.mpr ⟨cto128, List.forall_mem_cons.mpr ⟨cto129, List.forall_mem_cons.mpr ⟨cto130, List.forall_mem_cons.mpr ⟨cto131, List.forall_mem_cons.mpr ⟨cto132, List.forall_mem_cons.mpr ⟨cto133, List.forall_mem_cons.mpr ⟨cto134, List.forall_mem_cons.mpr ⟨cto135, List.forall_mem_cons.mpr ⟨cto136, List.forall_mem_cons.mpr ⟨cto137, List.forall_mem_cons.mpr ⟨cto138, List.forall_mem_cons.mpr ⟨cto139, List.forall_mem_cons.mpr ⟨cto140, List.forall_mem_cons.mpr ⟨cto141, List.forall_mem_cons.mpr ⟨cto142, List.forall_mem_cons.mpr ⟨cto143, List.forall_mem_cons.mpr ⟨cto144, List.forall_mem_cons.mpr ⟨cto145, List.forall_mem_cons.mpr ⟨cto146, List.forall_mem_cons.mpr ⟨cto147, List.forall_mem_cons.mpr ⟨cto148, List.forall_mem_cons.mpr ⟨cto149, List.forall_mem_cons.mpr ⟨cto150, List.forall_mem_cons.mpr ⟨cto151, List.forall_mem_cons.mpr ⟨cto152, List.forall_mem_cons.mpr ⟨cto153, List.forall_mem_cons.mpr ⟨cto154, List.forall_mem_cons.mpr ⟨cto155, List.forall_mem_cons.mpr ⟨cto156, List.forall_mem_cons.mpr ⟨cto157, List.forall_mem_cons.mpr ⟨cto158, List.forall_mem_cons.mpr ⟨cto159, fun _ h => absurd h List.not_mem_nil⟩⟩⟩⟩⟩⟩⟩⟩⟩⟩⟩⟩⟩⟩⟩⟩⟩⟩⟩⟩⟩⟩⟩⟩⟩⟩⟩⟩⟩⟩⟩⟩⟩⟩⟩⟩⟩⟩⟩⟩
set_option maxRecDepth 100000 in
theorem lm_decs4 : ∀ x ∈ lm_mt4, ∀ q ∈ x.2.2.2.2.2.1, decode x.2.2.1 q.1 = .ok (q.2.1, q.2.2) := List.forall_mem_cons.mpr ⟨cto160, List.forall_mem_cons.mpr ⟨cto161, List.forall_mem_cons.mpr ⟨cto162, List.forall_mem_cons.mpr ⟨cto163, List.forall_mem_cons.mpr ⟨cto164, List.forall_mem_cons.mpr ⟨cto165, List.forall_mem_cons.mpr ⟨cto166, List.forall_mem_cons.mpr ⟨cto167, List.forall_mem_cons.mpr ⟨cto168, List.forall_mem_cons.mpr ⟨cto169, List.forall_mem_cons.mpr ⟨cto170, List.forall_mem_cons.mpr ⟨cto171, List.forall_mem_cons.mpr ⟨cto172, List.forall_mem_cons.mpr ⟨cto173, List.forall_mem_cons.mpr ⟨cto174, List.forall_mem_cons.mpr ⟨cto175, List.forall_mem_cons.mpr ⟨cto176, List.forall_mem_cons.mpr ⟨cto177, List.forall_mem_cons.mpr ⟨cto178, List.forall_mem_cons.mpr ⟨cto179, List.forall_mem_cons.mpr ⟨cto180, List.forall_mem_cons.mpr ⟨cto181, List.forall_mem_cons.mpr ⟨cto182, List.forall_mem_cons.mpr ⟨cto183, List.forall_mem_cons.mpr ⟨cto184, List.forall_mem_cons.mpr ⟨cto185, List.forall_mem_cons.mpr ⟨cto186, List.forall_mem_cons.mpr ⟨cto187, List.forall_mem_cons.mpr ⟨cto188, List.forall_mem_cons.mpr ⟨cto189, List.forall_mem_cons.mpr ⟨cto190, List.forall_mem_cons.mpr ⟨cto191, List.forall_mem_cons.mpr ⟨cto192, List.forall_mem_cons.mpr ⟨cto193, List.forall_mem_cons.mpr ⟨cto194, List.forall_mem_cons.mpr ⟨cto195, List.forall_mem_cons.mpr ⟨cto196, List.forall_mem_cons.mpr ⟨cto197, List.forall_mem_cons.mpr ⟨cto198, List.forall_mem_cons.mpr ⟨cto199, fun _ h => absurd h List.not_mem_nil⟩⟩⟩⟩⟩⟩⟩⟩⟩⟩⟩⟩⟩⟩⟩⟩⟩⟩⟩⟩⟩⟩⟩⟩⟩⟩⟩⟩⟩⟩⟩⟩⟩⟩⟩⟩⟩⟩⟩⟩
set_option maxRecDepth 100000 in
theorem lm_decs5 : ∀ x ∈ lm_mt5, ∀ q ∈ x.2.2.2.2.2.1, decode x.2.2.1 q.1 = .ok (q.2.1, q.2.2) := List.forall_mem_cons.mpr ⟨cto200, List.forall_mem_cons.mpr ⟨cto201, List.forall_mem_cons.mpr ⟨cto202, List.forall_mem_cons.mpr ⟨cto203, List.forall_mem_cons.mpr ⟨cto204, List.forall_mem_cons.mpr ⟨cto205, List.forall_mem_cons.mpr ⟨cto206, List.forall_mem_cons.mpr ⟨cto207, List.forall_mem_cons.mpr ⟨cto208, List.forall_mem_cons.mpr ⟨cto209, List.forall_mem_cons.mpr ⟨cto210, List.forall_mem_cons.mpr ⟨cto211, List.forall_mem_cons.mpr ⟨cto212, List.forall_mem_cons.mpr ⟨cto213, List.forall_mem_cons.mpr ⟨cto214, List.forall_mem_cons.mpr ⟨cto215, List.forall_mem_cons.mpr ⟨cto216, List.forall_mem_cons.mpr ⟨cto217, List.forall_mem_cons.mpr ⟨cto218, List.forall_mem_cons.mpr ⟨cto219, List.forall_mem_cons.mpr ⟨cto220, List.forall_mem_cons.mpr ⟨cto221, List.forall_mem_cons.mpr ⟨cto222, List.forall_mem_cons.mpr ⟨cto223, List.forall_mem_cons.mpr ⟨cto224, List.forall_mem_cons.mpr ⟨cto225, List.forall_mem_cons.mpr ⟨cto226, List.forall_mem_cons.mpr ⟨cto227, List.forall_mem_cons.mpr ⟨cto228, List.forall_mem_cons.mpr ⟨cto229, List.forall_mem_cons.mpr ⟨cto230, List.forall_mem_cons.mpr ⟨cto231, List.forall_mem_cons.mpr ⟨cto232, List.forall_mem_cons.mpr ⟨cto233, fun _ h => absurd h List.not_mem_nil⟩⟩⟩⟩⟩⟩⟩⟩⟩⟩⟩⟩⟩⟩⟩⟩⟩⟩⟩⟩⟩⟩⟩⟩⟩⟩⟩⟩⟩⟩⟩⟩⟩⟩
theorem lm_decs : ∀ x ∈ lm_mt, ∀ q ∈ x.2.2.2.2.2.1, decode x.2.2.1 q.1 = .ok (q.2.1, q.2.2) := List.forall_mem_append.mpr ⟨lm_decs0, List.forall_mem_append.mpr ⟨lm_decs1, List.forall_mem_append.mpr ⟨lm_decs2, List.forall_mem_append.mpr ⟨lm_decs3, List.forall_mem_append.mpr ⟨lm_decs4, lm_decs5⟩⟩⟩⟩⟩
set_option maxRecDepth 100000 in
theorem lm_us_0 : ∀ w ∈ u_ws RX0 TX0 6, w ∈ lw_tbl := by decide +kernel
set_option maxRecDepth 100000 in
theorem lm_us_1 : ∀ w ∈ u_ws RX1 TX1 2, w ∈ lw_tbl := by decide +kernel
set_option maxRecDepth 100000 in
theorem lm_us_2 : ∀ w ∈ u_ws RX3 TX3 4, w ∈ lw_tbl := by decide +kernel
set_option maxRecDepth 100000 in
theorem lm_us_3 : ∀ w ∈ u_ws RX5 TX5 5, w ∈ lw_tbl := by decide +kernel
set_option maxRecDepth 100000 in
theorem lm_us_4 : ∀ w ∈ u_ws RX6 TX6 17, w ∈ lw_tbl := by decide +kernel
set_option maxRecDepth 100000 in
theorem lm_us_5 : ∀ w ∈ u_ws RX7 TX7 6, w ∈ lw_tbl := by decide +kernel
set_option maxRecDepth 100000 in
theorem lm_us_6 : ∀ w ∈ u_ws RX8 TX8 10, w ∈ lw_tbl := by decide +kernel
set_option maxRecDepth 100000 in
theorem lm_us_7 : ∀ w ∈ u_ws RX9 TX9 36, w ∈ lw_tbl := by decide +kernel
set_option maxRecDepth 100000 in
theorem lm_nw_0 : Cond.instantiable RX0 6 ∈ lw_tbl ∧ Cond.initialized RX0 ∈ lw_tbl := ⟨lm_tk1 (List.mem_of_getElem? (i := 137) rfl), lm_tk1 (List.mem_of_getElem? (i := 4) rfl)⟩
set_option maxRecDepth 100000 in
theorem lm_nw_1 : Cond.instantiable RX1 2 ∈ lw_tbl ∧ Cond.initialized RX1 ∈ lw_tbl := ⟨lm_tk1 (List.mem_of_getElem? (i := 162) rfl), lm_tk1 (List.mem_of_getElem? (i := 5) rfl)⟩
set_option maxRecDepth 100000 in
theorem lm_nw_2 : Cond.instantiable RX3 4 ∈ lw_tbl ∧ Cond.initialized RX3 ∈ lw_tbl := ⟨lm_tk1 (List.mem_of_getElem? (i := 203) rfl), lm_tk1 (List.mem_of_getElem? (i := 7) rfl)⟩
set_option maxRecDepth 100000 in
theorem lm_nw_3 : Cond.instantiable RX5 5 ∈ lw_tbl ∧ Cond.initialized RX5 ∈ lw_tbl := ⟨lm_tk1 (List.mem_of_getElem? (i := 111) rfl), lm_tk1 (List.mem_of_getElem? (i := 3) rfl)⟩
set_option maxRecDepth 100000 in
theorem lm_nw_4 : Cond.instantiable RX6 17 ∈ lw_tbl ∧ Cond.initialized RX6 ∈ lw_tbl := ⟨lm_tk1 (List.mem_of_getElem? (i := 28) rfl), lm_tk1 (List.mem_of_getElem? (i := 2) rfl)⟩
set_option maxRecDepth 100000 in
theorem lm_nw_5 : Cond.instantiable RX7 6 ∈ lw_tbl ∧ Cond.initialized RX7 ∈ lw_tbl := ⟨lm_tk1 (List.mem_of_getElem? (i := 175) rfl), lm_tk1 (List.mem_of_getElem? (i := 6) rfl)⟩
set_option maxRecDepth 100000 in
theorem lm_nw_6 : Cond.instantiable RX8 10 ∈ lw_tbl ∧ Cond.initialized RX8 ∈ lw_tbl := ⟨lm_tk1 (List.mem_of_getElem? (i := 20) rfl), lm_tk1 (List.mem_of_getElem? (i := 1) rfl)⟩
set_option maxRecDepth 100000 in
theorem lm_nw_7 : Cond.instantiable RX9 36 ∈ lw_tbl ∧ Cond.initialized RX9 ∈ lw_tbl := ⟨lm_tk4 (List.mem_of_getElem? (i := 153) rfl), lm_tk1 (List.mem_of_getElem? (i := 8) rfl)⟩
theorem lm_new_words : ∀ ci, ci < 8 → Cond.instantiable (lm_cl ci).1 (lm_cl ci).2.2 ∈ lw_tbl ∧ Cond.initialized (lm_cl ci).1 ∈ lw_tbl := by
  intro ci h
  match ci, h with
  | 0, _ => exact lm_nw_0
  | 1, _ => exact lm_nw_1
  | 2, _ => exact lm_nw_2
  | 3, _ => exact lm_nw_3
  | 4, _ => exact lm_nw_4
  | 5, _ => exact lm_nw_5
  | 6, _ => exact lm_nw_6
  | 7, _ => exact lm_nw_7
set_option maxRecDepth 100000 in
theorem lm_arr_words : Cond.arrayClass .int ∈ lw_tbl ∧ Cond.arrayClass .long ∈ lw_tbl := ⟨lm_tk1 (List.mem_of_getElem? (i := 109) rfl), lm_tk1 (List.mem_of_getElem? (i := 227) rfl)⟩
end
section
/-! LM and the machine: when a state of LM is a state of the machine -/
abbrev lm_kd (h : lm_H) : Nat → Nat := h.2.2.2.1
abbrev lm_ln (h : lm_H) : Nat → Nat := h.2.2.2.2.1
abbrev lm_hr (h : lm_H) : Nat → Nat → Option Nat := h.2.2.1
abbrev lm_nc (h : lm_H) : Nat := h.2.2.2.2.2.2.1
abbrev lm_ns (h : lm_H) : Nat := h.2.2.2.2.2.2.2
def lm_vm (ρ : Nat → Nat) (v : Value) : Value := match v with
  | .ref a => .ref (ρ a)
  | v => v
theorem lm_vm_cat (ρ : Nat → Nat) (v : Value) : (lm_vm ρ v).category = v.category := by cases v <;> rfl
theorem lm_vm_rf (ρ : Nat → Nat) (o : Option Nat) : lm_vm ρ (va_rf o) = va_rf (o.map ρ) := by cases o <;> rfl
theorem lm_s1_len (ls : List Value) (i : Nat) (v : Value) : (lm_s1 ls i v).length = ls.length := by
  unfold lm_s1
  split
  · simp
  · split
    · split <;> simp
    · simp
theorem lm_s1_get (ls : List Value) (i : Nat) (v : Value) (hi : i < ls.length) (j : Nat) (w : Value) (h : (lm_s1 ls i v)[j]? = some w) :
    (j = i ∧ w = v) ∨ w = lm_jk ∨ (j ≠ i ∧ ls[j]? = some w ∧ ¬ (j + 1 = i ∧ w.category = 2)) := by
  unfold lm_s1 at h
  cases i with
  | zero =>
    by_cases hj : j = 0
    · subst hj
      rw [List.getElem?_set_self hi] at h
      cases h
      exact Or.inl ⟨rfl, rfl⟩
    · rw [List.getElem?_set_ne (Ne.symm hj)] at h
      exact Or.inr (Or.inr ⟨hj, h, fun q => by omega⟩)
  | succ k =>
    have hkl : k < ls.length := by omega
    have hk : ls[k]? = some ls[k] := List.getElem?_eq_getElem hkl
    generalize ls[k] = u at hk
    simp only [hk] at h
    by_cases hc : u.category = 2
    · rw [if_pos hc] at h
      by_cases hj : j = k + 1
      · subst hj
        rw [List.getElem?_set_self (by simpa using hi)] at h
        cases h
        exact Or.inl ⟨rfl, rfl⟩
      · rw [List.getElem?_set_ne (Ne.symm hj)] at h
        by_cases hj2 : j = k
        · subst hj2
          rw [List.getElem?_set_self hkl] at h
          cases h
          exact Or.inr (Or.inl rfl)
        · rw [List.getElem?_set_ne (Ne.symm hj2)] at h
          exact Or.inr (Or.inr ⟨hj, h, fun q => by omega⟩)
    · rw [if_neg hc] at h
      by_cases hj : j = k + 1
      · subst hj
        rw [List.getElem?_set_self hi] at h
        cases h
        exact Or.inl ⟨rfl, rfl⟩
      · rw [List.getElem?_set_ne (Ne.symm hj)] at h
        refine Or.inr (Or.inr ⟨hj, h, fun q => ?_⟩)
        have : j = k := by omega
        subst this
        rw [hk] at h
        cases h
        exact hc q.2
def lm_L (ρ : Nat → Nat) (ls : List Value) (sl : Array Slot) : Prop := ∃ lv, lv_has sl ls.length lv ∧ ∀ (i : Nat) (v : Value), ls[i]? = some v → v ≠ lm_jk → (i, lm_vm ρ v) ∈ lv
theorem lm_L_get {ρ : Nat → Nat} {ls : List Value} {sl : Array Slot} (h : lm_L ρ ls sl) {i : Nat} {v : Value} (hi : ls[i]? = some v) (hv : v ≠ lm_jk) : sl[i]? = some (.val (lm_vm ρ v)) := by
  obtain ⟨lv, h1, h2⟩ := h
  exact h1.2.2 (i, lm_vm ρ v) (h2 i v hi hv)
theorem lm_L_s1 {ρ : Nat → Nat} {ls : List Value} {lv : List (Nat × Value)} (h2 : ∀ (i : Nat) (v : Value), ls[i]? = some v → v ≠ lm_jk → (i, lm_vm ρ v) ∈ lv) {i : Nat} {v : Value} (hi : i < ls.length) :
    ∀ (j : Nat) (w : Value), (lm_s1 ls i v)[j]? = some w → w ≠ lm_jk → (j, lm_vm ρ w) ∈ ((i, lm_vm ρ v) :: lv.filter (fun q => !(q.1 == i) && !(q.1 + 1 == i && q.2.category == 2))) := by
  intro j w hj hw
  rcases lm_s1_get ls i v hi j w hj with ⟨rfl, rfl⟩ | h | ⟨h1, h3, h4⟩
  · exact List.mem_cons_self
  · exact absurd h hw
  · refine List.mem_cons_of_mem _ (List.mem_filter.mpr ⟨h2 j w h3 hw, ?_⟩)
    simp only [lm_vm_cat, Bool.and_eq_true, Bool.not_eq_true', beq_eq_false_iff_ne, ne_eq, Bool.and_eq_false_iff]
    refine ⟨h1, ?_⟩
    by_cases q : j + 1 = i
    · exact Or.inr fun z => h4 ⟨q, z⟩
    · exact Or.inl q
theorem lm_L_s2 {ρ : Nat → Nat} {ls : List Value} {lv : List (Nat × Value)} (h2 : ∀ (i : Nat) (v : Value), ls[i]? = some v → v ≠ lm_jk → (i, lm_vm ρ v) ∈ lv) {i : Nat} {v : Value} (hi : i + 1 < ls.length) :
    ∀ (j : Nat) (w : Value), (lm_s2 ls i v)[j]? = some w → w ≠ lm_jk → (j, lm_vm ρ w) ∈ ((i, lm_vm ρ v) :: lv.filter (fun q => !(q.1 == i) && (!(q.1 == i + 1) && !(q.1 + 1 == i && q.2.category == 2)))) := by
  intro j w hj hw
  unfold lm_s2 at hj
  by_cases hj1 : j = i + 1
  · subst hj1
    rw [List.getElem?_set_self (by rw [lm_s1_len]; exact hi)] at hj
    cases hj
    exact absurd rfl hw
  · rw [List.getElem?_set_ne (Ne.symm hj1)] at hj
    rcases lm_s1_get ls i v (by omega) j w hj with ⟨rfl, rfl⟩ | h | ⟨h1, h3, h4⟩
    · exact List.mem_cons_self
    · exact absurd h hw
    · refine List.mem_cons_of_mem _ (List.mem_filter.mpr ⟨h2 j w h3 hw, ?_⟩)
      simp only [lm_vm_cat, Bool.and_eq_true, Bool.not_eq_true', beq_eq_false_iff_ne, ne_eq, Bool.and_eq_false_iff]
      refine ⟨h1, hj1, ?_⟩
      by_cases q : j + 1 = i
      · exact Or.inr fun z => h4 ⟨q, z⟩
      · exact Or.inl q
/-- the locals with which a method begins -/
theorem lm_exp_args (ρ : Nat → Nat) : ∀ (as : List Value) (k i : Nat) (v : Value), (lm_exp as)[i]? = some v → v ≠ lm_jk → (k + i, lm_vm ρ v) ∈ lv_args k (as.map (lm_vm ρ)) := by
  intro as
  induction as with
  | nil => intro k i v h _; simp [lm_exp] at h
  | cons w as ih =>
    intro k i v h hv
    simp only [lm_exp] at h
    simp only [List.map_cons, lv_args, lm_vm_cat]
    by_cases hc : w.category = 2
    · rw [if_pos hc] at h ⊢
      cases i with
      | zero => simp only [List.getElem?_cons_zero] at h; cases h; exact List.mem_cons_self
      | succ i =>
        cases i with
        | zero => simp only [List.getElem?_cons_succ, List.getElem?_cons_zero] at h; cases h; exact absurd rfl hv
        | succ i =>
          simp only [List.getElem?_cons_succ] at h
          refine List.mem_cons_of_mem _ ?_
          rw [show k + (i + 1 + 1) = k + 2 + i by omega]
          exact ih (k + 2) i v h hv
    · rw [if_neg hc] at h ⊢
      cases i with
      | zero => simp only [List.getElem?_cons_zero] at h; cases h; exact List.mem_cons_self
      | succ i =>
        simp only [List.getElem?_cons_succ] at h
        refine List.mem_cons_of_mem _ ?_
        rw [show k + (i + 1) = k + 1 + i by omega]
        exact ih (k + 1) i v h hv
theorem lm_exp_len (ρ : Nat → Nat) : ∀ as : List Value, (lg_sl (as.map (lm_vm ρ))).length = (lm_exp as).length := by
  intro as
  induction as with
  | nil => rfl
  | cons w as ih =>
    simp only [lg_sl, List.map_cons, List.flatMap_cons, List.length_append, lm_vm_cat, lm_exp] at ih ⊢
    by_cases hc : w.category = 2
    · rw [if_pos hc, if_pos hc]
      simp only [List.length_cons, List.length_nil, ih]
      omega
    · rw [if_neg hc, if_neg hc]
      simp only [List.length_cons, List.length_nil, ih]
      omega
theorem lm_ini_len {n : Nat} {as : List Value} (h : (lm_exp as).length ≤ n) : (lm_ini n as).length = n := by
  unfold lm_ini
  rw [List.length_append, List.length_replicate]
  omega
theorem lm_L_ini (ρ : Nat → Nat) {n : Nat} {as : List Value} (h : (lm_exp as).length ≤ n) :
    lm_L ρ (lm_ini n as) ((lg_sl (as.map (lm_vm ρ)) ++ List.replicate (n - (lg_sl (as.map (lm_vm ρ))).length) Slot.unset).toArray) := by
  refine ⟨lv_args 0 (as.map (lm_vm ρ)), ?_, fun i v hi hv => ?_⟩
  · rw [lm_ini_len h]
    exact lv_entry _ (by rw [lm_exp_len]; exact h)
  · unfold lm_ini at hi
    by_cases hl : i < (lm_exp as).length
    · rw [List.getElem?_append_left hl] at hi
      have := lm_exp_args ρ as 0 i v hi hv
      rwa [Nat.zero_add] at this
    · rw [List.getElem?_append_right (by omega)] at hi
      exact absurd (List.eq_of_mem_replicate (List.mem_of_getElem? hi)) hv
/-- a value's reference is to a cell that there is -/
def lm_ok (h : lm_H) (v : Value) : Prop := ∀ a, v = .ref a → lm_kd h a ≠ 0
def lm_ag (h : lm_H) (ρ ρ' : Nat → Nat) : Prop := ∀ a, lm_kd h a ≠ 0 → ρ' a = ρ a
theorem lm_ag_rf (h : lm_H) (ρ : Nat → Nat) : lm_ag h ρ ρ := fun _ _ => rfl
theorem lm_vm_ag {h : lm_H} {ρ ρ' : Nat → Nat} {v : Value} (ha : lm_ag h ρ ρ') (hv : lm_ok h v) : lm_vm ρ' v = lm_vm ρ v := by
  cases v <;> first | rfl | (simp only [lm_vm]; rw [ha _ (hv _ rfl)])
theorem lm_L_ag {h : lm_H} {ρ ρ' : Nat → Nat} {ls : List Value} {sl : Array Slot} (ha : lm_ag h ρ ρ') (hv : ∀ v ∈ ls, lm_ok h v) (hl : lm_L ρ ls sl) : lm_L ρ' ls sl := by
  obtain ⟨lv, h1, h2⟩ := hl
  exact ⟨lv, h1, fun i v hi hj => by rw [lm_vm_ag ha (hv v (List.mem_of_getElem? hi))]; exact h2 i v hi hj⟩
theorem lm_map_ag {h : lm_H} {ρ ρ' : Nat → Nat} {st : List Value} (ha : lm_ag h ρ ρ') (hv : ∀ v ∈ st, lm_ok h v) : st.map (lm_vm ρ') = st.map (lm_vm ρ) := List.map_congr_left fun v hm => lm_vm_ag ha (hv v hm)
theorem lm_ok_int (h : lm_H) (x : Int32) : lm_ok h (.int x) := fun _ e => by cases e
theorem lm_ok_long (h : lm_H) (x : Int64) : lm_ok h (.long x) := fun _ e => by cases e
theorem lm_ok_jk (h : lm_H) : lm_ok h lm_jk := fun _ e => by cases e
theorem lm_ok_cons {h : lm_H} {v : Value} {st : List Value} (h1 : lm_ok h v) (h2 : ∀ w ∈ st, lm_ok h w) : ∀ w ∈ v :: st, lm_ok h w := fun w hw => (List.mem_cons.mp hw).elim (fun e => e ▸ h1) (h2 w)
theorem lm_ok_s1 {h : lm_H} {ls : List Value} {i : Nat} {v : Value} (h1 : lm_ok h v) (h2 : ∀ w ∈ ls, lm_ok h w) : ∀ w ∈ lm_s1 ls i v, lm_ok h w := by
  have key : ∀ (l : List Value) (j : Nat) (u : Value), lm_ok h u → (∀ w ∈ l, lm_ok h w) → ∀ w ∈ l.set j u, lm_ok h w := fun l j u hu hl w hw => (List.mem_or_eq_of_mem_set hw).elim (hl w) (fun e => e ▸ hu)
  intro w hw
  unfold lm_s1 at hw
  split at hw
  · exact key _ _ _ h1 h2 w hw
  · split at hw
    · split at hw
      · exact key _ _ _ h1 (key _ _ _ (lm_ok_jk h) h2) w hw
      · exact key _ _ _ h1 h2 w hw
    · exact key _ _ _ h1 h2 w hw
theorem lm_ok_s2 {h : lm_H} {ls : List Value} {i : Nat} {v : Value} (h1 : lm_ok h v) (h2 : ∀ w ∈ ls, lm_ok h w) : ∀ w ∈ lm_s2 ls i v, lm_ok h w := fun w hw =>
  (List.mem_or_eq_of_mem_set hw).elim (lm_ok_s1 h1 h2 w) (fun e => e ▸ lm_ok_jk h)
theorem lm_ok_exp {h : lm_H} : ∀ {as : List Value}, (∀ w ∈ as, lm_ok h w) → ∀ w ∈ lm_exp as, lm_ok h w := by
  intro as
  induction as with
  | nil => intro _ w hw; cases hw
  | cons v as ih =>
    intro hv w hw
    have h1 := hv v List.mem_cons_self
    have h2 := ih (fun u hu => hv u (List.mem_cons_of_mem _ hu))
    simp only [lm_exp] at hw
    split at hw
    · exact lm_ok_cons h1 (lm_ok_cons (lm_ok_jk h) h2) w hw
    · exact lm_ok_cons h1 h2 w hw
theorem lm_ok_ini {h : lm_H} {n : Nat} {as : List Value} (hv : ∀ w ∈ as, lm_ok h w) : ∀ w ∈ lm_ini n as, lm_ok h w := fun w hw =>
  (List.mem_append.mp hw).elim (lm_ok_exp hv w) (fun q => (List.eq_of_mem_replicate q) ▸ lm_ok_jk h)
/-- a cell as the kit's worlds have it -/
def lm_E (cy : Nat → ClassId) (ρ : Nat → Nat) (h : lm_H) (a : Nat) : va_E :=
  if lm_kd h a = 1 then .inl (cy 1, lm_ln h a, .inl (h.1 a))
  else if lm_kd h a = 2 then .inl (cy 2, lm_ln h a, .inr (.inl (h.2.1 a)))
  else if lm_kd h a < 10 then .inl (cy (lm_kd h a), lm_ln h a, .inr (.inr (.inr (.inr (fun j => (lm_hr h a j).map ρ)))))
  else .inr (lm_kd h a - 10, (List.range (lm_nf (lm_kd h a - 10))).map (fun k => lm_vm ρ (lm_fv h (lm_kd h a - 10) a k)))
abbrev lm_F (cy : Nat → ClassId) (ρ : Nat → Nat) (h : lm_H) (a : Nat) : Nat × va_E := (ρ a, lm_E cy ρ h a)
/-- kinds; references are to cells that there are -/
def lm_HV (h : lm_H) : Prop := (∀ a j b, lm_kd h a ≠ 0 → lm_hr h a j = some b → lm_kd h b ≠ 0) ∧
  (∀ a, 64 ≤ a → lm_kd h a ≠ 0 → lm_kd h a = 1 ∨ lm_kd h a = 2 ∨ lm_kd h a = 4 ∨ lm_kd h a = 5 ∨ lm_kd h a = 6 ∨ (10 ≤ lm_kd h a ∧ lm_kd h a < 18)) ∧
  (∀ a, a < 64 → lm_kd h a = 0 ∨ lm_kd h a = 1 ∨ lm_kd h a = 8 ∨ lm_kd h a = 40)
theorem lm_E_cong {cy : Nat → ClassId} {ρ ρ' : Nat → Nat} {h h' : lm_H} {a : Nat} (e1 : lm_kd h' a = lm_kd h a) (e2 : lm_ln h' a = lm_ln h a) (e3 : h'.1 a = h.1 a) (e4 : h'.2.1 a = h.2.1 a) (e5 : lm_hr h' a = lm_hr h a)
    (hr : ∀ j b, lm_hr h a j = some b → ρ' b = ρ b) : lm_E cy ρ' h' a = lm_E cy ρ h a := by
  have hm : ∀ j, (lm_hr h a j).map ρ' = (lm_hr h a j).map ρ := fun j => by
    cases hb : lm_hr h a j with
    | none => rfl
    | some b => simp only [Option.map_some, hr j b hb]
  have hf : ∀ ci k, lm_vm ρ' (lm_fv h' ci a k) = lm_vm ρ (lm_fv h ci a k) := fun ci k => by
    unfold lm_fv
    rw [e3, show h'.2.2.1 a = h.2.2.1 a from e5]
    split
    · rw [lm_vm_rf, lm_vm_rf, hm]
    · rfl
  unfold lm_E
  rw [e1, e2, e3, e4, e5]
  simp only [hm, hf]
theorem lm_E_ag {cy : Nat → ClassId} {ρ ρ' : Nat → Nat} {h : lm_H} {a : Nat} (hv : lm_HV h) (ha : lm_ag h ρ ρ') (hk : lm_kd h a ≠ 0) : lm_E cy ρ' h a = lm_E cy ρ h a :=
  lm_E_cong rfl rfl rfl rfl rfl (fun j b hb => ha b (hv.1 a j b hk hb))
def lm_Wd (D : va_G) (cy : Nat → ClassId) (B : Nat) (ρ : Nat → Nat) (h : lm_H) (H : Heap) : Prop := ∃ L : List Nat, L.Nodup ∧ (∀ a, a ∈ L ↔ (64 ≤ a ∧ lm_kd h a ≠ 0)) ∧ va_P D vwCl (L.map (lm_F cy ρ h)) H ∧ va_D (fun q => B ≤ q) (L.map (lm_F cy ρ h))
theorem lm_map_set {L : List Nat} (hn : L.Nodup) {k a : Nat} (hk : L[k]? = some a) {F F' : Nat → Nat × va_E} (hne : ∀ b, b ≠ a → F' b = F b) : (L.map F).set k (F' a) = L.map F' := by
  have hl := (List.getElem?_eq_some_iff.mp hk).1
  apply List.ext_getElem?
  intro j
  by_cases hj : j = k
  · subst hj
    rw [List.getElem?_set_self (by simpa using hl), List.getElem?_map, hk]
    rfl
  · rw [List.getElem?_set_ne (Ne.symm hj), List.getElem?_map, List.getElem?_map]
    cases hb : L[j]? with
    | none => rfl
    | some b =>
      have hba : b ≠ a := fun e => hj (by
        subst e
        exact (List.getElem?_inj (List.getElem?_eq_some_iff.mp hb).1 hn).mp (hb.trans hk.symm))
      simp only [Option.map_some, hne b hba]
/-- a cell's place in a world, and the world behind a store there -/
theorem lm_Wd_at {D : va_G} {cy : Nat → ClassId} {B : Nat} {ρ : Nat → Nat} {h : lm_H} {H : Heap} (hW : lm_Wd D cy B ρ h H) {a : Nat} (h1 : 64 ≤ a) (h2 : lm_kd h a ≠ 0) :
    ∃ (ws : va_W) (k : Nat), va_P D vwCl ws H ∧ va_D (fun q => B ≤ q) ws ∧ ws[k]? = some (ρ a, lm_E cy ρ h a) ∧
      ∀ (h' : lm_H) (H1 : Heap), (∀ b, lm_kd h' b = lm_kd h b) → (∀ b, b ≠ a → lm_E cy ρ h' b = lm_E cy ρ h b) → va_P D vwCl (ws.set k (ρ a, lm_E cy ρ h' a)) H1 → va_D (fun q => B ≤ q) (ws.set k (ρ a, lm_E cy ρ h' a)) → lm_Wd D cy B ρ h' H1 := by
  obtain ⟨L, hn, hL, hP, hD⟩ := hW
  obtain ⟨k, hk⟩ := List.getElem?_of_mem ((hL a).mpr ⟨h1, h2⟩)
  refine ⟨L.map (lm_F cy ρ h), k, hP, hD, by rw [List.getElem?_map, hk]; rfl, fun h' H1 hkd hE hP1 hD1 => ?_⟩
  have e : (L.map (lm_F cy ρ h)).set k (ρ a, lm_E cy ρ h' a) = L.map (lm_F cy ρ h') := lm_map_set (F := lm_F cy ρ h) (F' := lm_F cy ρ h') hn hk (fun b hb => by simp only [lm_F, hE b hb])
  rw [e] at hP1 hD1
  exact ⟨L, hn, fun b => by rw [hL b, hkd b], hP1, hD1⟩
/-- a world with one more cell -/
theorem lm_Wd_new {D : va_G} {cy : Nat → ClassId} {B : Nat} {ρ : Nat → Nat} {h : lm_H} {H : Heap} (hW : lm_Wd D cy B ρ h H) {a : Nat} (h1 : 64 ≤ a) (h2 : lm_kd h a = 0) :
    ∃ ws : va_W, va_P D vwCl ws H ∧ va_D (fun q => B ≤ q) ws ∧
      ∀ (h' : lm_H) (H1 : Heap) (q : Nat), (∀ b, b ≠ a → lm_kd h' b = lm_kd h b) → lm_kd h' a ≠ 0 → (∀ b, lm_kd h b ≠ 0 → lm_E cy (lm_u1 ρ a q) h' b = lm_E cy ρ h b) → va_P D vwCl (ws ++ [(q, lm_E cy (lm_u1 ρ a q) h' a)]) H1 → va_D (fun q => B ≤ q) (ws ++ [(q, lm_E cy (lm_u1 ρ a q) h' a)]) → lm_Wd D cy B (lm_u1 ρ a q) h' H1 := by
  obtain ⟨L, hn, hL, hP, hD⟩ := hW
  have hna : a ∉ L := fun q => ((hL a).mp q).2 h2
  refine ⟨L.map (lm_F cy ρ h), hP, hD, fun h' H1 q hkd hka hE hP1 hD1 => ?_⟩
  have e : L.map (lm_F cy ρ h) ++ [(q, lm_E cy (lm_u1 ρ a q) h' a)] = (L ++ [a]).map (lm_F cy (lm_u1 ρ a q) h') := by
    rw [List.map_append, List.map_cons, List.map_nil]
    congr 1
    · apply List.map_congr_left
      intro b hb
      have hba : b ≠ a := fun z => hna (z ▸ hb)
      simp only [lm_F, hE b ((hL b).mp hb).2, lm_u1, if_neg hba]
    · simp only [lm_F, lm_u1, if_pos]
  rw [e] at hP1 hD1
  refine ⟨L ++ [a], ?_, fun b => ?_, hP1, hD1⟩
  · rw [List.nodup_append]
    exact ⟨hn, by simp, fun x hx y hy => by rw [List.mem_singleton.mp hy]; exact fun z => hna (z ▸ hx)⟩
  · rw [List.mem_append, List.mem_singleton, hL b]
    by_cases hb : b = a
    · subst hb
      exact ⟨fun _ => ⟨h1, hka⟩, fun _ => Or.inr rfl⟩
    · rw [hkd b hb]
      exact ⟨fun q => q.elim id (fun z => absurd z hb), Or.inl⟩
def lm_gw (w : Jvm.Cond) : Bool := match w with
  | .fieldLinkNest .. => true
  | .methodLinkNest .. => true
  | w => goodWord w
/-- the words that a method's walk may use -/
def lm_ts : List Jvm.Cond := lw_tbl.filter lm_gw
theorem lm_ts_warm {w : Jvm.Cond} (hg : lm_gw w = true) {s U : State} (hW : s.WarmedH U.vm) (h : ∀ a : Array Value, w.before a s = true) (a : Array Value) : w.before a U = true := by
  have key : goodWord w = true → w.before a U = true := fun hq => word_at hW (good_of_word hq) (h #[])
  cases w <;> first
    | exact va_Nw.use rfl (va_Nw.warmF hW (va_Nw.of rfl (h #[])))
    | exact va_Nw.use rfl (va_Nw.warmM hW (va_Nw.of rfl (h #[])))
    | exact key hg
def lm_AA (ty : FieldType) (U : State) : Prop := (Cond.arrayOver (.array ty)).before #[] U = true
theorem lm_AA.moved {ty : FieldType} {u U : State} (hvm : u.vm.Alike U.vm) (h : lm_AA ty u) : lm_AA ty U := by
  have h1 : (Cond.arrayOver (.array ty)).before #[] (u.setVm U.vm) = true := by
    rw [Cond.arrayOver_setVmC hvm]
    exact h
  first
    | exact va_tabs rfl (rfl : (u.setVm U.vm).vm = U.vm) h1
    | exact h1
def lm_tys (cy : Nat → ClassId) : List (ClassId × FieldType) := [(cy 1, .int), (cy 2, .long), (cy 4, .object "AwakeByHalves$Shelf"), (cy 5, .array .int), (cy 6, .array .long)]
/-- what the tables say in a state -/
def lm_V (D : va_G) (cy : Nat → ClassId) (U : State) : Prop :=
  (∀ w ∈ lm_ts, ∀ a : Array Value, w.before a U = true) ∧ va_K D vwCl (lm_tys cy) U ∧ va_AO "AwakeByHalves$Shelf" U ∧ lm_AA .int U ∧ lm_AA .long U
theorem lm_V.warm {D : va_G} {cy : Nat → ClassId} {s U : State} (hW : s.WarmedH U.vm) (h : lm_V D cy s) : lm_V D cy U :=
  ⟨fun w hw a => lm_ts_warm (List.mem_filter.mp hw).2 hW (h.1 w hw) a, va_K.moved hW.alike h.2.1, va_AO.moved hW.alike h.2.2.1, h.2.2.2.1.moved hW.alike, h.2.2.2.2.moved hW.alike⟩
/-- the old cells: the script, texts and their bytes, statics -/
def lm_Old (B : Nat) (ρ : Nat → Nat) (h : lm_H) (U : State) (H : Heap) : Prop :=
  (∀ a, a < 64 → lm_kd h a = 1 → va_T .int (ρ a) (lm_ln h a) (fun j => .int (h.1 a j)) (fun q => B ≤ q) U H) ∧
  (∀ a, a < 64 → lm_kd h a = 8 → va_T .byte (ρ a) (lm_ln h a) (fun j => .int (h.1 a j)) (fun q => B ≤ q) U H) ∧
  (∀ a, a < 64 → lm_kd h a = 40 → va_O "java/lang/String" (ρ a) (fun q => B ≤ q) U H ∧ va_OF "java/lang/String" "value" "[B" (lm_vm ρ (lm_fv h 30 a 0)) (ρ a) (fun q => B ≤ q) U H ∧ va_OF "java/lang/String" "coder" "B" (lm_vm ρ (lm_fv h 30 a 1)) (ρ a) (fun q => B ≤ q) U H) ∧
  va_Z "java/lang/String" "COMPACT_STRINGS" "Z" (.int 1) (fun q => B ≤ q) U H ∧ (lm_kd h 60 = 1 ∧ va_Z "AwakeByHalves" "RULE_ABOVE" "[I" (.ref (ρ 60)) (fun q => B ≤ q) U H) ∧
  va_Zq "jdk/internal/util/Preconditions" "SIOOBE_FORMATTER" "Ljava/util/function/BiFunction;" (fun q => B ≤ q) U H ∧
  ∀ c, ∀ q ∈ lm_kV c, ∀ k, q.2.1 = .ref k → (k < 64 ∧ lm_kd h k = 40) ∧ ∃ tx, vk_R (lm_own c) q.1 tx (ρ k) U
theorem lm_Old.moved {B : Nat} {ρ : Nat → Nat} {h : lm_H} {s U : State} {H H1 : Heap} (hW : s.WarmedH U.vm) (hq : ∀ a : Nat, a < H.size → ¬ B ≤ a → H1[a]? = H[a]?) (hO : lm_Old B ρ h s H) : lm_Old B ρ h U H1 := by
  obtain ⟨h1, h2, h3, h4, h5, h6, h7⟩ := hO
  have hv := hW.alike
  exact ⟨fun a ha hk => ((h1 a ha hk).kept hq).moved hv, fun a ha hk => ((h2 a ha hk).kept hq).moved hv, fun a ha hk => ⟨((h3 a ha hk).1.kept hq).moved hv, ((h3 a ha hk).2.1.kept hq).moved hv, ((h3 a ha hk).2.2.kept hq).moved hv⟩,
    (h4.kept hq).moved hv, ⟨h5.1, (h5.2.kept hq).moved hv⟩, (h6.kept hq).moved hv, fun c q hm k hk => ⟨(h7 c q hm k hk).1, (h7 c q hm k hk).2.elim fun tx hx => ⟨tx, hx.warm hW⟩⟩⟩
theorem lm_Old.cong {B : Nat} {ρ ρ' : Nat → Nat} {h h' : lm_H} {U : State} {H : Heap} (hv : lm_HV h) (ha : lm_ag h ρ ρ') (e1 : ∀ a, a < 64 → lm_kd h' a = lm_kd h a) (e2 : ∀ a, a < 64 → lm_ln h' a = lm_ln h a) (e3 : ∀ a, a < 64 → h'.1 a = h.1 a) (e5 : ∀ a, a < 64 → lm_hr h' a = lm_hr h a)
    (hO : lm_Old B ρ h U H) : lm_Old B ρ' h' U H := by
  obtain ⟨h1, h2, h3, h4, h5, h6, h7⟩ := hO
  have hf : ∀ a, a < 64 → lm_kd h a = 40 → ∀ k, lm_vm ρ' (lm_fv h' 30 a k) = lm_vm ρ (lm_fv h 30 a k) := fun a hl hk k => by
    unfold lm_fv
    rw [e3 a hl, show h'.2.2.1 a = h.2.2.1 a from e5 a hl]
    split
    · rw [lm_vm_rf, lm_vm_rf]
      cases hb : h.2.2.1 a k with
      | none => rfl
      | some b => simp only [Option.map_some, ha b (hv.1 a k b (by rw [hk]; decide) hb)]
    · rfl
  refine ⟨fun a hl hk => ?_, fun a hl hk => ?_, fun a hl hk => ?_, h4, ⟨by rw [e1 60 (by decide)]; exact h5.1, by rw [ha 60 (by rw [h5.1]; decide)]; exact h5.2⟩, h6, fun c q hm k hk => ?_⟩
  · rw [e1 a hl] at hk
    rw [ha a (by rw [hk]; decide), e2 a hl, e3 a hl]
    exact h1 a hl hk
  · rw [e1 a hl] at hk
    rw [ha a (by rw [hk]; decide), e2 a hl, e3 a hl]
    exact h2 a hl hk
  · rw [e1 a hl] at hk
    rw [ha a (by rw [hk]; decide), hf a hl hk, hf a hl hk]
    exact h3 a hl hk
  · obtain ⟨⟨g1, g2⟩, tx, g3⟩ := h7 c q hm k hk
    exact ⟨⟨g1, by rw [e1 k g1]; exact g2⟩, tx, by rw [ha k (by rw [g2]; decide)]; exact g3⟩
/-- the machine at a method of the program -/
def lm_Cx (f : Nat) (p : Program) (s : State) (m : MethodId) (meth : Method) (c : Code) : Prop :=
  p.tables.exec = Jvm.exec ∧ c.code = (lm_m f).2.2.1 ∧ c.maxLocals = (lm_m f).2.2.2.1 ∧ s.vm.findClass (lm_own (lm_m f).1) = some m.cls ∧ meth.sig.returnType = (lm_m f).2.2.2.2.1 ∧ meth.locks = false ∧ (f ∈ lm_inits → meth.name = (lm_m f).2.1.name)
/-- a state of LM is the machine's -/
def lm_G (D : va_G) (cy : Nat → ClassId) (B : Nat) (s : State) (ρ : Nat → Nat) (ls st : List Value) (h : lm_H) (H : Heap) (locs : List Loc) (sl : Array Slot) : Prop :=
  lm_Wd D cy B ρ h H ∧ lm_HV h ∧ lm_Old B ρ h s s.heap ∧ va_S (fun q => B ≤ q) s.heap H locs ∧ lm_L ρ ls sl ∧ (∀ v ∈ ls, lm_ok h v) ∧ ∀ v ∈ st, lm_ok h v
end
section
/-! a step of LM is the machine's: instructions that write no cell -/
theorem lm_nj_i (x : Int32) : Value.int x ≠ lm_jk := by unfold lm_jk; exact fun z => by cases z
theorem lm_nj_l (x : Int64) : Value.long x ≠ lm_jk := by unfold lm_jk; exact fun z => by cases z
theorem lm_nj_r (x : Nat) : Value.ref x ≠ lm_jk := by unfold lm_jk; exact fun z => by cases z
theorem lm_i1_inv {pc : Nat} {ls st : List Value} {h : lm_H} {g : Int32 → Value} {q} (hs : lm_i1 pc ls st h g = some (.inl q)) : ∃ x r, st = .int x :: r ∧ q = (pc + 1, ls, g x :: r, h) := by
  unfold lm_i1 at hs
  split at hs
  · cases hs; exact ⟨_, _, rfl, rfl⟩
  · cases hs
theorem lm_i2_inv {pc : Nat} {ls st : List Value} {h : lm_H} {g : Int32 → Int32 → Int32} {q} (hs : lm_i2 pc ls st h g = some (.inl q)) : ∃ x y r, st = .int y :: .int x :: r ∧ q = (pc + 1, ls, .int (g x y) :: r, h) := by
  unfold lm_i2 at hs
  split at hs
  · cases hs; exact ⟨_, _, _, rfl, rfl⟩
  · cases hs
theorem lm_l2_inv {pc : Nat} {ls st : List Value} {h : lm_H} {g : Int64 → Int64 → Int64} {q} (hs : lm_l2 pc ls st h g = some (.inl q)) : ∃ x y r, st = .long y :: .long x :: r ∧ q = (pc + 1, ls, .long (g x y) :: r, h) := by
  unfold lm_l2 at hs
  split at hs
  · cases hs; exact ⟨_, _, _, rfl, rfl⟩
  · cases hs
theorem lm_ls_inv {pc : Nat} {ls st : List Value} {h : lm_H} {g : Int64 → Int32 → Int64} {q} (hs : lm_ls pc ls st h g = some (.inl q)) : ∃ x y r, st = .int y :: .long x :: r ∧ q = (pc + 1, ls, .long (g x y) :: r, h) := by
  unfold lm_ls at hs
  split at hs
  · cases hs; exact ⟨_, _, _, rfl, rfl⟩
  · cases hs
theorem lm_li_inv {pc : Nat} {ls st : List Value} {h : lm_H} {i : Nat} {q} (hs : lm_li pc ls st h i = some (.inl q)) : ∃ x, ls[i]? = some (.int x) ∧ q = (pc, ls, .int x :: st, h) := by
  unfold lm_li at hs
  split at hs
  · rename_i x hx; cases hs; exact ⟨x, hx, rfl⟩
  · cases hs
theorem lm_ll_inv {pc : Nat} {ls st : List Value} {h : lm_H} {i : Nat} {q} (hs : lm_ll pc ls st h i = some (.inl q)) : ∃ x, ls[i]? = some (.long x) ∧ q = (pc, ls, .long x :: st, h) := by
  unfold lm_ll at hs
  split at hs
  · rename_i x hx; cases hs; exact ⟨x, hx, rfl⟩
  · cases hs
theorem lm_la_inv {pc : Nat} {ls st : List Value} {h : lm_H} {i : Nat} {q} (hs : lm_la pc ls st h i = some (.inl q)) : ∃ x, ls[i]? = some (.ref x) ∧ q = (pc, ls, .ref x :: st, h) := by
  unfold lm_la at hs
  split at hs
  · rename_i x hx; cases hs; exact ⟨x, hx, rfl⟩
  · cases hs
theorem lm_si_inv {pc : Nat} {ls st : List Value} {h : lm_H} {i : Nat} {q} (hs : lm_si pc ls st h i = some (.inl q)) : ∃ x r, st = .int x :: r ∧ i < ls.length ∧ q = (pc, lm_s1 ls i (.int x), r, h) := by
  unfold lm_si at hs
  split at hs
  · split at hs
    · rename_i hi; cases hs; exact ⟨_, _, rfl, hi, rfl⟩
    · cases hs
  · cases hs
theorem lm_sl_inv {pc : Nat} {ls st : List Value} {h : lm_H} {i : Nat} {q} (hs : lm_sl pc ls st h i = some (.inl q)) : ∃ x r, st = .long x :: r ∧ i + 1 < ls.length ∧ q = (pc, lm_s2 ls i (.long x), r, h) := by
  unfold lm_sl at hs
  split at hs
  · split at hs
    · rename_i hi; cases hs; exact ⟨_, _, rfl, hi, rfl⟩
    · cases hs
  · cases hs
theorem lm_sa_inv {pc : Nat} {ls st : List Value} {h : lm_H} {i : Nat} {q} (hs : lm_sa pc ls st h i = some (.inl q)) : ∃ x r, st = .ref x :: r ∧ i < ls.length ∧ q = (pc, lm_s1 ls i (.ref x), r, h) := by
  unfold lm_sa at hs
  split at hs
  · split at hs
    · rename_i hi; cases hs; exact ⟨_, _, rfl, hi, rfl⟩
    · cases hs
  · cases hs
theorem lm_tg_spec {pc t : Nat} {off : Int} (h : lm_tg pc off = some t) : (pc : Int) + off = (t : Int) := by
  unfold lm_tg at h
  split at h
  · rename_i t' e; cases h; exact e
  · cases h
theorem lm_go_inv {pc : Nat} {off : Int} {ls st : List Value} {h : lm_H} {q} (hs : lm_go pc off ls st h = some (.inl q)) : ∃ t : Nat, (pc : Int) + off = (t : Int) ∧ q = (t, ls, st, h) := by
  unfold lm_go at hs
  split at hs
  · rename_i t ht; cases hs; exact ⟨t, lm_tg_spec ht, rfl⟩
  · cases hs
theorem lm_bt_inv {pc : Nat} {off : Int} {co : ClassFile.Cond} {x y : Int32} {ls st : List Value} {h : lm_H} {q} (hs : lm_bt pc off co x y ls st h = some (.inl q)) : ∃ t : Nat, (pc : Int) + off = (t : Int) ∧ lm_br co x y (lm_nx t ls st h) (lm_nx (pc + 3) ls st h) = some (.inl q) := by
  unfold lm_bt at hs
  split at hs
  · rename_i t ht; exact ⟨t, lm_tg_spec ht, hs⟩
  · cases hs
theorem lm_ir_inv {pc a : Nat} {i : Int32} {ls st : List Value} {h : lm_H} {ok : Bool} {v : Value} {q} (hs : lm_ir pc a i ls st h ok v = some (.inl q)) : ok = true ∧ vp_in i (lm_ln h a) ∧ q = (pc + 1, ls, v :: st, h) := by
  unfold lm_ir at hs
  split at hs
  · rename_i hc; cases hs; exact ⟨hc.1, hc.2, rfl⟩
  · cases hs
theorem lm_ofInt_iff (x : Int32) {n : Int} (h1 : -2147483648 ≤ n) (h2 : n < 2147483648) : x = Int32.ofInt n ↔ x.toInt = n := by
  have e : (Int32.ofInt n).toInt = n := Int32.toInt_ofInt_of_le (by omega) (by omega)
  constructor
  · intro h; rw [h, e]
  · intro h; exact Int32.toInt_inj.mp (by rw [h, e])
theorem lm_sw_spec (x : Int32) : ∀ (os : List Int) (lo d : Int), -2147483648 ≤ lo → lo + os.length ≤ 2147483648 →
    ((x.toInt < lo ∨ lo + os.length ≤ x.toInt) → lm_sw x lo os d = d) ∧ (¬ x.toInt < lo → ¬ lo + os.length ≤ x.toInt → os[(x.toInt - lo).toNat]? = some (lm_sw x lo os d)) := by
  intro os
  induction os with
  | nil =>
    intro lo d h1 h2
    refine ⟨fun _ => rfl, fun q1 q2 => ?_⟩
    simp only [List.length_nil] at q2
    omega
  | cons o os ih =>
    intro lo d h1 h2
    simp only [List.length_cons] at h2 ⊢
    have hiff := lm_ofInt_iff x (n := lo) h1 (by omega)
    obtain ⟨i1, i2⟩ := ih (lo + 1) d (by omega) (by omega)
    by_cases hx : x.toInt = lo
    · refine ⟨fun q => by omega, fun _ _ => ?_⟩
      simp only [lm_sw, if_pos (hiff.mpr hx)]
      rw [show (x.toInt - lo).toNat = 0 by omega]
      rfl
    · simp only [lm_sw, if_neg (fun z => hx (hiff.mp z))]
      refine ⟨fun q => i1 (by omega), fun q1 q2 => ?_⟩
      rw [show (x.toInt - lo).toNat = (x.toInt - (lo + 1)).toNat + 1 by omega, List.getElem?_cons_succ]
      exact i2 (by omega) (by omega)
section LMS
variable {p : Program} {l : Launch} {e : Env} {R : Room} {s : State} {m : MethodId} {args : Array Value} {below : List Frame} {meth : Method} {c : Code} {H : Heap} {locs : List Loc} {cells slots : Nat} {Q : State → Prop}
variable {D : va_G} {cy : Nat → ClassId} {B : Nat} {ρ : Nat → Nat} {f pc : Nat} {ls st : List Value} {h : lm_H} {sl : Array Slot}
/-- the machine goes on from LM's next state -/
abbrev lm_K (p : Program) (l : Launch) (e : Env) (R : Room) (s : State) (m : MethodId) (args : Array Value) (below : List Frame) (meth : Method) (c : Code) (cells slots : Nat) (Q : State → Prop) (D : va_G) (cy : Nat → ClassId) (B : Nat) (ρ : Nat → Nat) (h : lm_H) (q : Nat × List Value × List Value × lm_H) : Prop :=
  ∀ (ρ' : Nat → Nat) (H' : Heap) (locs' : List Loc) (sl' : Array Slot) (cells' slots' : Nat), lm_ag h ρ ρ' → lm_G D cy B s ρ' q.2.1 q.2.2.1 q.2.2.2 H' locs' sl' → cells' + lm_nc h = cells + lm_nc q.2.2.2 → slots' + lm_ns h = slots + lm_ns q.2.2.2 →
    W p l e R s m args below meth c H' locs' cells' slots' Q (F0 m q.1 sl' (q.2.2.1.map (lm_vm ρ')))
theorem lm_K_st {pc' : Nat} {st' : List Value} (kk : lm_K p l e R s m args below meth c cells slots Q D cy B ρ h (pc', ls, st', h)) (G : lm_G D cy B s ρ ls st h H locs sl) (hok : ∀ v ∈ st', lm_ok h v) :
    W p l e R s m args below meth c H locs cells slots Q (F0 m pc' sl (st'.map (lm_vm ρ))) :=
  kk ρ H locs sl cells slots (lm_ag_rf h ρ) ⟨G.1, G.2.1, G.2.2.1, G.2.2.2.1, G.2.2.2.2.1, G.2.2.2.2.2.1, hok⟩ rfl rfl
theorem lm_K_s1 {pc' i : Nat} {v : Value} {st' : List Value} {sl' : Array Slot} {lv : List (Nat × Value)} (kk : lm_K p l e R s m args below meth c cells slots Q D cy B ρ h (pc', lm_s1 ls i v, st', h)) (G : lm_G D cy B s ρ ls st h H locs sl) (hi : i < ls.length) (h2 : ∀ (i : Nat) (v : Value), ls[i]? = some v → v ≠ lm_jk → (i, lm_vm ρ v) ∈ lv)
    (hl' : lv_has sl' ls.length ((i, lm_vm ρ v) :: lv.filter (fun q => !(q.1 == i) && !(q.1 + 1 == i && q.2.category == 2)))) (hv : lm_ok h v) (hok : ∀ v ∈ st', lm_ok h v) :
    W p l e R s m args below meth c H locs cells slots Q (F0 m pc' sl' (st'.map (lm_vm ρ))) :=
  kk ρ H locs sl' cells slots (lm_ag_rf h ρ) ⟨G.1, G.2.1, G.2.2.1, G.2.2.2.1, ⟨_, by rw [lm_s1_len]; exact hl', lm_L_s1 h2 hi⟩, lm_ok_s1 hv G.2.2.2.2.2.1, hok⟩ rfl rfl
theorem lm_K_s2 {pc' i : Nat} {v : Value} {st' : List Value} {sl' : Array Slot} {lv : List (Nat × Value)} (kk : lm_K p l e R s m args below meth c cells slots Q D cy B ρ h (pc', lm_s2 ls i v, st', h)) (G : lm_G D cy B s ρ ls st h H locs sl) (hi : i + 1 < ls.length) (h2 : ∀ (i : Nat) (v : Value), ls[i]? = some v → v ≠ lm_jk → (i, lm_vm ρ v) ∈ lv)
    (hl' : lv_has sl' ls.length ((i, lm_vm ρ v) :: lv.filter (fun q => !(q.1 == i) && (!(q.1 == i + 1) && !(q.1 + 1 == i && q.2.category == 2))))) (hv : lm_ok h v) (hok : ∀ v ∈ st', lm_ok h v) :
    W p l e R s m args below meth c H locs cells slots Q (F0 m pc' sl' (st'.map (lm_vm ρ))) :=
  kk ρ H locs sl' cells slots (lm_ag_rf h ρ) ⟨G.1, G.2.1, G.2.2.1, G.2.2.2.1, ⟨_, by unfold lm_s2; rw [List.length_set, lm_s1_len]; exact hl', lm_L_s2 h2 hi⟩, lm_ok_s2 hv G.2.2.2.2.2.1, hok⟩ rfl rfl
end LMS
end
section
section LMT
variable {p : Program} {l : Launch} {e : Env} {R : Room} {s : State} {m : MethodId} {args : Array Value} {below : List Frame} {meth : Method} {c : Code} {H : Heap} {locs : List Loc} {cells slots : Nat} {Q : State → Prop}
variable {D : va_G} {cy : Nat → ClassId} {B : Nat} {ρ : Nat → Nat} {f pc : Nat} {ls st : List Value} {h : lm_H} {sl : Array Slot}

theorem lm_t_iadd (hx : p.tables.exec = Jvm.exec) {cc : ByteArray} (hb : c.code = cc) (G : lm_G D cy B s ρ ls st h H locs sl) {q : Nat × List Value × List Value × lm_H} (kk : lm_K p l e R s m args below meth c cells slots Q D cy B ρ h q) (hd : decode cc pc = .ok (.iadd, 1)) (hs : lm_i2 pc ls st h (fun x y => x + y) = some (.inl q)) : W p l e R s m args below meth c H locs cells slots Q (F0 m pc sl (st.map (lm_vm ρ))) := by
  have hst := G.2.2.2.2.2.2
  have hvl := G.2.2.2.2.2.1
  obtain ⟨x, y, r, rfl, rfl⟩ := lm_i2_inv hs
  exact lv_iadd hx hb hd (lm_K_st kk G (lm_ok_cons (lm_ok_int _ _) (fun v hv => hst v (List.mem_cons_of_mem _ (List.mem_cons_of_mem _ hv)))))
theorem lm_t_isub (hx : p.tables.exec = Jvm.exec) {cc : ByteArray} (hb : c.code = cc) (G : lm_G D cy B s ρ ls st h H locs sl) {q : Nat × List Value × List Value × lm_H} (kk : lm_K p l e R s m args below meth c cells slots Q D cy B ρ h q) (hd : decode cc pc = .ok (.isub, 1)) (hs : lm_i2 pc ls st h (fun x y => x - y) = some (.inl q)) : W p l e R s m args below meth c H locs cells slots Q (F0 m pc sl (st.map (lm_vm ρ))) := by
  have hst := G.2.2.2.2.2.2
  have hvl := G.2.2.2.2.2.1
  obtain ⟨x, y, r, rfl, rfl⟩ := lm_i2_inv hs
  exact lv_isub hx hb hd (lm_K_st kk G (lm_ok_cons (lm_ok_int _ _) (fun v hv => hst v (List.mem_cons_of_mem _ (List.mem_cons_of_mem _ hv)))))
theorem lm_t_imul (hx : p.tables.exec = Jvm.exec) {cc : ByteArray} (hb : c.code = cc) (G : lm_G D cy B s ρ ls st h H locs sl) {q : Nat × List Value × List Value × lm_H} (kk : lm_K p l e R s m args below meth c cells slots Q D cy B ρ h q) (hd : decode cc pc = .ok (.imul, 1)) (hs : lm_i2 pc ls st h (fun x y => x * y) = some (.inl q)) : W p l e R s m args below meth c H locs cells slots Q (F0 m pc sl (st.map (lm_vm ρ))) := by
  have hst := G.2.2.2.2.2.2
  have hvl := G.2.2.2.2.2.1
  obtain ⟨x, y, r, rfl, rfl⟩ := lm_i2_inv hs
  exact lv_imul hx hb hd (lm_K_st kk G (lm_ok_cons (lm_ok_int _ _) (fun v hv => hst v (List.mem_cons_of_mem _ (List.mem_cons_of_mem _ hv)))))
theorem lm_t_iand (hx : p.tables.exec = Jvm.exec) {cc : ByteArray} (hb : c.code = cc) (G : lm_G D cy B s ρ ls st h H locs sl) {q : Nat × List Value × List Value × lm_H} (kk : lm_K p l e R s m args below meth c cells slots Q D cy B ρ h q) (hd : decode cc pc = .ok (.iand, 1)) (hs : lm_i2 pc ls st h (fun x y => x &&& y) = some (.inl q)) : W p l e R s m args below meth c H locs cells slots Q (F0 m pc sl (st.map (lm_vm ρ))) := by
  have hst := G.2.2.2.2.2.2
  have hvl := G.2.2.2.2.2.1
  obtain ⟨x, y, r, rfl, rfl⟩ := lm_i2_inv hs
  exact lv_iand hx hb hd (lm_K_st kk G (lm_ok_cons (lm_ok_int _ _) (fun v hv => hst v (List.mem_cons_of_mem _ (List.mem_cons_of_mem _ hv)))))
theorem lm_t_ior (hx : p.tables.exec = Jvm.exec) {cc : ByteArray} (hb : c.code = cc) (G : lm_G D cy B s ρ ls st h H locs sl) {q : Nat × List Value × List Value × lm_H} (kk : lm_K p l e R s m args below meth c cells slots Q D cy B ρ h q) (hd : decode cc pc = .ok (.ior, 1)) (hs : lm_i2 pc ls st h (fun x y => x ||| y) = some (.inl q)) : W p l e R s m args below meth c H locs cells slots Q (F0 m pc sl (st.map (lm_vm ρ))) := by
  have hst := G.2.2.2.2.2.2
  have hvl := G.2.2.2.2.2.1
  obtain ⟨x, y, r, rfl, rfl⟩ := lm_i2_inv hs
  exact lv_ior hx hb hd (lm_K_st kk G (lm_ok_cons (lm_ok_int _ _) (fun v hv => hst v (List.mem_cons_of_mem _ (List.mem_cons_of_mem _ hv)))))
theorem lm_t_ixor (hx : p.tables.exec = Jvm.exec) {cc : ByteArray} (hb : c.code = cc) (G : lm_G D cy B s ρ ls st h H locs sl) {q : Nat × List Value × List Value × lm_H} (kk : lm_K p l e R s m args below meth c cells slots Q D cy B ρ h q) (hd : decode cc pc = .ok (.ixor, 1)) (hs : lm_i2 pc ls st h (fun x y => x ^^^ y) = some (.inl q)) : W p l e R s m args below meth c H locs cells slots Q (F0 m pc sl (st.map (lm_vm ρ))) := by
  have hst := G.2.2.2.2.2.2
  have hvl := G.2.2.2.2.2.1
  obtain ⟨x, y, r, rfl, rfl⟩ := lm_i2_inv hs
  exact lv_ixor hx hb hd (lm_K_st kk G (lm_ok_cons (lm_ok_int _ _) (fun v hv => hst v (List.mem_cons_of_mem _ (List.mem_cons_of_mem _ hv)))))
theorem lm_t_ishl (hx : p.tables.exec = Jvm.exec) {cc : ByteArray} (hb : c.code = cc) (G : lm_G D cy B s ρ ls st h H locs sl) {q : Nat × List Value × List Value × lm_H} (kk : lm_K p l e R s m args below meth c cells slots Q D cy B ρ h q) (hd : decode cc pc = .ok (.ishl, 1)) (hs : lm_i2 pc ls st h (fun x y => x <<< (y &&& 31)) = some (.inl q)) : W p l e R s m args below meth c H locs cells slots Q (F0 m pc sl (st.map (lm_vm ρ))) := by
  have hst := G.2.2.2.2.2.2
  have hvl := G.2.2.2.2.2.1
  obtain ⟨x, y, r, rfl, rfl⟩ := lm_i2_inv hs
  exact lv_ishl hx hb hd (lm_K_st kk G (lm_ok_cons (lm_ok_int _ _) (fun v hv => hst v (List.mem_cons_of_mem _ (List.mem_cons_of_mem _ hv)))))
theorem lm_t_ishr (hx : p.tables.exec = Jvm.exec) {cc : ByteArray} (hb : c.code = cc) (G : lm_G D cy B s ρ ls st h H locs sl) {q : Nat × List Value × List Value × lm_H} (kk : lm_K p l e R s m args below meth c cells slots Q D cy B ρ h q) (hd : decode cc pc = .ok (.ishr, 1)) (hs : lm_i2 pc ls st h (fun x y => x >>> (y &&& 31)) = some (.inl q)) : W p l e R s m args below meth c H locs cells slots Q (F0 m pc sl (st.map (lm_vm ρ))) := by
  have hst := G.2.2.2.2.2.2
  have hvl := G.2.2.2.2.2.1
  obtain ⟨x, y, r, rfl, rfl⟩ := lm_i2_inv hs
  exact lv_ishr hx hb hd (lm_K_st kk G (lm_ok_cons (lm_ok_int _ _) (fun v hv => hst v (List.mem_cons_of_mem _ (List.mem_cons_of_mem _ hv)))))
theorem lm_t_iushr (hx : p.tables.exec = Jvm.exec) {cc : ByteArray} (hb : c.code = cc) (G : lm_G D cy B s ρ ls st h H locs sl) {q : Nat × List Value × List Value × lm_H} (kk : lm_K p l e R s m args below meth c cells slots Q D cy B ρ h q) (hd : decode cc pc = .ok (.iushr, 1)) (hs : lm_i2 pc ls st h (fun x y => (x.toUInt32 >>> (y.toUInt32 &&& Int32.toUInt32 31)).toInt32) = some (.inl q)) : W p l e R s m args below meth c H locs cells slots Q (F0 m pc sl (st.map (lm_vm ρ))) := by
  have hst := G.2.2.2.2.2.2
  have hvl := G.2.2.2.2.2.1
  obtain ⟨x, y, r, rfl, rfl⟩ := lm_i2_inv hs
  exact lv_iushr hx hb hd rfl (lm_K_st kk G (lm_ok_cons (lm_ok_int _ _) (fun v hv => hst v (List.mem_cons_of_mem _ (List.mem_cons_of_mem _ hv)))))
theorem lm_t_ladd (hx : p.tables.exec = Jvm.exec) {cc : ByteArray} (hb : c.code = cc) (G : lm_G D cy B s ρ ls st h H locs sl) {q : Nat × List Value × List Value × lm_H} (kk : lm_K p l e R s m args below meth c cells slots Q D cy B ρ h q) (hd : decode cc pc = .ok (.ladd, 1)) (hs : lm_l2 pc ls st h (fun x y => x + y) = some (.inl q)) : W p l e R s m args below meth c H locs cells slots Q (F0 m pc sl (st.map (lm_vm ρ))) := by
  have hst := G.2.2.2.2.2.2
  have hvl := G.2.2.2.2.2.1
  obtain ⟨x, y, r, rfl, rfl⟩ := lm_l2_inv hs
  exact lv_ladd hx hb hd (lm_K_st kk G (lm_ok_cons (lm_ok_long _ _) (fun v hv => hst v (List.mem_cons_of_mem _ (List.mem_cons_of_mem _ hv)))))
theorem lm_t_lmul (hx : p.tables.exec = Jvm.exec) {cc : ByteArray} (hb : c.code = cc) (G : lm_G D cy B s ρ ls st h H locs sl) {q : Nat × List Value × List Value × lm_H} (kk : lm_K p l e R s m args below meth c cells slots Q D cy B ρ h q) (hd : decode cc pc = .ok (.lmul, 1)) (hs : lm_l2 pc ls st h (fun x y => x * y) = some (.inl q)) : W p l e R s m args below meth c H locs cells slots Q (F0 m pc sl (st.map (lm_vm ρ))) := by
  have hst := G.2.2.2.2.2.2
  have hvl := G.2.2.2.2.2.1
  obtain ⟨x, y, r, rfl, rfl⟩ := lm_l2_inv hs
  exact lv_lmul hx hb hd (lm_K_st kk G (lm_ok_cons (lm_ok_long _ _) (fun v hv => hst v (List.mem_cons_of_mem _ (List.mem_cons_of_mem _ hv)))))
theorem lm_t_land (hx : p.tables.exec = Jvm.exec) {cc : ByteArray} (hb : c.code = cc) (G : lm_G D cy B s ρ ls st h H locs sl) {q : Nat × List Value × List Value × lm_H} (kk : lm_K p l e R s m args below meth c cells slots Q D cy B ρ h q) (hd : decode cc pc = .ok (.land, 1)) (hs : lm_l2 pc ls st h (fun x y => x &&& y) = some (.inl q)) : W p l e R s m args below meth c H locs cells slots Q (F0 m pc sl (st.map (lm_vm ρ))) := by
  have hst := G.2.2.2.2.2.2
  have hvl := G.2.2.2.2.2.1
  obtain ⟨x, y, r, rfl, rfl⟩ := lm_l2_inv hs
  exact lv_land hx hb hd (lm_K_st kk G (lm_ok_cons (lm_ok_long _ _) (fun v hv => hst v (List.mem_cons_of_mem _ (List.mem_cons_of_mem _ hv)))))
theorem lm_t_lor (hx : p.tables.exec = Jvm.exec) {cc : ByteArray} (hb : c.code = cc) (G : lm_G D cy B s ρ ls st h H locs sl) {q : Nat × List Value × List Value × lm_H} (kk : lm_K p l e R s m args below meth c cells slots Q D cy B ρ h q) (hd : decode cc pc = .ok (.lor, 1)) (hs : lm_l2 pc ls st h (fun x y => x ||| y) = some (.inl q)) : W p l e R s m args below meth c H locs cells slots Q (F0 m pc sl (st.map (lm_vm ρ))) := by
  have hst := G.2.2.2.2.2.2
  have hvl := G.2.2.2.2.2.1
  obtain ⟨x, y, r, rfl, rfl⟩ := lm_l2_inv hs
  exact lv_lor hx hb hd (lm_K_st kk G (lm_ok_cons (lm_ok_long _ _) (fun v hv => hst v (List.mem_cons_of_mem _ (List.mem_cons_of_mem _ hv)))))
theorem lm_t_lxor (hx : p.tables.exec = Jvm.exec) {cc : ByteArray} (hb : c.code = cc) (G : lm_G D cy B s ρ ls st h H locs sl) {q : Nat × List Value × List Value × lm_H} (kk : lm_K p l e R s m args below meth c cells slots Q D cy B ρ h q) (hd : decode cc pc = .ok (.lxor, 1)) (hs : lm_l2 pc ls st h (fun x y => x ^^^ y) = some (.inl q)) : W p l e R s m args below meth c H locs cells slots Q (F0 m pc sl (st.map (lm_vm ρ))) := by
  have hst := G.2.2.2.2.2.2
  have hvl := G.2.2.2.2.2.1
  obtain ⟨x, y, r, rfl, rfl⟩ := lm_l2_inv hs
  exact lv_lxor hx hb hd (lm_K_st kk G (lm_ok_cons (lm_ok_long _ _) (fun v hv => hst v (List.mem_cons_of_mem _ (List.mem_cons_of_mem _ hv)))))
theorem lm_t_lshl (hx : p.tables.exec = Jvm.exec) {cc : ByteArray} (hb : c.code = cc) (G : lm_G D cy B s ρ ls st h H locs sl) {q : Nat × List Value × List Value × lm_H} (kk : lm_K p l e R s m args below meth c cells slots Q D cy B ρ h q) (hd : decode cc pc = .ok (.lshl, 1)) (hs : lm_ls pc ls st h (fun x y => x <<< (y.toInt64 &&& 63)) = some (.inl q)) : W p l e R s m args below meth c H locs cells slots Q (F0 m pc sl (st.map (lm_vm ρ))) := by
  have hst := G.2.2.2.2.2.2
  have hvl := G.2.2.2.2.2.1
  obtain ⟨x, y, r, rfl, rfl⟩ := lm_ls_inv hs
  exact lv_lshl hx hb hd rfl (lm_K_st kk G (lm_ok_cons (lm_ok_long _ _) (fun v hv => hst v (List.mem_cons_of_mem _ (List.mem_cons_of_mem _ hv)))))
theorem lm_t_lshr (hx : p.tables.exec = Jvm.exec) {cc : ByteArray} (hb : c.code = cc) (G : lm_G D cy B s ρ ls st h H locs sl) {q : Nat × List Value × List Value × lm_H} (kk : lm_K p l e R s m args below meth c cells slots Q D cy B ρ h q) (hd : decode cc pc = .ok (.lshr, 1)) (hs : lm_ls pc ls st h (fun x y => x >>> (y.toInt64 &&& 63)) = some (.inl q)) : W p l e R s m args below meth c H locs cells slots Q (F0 m pc sl (st.map (lm_vm ρ))) := by
  have hst := G.2.2.2.2.2.2
  have hvl := G.2.2.2.2.2.1
  obtain ⟨x, y, r, rfl, rfl⟩ := lm_ls_inv hs
  exact lv_lshr hx hb hd rfl (lm_K_st kk G (lm_ok_cons (lm_ok_long _ _) (fun v hv => hst v (List.mem_cons_of_mem _ (List.mem_cons_of_mem _ hv)))))
theorem lm_t_ineg (hx : p.tables.exec = Jvm.exec) {cc : ByteArray} (hb : c.code = cc) (G : lm_G D cy B s ρ ls st h H locs sl) {q : Nat × List Value × List Value × lm_H} (kk : lm_K p l e R s m args below meth c cells slots Q D cy B ρ h q) (hd : decode cc pc = .ok (.ineg, 1)) (hs : lm_i1 pc ls st h (fun x => .int (-x)) = some (.inl q)) : W p l e R s m args below meth c H locs cells slots Q (F0 m pc sl (st.map (lm_vm ρ))) := by
  have hst := G.2.2.2.2.2.2
  have hvl := G.2.2.2.2.2.1
  obtain ⟨x, r, rfl, rfl⟩ := lm_i1_inv hs
  exact lv_ineg hx hb hd (lm_K_st kk G (lm_ok_cons (lm_ok_int _ _) (fun v hv => hst v (List.mem_cons_of_mem _ hv))))
theorem lm_t_i2l (hx : p.tables.exec = Jvm.exec) {cc : ByteArray} (hb : c.code = cc) (G : lm_G D cy B s ρ ls st h H locs sl) {q : Nat × List Value × List Value × lm_H} (kk : lm_K p l e R s m args below meth c cells slots Q D cy B ρ h q) (hd : decode cc pc = .ok (.i2l, 1)) (hs : lm_i1 pc ls st h (fun x => .long x.toInt64) = some (.inl q)) : W p l e R s m args below meth c H locs cells slots Q (F0 m pc sl (st.map (lm_vm ρ))) := by
  have hst := G.2.2.2.2.2.2
  have hvl := G.2.2.2.2.2.1
  obtain ⟨x, r, rfl, rfl⟩ := lm_i1_inv hs
  exact lv_i2l hx hb hd rfl (lm_K_st kk G (lm_ok_cons (lm_ok_long _ _) (fun v hv => hst v (List.mem_cons_of_mem _ hv))))
theorem lm_t_i2b (hx : p.tables.exec = Jvm.exec) {cc : ByteArray} (hb : c.code = cc) (G : lm_G D cy B s ρ ls st h H locs sl) {q : Nat × List Value × List Value × lm_H} (kk : lm_K p l e R s m args below meth c cells slots Q D cy B ρ h q) (hd : decode cc pc = .ok (.i2b, 1)) (hs : lm_i1 pc ls st h (fun x => .int x.toInt8.toInt32) = some (.inl q)) : W p l e R s m args below meth c H locs cells slots Q (F0 m pc sl (st.map (lm_vm ρ))) := by
  have hst := G.2.2.2.2.2.2
  have hvl := G.2.2.2.2.2.1
  obtain ⟨x, r, rfl, rfl⟩ := lm_i1_inv hs
  exact lv_i2b hx hb hd rfl (lm_K_st kk G (lm_ok_cons (lm_ok_int _ _) (fun v hv => hst v (List.mem_cons_of_mem _ hv))))
theorem lm_t_i2s (hx : p.tables.exec = Jvm.exec) {cc : ByteArray} (hb : c.code = cc) (G : lm_G D cy B s ρ ls st h H locs sl) {q : Nat × List Value × List Value × lm_H} (kk : lm_K p l e R s m args below meth c cells slots Q D cy B ρ h q) (hd : decode cc pc = .ok (.i2s, 1)) (hs : lm_i1 pc ls st h (fun x => .int x.toInt16.toInt32) = some (.inl q)) : W p l e R s m args below meth c H locs cells slots Q (F0 m pc sl (st.map (lm_vm ρ))) := by
  have hst := G.2.2.2.2.2.2
  have hvl := G.2.2.2.2.2.1
  obtain ⟨x, r, rfl, rfl⟩ := lm_i1_inv hs
  exact lv_i2s hx hb hd rfl (lm_K_st kk G (lm_ok_cons (lm_ok_int _ _) (fun v hv => hst v (List.mem_cons_of_mem _ hv))))
theorem lm_t_i2c (hx : p.tables.exec = Jvm.exec) {cc : ByteArray} (hb : c.code = cc) (G : lm_G D cy B s ρ ls st h H locs sl) {q : Nat × List Value × List Value × lm_H} (kk : lm_K p l e R s m args below meth c cells slots Q D cy B ρ h q) (hd : decode cc pc = .ok (.i2c, 1)) (hs : lm_i1 pc ls st h (fun x => .int (x.toUInt32 % 65536).toInt32) = some (.inl q)) : W p l e R s m args below meth c H locs cells slots Q (F0 m pc sl (st.map (lm_vm ρ))) := by
  have hst := G.2.2.2.2.2.2
  have hvl := G.2.2.2.2.2.1
  obtain ⟨x, r, rfl, rfl⟩ := lm_i1_inv hs
  exact lv_i2c hx hb hd rfl (lm_K_st kk G (lm_ok_cons (lm_ok_int _ _) (fun v hv => hst v (List.mem_cons_of_mem _ hv))))
theorem lm_t_iload (hx : p.tables.exec = Jvm.exec) {cc : ByteArray} (hb : c.code = cc) (G : lm_G D cy B s ρ ls st h H locs sl) {q : Nat × List Value × List Value × lm_H} (kk : lm_K p l e R s m args below meth c cells slots Q D cy B ρ h q) {i : Nat} (hd : decode cc pc = .ok (.iload i, 2)) (hs : lm_li (pc + 2) ls st h i = some (.inl q)) : W p l e R s m args below meth c H locs cells slots Q (F0 m pc sl (st.map (lm_vm ρ))) := by
  have hst := G.2.2.2.2.2.2
  have hvl := G.2.2.2.2.2.1
  obtain ⟨x, hi, rfl⟩ := lm_li_inv hs
  exact lv_iload hx hb hd (lm_L_get G.2.2.2.2.1 hi (lm_nj_i x)) (lm_K_st kk G (lm_ok_cons (lm_ok_int _ _) hst))
theorem lm_t_iload_n (hx : p.tables.exec = Jvm.exec) {cc : ByteArray} (hb : c.code = cc) (G : lm_G D cy B s ρ ls st h H locs sl) {q : Nat × List Value × List Value × lm_H} (kk : lm_K p l e R s m args below meth c cells slots Q D cy B ρ h q) {i : Fin 4} (hd : decode cc pc = .ok (.iload_n i, 1)) (hs : lm_li (pc + 1) ls st h i = some (.inl q)) : W p l e R s m args below meth c H locs cells slots Q (F0 m pc sl (st.map (lm_vm ρ))) := by
  have hst := G.2.2.2.2.2.2
  have hvl := G.2.2.2.2.2.1
  obtain ⟨x, hi, rfl⟩ := lm_li_inv hs
  exact lv_iload_n hx hb hd rfl (lm_L_get G.2.2.2.2.1 hi (lm_nj_i x)) (lm_K_st kk G (lm_ok_cons (lm_ok_int _ _) hst))
theorem lm_t_lload (hx : p.tables.exec = Jvm.exec) {cc : ByteArray} (hb : c.code = cc) (G : lm_G D cy B s ρ ls st h H locs sl) {q : Nat × List Value × List Value × lm_H} (kk : lm_K p l e R s m args below meth c cells slots Q D cy B ρ h q) {i : Nat} (hd : decode cc pc = .ok (.lload i, 2)) (hs : lm_ll (pc + 2) ls st h i = some (.inl q)) : W p l e R s m args below meth c H locs cells slots Q (F0 m pc sl (st.map (lm_vm ρ))) := by
  have hst := G.2.2.2.2.2.2
  have hvl := G.2.2.2.2.2.1
  obtain ⟨x, hi, rfl⟩ := lm_ll_inv hs
  exact lv_lload hx hb hd (lm_L_get G.2.2.2.2.1 hi (lm_nj_l x)) (lm_K_st kk G (lm_ok_cons (lm_ok_long _ _) hst))
theorem lm_t_lload_n (hx : p.tables.exec = Jvm.exec) {cc : ByteArray} (hb : c.code = cc) (G : lm_G D cy B s ρ ls st h H locs sl) {q : Nat × List Value × List Value × lm_H} (kk : lm_K p l e R s m args below meth c cells slots Q D cy B ρ h q) {i : Fin 4} (hd : decode cc pc = .ok (.lload_n i, 1)) (hs : lm_ll (pc + 1) ls st h i = some (.inl q)) : W p l e R s m args below meth c H locs cells slots Q (F0 m pc sl (st.map (lm_vm ρ))) := by
  have hst := G.2.2.2.2.2.2
  have hvl := G.2.2.2.2.2.1
  obtain ⟨x, hi, rfl⟩ := lm_ll_inv hs
  exact lv_lload_n hx hb hd rfl (lm_L_get G.2.2.2.2.1 hi (lm_nj_l x)) (lm_K_st kk G (lm_ok_cons (lm_ok_long _ _) hst))
theorem lm_t_aload (hx : p.tables.exec = Jvm.exec) {cc : ByteArray} (hb : c.code = cc) (G : lm_G D cy B s ρ ls st h H locs sl) {q : Nat × List Value × List Value × lm_H} (kk : lm_K p l e R s m args below meth c cells slots Q D cy B ρ h q) {i : Nat} (hd : decode cc pc = .ok (.aload i, 2)) (hs : lm_la (pc + 2) ls st h i = some (.inl q)) : W p l e R s m args below meth c H locs cells slots Q (F0 m pc sl (st.map (lm_vm ρ))) := by
  have hst := G.2.2.2.2.2.2
  have hvl := G.2.2.2.2.2.1
  obtain ⟨x, hi, rfl⟩ := lm_la_inv hs
  exact lv_aload hx hb hd (lm_L_get G.2.2.2.2.1 hi (lm_nj_r x)) (lm_K_st kk G (lm_ok_cons (hvl _ (List.mem_of_getElem? hi)) hst))
theorem lm_t_aload_n (hx : p.tables.exec = Jvm.exec) {cc : ByteArray} (hb : c.code = cc) (G : lm_G D cy B s ρ ls st h H locs sl) {q : Nat × List Value × List Value × lm_H} (kk : lm_K p l e R s m args below meth c cells slots Q D cy B ρ h q) {i : Fin 4} (hd : decode cc pc = .ok (.aload_n i, 1)) (hs : lm_la (pc + 1) ls st h i = some (.inl q)) : W p l e R s m args below meth c H locs cells slots Q (F0 m pc sl (st.map (lm_vm ρ))) := by
  have hst := G.2.2.2.2.2.2
  have hvl := G.2.2.2.2.2.1
  obtain ⟨x, hi, rfl⟩ := lm_la_inv hs
  exact lv_aload_n hx hb hd rfl (lm_L_get G.2.2.2.2.1 hi (lm_nj_r x)) (lm_K_st kk G (lm_ok_cons (hvl _ (List.mem_of_getElem? hi)) hst))
theorem lm_t_istore (hx : p.tables.exec = Jvm.exec) {cc : ByteArray} (hb : c.code = cc) (G : lm_G D cy B s ρ ls st h H locs sl) {q : Nat × List Value × List Value × lm_H} (kk : lm_K p l e R s m args below meth c cells slots Q D cy B ρ h q) {i : Nat} (hd : decode cc pc = .ok (.istore i, 2)) (hs : lm_si (pc + 2) ls st h i = some (.inl q)) : W p l e R s m args below meth c H locs cells slots Q (F0 m pc sl (st.map (lm_vm ρ))) := by
  have hst := G.2.2.2.2.2.2
  have hvl := G.2.2.2.2.2.1
  obtain ⟨x, r, rfl, hi, rfl⟩ := lm_si_inv hs
  obtain ⟨lv, hl1, hl2⟩ := G.2.2.2.2.1
  exact lv_istore hx hb hd hl1 hi rfl (fun sl1 hl1 => lm_K_s1 kk G hi hl2 hl1 (lm_ok_int _ _) (fun v hv => hst v (List.mem_cons_of_mem _ hv)))
theorem lm_t_istore_n (hx : p.tables.exec = Jvm.exec) {cc : ByteArray} (hb : c.code = cc) (G : lm_G D cy B s ρ ls st h H locs sl) {q : Nat × List Value × List Value × lm_H} (kk : lm_K p l e R s m args below meth c cells slots Q D cy B ρ h q) {i : Fin 4} (hd : decode cc pc = .ok (.istore_n i, 1)) (hs : lm_si (pc + 1) ls st h i = some (.inl q)) : W p l e R s m args below meth c H locs cells slots Q (F0 m pc sl (st.map (lm_vm ρ))) := by
  have hst := G.2.2.2.2.2.2
  have hvl := G.2.2.2.2.2.1
  obtain ⟨x, r, rfl, hi, rfl⟩ := lm_si_inv hs
  obtain ⟨lv, hl1, hl2⟩ := G.2.2.2.2.1
  exact lv_istore_n hx hb hd rfl hl1 hi rfl (fun sl1 hl1 => lm_K_s1 kk G hi hl2 hl1 (lm_ok_int _ _) (fun v hv => hst v (List.mem_cons_of_mem _ hv)))
theorem lm_t_lstore (hx : p.tables.exec = Jvm.exec) {cc : ByteArray} (hb : c.code = cc) (G : lm_G D cy B s ρ ls st h H locs sl) {q : Nat × List Value × List Value × lm_H} (kk : lm_K p l e R s m args below meth c cells slots Q D cy B ρ h q) {i : Nat} (hd : decode cc pc = .ok (.lstore i, 2)) (hs : lm_sl (pc + 2) ls st h i = some (.inl q)) : W p l e R s m args below meth c H locs cells slots Q (F0 m pc sl (st.map (lm_vm ρ))) := by
  have hst := G.2.2.2.2.2.2
  have hvl := G.2.2.2.2.2.1
  obtain ⟨x, r, rfl, hi, rfl⟩ := lm_sl_inv hs
  obtain ⟨lv, hl1, hl2⟩ := G.2.2.2.2.1
  exact lv_lstore hx hb hd hl1 hi rfl (fun sl1 hl1 => lm_K_s2 kk G hi hl2 hl1 (lm_ok_long _ _) (fun v hv => hst v (List.mem_cons_of_mem _ hv)))
theorem lm_t_lstore_n (hx : p.tables.exec = Jvm.exec) {cc : ByteArray} (hb : c.code = cc) (G : lm_G D cy B s ρ ls st h H locs sl) {q : Nat × List Value × List Value × lm_H} (kk : lm_K p l e R s m args below meth c cells slots Q D cy B ρ h q) {i : Fin 4} (hd : decode cc pc = .ok (.lstore_n i, 1)) (hs : lm_sl (pc + 1) ls st h i = some (.inl q)) : W p l e R s m args below meth c H locs cells slots Q (F0 m pc sl (st.map (lm_vm ρ))) := by
  have hst := G.2.2.2.2.2.2
  have hvl := G.2.2.2.2.2.1
  obtain ⟨x, r, rfl, hi, rfl⟩ := lm_sl_inv hs
  obtain ⟨lv, hl1, hl2⟩ := G.2.2.2.2.1
  exact lv_lstore_n hx hb hd rfl hl1 hi rfl (fun sl1 hl1 => lm_K_s2 kk G hi hl2 hl1 (lm_ok_long _ _) (fun v hv => hst v (List.mem_cons_of_mem _ hv)))
theorem lm_t_astore (hx : p.tables.exec = Jvm.exec) {cc : ByteArray} (hb : c.code = cc) (G : lm_G D cy B s ρ ls st h H locs sl) {q : Nat × List Value × List Value × lm_H} (kk : lm_K p l e R s m args below meth c cells slots Q D cy B ρ h q) {i : Nat} (hd : decode cc pc = .ok (.astore i, 2)) (hs : lm_sa (pc + 2) ls st h i = some (.inl q)) : W p l e R s m args below meth c H locs cells slots Q (F0 m pc sl (st.map (lm_vm ρ))) := by
  have hst := G.2.2.2.2.2.2
  have hvl := G.2.2.2.2.2.1
  obtain ⟨x, r, rfl, hi, rfl⟩ := lm_sa_inv hs
  obtain ⟨lv, hl1, hl2⟩ := G.2.2.2.2.1
  exact lv_astore hx hb hd hl1 hi rfl (fun sl1 hl1 => lm_K_s1 kk G hi hl2 hl1 (hst _ List.mem_cons_self) (fun v hv => hst v (List.mem_cons_of_mem _ hv)))
theorem lm_t_astore_n (hx : p.tables.exec = Jvm.exec) {cc : ByteArray} (hb : c.code = cc) (G : lm_G D cy B s ρ ls st h H locs sl) {q : Nat × List Value × List Value × lm_H} (kk : lm_K p l e R s m args below meth c cells slots Q D cy B ρ h q) {i : Fin 4} (hd : decode cc pc = .ok (.astore_n i, 1)) (hs : lm_sa (pc + 1) ls st h i = some (.inl q)) : W p l e R s m args below meth c H locs cells slots Q (F0 m pc sl (st.map (lm_vm ρ))) := by
  have hst := G.2.2.2.2.2.2
  have hvl := G.2.2.2.2.2.1
  obtain ⟨x, r, rfl, hi, rfl⟩ := lm_sa_inv hs
  obtain ⟨lv, hl1, hl2⟩ := G.2.2.2.2.1
  exact lv_astore_n hx hb hd rfl hl1 hi rfl (fun sl1 hl1 => lm_K_s1 kk G hi hl2 hl1 (hst _ List.mem_cons_self) (fun v hv => hst v (List.mem_cons_of_mem _ hv)))
theorem lm_t_if_icmp (hx : p.tables.exec = Jvm.exec) {cc : ByteArray} (hb : c.code = cc) (G : lm_G D cy B s ρ ls st h H locs sl) {q : Nat × List Value × List Value × lm_H} (kk : lm_K p l e R s m args below meth c cells slots Q D cy B ρ h q) {off : Int} {co : ClassFile.Cond} {x y : Int32} (hd : decode cc pc = .ok (.if_icmp co off, 3)) (hs : lm_bt pc off co x y ls st h = some (.inl q)) : W p l e R s m args below meth c H locs cells slots Q (F0 m pc sl ((.int y :: .int x :: st).map (lm_vm ρ))) := by
  have hst := G.2.2.2.2.2.2
  obtain ⟨t, ht, hq⟩ := lm_bt_inv hs
  have ka : lm_nx t ls st h = some (.inl q) → W p l e R s m args below meth c H locs cells slots Q (F0 m t sl (st.map (lm_vm ρ))) := fun z => by cases z; exact lm_K_st kk G hst
  have kb : lm_nx (pc + 3) ls st h = some (.inl q) → W p l e R s m args below meth c H locs cells slots Q (F0 m (pc + 3) sl (st.map (lm_vm ρ))) := fun z => by cases z; exact lm_K_st kk G hst
  cases co with
  | eq => exact lv_icmp_eq hx hb hd ht (fun hc => ka ((if_pos hc).symm.trans hq)) (fun hc => kb ((if_neg hc).symm.trans hq))
  | ne => exact lv_icmp_ne hx hb hd ht (fun hc => ka ((if_neg hc).symm.trans hq)) (fun hc => kb ((if_pos hc).symm.trans hq))
  | lt => exact lv_icmp_lt hx hb hd ht (fun hc => ka ((if_pos hc).symm.trans hq)) (fun hc => kb ((if_neg hc).symm.trans hq))
  | ge => exact lv_icmp_ge hx hb hd ht (fun hc => ka ((if_neg (Int32.not_lt.mpr hc)).symm.trans hq)) (fun hc => kb ((if_pos (Int32.not_le.mp hc)).symm.trans hq))
  | gt => exact lv_icmp_gt hx hb hd ht (fun hc => ka ((if_pos hc).symm.trans hq)) (fun hc => kb ((if_neg hc).symm.trans hq))
  | le => exact lv_icmp_le hx hb hd ht (fun hc => ka ((if_neg (Int32.not_lt.mpr hc)).symm.trans hq)) (fun hc => kb ((if_pos (Int32.not_le.mp hc)).symm.trans hq))
theorem lm_t_ifCond (hx : p.tables.exec = Jvm.exec) {cc : ByteArray} (hb : c.code = cc) (G : lm_G D cy B s ρ ls st h H locs sl) {q : Nat × List Value × List Value × lm_H} (kk : lm_K p l e R s m args below meth c cells slots Q D cy B ρ h q) {off : Int} {co : ClassFile.Cond} {x : Int32} (hd : decode cc pc = .ok (.ifCond co off, 3)) (hs : lm_bt pc off co x 0 ls st h = some (.inl q)) : W p l e R s m args below meth c H locs cells slots Q (F0 m pc sl ((.int x :: st).map (lm_vm ρ))) := by
  have hst := G.2.2.2.2.2.2
  obtain ⟨t, ht, hq⟩ := lm_bt_inv hs
  have ka : lm_nx t ls st h = some (.inl q) → W p l e R s m args below meth c H locs cells slots Q (F0 m t sl (st.map (lm_vm ρ))) := fun z => by cases z; exact lm_K_st kk G hst
  have kb : lm_nx (pc + 3) ls st h = some (.inl q) → W p l e R s m args below meth c H locs cells slots Q (F0 m (pc + 3) sl (st.map (lm_vm ρ))) := fun z => by cases z; exact lm_K_st kk G hst
  cases co with
  | eq => exact lv_if_eq hx hb hd ht (fun hc => ka ((if_pos hc).symm.trans hq)) (fun hc => kb ((if_neg hc).symm.trans hq))
  | ne => exact lv_if_ne hx hb hd ht (fun hc => ka ((if_neg hc).symm.trans hq)) (fun hc => kb ((if_pos hc).symm.trans hq))
  | lt => exact lv_if_lt hx hb hd ht (fun hc => ka ((if_pos hc).symm.trans hq)) (fun hc => kb ((if_neg hc).symm.trans hq))
  | ge => exact lv_if_ge hx hb hd ht (fun hc => ka ((if_neg (Int32.not_lt.mpr hc)).symm.trans hq)) (fun hc => kb ((if_pos (Int32.not_le.mp hc)).symm.trans hq))
  | gt => exact lv_if_gt hx hb hd ht (fun hc => ka ((if_pos hc).symm.trans hq)) (fun hc => kb ((if_neg hc).symm.trans hq))
  | le => exact lv_if_le hx hb hd ht (fun hc => ka ((if_neg (Int32.not_lt.mpr hc)).symm.trans hq)) (fun hc => kb ((if_pos (Int32.not_le.mp hc)).symm.trans hq))
end LMT
end
section
/-! a step of LM is the machine's: cells read -/
theorem lm_in {i : Nat} {w : Jvm.Cond} (hw : lw_tbl[i]? = some w) (hg : lm_gw w = true) : w ∈ lm_ts := List.mem_filter.mpr ⟨List.mem_of_getElem? hw, hg⟩
theorem lm_cl_get {ci : Nat} (h : ci < 8) : vwCl[ci]? = some ((lm_cl ci).1, (lm_cl ci).2.1, (lm_cl ci).2.2) := by
  match ci, h with
  | 0, _ => rfl
  | 1, _ => rfl
  | 2, _ => rfl
  | 3, _ => rfl
  | 4, _ => rfl
  | 5, _ => rfl
  | 6, _ => rfl
  | 7, _ => rfl
theorem lm_nf_cl {ci : Nat} (h : ci < 8) : lm_nf ci = (lm_cl ci).2.2 := by
  match ci, h with
  | 0, _ => rfl
  | 1, _ => rfl
  | 2, _ => rfl
  | 3, _ => rfl
  | 4, _ => rfl
  | 5, _ => rfl
  | 6, _ => rfl
  | 7, _ => rfl
theorem lm_us_good {C : String} {T : u_T} {N : Nat} : ∀ w ∈ u_ws C T N, lm_gw w = true := by
  intro w hw
  unfold u_ws at hw
  obtain ⟨k, -, rfl⟩ := List.mem_map.mp hw
  unfold u_lay
  split <;> rfl
theorem lm_us_all {ci : Nat} (h : ci < 8) : ∀ w ∈ u_ws (lm_cl ci).1 (lm_cl ci).2.1 (lm_cl ci).2.2, w ∈ lm_ts := by
  have key : ∀ w ∈ u_ws (lm_cl ci).1 (lm_cl ci).2.1 (lm_cl ci).2.2, w ∈ lw_tbl := by
    match ci, h with
    | 0, _ => exact lm_us_0
    | 1, _ => exact lm_us_1
    | 2, _ => exact lm_us_2
    | 3, _ => exact lm_us_3
    | 4, _ => exact lm_us_4
    | 5, _ => exact lm_us_5
    | 6, _ => exact lm_us_6
    | 7, _ => exact lm_us_7
  exact fun w hw => List.mem_filter.mpr ⟨key w hw, lm_us_good w hw⟩
theorem lm_E_obj {cy : Nat → ClassId} {ρ : Nat → Nat} {h : lm_H} {a ci : Nat} (hk : lm_kd h a = 10 + ci) : lm_E cy ρ h a = .inr (ci, (List.range (lm_nf ci)).map (fun k => lm_vm ρ (lm_fv h ci a k))) := by
  unfold lm_E
  rw [if_neg (by omega), if_neg (by omega), if_neg (by omega), show lm_kd h a - 10 = ci by omega]
theorem lm_E_i {cy : Nat → ClassId} {ρ : Nat → Nat} {h : lm_H} {a : Nat} (hk : lm_kd h a = 1) : lm_E cy ρ h a = .inl (cy 1, lm_ln h a, .inl (h.1 a)) := by
  unfold lm_E
  rw [if_pos hk]
theorem lm_E_l {cy : Nat → ClassId} {ρ : Nat → Nat} {h : lm_H} {a : Nat} (hk : lm_kd h a = 2) : lm_E cy ρ h a = .inl (cy 2, lm_ln h a, .inr (.inl (h.2.1 a))) := by
  unfold lm_E
  rw [if_neg (by omega), if_pos hk]
theorem lm_E_r {cy : Nat → ClassId} {ρ : Nat → Nat} {h : lm_H} {a n : Nat} (hk : lm_kd h a = n) (h1 : 4 ≤ n) (h2 : n ≤ 6) : lm_E cy ρ h a = .inl (cy n, lm_ln h a, .inr (.inr (.inr (.inr (fun j => (lm_hr h a j).map ρ))))) := by
  unfold lm_E
  rw [if_neg (by omega), if_neg (by omega), if_pos (by omega), hk]
theorem lm_ok_rf {h : lm_H} (hv : lm_HV h) {a k : Nat} (hk : lm_kd h a ≠ 0) : lm_ok h (va_rf (lm_hr h a k)) := by
  intro b hb
  cases e : lm_hr h a k with
  | none => rw [e] at hb; cases hb
  | some d =>
    rw [e] at hb
    cases hb
    exact hv.1 a k b hk e
theorem lm_ok_fv {h : lm_H} (hv : lm_HV h) {ci a k : Nat} (hk : lm_kd h a ≠ 0) : lm_ok h (lm_fv h ci a k) := by
  unfold lm_fv
  split
  · exact lm_ok_rf hv hk
  · exact lm_ok_int _ _
theorem lm_new64 {h : lm_H} (hv : lm_HV h) {a ci : Nat} (hc : ci < 8) (hk : lm_kd h a = 10 + ci) : 64 ≤ a := by
  rcases Nat.lt_or_ge a 64 with q | q
  · rcases hv.2.2 a q with z | z | z | z <;> omega
  · exact q
section LMR
variable {p : Program} {l : Launch} {e : Env} {R : Room} {s : State} {m : MethodId} {args : Array Value} {below : List Frame} {meth : Method} {c : Code} {H : Heap} {locs : List Loc} {cells slots : Nat} {Q : State → Prop}
variable {D : va_G} {cy : Nat → ClassId} {B : Nat} {ρ : Nat → Nat} {f pc : Nat} {ls st r : List Value} {h : lm_H} {sl : Array Slot}
theorem lm_t_getfield (hx : p.tables.exec = Jvm.exec) {cc : ByteArray} (hb : c.code = cc) (V : lm_V D cy s) {c0 idx ci k i a : Nat} (hown : s.vm.findClass (lm_own c0) = some m.cls) (hk : (idx, ci, k, i) ∈ lm_kF c0) (hd : decode cc pc = .ok (.getfield idx, 3))
    (G : lm_G D cy B s ρ ls (.ref a :: r) h H locs sl) (hkd : lm_kd h a = 10 + ci) (kk : lm_K p l e R s m args below meth c cells slots Q D cy B ρ h (pc + 3, ls, lm_fv h ci a k :: r, h)) :
    W p l e R s m args below meth c H locs cells slots Q (F0 m pc sl ((Value.ref a :: r).map (lm_vm ρ))) := by
  obtain ⟨h1, h2⟩ := lm_okf_all c0 _ hk
  have hst := G.2.2.2.2.2.2
  have hk0 : lm_kd h a ≠ 0 := by omega
  have hK := lm_K_st kk G (lm_ok_cons (lm_ok_fv G.2.1 hk0) (fun v hv => hst v (List.mem_cons_of_mem _ hv)))
  by_cases h30 : ci = 30
  · subst h30
    have ha : a < 64 := by
      rcases Nat.lt_or_ge a 64 with q | q
      · exact q
      · rcases G.2.1.2.1 a q hk0 with z | z | z | z | z | z <;> omega
    obtain ⟨-, g1, g2⟩ := G.2.2.1.2.2.1 a ha hkd
    rcases h2 rfl with ⟨e0, hw⟩ | ⟨e0, hw⟩
    · dsimp only at e0 hw
      subst e0
      exact vk_getf hx hb g1 G.2.2.2.1 hown (V.1 _ (lm_in hw rfl) args) (fun _ z => z) hd hK
    · dsimp only at e0 hw
      subst e0
      exact vk_getf hx hb g2 G.2.2.2.1 hown (V.1 _ (lm_in hw rfl) args) (fun _ z => z) hd hK
  · obtain ⟨hlt, hw, hN⟩ := h1 h30
    dsimp only at hlt hw hN
    obtain ⟨ws, kq, hP, hD, he, -⟩ := lm_Wd_at G.1 (lm_new64 G.2.1 hlt hkd) hk0
    rw [lm_E_obj hkd] at he
    exact va_get (ci := ci) (v := lm_vm ρ (lm_fv h ci a k)) hx hb (fun w hw => V.1 w hw args) (lm_us_all hlt) hown V.2.1 hP kq he (lm_cl_get hlt) k hN (V.1 _ (lm_in hw rfl) args) (fun _ z => z) (by rw [List.getElem?_map, List.getElem?_range (by rw [lm_nf_cl hlt]; exact hN)]; rfl) hd hK
theorem lm_t_iaload (hx : p.tables.exec = Jvm.exec) {cc : ByteArray} (hb : c.code = cc) (V : lm_V D cy s) {a : Nat} {i : Int32} (hd : decode cc pc = .ok (.iaload, 1)) (G : lm_G D cy B s ρ ls (.int i :: .ref a :: r) h H locs sl) (hkd : lm_kd h a = 1) (hin : vp_in i (lm_ln h a))
    (kk : lm_K p l e R s m args below meth c cells slots Q D cy B ρ h (pc + 1, ls, .int (h.1 a i.toNatClampNeg) :: r, h)) :
    W p l e R s m args below meth c H locs cells slots Q (F0 m pc sl ((Value.int i :: Value.ref a :: r).map (lm_vm ρ))) := by
  have hst := G.2.2.2.2.2.2
  have hK := lm_K_st kk G (lm_ok_cons (lm_ok_int _ _) (fun v hv => hst v (List.mem_cons_of_mem _ (List.mem_cons_of_mem _ hv))))
  rcases Nat.lt_or_ge a 64 with ha | ha
  · obtain ⟨cell, g1, g2, g3, g4, g5, g6, -⟩ := (G.2.2.1.1 a ha hkd).kept G.2.2.2.1.2.1
    have hlt : i.toNatClampNeg < lm_ln h a := Nat.not_le.mp fun q => hin (Or.inr q)
    exact W.iald (v := .int (h.1 a i.toNatClampNeg)) hx hb g1 g2 g3 (fun q => q.elim (fun z => hin (Or.inl z)) (fun z => by omega)) (g6 _ hlt) rfl rfl hd hK
  · obtain ⟨ws, kq, hP, hD, he, -⟩ := lm_Wd_at G.1 ha (by omega)
    rw [lm_E_i hkd] at he
    exact va_iald hx hb V.2.1 hP kq 0 he rfl hin hd hK
theorem lm_t_baload (hx : p.tables.exec = Jvm.exec) {cc : ByteArray} (hb : c.code = cc) {a : Nat} {i : Int32} (hd : decode cc pc = .ok (.baload, 1)) (G : lm_G D cy B s ρ ls (.int i :: .ref a :: r) h H locs sl) (hkd : lm_kd h a = 8) (hin : vp_in i (lm_ln h a))
    (kk : lm_K p l e R s m args below meth c cells slots Q D cy B ρ h (pc + 1, ls, .int (h.1 a i.toNatClampNeg) :: r, h)) :
    W p l e R s m args below meth c H locs cells slots Q (F0 m pc sl ((Value.int i :: Value.ref a :: r).map (lm_vm ρ))) := by
  have hst := G.2.2.2.2.2.2
  have hK := lm_K_st kk G (lm_ok_cons (lm_ok_int _ _) (fun v hv => hst v (List.mem_cons_of_mem _ (List.mem_cons_of_mem _ hv))))
  have ha : a < 64 := by
    rcases Nat.lt_or_ge a 64 with q | q
    · exact q
    · rcases G.2.1.2.1 a q (by omega) with z | z | z | z | z | z <;> omega
  obtain ⟨cell, g1, g2, g3, g4, g5, g6, -⟩ := (G.2.2.1.2.1 a ha hkd).kept G.2.2.2.1.2.1
  have hlt : i.toNatClampNeg < lm_ln h a := Nat.not_le.mp fun q => hin (Or.inr q)
  exact W.bald (v := .int (h.1 a i.toNatClampNeg)) hx hb g1 g2 g3 (fun q => q.elim (fun z => hin (Or.inl z)) (fun z => by omega)) (g6 _ hlt) rfl rfl hd hK
theorem lm_t_laload (hx : p.tables.exec = Jvm.exec) {cc : ByteArray} (hb : c.code = cc) (V : lm_V D cy s) {a : Nat} {i : Int32} (hd : decode cc pc = .ok (.laload, 1)) (G : lm_G D cy B s ρ ls (.int i :: .ref a :: r) h H locs sl) (hkd : lm_kd h a = 2) (hin : vp_in i (lm_ln h a))
    (kk : lm_K p l e R s m args below meth c cells slots Q D cy B ρ h (pc + 1, ls, .long (h.2.1 a i.toNatClampNeg) :: r, h)) :
    W p l e R s m args below meth c H locs cells slots Q (F0 m pc sl ((Value.int i :: Value.ref a :: r).map (lm_vm ρ))) := by
  have hst := G.2.2.2.2.2.2
  have hK := lm_K_st kk G (lm_ok_cons (lm_ok_long _ _) (fun v hv => hst v (List.mem_cons_of_mem _ (List.mem_cons_of_mem _ hv))))
  have ha : 64 ≤ a := by
    rcases Nat.lt_or_ge a 64 with q | q
    · rcases G.2.1.2.2 a q with z | z | z | z <;> omega
    · exact q
  obtain ⟨ws, kq, hP, hD, he, -⟩ := lm_Wd_at G.1 ha (by omega)
  rw [lm_E_l hkd] at he
  exact va_lald hx hb V.2.1 hP kq 1 he rfl hin hd hK
theorem lm_t_aaload (hx : p.tables.exec = Jvm.exec) {cc : ByteArray} (hb : c.code = cc) (V : lm_V D cy s) {a : Nat} {i : Int32} (hd : decode cc pc = .ok (.aaload, 1)) (G : lm_G D cy B s ρ ls (.int i :: .ref a :: r) h H locs sl) (hkd : 4 ≤ lm_kd h a ∧ lm_kd h a ≤ 6) (hin : vp_in i (lm_ln h a))
    (kk : lm_K p l e R s m args below meth c cells slots Q D cy B ρ h (pc + 1, ls, va_rf (lm_hr h a i.toNatClampNeg) :: r, h)) :
    W p l e R s m args below meth c H locs cells slots Q (F0 m pc sl ((Value.int i :: Value.ref a :: r).map (lm_vm ρ))) := by
  have hst := G.2.2.2.2.2.2
  have hk0 : lm_kd h a ≠ 0 := by omega
  have hK := lm_K_st kk G (lm_ok_cons (lm_ok_rf G.2.1 hk0) (fun v hv => hst v (List.mem_cons_of_mem _ (List.mem_cons_of_mem _ hv))))
  have ha : 64 ≤ a := by
    rcases Nat.lt_or_ge a 64 with q | q
    · rcases G.2.1.2.2 a q with z | z | z | z <;> omega
    · exact q
  obtain ⟨ws, kq, hP, hD, he, -⟩ := lm_Wd_at G.1 ha hk0
  rw [lm_E_r rfl hkd.1 hkd.2] at he
  have hlt : i.toNatClampNeg < lm_ln h a := Nat.not_le.mp fun q => hin (Or.inr q)
  simp only [List.map_cons, lm_vm_rf] at hK
  have key : ∀ ty : FieldType, ty.isReference = true → (cy (lm_kd h a), ty) ∈ lm_tys cy → W p l e R s m args below meth c H locs cells slots Q (F0 m pc sl ((Value.int i :: Value.ref a :: r).map (lm_vm ρ))) := by
    intro ty hty hm
    obtain ⟨t0, ht⟩ := List.getElem?_of_mem hm
    exact W.aald (v := va_rf ((lm_hr h a i.toNatClampNeg).map ρ)) (ty := ty) hx hb (hP kq _ he) ((V.2.1.2 t0 _ ht).1 (lm_ln h a) (fun j => va_rf ((lm_hr h a j).map ρ))) hty (fun q => by cases q) (by show ¬ (i < 0 ∨ (arrV _ _ _).slots.size ≤ _); rw [arrV_size]; exact hin) (by show (arrV _ _ _).slots[_]? = _; rw [arrV_read _ _ hlt]) rfl rfl hd hK
  rcases (by omega : lm_kd h a = 4 ∨ lm_kd h a = 5 ∨ lm_kd h a = 6) with q | q | q
  · exact key (.object "AwakeByHalves$Shelf") rfl (by rw [q]; simp [lm_tys])
  · exact key (.array .int) rfl (by rw [q]; simp [lm_tys])
  · exact key (.array .long) rfl (by rw [q]; simp [lm_tys])
theorem lm_t_arraylength (hx : p.tables.exec = Jvm.exec) {cc : ByteArray} (hb : c.code = cc) (V : lm_V D cy s) {a : Nat} (hd : decode cc pc = .ok (.arraylength, 1)) (G : lm_G D cy B s ρ ls (.ref a :: r) h H locs sl) (hkd : lm_kd h a ≠ 0 ∧ lm_kd h a < 10)
    (kk : lm_K p l e R s m args below meth c cells slots Q D cy B ρ h (pc + 1, ls, .int (Int32.ofNat (lm_ln h a)) :: r, h)) :
    W p l e R s m args below meth c H locs cells slots Q (F0 m pc sl ((Value.ref a :: r).map (lm_vm ρ))) := by
  have hst := G.2.2.2.2.2.2
  have hK := lm_K_st kk G (lm_ok_cons (lm_ok_int _ _) (fun v hv => hst v (List.mem_cons_of_mem _ hv)))
  rcases Nat.lt_or_ge a 64 with ha | ha
  · rcases G.2.1.2.2 a ha with z | z | z | z
    · exact absurd z hkd.1
    · obtain ⟨cell, g1, g2, g3, g4, g5, g6, -⟩ := (G.2.2.1.1 a ha z).kept G.2.2.2.1.2.1
      exact W.alen hx hb g1 g2 g5 rfl rfl hd hK
    · obtain ⟨cell, g1, g2, g3, g4, g5, g6, -⟩ := (G.2.2.1.2.1 a ha z).kept G.2.2.2.1.2.1
      exact W.alen hx hb g1 g2 g5 rfl rfl hd hK
    · omega
  · obtain ⟨ws, kq, hP, hD, he, -⟩ := lm_Wd_at G.1 ha hkd.1
    rcases G.2.1.2.1 a ha hkd.1 with z | z | z | z | z | z
    · rw [lm_E_i z] at he
      exact va_alen hx hb V.2.1 hP kq 0 he rfl rfl hd hK
    · rw [lm_E_l z] at he
      exact va_alen hx hb V.2.1 hP kq 1 he rfl rfl hd hK
    · rw [lm_E_r z (by decide) (by decide)] at he
      exact va_alen hx hb V.2.1 hP kq 2 he rfl rfl hd hK
    · rw [lm_E_r z (by decide) (by decide)] at he
      exact va_alen hx hb V.2.1 hP kq 3 he rfl rfl hd hK
    · rw [lm_E_r z (by decide) (by decide)] at he
      exact va_alen hx hb V.2.1 hP kq 4 he rfl rfl hd hK
    · omega
end LMR
end
section
/-! a step of LM is the machine's: cells written -/
def lm_tyf (ci : Nat) : Nat → FieldType := [tyX0, tyX1, tyX3, tyX5, tyX6, tyX7, tyX8, tyX9].getD ci tyX0
theorem lm_ty_ok {ci : Nat} (h : ci < 8) : ∀ k, k < (lm_cl ci).2.2 → parseFieldDescriptor ((lm_cl ci).2.1 k).2.2.1 = some (lm_tyf ci k) := by
  match ci, h with
  | 0, _ => exact tyX0_ok
  | 1, _ => exact tyX1_ok
  | 2, _ => exact tyX3_ok
  | 3, _ => exact tyX5_ok
  | 4, _ => exact tyX6_ok
  | 5, _ => exact tyX7_ok
  | 6, _ => exact tyX8_ok
  | 7, _ => exact tyX9_ok
theorem lm_nm_ok {ci : Nat} (h : ci < 8) : ∀ a, a < (lm_cl ci).2.2 → ∀ b, b < (lm_cl ci).2.2 → a ≠ b → ((lm_cl ci).2.1 a).2.1 ≠ ((lm_cl ci).2.1 b).2.1 := by
  match ci, h with
  | 0, _ => exact nmX0
  | 1, _ => exact nmX1
  | 2, _ => exact nmX3
  | 3, _ => exact nmX5
  | 4, _ => exact nmX6
  | 5, _ => exact nmX7
  | 6, _ => exact nmX8
  | 7, _ => exact nmX9
def lm_rt (ty : FieldType) : Bool := match ty with
  | .object _ => true
  | .array _ => true
  | _ => false
set_option maxRecDepth 100000 in
theorem lm_ft_ty : ∀ ci, ci < 8 → ∀ k, k < (lm_cl ci).2.2 → (lm_ft ci k = 0 → lm_tyf ci k = .int) ∧ (lm_ft ci k = 2 → lm_tyf ci k = .boolean) ∧ (lm_ft ci k = 1 → lm_rt (lm_tyf ci k) = true) ∧ (lm_ft ci k = 0 ∨ lm_ft ci k = 1 ∨ lm_ft ci k = 2) ∧ ((lm_cl ci).2.1 k).2.2.2 = lm_fin ci k ∧ ((lm_cl ci).2.1 k).1 = (lm_cl ci).1 := by decide +kernel
set_option maxRecDepth 100000 in
theorem lm_cis_own : ∀ c, c < 18 → lm_cis.getD c 99 < 8 → (lm_cl (lm_cis.getD c 99)).1 = lm_own c := by decide +kernel
theorem lm_up_ne {α : Type} {f : Nat → Nat → α} {a k b : Nat} {v : α} (h : b ≠ a) : lm_up f a k v b = f b := funext fun j => if_neg h
theorem lm_up_row {α : Type} {f : Nat → Nat → α} {a k : Nat} {v : α} (j : Nat) : lm_up f a k v a j = if j = k then v else f a j := if_pos rfl
theorem lm_row_ne {α : Type} {f : Nat → Nat → α} {a b : Nat} {g : Nat → α} (h : b ≠ a) : lm_row f a g b = f b := if_neg h
theorem lm_row_eq {α : Type} {f : Nat → Nat → α} {a : Nat} {g : Nat → α} : lm_row f a g a = g := if_pos rfl
theorem lm_fs_set {ρ : Nat → Nat} {h h1 : lm_H} {ci a k n : Nat} {v : Value} (he : ∀ j, j ≠ k → lm_fv h1 ci a j = lm_fv h ci a j) (hv : lm_fv h1 ci a k = v) :
    ((List.range n).map (fun j => lm_vm ρ (lm_fv h ci a j))).set k (lm_vm ρ v) = (List.range n).map (fun j => lm_vm ρ (lm_fv h1 ci a j)) := by
  apply List.ext_getElem?
  intro j
  by_cases hj : j = k
  · subst hj
    by_cases hl : j < n
    · rw [List.getElem?_set_self (by simpa using hl), List.getElem?_map, List.getElem?_range hl]
      simp only [Option.map_some, hv]
    · rw [List.getElem?_eq_none (by simp; omega), List.getElem?_eq_none (by simp; omega)]
  · rw [List.getElem?_set_ne (Ne.symm hj), List.getElem?_map, List.getElem?_map]
    by_cases hl : j < n
    · rw [List.getElem?_range hl]
      simp only [Option.map_some, he j hj]
    · rw [List.getElem?_eq_none (by simp; omega)]
      rfl
theorem lm_upd_up {f : Nat → Nat → Int32} {a k : Nat} {v : Int32} : upd (f a) k v = lm_up f a k v a := funext fun j => by rw [lm_up_row]; rfl
theorem lm_updL_up {f : Nat → Nat → Int64} {a k : Nat} {v : Int64} : vp_updL (f a) k v = lm_up f a k v a := funext fun j => by rw [lm_up_row]; rfl
section LMP
variable {p : Program} {l : Launch} {e : Env} {R : Room} {s : State} {m : MethodId} {args : Array Value} {below : List Frame} {meth : Method} {c : Code} {H H1 : Heap} {locs locs1 : List Loc} {cells slots : Nat} {Q : State → Prop}
variable {D : va_G} {cy : Nat → ClassId} {B : Nat} {ρ : Nat → Nat} {f pc : Nat} {ls st st' r : List Value} {h h1 : lm_H} {sl : Array Slot}
theorem lm_G_put (G : lm_G D cy B s ρ ls st h H locs sl) (hW : lm_Wd D cy B ρ h1 H1) (hS1 : va_S (fun q => B ≤ q) s.heap H1 locs1) {a : Nat} (ha : 64 ≤ a) (ekd : lm_kd h1 = lm_kd h) (eln : lm_ln h1 = lm_ln h) (e1 : ∀ b, b ≠ a → h1.1 b = h.1 b) (e3 : ∀ b, b ≠ a → lm_hr h1 b = lm_hr h b)
    (hc : ∀ j b, lm_hr h1 a j = some b → lm_kd h b ≠ 0) (hst : ∀ v ∈ st', lm_ok h v) : lm_G D cy B s ρ ls st' h1 H1 locs1 sl := by
  have hok : ∀ v, lm_ok h v → lm_ok h1 v := fun v hv b hb => by rw [ekd]; exact hv b hb
  have hne : ∀ b, b < 64 → b ≠ a := fun b hb z => by omega
  refine ⟨hW, ⟨fun b j d hb hd => ?_, fun b hb => by rw [ekd]; exact G.2.1.2.1 b hb, fun b hb => by rw [ekd]; exact G.2.1.2.2 b hb⟩, lm_Old.cong G.2.1 (lm_ag_rf h ρ) (fun b _ => by rw [ekd]) (fun b _ => by rw [eln]) (fun b hb => e1 b (hne b hb)) (fun b hb => e3 b (hne b hb)) G.2.2.1, hS1, G.2.2.2.2.1, fun v hv => hok v (G.2.2.2.2.2.1 v hv), fun v hv => hok v (hst v hv)⟩
  rw [ekd] at hb ⊢
  by_cases hba : b = a
  · subst hba
    exact hc j d hd
  · rw [e3 b hba] at hd
    exact G.2.1.1 b j d hb hd
theorem lm_t_iastore (hx : p.tables.exec = Jvm.exec) {cc : ByteArray} (hb : c.code = cc) (V : lm_V D cy s) {a : Nat} {i x : Int32} (hd : decode cc pc = .ok (.iastore, 1)) (G : lm_G D cy B s ρ ls (.int x :: .int i :: .ref a :: r) h H locs sl) (hkd : lm_kd h a = 1) (ha : 64 ≤ a) (hin : vp_in i (lm_ln h a))
    (kk : lm_K p l e R s m args below meth c cells slots Q D cy B ρ h (pc + 1, ls, r, (lm_up h.1 a i.toNatClampNeg x, h.2))) :
    W p l e R s m args below meth c H locs cells slots Q (F0 m pc sl ((Value.int x :: Value.int i :: Value.ref a :: r).map (lm_vm ρ))) := by
  have hst := G.2.2.2.2.2.2
  obtain ⟨ws, kq, hP, hD, he, hback⟩ := lm_Wd_at G.1 ha (by omega)
  rw [lm_E_i hkd] at he
  refine va_iast hx hb V.2.1 hP hD G.2.2.2.1 kq 0 he rfl hin hd (fun H1 locs1 hP1 hD1 hS1 => ?_)
  have eE : lm_E cy ρ (lm_up h.1 a i.toNatClampNeg x, h.2) a = .inl (cy 1, lm_ln h a, .inl (upd (h.1 a) i.toNatClampNeg x)) := by
    rw [lm_E_i (h := (lm_up h.1 a i.toNatClampNeg x, h.2)) hkd, lm_upd_up]
  rw [← eE] at hP1 hD1
  have hW := hback (lm_up h.1 a i.toNatClampNeg x, h.2) H1 (fun _ => rfl) (fun b hb => lm_E_cong rfl rfl (lm_up_ne hb) rfl rfl (fun _ _ _ => rfl)) hP1 hD1
  exact kk ρ H1 locs1 sl cells slots (lm_ag_rf h ρ) (lm_G_put G hW hS1 ha rfl rfl (fun b hb => lm_up_ne hb) (fun b hb => rfl) (fun j b hb => G.2.1.1 a j b (by omega) hb) (fun v hv => hst v (List.mem_cons_of_mem _ (List.mem_cons_of_mem _ (List.mem_cons_of_mem _ hv))))) rfl rfl
theorem lm_t_lastore (hx : p.tables.exec = Jvm.exec) {cc : ByteArray} (hb : c.code = cc) (V : lm_V D cy s) {a : Nat} {i : Int32} {x : Int64} (hd : decode cc pc = .ok (.lastore, 1)) (G : lm_G D cy B s ρ ls (.long x :: .int i :: .ref a :: r) h H locs sl) (hkd : lm_kd h a = 2) (ha : 64 ≤ a) (hin : vp_in i (lm_ln h a))
    (kk : lm_K p l e R s m args below meth c cells slots Q D cy B ρ h (pc + 1, ls, r, (h.1, lm_up h.2.1 a i.toNatClampNeg x, h.2.2))) :
    W p l e R s m args below meth c H locs cells slots Q (F0 m pc sl ((Value.long x :: Value.int i :: Value.ref a :: r).map (lm_vm ρ))) := by
  have hst := G.2.2.2.2.2.2
  obtain ⟨ws, kq, hP, hD, he, hback⟩ := lm_Wd_at G.1 ha (by omega)
  rw [lm_E_l hkd] at he
  refine va_last hx hb V.2.1 hP hD G.2.2.2.1 kq 1 he rfl hin hd (fun H1 locs1 hP1 hD1 hS1 => ?_)
  have eE : lm_E cy ρ (h.1, lm_up h.2.1 a i.toNatClampNeg x, h.2.2) a = .inl (cy 2, lm_ln h a, .inr (.inl (vp_updL (h.2.1 a) i.toNatClampNeg x))) := by
    rw [lm_E_l (h := (h.1, lm_up h.2.1 a i.toNatClampNeg x, h.2.2)) hkd, lm_updL_up]
  rw [← eE] at hP1 hD1
  have hW := hback (h.1, lm_up h.2.1 a i.toNatClampNeg x, h.2.2) H1 (fun _ => rfl) (fun b hb => lm_E_cong rfl rfl rfl (lm_up_ne hb) rfl (fun _ _ _ => rfl)) hP1 hD1
  exact kk ρ H1 locs1 sl cells slots (lm_ag_rf h ρ) (lm_G_put G hW hS1 ha rfl rfl (fun b hb => rfl) (fun b hb => rfl) (fun j b hb => G.2.1.1 a j b (by omega) hb) (fun v hv => hst v (List.mem_cons_of_mem _ (List.mem_cons_of_mem _ (List.mem_cons_of_mem _ hv))))) rfl rfl
theorem lm_t_aastore (hx : p.tables.exec = Jvm.exec) {cc : ByteArray} (hb : c.code = cc) (V : lm_V D cy s) {a b : Nat} {i : Int32} (hd : decode cc pc = .ok (.aastore, 1)) (G : lm_G D cy B s ρ ls (.ref b :: .int i :: .ref a :: r) h H locs sl) (hkd : lm_kd h a = 4) (ha : 64 ≤ a) (hbb : 64 ≤ b) (hkb : lm_kd h b = 12) (hin : vp_in i (lm_ln h a))
    (kk : lm_K p l e R s m args below meth c cells slots Q D cy B ρ h (pc + 1, ls, r, (h.1, h.2.1, lm_up h.2.2.1 a i.toNatClampNeg (some b), h.2.2.2))) :
    W p l e R s m args below meth c H locs cells slots Q (F0 m pc sl ((Value.ref b :: Value.int i :: Value.ref a :: r).map (lm_vm ρ))) := by
  have hst := G.2.2.2.2.2.2
  obtain ⟨L, hn, hL, hP, hD⟩ := G.1
  obtain ⟨kq, hkq⟩ := List.getElem?_of_mem ((hL a).mpr ⟨ha, by omega⟩)
  obtain ⟨kb, hkbq⟩ := List.getElem?_of_mem ((hL b).mpr ⟨hbb, by omega⟩)
  have he : (L.map (lm_F cy ρ h))[kq]? = some (ρ a, .inl (cy 4, lm_ln h a, .inr (.inr (.inr (.inr (fun j => (lm_hr h a j).map ρ)))))) := by rw [List.getElem?_map, hkq, ← lm_E_r hkd (by decide) (by decide)]; rfl
  have heb : (L.map (lm_F cy ρ h))[kb]? = some (ρ b, .inr (2, (List.range (lm_nf 2)).map (fun k => lm_vm ρ (lm_fv h 2 b k)))) := by rw [List.getElem?_map, hkbq, ← lm_E_obj hkb]; rfl
  refine va_astq (r := (lm_cl 2)) hx hb V.2.1 hP hD G.2.2.2.1 kq 2 kb 2 he rfl heb (lm_cl_get (by decide)) hin hd (fun H1 locs1 hP1 hD1 hS1 => ?_)
  have eE : lm_E cy ρ (h.1, h.2.1, lm_up h.2.2.1 a i.toNatClampNeg (some b), h.2.2.2) a = .inl (cy 4, lm_ln h a, .inr (.inr (.inr (.inr (va_up (fun j => (lm_hr h a j).map ρ) i.toNatClampNeg (some (ρ b))))))) := by
    rw [lm_E_r (h := (h.1, h.2.1, lm_up h.2.2.1 a i.toNatClampNeg (some b), h.2.2.2)) hkd (by decide) (by decide)]
    refine congrArg (fun g : Nat → Option Nat => (Sum.inl (cy 4, lm_ln h a, Sum.inr (Sum.inr (Sum.inr (Sum.inr g)))) : va_E)) (funext fun j => ?_)
    show (lm_up h.2.2.1 a i.toNatClampNeg (some b) a j).map ρ = _
    rw [lm_up_row]
    unfold va_up
    split <;> rfl
  have em : (L.map (lm_F cy ρ h)).set kq (ρ a, lm_E cy ρ (h.1, h.2.1, lm_up h.2.2.1 a i.toNatClampNeg (some b), h.2.2.2) a) = L.map (lm_F cy ρ (h.1, h.2.1, lm_up h.2.2.1 a i.toNatClampNeg (some b), h.2.2.2)) :=
    lm_map_set (F := lm_F cy ρ h) (F' := lm_F cy ρ (h.1, h.2.1, lm_up h.2.2.1 a i.toNatClampNeg (some b), h.2.2.2)) hn hkq (fun d hd => by
      simp only [lm_F]
      rw [lm_E_cong (h := h) (h' := (h.1, h.2.1, lm_up h.2.2.1 a i.toNatClampNeg (some b), h.2.2.2)) rfl rfl rfl rfl (lm_up_ne hd) (fun _ _ _ => rfl)])
  rw [← eE, em] at hP1 hD1
  exact kk ρ H1 locs1 sl cells slots (lm_ag_rf h ρ) (lm_G_put G ⟨L, hn, hL, hP1, hD1⟩ hS1 ha rfl rfl (fun b hb => rfl) (fun d hd => lm_up_ne hd) (fun j d hd => by
    rw [show lm_hr (h.1, h.2.1, lm_up h.2.2.1 a i.toNatClampNeg (some b), h.2.2.2) a j = (if j = i.toNatClampNeg then some b else lm_hr h a j) from lm_up_row j] at hd
    split at hd
    · cases hd; omega
    · exact G.2.1.1 a j d (by omega) hd) (fun v hv => hst v (List.mem_cons_of_mem _ (List.mem_cons_of_mem _ (List.mem_cons_of_mem _ hv))))) rfl rfl
/-- a field's new value, whichever row stores it -/
theorem lm_put_go {ci k a : Nat} {v : Value} (V : lm_V D cy s) (hx : p.tables.exec = Jvm.exec) {cc : ByteArray} (hb : c.code = cc) {c0 idx i : Nat} (hown : s.vm.findClass (lm_own c0) = some m.cls) (hname : f ∈ lm_inits → meth.name = "<init>") (hc0 : c0 < 18) (hk : (idx, ci, k, i) ∈ lm_kF c0) (hd : decode cc pc = .ok (.putfield idx, 3))
    (G : lm_G D cy B s ρ ls (v :: .ref a :: r) h H locs sl) (hkd : lm_kd h a = 10 + ci) (hp : lm_pok f c0 ci k = true) (hnar : narrow (lm_tyf ci k) (lm_vm ρ v) = lm_vm ρ v) (hfit : fits (lm_tyf ci k) (lm_vm ρ v) = true)
    (ekd : lm_kd h1 = lm_kd h) (eln : lm_ln h1 = lm_ln h) (e1 : ∀ b, b ≠ a → h1.1 b = h.1 b) (e2 : h1.2.1 = h.2.1) (e3 : ∀ b, b ≠ a → lm_hr h1 b = lm_hr h b) (enc : lm_nc h1 = lm_nc h) (ens : lm_ns h1 = lm_ns h) (hc : ∀ j b, lm_hr h1 a j = some b → lm_kd h b ≠ 0)
    (hf1 : ∀ j, j ≠ k → lm_fv h1 ci a j = lm_fv h ci a j) (hf2 : lm_fv h1 ci a k = v)
    (kk : lm_K p l e R s m args below meth c cells slots Q D cy B ρ h (pc + 3, ls, r, h1)) :
    W p l e R s m args below meth c H locs cells slots Q (F0 m pc sl ((v :: Value.ref a :: r).map (lm_vm ρ))) := by
  have hst := G.2.2.2.2.2.2
  unfold lm_pok at hp
  simp only [Bool.and_eq_true, decide_eq_true_eq, Bool.or_eq_true, Bool.not_eq_true'] at hp
  obtain ⟨hlt, hfi⟩ := hp
  obtain ⟨-, hw, hN⟩ := (lm_okf_all c0 _ hk).1 (by show ci ≠ 30; omega)
  dsimp only at hw hN
  obtain ⟨-, -, -, -, ty5, ty6⟩ := lm_ft_ty ci hlt k hN
  have ha := lm_new64 G.2.1 hlt hkd
  obtain ⟨ws, kq, hP, hD, he, hback⟩ := lm_Wd_at G.1 ha (by omega)
  rw [lm_E_obj hkd] at he
  have hgo : ∀ (H1 : Heap) (locs1 : List Loc), va_P D vwCl (ws.set kq (ρ a, .inr (ci, ((List.range (lm_nf ci)).map (fun j => lm_vm ρ (lm_fv h ci a j))).set k (lm_vm ρ v)))) H1 → va_D (fun q => B ≤ q) (ws.set kq (ρ a, .inr (ci, ((List.range (lm_nf ci)).map (fun j => lm_vm ρ (lm_fv h ci a j))).set k (lm_vm ρ v)))) → va_S (fun q => B ≤ q) s.heap H1 locs1 →
      W p l e R s m args below meth c H1 locs1 cells slots Q (F0 m (pc + 3) sl (r.map (lm_vm ρ))) := by
    intro H1 locs1 hP1 hD1 hS1
    rw [lm_fs_set hf1 hf2, ← lm_E_obj (cy := cy) (ρ := ρ) (h := h1) (by rw [ekd]; exact hkd)] at hP1 hD1
    have hW := hback h1 H1 (fun b => by rw [ekd]) (fun b hb => lm_E_cong (by rw [ekd]) (by rw [eln]) (e1 b hb) (by rw [e2]) (e3 b hb) (fun _ _ _ => rfl)) hP1 hD1
    exact kk ρ H1 locs1 sl cells slots (lm_ag_rf h ρ) (lm_G_put G hW hS1 ha ekd eln e1 e3 hc (fun v hv => hst v (List.mem_cons_of_mem _ (List.mem_cons_of_mem _ hv)))) (by show cells + _ = cells + lm_nc h1; rw [enc]) (by show slots + _ = slots + lm_ns h1; rw [ens])
  have hlen : k < ((List.range (lm_nf ci)).map (fun j => lm_vm ρ (lm_fv h ci a j))).length := by rw [List.length_map, List.length_range, lm_nf_cl hlt]; exact hN
  rcases hfi with hf | ⟨hf, hcc⟩
  · exact va_put (ci := ci) (v := lm_vm ρ v) hx hb (fun w hw => V.1 w hw args) (lm_us_all hlt) (lm_tyf ci) (lm_ty_ok hlt) (lm_nm_ok hlt) hown V.2.1 hP hD G.2.2.2.1 kq he (lm_cl_get hlt) k hN (V.1 _ (lm_in hw rfl) args) (fun _ z => z) (by rw [ty5]; exact hf) (lm_ty_ok hlt k hN) hnar hfit hlen hd hgo
  · by_cases hff : lm_fin ci k = false
    · exact va_put (ci := ci) (v := lm_vm ρ v) hx hb (fun w hw => V.1 w hw args) (lm_us_all hlt) (lm_tyf ci) (lm_ty_ok hlt) (lm_nm_ok hlt) hown V.2.1 hP hD G.2.2.2.1 kq he (lm_cl_get hlt) k hN (V.1 _ (lm_in hw rfl) args) (fun _ z => z) (by rw [ty5]; exact hff) (lm_ty_ok hlt k hN) hnar hfit hlen hd hgo
    · have hown2 : ((lm_cl ci).2.1 k).1 = lm_own c0 := by rw [ty6, ← lm_cis_own c0 hc0 (by omega), hcc]
      exact va_putF (ci := ci) (v := lm_vm ρ v) hx hb (fun w hw => V.1 w hw args) (lm_us_all hlt) (lm_tyf ci) (lm_ty_ok hlt) (lm_nm_ok hlt) hown V.2.1 hP hD G.2.2.2.1 kq he (lm_cl_get hlt) k hN (V.1 _ (lm_in hw rfl) args) (fun _ z => z) (by rw [ty5]; simpa using hff) (hname (by simpa using hf)) hown2 (lm_ty_ok hlt k hN) hnar hfit hlen hd hgo
theorem lm_t_putfield (V : lm_V D cy s) (hx : p.tables.exec = Jvm.exec) {cc : ByteArray} (hb : c.code = cc) {ci k a : Nat} {v : Value} {c0 idx i : Nat} (hown : s.vm.findClass (lm_own c0) = some m.cls) (hname : f ∈ lm_inits → meth.name = "<init>") (hc0 : c0 < 18) (hk : (idx, ci, k, i) ∈ lm_kF c0) (hd : decode cc pc = .ok (.putfield idx, 3))
    (G : lm_G D cy B s ρ ls (v :: .ref a :: r) h H locs sl) (hkd : lm_kd h a = 10 + ci) (hp : lm_pok f c0 ci k = true) (hput : lm_put h (lm_ft ci k) a k v = some h1)
    (kk : lm_K p l e R s m args below meth c cells slots Q D cy B ρ h (pc + 3, ls, r, h1)) :
    W p l e R s m args below meth c H locs cells slots Q (F0 m pc sl ((v :: Value.ref a :: r).map (lm_vm ρ))) := by
  have hlt : ci < 8 := by
    unfold lm_pok at hp
    simp only [Bool.and_eq_true, decide_eq_true_eq] at hp
    exact hp.1
  have hN := ((lm_okf_all c0 _ hk).1 (by show ci ≠ 30; omega)).2.2
  dsimp only at hN
  obtain ⟨t0, t2, t1, -⟩ := lm_ft_ty ci hlt k hN
  have hfk : lm_fk ci k = lm_ft ci k := if_neg (by omega)
  have hv0 := G.2.2.2.2.2.2 v List.mem_cons_self
  unfold lm_put at hput
  split at hput
  · rename_i x
    have hgo : ∀ ty : FieldType, lm_tyf ci k = ty → lm_ft ci k ≠ 1 → narrow ty (.int x) = .int x → fits ty (.int x) = true → h1 = (lm_up h.1 a k x, h.2) → W p l e R s m args below meth c H locs cells slots Q (F0 m pc sl ((Value.int x :: Value.ref a :: r).map (lm_vm ρ))) := by
      intro ty hty hne h2 h3 hh
      subst hh
      refine lm_put_go (f := f) (h1 := (lm_up h.1 a k x, h.2)) V hx hb hown hname hc0 hk hd G hkd hp (by rw [hty]; exact h2) (by rw [hty]; exact h3) rfl rfl (fun b hb => lm_up_ne hb) rfl (fun _ _ => rfl) rfl rfl (fun j b hb => G.2.1.1 a j b (by omega) hb) (fun j hj => ?_) ?_ kk
      · unfold lm_fv
        split
        · rfl
        · show Value.int (lm_up h.1 a k x a j) = _
          rw [lm_up_row, if_neg hj]
      · unfold lm_fv
        rw [if_neg (by rw [hfk]; exact hne)]
        show Value.int (lm_up h.1 a k x a k) = _
        rw [lm_up_row, if_pos rfl]
    split at hput
    · rename_i h0
      cases hput
      exact hgo .int (t0 h0) (by omega) rfl rfl rfl
    · split at hput
      · rename_i h0
        cases hput
        rcases h0.2 with rfl | rfl
        · exact hgo .boolean (t2 h0.1) (by omega) (by decide) (by decide) rfl
        · exact hgo .boolean (t2 h0.1) (by omega) (by decide) (by decide) rfl
      · cases hput
  · rename_i b
    split at hput
    · rename_i h0
      cases hput
      have hrt := t1 h0
      have hnar : narrow (lm_tyf ci k) (lm_vm ρ (.ref b)) = lm_vm ρ (.ref b) := by
        cases lm_tyf ci k <;> rfl
      have hfit : fits (lm_tyf ci k) (lm_vm ρ (.ref b)) = true := by
        revert hrt
        cases lm_tyf ci k <;> intro hrt <;> first | rfl | cases hrt
      refine lm_put_go (f := f) (h1 := (h.1, h.2.1, lm_up h.2.2.1 a k (some b), h.2.2.2)) V hx hb hown hname hc0 hk hd G hkd hp hnar hfit rfl rfl (fun _ _ => rfl) rfl (fun d hd => lm_up_ne hd) rfl rfl (fun j d hd => ?_) (fun j hj => ?_) ?_ kk
      · rw [show lm_hr (h.1, h.2.1, lm_up h.2.2.1 a k (some b), h.2.2.2) a j = (if j = k then some b else lm_hr h a j) from lm_up_row j] at hd
        split at hd
        · cases hd
          exact hv0 b rfl
        · exact G.2.1.1 a j d (by omega) hd
      · unfold lm_fv
        split
        · show va_rf (lm_up h.2.2.1 a k (some b) a j) = _
          rw [lm_up_row, if_neg hj]
        · rfl
      · unfold lm_fv
        rw [if_pos (by rw [hfk]; exact h0)]
        show va_rf (lm_up h.2.2.1 a k (some b) a k) = _
        rw [lm_up_row, if_pos rfl]
        rfl
    · cases hput
  · cases hput
end LMP
end
section
/-! a step of LM is the machine's: new cells -/
theorem lm_u1_eq {α : Type} {g : Nat → α} {a : Nat} {v : α} : lm_u1 g a v a = v := if_pos rfl
theorem lm_u1_ne {α : Type} {g : Nat → α} {a b : Nat} {v : α} (h : b ≠ a) : lm_u1 g a v b = g b := if_neg h
section LMN
variable {p : Program} {l : Launch} {e : Env} {R : Room} {s : State} {m : MethodId} {args : Array Value} {below : List Frame} {meth : Method} {c : Code} {H H1 : Heap} {locs locs1 : List Loc} {cells slots : Nat} {Q : State → Prop}
variable {D : va_G} {cy : Nat → ClassId} {B : Nat} {ρ : Nat → Nat} {f pc : Nat} {ls st st' r : List Value} {h h1 : lm_H} {sl : Array Slot}
/-- the state behind one more cell -/
theorem lm_G_new (G : lm_G D cy B s ρ ls st h H locs sl) {a q : Nat} (ha : 64 ≤ a) (hk : lm_kd h a = 0) (ekd : ∀ b, b ≠ a → lm_kd h1 b = lm_kd h b) (hka : lm_kd h1 a = 1 ∨ lm_kd h1 a = 2 ∨ lm_kd h1 a = 4 ∨ lm_kd h1 a = 5 ∨ lm_kd h1 a = 6 ∨ (10 ≤ lm_kd h1 a ∧ lm_kd h1 a < 18))
    (eln : ∀ b, b ≠ a → lm_ln h1 b = lm_ln h b) (e1 : ∀ b, b ≠ a → h1.1 b = h.1 b) (e3 : ∀ b, b ≠ a → lm_hr h1 b = lm_hr h b) (hn : ∀ j, lm_hr h1 a j = none)
    (hW : lm_Wd D cy B (lm_u1 ρ a q) h1 H1) (hS1 : va_S (fun q => B ≤ q) s.heap H1 locs1) (hst : ∀ v ∈ st', lm_ok h1 v) :
    lm_ag h ρ (lm_u1 ρ a q) ∧ lm_G D cy B s (lm_u1 ρ a q) ls st' h1 H1 locs1 sl := by
  have hne : ∀ b, lm_kd h b ≠ 0 → b ≠ a := fun b hb z => hb (z ▸ hk)
  have hag : lm_ag h ρ (lm_u1 ρ a q) := fun b hb => lm_u1_ne (hne b hb)
  have hok : ∀ v, lm_ok h v → lm_ok h1 v := fun v hv b hb => by rw [ekd b (hne b (hv b hb))]; exact hv b hb
  have h64 : ∀ b, b < 64 → b ≠ a := fun b hb z => by omega
  refine ⟨hag, hW, ⟨fun b j d hb hd => ?_, fun b hb hb0 => ?_, fun b hb => by rw [ekd b (h64 b hb)]; exact G.2.1.2.2 b hb⟩, lm_Old.cong G.2.1 hag (fun b hb => ekd b (h64 b hb)) (fun b hb => eln b (h64 b hb)) (fun b hb => e1 b (h64 b hb)) (fun b hb => e3 b (h64 b hb)) G.2.2.1, hS1, lm_L_ag hag G.2.2.2.2.2.1 G.2.2.2.2.1, fun v hv => hok v (G.2.2.2.2.2.1 v hv), hst⟩
  · by_cases hba : b = a
    · subst hba
      rw [hn j] at hd
      cases hd
    · rw [e3 b hba] at hd
      rw [ekd b hba] at hb
      have := G.2.1.1 b j d hb hd
      rw [ekd d (hne d this)]
      exact this
  · by_cases hba : b = a
    · subst hba
      exact hka
    · rw [ekd b hba] at hb0 ⊢
      exact G.2.1.2.1 b hb hb0
theorem lm_E_new {a q : Nat} (hv : lm_HV h) (hk : lm_kd h a = 0) (ekd : ∀ b, b ≠ a → lm_kd h1 b = lm_kd h b) (eln : ∀ b, b ≠ a → lm_ln h1 b = lm_ln h b) (e1 : ∀ b, b ≠ a → h1.1 b = h.1 b) (e2 : ∀ b, b ≠ a → h1.2.1 b = h.2.1 b) (e3 : ∀ b, b ≠ a → lm_hr h1 b = lm_hr h b) :
    ∀ b, lm_kd h b ≠ 0 → lm_E cy (lm_u1 ρ a q) h1 b = lm_E cy ρ h b := by
  intro b hb
  have hba : b ≠ a := fun z => hb (z ▸ hk)
  exact lm_E_cong (ekd b hba) (eln b hba) (e1 b hba) (e2 b hba) (e3 b hba) (fun j d hd => lm_u1_ne (fun z => hv.1 b j d hb hd (z ▸ hk)))
theorem lm_t_new (V : lm_V D cy s) (hx : p.tables.exec = Jvm.exec) {cc : ByteArray} (hb : c.code = cc) {c0 idx ci N i a : Nat} (hown : s.vm.findClass (lm_own c0) = some m.cls) (hB : B ≤ s.heap.size) (hk : (idx, ci, N, i) ∈ lm_kC c0) (hd : decode cc pc = .ok (.new idx, 3))
    (G : lm_G D cy B s ρ ls st h H locs sl) (hka : lm_kd h a = 0) (ha : 64 ≤ a) (hlt : ci < 8) (hr1 : cells + 1 ≤ R.cells) (hr2 : slots + N ≤ R.slots)
    (kk : lm_K p l e R s m args below meth c cells slots Q D cy B ρ h (pc + 3, ls, .ref a :: st, lm_new h a ci N)) :
    W p l e R s m args below meth c H locs cells slots Q (F0 m pc sl (st.map (lm_vm ρ))) := by
  obtain ⟨hw, hN⟩ := (lm_okn_all c0 _ hk).1 hlt
  dsimp only at hw hN
  subst hN
  obtain ⟨w1, w2⟩ := lm_new_words ci hlt
  obtain ⟨ws, hP, hD, hback⟩ := lm_Wd_new G.1 ha hka
  have ekd : ∀ b, b ≠ a → lm_kd (lm_new h a ci (lm_cl ci).2.2) b = lm_kd h b := fun b hb => lm_u1_ne hb
  have e1 : ∀ b, b ≠ a → (lm_new h a ci (lm_cl ci).2.2).1 b = h.1 b := fun b hb => lm_row_ne hb
  have e3 : ∀ b, b ≠ a → lm_hr (lm_new h a ci (lm_cl ci).2.2) b = lm_hr h b := fun b hb => lm_row_ne hb
  have hkd : lm_kd (lm_new h a ci (lm_cl ci).2.2) a = 10 + ci := lm_u1_eq
  have hfv : ∀ (ρ' : Nat → Nat) k, lm_vm ρ' (lm_fv (lm_new h a ci (lm_cl ci).2.2) ci a k) = if lm_ft ci k = 1 then .null else .int 0 := by
    intro ρ' k
    have hfk : lm_fk ci k = lm_ft ci k := if_neg (by omega)
    unfold lm_fv
    rw [hfk]
    split
    · show lm_vm ρ' (va_rf (lm_row h.2.2.1 a (fun _ => none) a k)) = _
      rw [lm_row_eq]
      rfl
    · show lm_vm ρ' (.int (lm_row h.1 a (fun _ => 0) a k)) = _
      rw [lm_row_eq]
      rfl
  refine va_new (ci := ci) (fs := (List.range (lm_nf ci)).map (fun k => if lm_ft ci k = 1 then Value.null else .int 0)) hx hb (fun w hw => V.1 w hw args) (lm_us_all hlt) (lm_tyf ci) (lm_ty_ok hlt) hown (V.1 _ (lm_in hw rfl) args) (V.1 _ (List.mem_filter.mpr ⟨w1, rfl⟩) args) (V.1 _ (List.mem_filter.mpr ⟨w2, rfl⟩) args) V.2.1 hP hD G.2.2.2.1 (fun q hq => Nat.le_trans hB hq) (lm_cl_get hlt) (fun j hj => ?_) hr1 hr2 hd (fun q H1 hP1 hD1 hS1 => ?_)
  · unfold vp_V
    rw [List.getD_eq_getElem?_getD, List.getElem?_map, List.getElem?_range (by rw [lm_nf_cl hlt]; exact hj)]
    obtain ⟨t0, t2, t1, t3, -⟩ := lm_ft_ty ci hlt j hj
    simp only [Option.map_some, Option.getD_some]
    rcases t3 with z | z | z
    · rw [t0 z, if_neg (by omega)]
      rfl
    · rw [if_pos z]
      have := t1 z
      revert this
      cases lm_tyf ci j <;> intro this <;> first | rfl | cases this
    · rw [t2 z, if_neg (by omega)]
      rfl
  · have eE : lm_E cy (lm_u1 ρ a q) (lm_new h a ci (lm_cl ci).2.2) a = .inr (ci, (List.range (lm_nf ci)).map (fun k => if lm_ft ci k = 1 then Value.null else .int 0)) := by
      rw [lm_E_obj hkd]
      simp only [hfv]
    rw [← eE] at hP1 hD1
    have hW := hback (lm_new h a ci (lm_cl ci).2.2) H1 q ekd (by rw [hkd]; omega) (lm_E_new G.2.1 hka ekd (fun _ _ => rfl) e1 (fun _ _ => rfl) e3) hP1 hD1
    have hok : ∀ v, lm_ok h v → lm_ok (lm_new h a ci (lm_cl ci).2.2) v := fun v hv b hb => by
      have := hv b hb
      rw [ekd b (fun z => this (z ▸ hka))]
      exact this
    obtain ⟨hag, G1⟩ := lm_G_new (st' := .ref a :: st) G ha hka ekd (by rw [hkd]; omega) (fun _ _ => rfl) e1 e3 (fun j => by show lm_row h.2.2.1 a (fun _ => none) a j = none; rw [lm_row_eq]) hW hS1 (lm_ok_cons (fun b hb => by cases hb; rw [hkd]; omega) (fun v hv => hok v (G.2.2.2.2.2.2 v hv)))
    have := kk (lm_u1 ρ a q) H1 locs sl (cells + 1) (slots + (lm_cl ci).2.2) hag G1 (by show cells + 1 + lm_nc h = cells + (lm_nc h + 1); omega) (by show slots + (lm_cl ci).2.2 + lm_ns h = slots + (lm_ns h + (lm_cl ci).2.2); omega)
    simp only [List.map_cons] at this
    rw [lm_map_ag hag G.2.2.2.2.2.2] at this
    have e9 : lm_vm (lm_u1 ρ a q) (.ref a) = .ref q := by show Value.ref (lm_u1 ρ a q a) = _; rw [lm_u1_eq]
    rw [e9] at this
    exact this
/-- what is the same of all new arrays -/
theorem lm_arr_go {K n a q : Nat} (hB : B ≤ s.heap.size) {x9 : Int32} (G : lm_G D cy B s ρ ls (.int x9 :: st) h H locs sl) (hka : lm_kd h a = 0) (ha : 64 ≤ a) (hK : K = 1 ∨ K = 2 ∨ K = 4) (hS1 : va_S (fun q => B ≤ q) s.heap H1 locs1) {pc' : Nat}
    (hW : lm_Wd D cy B (lm_u1 ρ a q) (lm_arr h a K n) H1)
    (kk : lm_K p l e R s m args below meth c cells slots Q D cy B ρ h (pc', ls, .ref a :: st, lm_arr h a K n)) :
    W p l e R s m args below meth c H1 locs1 (cells + 1) (slots + n) Q (F0 m pc' sl (.ref q :: st.map (lm_vm ρ))) := by
  have hst : ∀ v ∈ st, lm_ok h v := fun v hv => G.2.2.2.2.2.2 v (List.mem_cons_of_mem _ hv)
  have ekd : ∀ b, b ≠ a → lm_kd (lm_arr h a K n) b = lm_kd h b := fun b hb => lm_u1_ne hb
  have hkd : lm_kd (lm_arr h a K n) a = K := lm_u1_eq
  have hok : ∀ v, lm_ok h v → lm_ok (lm_arr h a K n) v := fun v hv b hb => by
    have := hv b hb
    rw [ekd b (fun z => this (z ▸ hka))]
    exact this
  obtain ⟨hag, G1⟩ := lm_G_new (st' := .ref a :: st) G ha hka ekd (by rw [hkd]; omega) (fun b hb => lm_u1_ne hb) (fun b hb => lm_row_ne hb) (fun b hb => lm_row_ne hb) (fun j => by show lm_row h.2.2.1 a (fun _ => none) a j = none; rw [lm_row_eq]) hW hS1 (lm_ok_cons (fun b hb => by cases hb; rw [hkd]; omega) (fun v hv => hok v (hst v hv)))
  have := kk (lm_u1 ρ a q) H1 locs1 sl (cells + 1) (slots + n) hag G1 (by show cells + 1 + lm_nc h = cells + (lm_nc h + 1); omega) (by show slots + n + lm_ns h = slots + (lm_ns h + n); omega)
  simp only [List.map_cons] at this
  rw [lm_map_ag hag hst] at this
  have e9 : lm_vm (lm_u1 ρ a q) (.ref a) = .ref q := by show Value.ref (lm_u1 ρ a q a) = _; rw [lm_u1_eq]
  rw [e9] at this
  exact this
theorem lm_E_arrs {K n a q : Nat} (hv : lm_HV h) (hka : lm_kd h a = 0) : ∀ b, lm_kd h b ≠ 0 → lm_E cy (lm_u1 ρ a q) (lm_arr h a K n) b = lm_E cy ρ h b :=
  lm_E_new hv hka (fun b hb => lm_u1_ne hb) (fun b hb => lm_u1_ne hb) (fun b hb => lm_row_ne hb) (fun b hb => lm_row_ne hb) (fun b hb => lm_row_ne hb)
theorem lm_t_newi (V : lm_V D cy s) (hx : p.tables.exec = Jvm.exec) {cc : ByteArray} (hb : c.code = cc) {a : Nat} {n : Int32} (hB : B ≤ s.heap.size) (hd : decode cc pc = .ok (.newarray .int, 2))
    (G : lm_G D cy B s ρ ls (.int n :: st) h H locs sl) (hka : lm_kd h a = 0) (ha : 64 ≤ a) (hn : ¬ n < 0) (hn2 : n.toNatClampNeg ≤ 100000) (hr1 : cells + 1 ≤ R.cells) (hr2 : slots + n.toNatClampNeg ≤ R.slots)
    (kk : lm_K p l e R s m args below meth c cells slots Q D cy B ρ h (pc + 2, ls, .ref a :: st, lm_arr h a 1 n.toNatClampNeg)) :
    W p l e R s m args below meth c H locs cells slots Q (F0 m pc sl ((Value.int n :: st).map (lm_vm ρ))) := by
  obtain ⟨ws, hP, hD, hback⟩ := lm_Wd_new G.1 ha hka
  have hbt : n.toNatClampNeg * componentBytes .int ≤ 536870912 := by
    have e : componentBytes .int = 4 := rfl
    rw [e]
    omega
  have hcell : ∀ cA : ClassId, vp_cell cA (n.toNatClampNeg, .inl (fun _ => 0)) = arrV cA n.toNatClampNeg (fun _ => defaultValue .int) := fun _ => rfl
  have harr := V.1 _ (List.mem_filter.mpr ⟨lm_arr_words.1, rfl⟩) args
  refine va_newa (atype := .int) (ty := .int) (a0 := (n.toNatClampNeg, .inl (fun _ => 0))) hx hb harr rfl V.2.1 hP hD G.2.2.2.1 (fun q hq => Nat.le_trans hB hq) hcell hn rfl hbt hr1 hr2 hd (fun q cA H1 hK1 hP1 hD1 hS1 => ?_)
  have hA1 := (hK1.2 5 (cA, .int) rfl).2
  have hA2 := (V.2.1.2 0 (cy 1, .int) rfl).2
  have hcy : cA = cy 1 := Option.some.inj ((show s.vm.findClass _ = some cA from hA1).symm.trans hA2)
  subst hcy
  have hkd : lm_kd (lm_arr h a 1 n.toNatClampNeg) a = 1 := lm_u1_eq
  have eE : lm_E cy (lm_u1 ρ a q) (lm_arr h a 1 n.toNatClampNeg) a = .inl (cy 1, n.toNatClampNeg, .inl (fun _ => 0)) := by
    rw [lm_E_i hkd]
    show Sum.inl (cy 1, lm_u1 h.2.2.2.2.1 a n.toNatClampNeg a, Sum.inl (lm_row h.1 a (fun _ => 0) a)) = _
    rw [lm_u1_eq, lm_row_eq]
  rw [← eE] at hP1 hD1
  have hW := hback _ H1 q (fun b hb => lm_u1_ne hb) (by rw [hkd]; decide) (lm_E_arrs G.2.1 hka) hP1 hD1
  exact lm_arr_go hB G hka ha (Or.inl rfl) hS1 hW kk
theorem lm_t_newl (V : lm_V D cy s) (hx : p.tables.exec = Jvm.exec) {cc : ByteArray} (hb : c.code = cc) {a : Nat} {n : Int32} (hB : B ≤ s.heap.size) (hd : decode cc pc = .ok (.newarray .long, 2))
    (G : lm_G D cy B s ρ ls (.int n :: st) h H locs sl) (hka : lm_kd h a = 0) (ha : 64 ≤ a) (hn : ¬ n < 0) (hn2 : n.toNatClampNeg ≤ 100000) (hr1 : cells + 1 ≤ R.cells) (hr2 : slots + n.toNatClampNeg ≤ R.slots)
    (kk : lm_K p l e R s m args below meth c cells slots Q D cy B ρ h (pc + 2, ls, .ref a :: st, lm_arr h a 2 n.toNatClampNeg)) :
    W p l e R s m args below meth c H locs cells slots Q (F0 m pc sl ((Value.int n :: st).map (lm_vm ρ))) := by
  obtain ⟨ws, hP, hD, hback⟩ := lm_Wd_new G.1 ha hka
  have hbt : n.toNatClampNeg * componentBytes .long ≤ 536870912 := by
    have e : componentBytes .long = 8 := rfl
    rw [e]
    omega
  have hcell : ∀ cA : ClassId, vp_cell cA (n.toNatClampNeg, .inr (.inl (fun _ => 0))) = arrV cA n.toNatClampNeg (fun _ => defaultValue .long) := fun _ => rfl
  have harr := V.1 _ (List.mem_filter.mpr ⟨lm_arr_words.2, rfl⟩) args
  refine va_newa (atype := .long) (ty := .long) (a0 := (n.toNatClampNeg, .inr (.inl (fun _ => 0)))) hx hb harr rfl V.2.1 hP hD G.2.2.2.1 (fun q hq => Nat.le_trans hB hq) hcell hn rfl hbt hr1 hr2 hd (fun q cA H1 hK1 hP1 hD1 hS1 => ?_)
  have hA1 := (hK1.2 5 (cA, .long) rfl).2
  have hA2 := (V.2.1.2 1 (cy 2, .long) rfl).2
  have hcy : cA = cy 2 := Option.some.inj ((show s.vm.findClass _ = some cA from hA1).symm.trans hA2)
  subst hcy
  have hkd : lm_kd (lm_arr h a 2 n.toNatClampNeg) a = 2 := lm_u1_eq
  have eE : lm_E cy (lm_u1 ρ a q) (lm_arr h a 2 n.toNatClampNeg) a = .inl (cy 2, n.toNatClampNeg, .inr (.inl (fun _ => 0))) := by
    rw [lm_E_l hkd]
    show Sum.inl (cy 2, lm_u1 h.2.2.2.2.1 a n.toNatClampNeg a, Sum.inr (Sum.inl (lm_row h.2.1 a (fun _ => 0) a))) = _
    rw [lm_u1_eq, lm_row_eq]
  rw [← eE] at hP1 hD1
  have hW := hback _ H1 q (fun b hb => lm_u1_ne hb) (by rw [hkd]; decide) (lm_E_arrs G.2.1 hka) hP1 hD1
  exact lm_arr_go hB G hka ha (Or.inr (Or.inl rfl)) hS1 hW kk
theorem lm_t_newq (V : lm_V D cy s) (hx : p.tables.exec = Jvm.exec) {cc : ByteArray} (hb : c.code = cc) {c0 idx N i a : Nat} {n : Int32} (hown : s.vm.findClass (lm_own c0) = some m.cls) (hB : B ≤ s.heap.size) (hk : (idx, 2, N, i) ∈ lm_kC c0) (hd : decode cc pc = .ok (.anewarray idx, 3))
    (G : lm_G D cy B s ρ ls (.int n :: st) h H locs sl) (hka : lm_kd h a = 0) (ha : 64 ≤ a) (hn : ¬ n < 0) (hn2 : n.toNatClampNeg ≤ 100000) (hr1 : cells + 1 ≤ R.cells) (hr2 : slots + n.toNatClampNeg ≤ R.slots)
    (kk : lm_K p l e R s m args below meth c cells slots Q D cy B ρ h (pc + 3, ls, .ref a :: st, lm_arr h a 4 n.toNatClampNeg)) :
    W p l e R s m args below meth c H locs cells slots Q (F0 m pc sl ((Value.int n :: st).map (lm_vm ρ))) := by
  obtain ⟨hw, -⟩ := (lm_okn_all c0 _ hk).1 (show 2 < 8 by decide)
  dsimp only at hw
  obtain ⟨ws, hP, hD, hback⟩ := lm_Wd_new G.1 ha hka
  refine va_newq (C := "AwakeByHalves$Shelf") hx hb hown (V.1 _ (lm_in hw rfl) args) V.2.2.1 V.2.1 hP hD G.2.2.2.1 (fun q hq => Nat.le_trans hB hq) hn rfl (by omega) hr1 hr2 hd (fun q cA H1 hK1 hP1 hD1 hS1 => ?_)
  obtain ⟨-, -, -, -, -, hA1⟩ := (hK1.2 5 (cA, .object "AwakeByHalves$Shelf") rfl).2
  obtain ⟨-, -, -, -, -, hA2⟩ := (V.2.1.2 2 (cy 4, .object "AwakeByHalves$Shelf") rfl).2
  have hcy : cA = cy 4 := Option.some.inj (hA1.symm.trans hA2)
  subst hcy
  have hkd : lm_kd (lm_arr h a 4 n.toNatClampNeg) a = 4 := lm_u1_eq
  have eE : lm_E cy (lm_u1 ρ a q) (lm_arr h a 4 n.toNatClampNeg) a = .inl (cy 4, n.toNatClampNeg, .inr (.inr (.inr (.inr (fun _ => none))))) := by
    rw [lm_E_r hkd (by decide) (by decide)]
    show Sum.inl (cy 4, lm_u1 h.2.2.2.2.1 a n.toNatClampNeg a, Sum.inr (Sum.inr (Sum.inr (Sum.inr (fun j => (lm_row h.2.2.1 a (fun _ => none) a j).map (lm_u1 ρ a q)))))) = _
    rw [lm_u1_eq, lm_row_eq]
    rfl
  rw [← eE] at hP1 hD1
  have hW := hback _ H1 q (fun b hb => lm_u1_ne hb) (by rw [hkd]; decide) (lm_E_arrs G.2.1 hka) hP1 hD1
  exact lm_arr_go hB G hka ha (Or.inr (Or.inr rfl)) hS1 hW kk
end LMN
end
section
/-! what a step of LM leaves: old cells, kinds -/
def lm_le (h h1 : lm_H) : Prop := (∀ a, lm_kd h a ≠ 0 → lm_kd h1 a = lm_kd h a) ∧ (∀ a, a < 64 → lm_kd h1 a = lm_kd h a ∧ lm_ln h1 a = lm_ln h a ∧ h1.1 a = h.1 a ∧ lm_hr h1 a = lm_hr h a) ∧ lm_nc h ≤ lm_nc h1 ∧ lm_ns h ≤ lm_ns h1
theorem lm_le_rf (h : lm_H) : lm_le h h := ⟨fun _ _ => rfl, fun _ _ => ⟨rfl, rfl, rfl, rfl⟩, Nat.le_refl _, Nat.le_refl _⟩
theorem lm_le_tr {h h1 h2 : lm_H} (a : lm_le h h1) (b : lm_le h1 h2) : lm_le h h2 :=
  ⟨fun x hx => by rw [b.1 x (by rw [a.1 x hx]; exact hx), a.1 x hx], fun x hx => ⟨(b.2.1 x hx).1.trans (a.2.1 x hx).1, (b.2.1 x hx).2.1.trans (a.2.1 x hx).2.1, (b.2.1 x hx).2.2.1.trans (a.2.1 x hx).2.2.1, (b.2.1 x hx).2.2.2.trans (a.2.1 x hx).2.2.2⟩, Nat.le_trans a.2.2.1 b.2.2.1, Nat.le_trans a.2.2.2 b.2.2.2⟩
theorem lm_le_i {h : lm_H} {a k : Nat} {x : Int32} (ha : 64 ≤ a) : lm_le h (lm_up h.1 a k x, h.2) := ⟨fun _ _ => rfl, fun b hb => ⟨rfl, rfl, lm_up_ne (by omega), rfl⟩, Nat.le_refl _, Nat.le_refl _⟩
theorem lm_le_r {h : lm_H} {a k : Nat} {x : Option Nat} (ha : 64 ≤ a) : lm_le h (h.1, h.2.1, lm_up h.2.2.1 a k x, h.2.2.2) := ⟨fun _ _ => rfl, fun b hb => ⟨rfl, rfl, rfl, lm_up_ne (by omega)⟩, Nat.le_refl _, Nat.le_refl _⟩
theorem lm_le_l {h : lm_H} {g : Nat → Nat → Int64} : lm_le h (h.1, g, h.2.2) := ⟨fun _ _ => rfl, fun b hb => ⟨rfl, rfl, rfl, rfl⟩, Nat.le_refl _, Nat.le_refl _⟩
theorem lm_le_ir {h : lm_H} {a : Nat} {g : Nat → Int32} (ha : 64 ≤ a) : lm_le h (lm_row h.1 a g, h.2) := ⟨fun _ _ => rfl, fun b hb => ⟨rfl, rfl, lm_row_ne (by omega), rfl⟩, Nat.le_refl _, Nat.le_refl _⟩
theorem lm_le_new {h : lm_H} {a ci N : Nat} (ha : 64 ≤ a) (hk : lm_kd h a = 0) : lm_le h (lm_new h a ci N) :=
  ⟨fun b hb => lm_u1_ne (fun z => hb (z ▸ hk)), fun b hb => ⟨lm_u1_ne (by omega), rfl, lm_row_ne (by omega), lm_row_ne (by omega)⟩, Nat.le_succ _, Nat.le_add_right _ _⟩
theorem lm_le_arr {h : lm_H} {a K n : Nat} (ha : 64 ≤ a) (hk : lm_kd h a = 0) : lm_le h (lm_arr h a K n) :=
  ⟨fun b hb => lm_u1_ne (fun z => hb (z ▸ hk)), fun b hb => ⟨lm_u1_ne (by omega), lm_u1_ne (by omega), lm_row_ne (by omega), lm_row_ne (by omega)⟩, Nat.le_succ _, Nat.le_add_right _ _⟩
theorem lm_us_ne {α : Type} {g : Nat → α} {a n b : Nat} {v : α} (h : ¬ (a ≤ b ∧ b < a + n)) : lm_us g a n v b = g b := if_neg h
theorem lm_us_in {α : Type} {g : Nat → α} {a n b : Nat} {v : α} (h : a ≤ b ∧ b < a + n) : lm_us g a n v b = v := if_pos h
theorem lm_le_mul {h : lm_H} {a K k n m : Nat} (ha : 64 ≤ a) (hk : ∀ j, j < n + 1 → lm_kd h (a + j) = 0) : lm_le h (lm_mul h a K k n m) := by
  have hne : ∀ b, lm_kd h b ≠ 0 → ¬ (a ≤ b ∧ b < a + (n + 1)) := fun b hb q => hb (by
    have := hk (b - a) (by omega)
    rwa [show a + (b - a) = b by omega] at this)
  refine ⟨fun b hb => ?_, fun b hb => ⟨?_, ?_, ?_, ?_⟩, by show lm_nc h ≤ lm_nc h + 1 + n; omega, by show lm_ns h ≤ lm_ns h + n + n * m; omega⟩
  · show lm_u1 (lm_us h.2.2.2.1 a (n + 1) k) a K b = _
    rw [lm_u1_ne (fun z => hne b hb ⟨by omega, by omega⟩), lm_us_ne (hne b hb)]
  · show lm_u1 (lm_us h.2.2.2.1 a (n + 1) k) a K b = _
    rw [lm_u1_ne (by omega), lm_us_ne (by omega)]
  · show lm_u1 (lm_us h.2.2.2.2.1 a (n + 1) m) a n b = _
    rw [lm_u1_ne (by omega), lm_us_ne (by omega)]
  · show lm_us h.1 a (n + 1) (fun _ => 0) b = _
    rw [lm_us_ne (by omega)]
  · show lm_row (lm_us h.2.2.1 a (n + 1) (fun _ => none)) a _ b = _
    rw [lm_row_ne (by omega), lm_us_ne (by omega)]
theorem lm_iv_le {w : Option (Nat × Nat × Nat × Nat)} {op pc : Nat} {ls st : List Value} {h : lm_H} {q} (hs : lm_iv w op pc ls st h = some (.inl q)) : lm_le h q.2.2.2 := by
  unfold lm_iv at hs
  split at hs
  · cases hs
  · rename_i kind g n z
    split at hs
    · split at hs
      · split at hs <;> cases hs
      · cases hs
    · split at hs
      · split at hs <;> cases hs
      · split at hs
        · split at hs
          · split at hs <;> cases hs
          · cases hs
        · split at hs
          · split at hs
            · split at hs
              · cases hs; exact lm_le_rf h
              · cases hs
            · cases hs
          · split at hs
            · split at hs
              · split at hs
                · cases hs; exact lm_le_l
                · split at hs
                  · rename_i hc; cases hs; exact lm_le_ir hc.2.2.2.2.2.1
                  · cases hs
              · cases hs
            · split at hs
              · split at hs
                · split at hs
                  · cases hs; exact lm_le_rf h
                  · cases hs
                · cases hs
              · split at hs
                · split at hs
                  · split at hs
                    · cases hs; exact lm_le_rf h
                    · cases hs
                  · cases hs
                · split at hs
                  · split at hs
                    · split at hs
                      · cases hs; exact lm_le_rf h
                      · cases hs
                    · cases hs
                  · cases hs
set_option maxHeartbeats 4000000 in
theorem lm_i_le {f c pc : Nat} {i : Instr} {ls st : List Value} {h : lm_H} {q} (hs : lm_i f c pc i ls st h = some (.inl q)) : lm_le h q.2.2.2 := by
  cases i
  case invokevirtual idx => exact lm_iv_le hs
  case invokestatic idx => exact lm_iv_le hs
  case invokespecial idx => exact lm_iv_le hs
  case putfield idx =>
    simp only [lm_i] at hs
    split at hs
    · split at hs
      · split at hs
        · rename_i hc
          split at hs
          · rename_i h1 hp
            cases hs
            unfold lm_put at hp
            split at hp
            · split at hp
              · cases hp; exact lm_le_i hc.2.1
              · split at hp
                · cases hp; exact lm_le_i hc.2.1
                · cases hp
            · split at hp
              · cases hp; exact lm_le_r hc.2.1
              · cases hp
            · cases hp
          · cases hs
        · cases hs
      · cases hs
    · cases hs
  case iastore =>
    simp only [lm_i] at hs
    split at hs
    · split at hs
      · rename_i hc; cases hs; exact lm_le_i hc.2.1
      · cases hs
    · cases hs
  case lastore =>
    simp only [lm_i] at hs
    split at hs
    · split at hs
      · cases hs; exact lm_le_l
      · cases hs
    · cases hs
  case aastore =>
    simp only [lm_i] at hs
    split at hs
    · split at hs
      · rename_i hc; cases hs; exact lm_le_r hc.2.1
      · cases hs
    · cases hs
  case new idx =>
    simp only [lm_i] at hs
    split at hs
    · split at hs
      · rename_i hc; cases hs; exact lm_le_new hc.2.1 hc.1
      · cases hs
    · cases hs
  case newarray ty =>
    simp only [lm_i] at hs
    split at hs
    · split at hs
      · rename_i hc; cases hs; exact lm_le_arr hc.2.1 hc.1
      · cases hs
    · cases hs
  case anewarray idx =>
    simp only [lm_i] at hs
    split at hs
    · split at hs
      · split at hs
        · rename_i hc; cases hs; exact lm_le_arr hc.2.1 hc.1
        · cases hs
      · cases hs
    · cases hs
  case multianewarray idx dm =>
    simp only [lm_i] at hs
    split at hs
    · split at hs
      · split at hs
        · rename_i hc
          cases hs
          refine lm_le_mul hc.2.2.1 (fun j hj => ?_)
          have := List.all_eq_true.mp hc.2.2.2.2.2.2.2 j (List.mem_range.mpr hj)
          simpa using this
        · cases hs
      · cases hs
    · cases hs
  all_goals first
    | (cases hs; done)
    | (obtain ⟨_, _, _, _, rfl⟩ := lm_i2_inv hs; exact lm_le_rf h)
    | (obtain ⟨_, _, _, rfl⟩ := lm_i1_inv hs; exact lm_le_rf h)
    | (obtain ⟨_, _, _, _, rfl⟩ := lm_l2_inv hs; exact lm_le_rf h)
    | (obtain ⟨_, _, _, _, rfl⟩ := lm_ls_inv hs; exact lm_le_rf h)
    | (obtain ⟨_, _, rfl⟩ := lm_li_inv hs; exact lm_le_rf h)
    | (obtain ⟨_, _, rfl⟩ := lm_ll_inv hs; exact lm_le_rf h)
    | (obtain ⟨_, _, rfl⟩ := lm_la_inv hs; exact lm_le_rf h)
    | (obtain ⟨_, _, _, _, rfl⟩ := lm_si_inv hs; exact lm_le_rf h)
    | (obtain ⟨_, _, _, _, rfl⟩ := lm_sl_inv hs; exact lm_le_rf h)
    | (obtain ⟨_, _, _, _, rfl⟩ := lm_sa_inv hs; exact lm_le_rf h)
    | (obtain ⟨_, _, rfl⟩ := lm_go_inv hs; exact lm_le_rf h)
    | (simp only [lm_i, lm_bt, lm_br, lm_ir, lm_go] at hs; (repeat' (split at hs)); all_goals first | (cases hs; exact lm_le_rf h) | (cases hs; done))
theorem lm_st_le {f pc : Nat} {ls st : List Value} {h : lm_H} {q} (hs : lm_st f pc ls st h = some (.inl q)) : lm_le h q.2.2.2 := by
  unfold lm_st at hs
  split at hs
  · exact lm_i_le hs
  · cases hs
end
section
/-! ===== BEGIN new T[n][m]: the outer array a place, the inner ones among the pooled ===== -/
/-- f, but v at every address of l -/
def vr_up {α : Type} (f : Nat → α) (l : List Nat) (v : α) : Nat → α := fun a => if a ∈ l then v else f a
theorem vr_up_in {α : Type} {f : Nat → α} {l : List Nat} {v : α} {a : Nat} (h : a ∈ l) : vr_up f l v a = v := if_pos h
theorem vr_up_ne {α : Type} {f : Nat → α} {l : List Nat} {v : α} {a : Nat} (h : a ∉ l) : vr_up f l v a = f a := if_neg h
theorem vr_rows {L l : List Nat} {f : Nat → va_E} {e : va_E} (h : ∀ a, a ∈ l → a ∉ L) : va_pl L f ++ l.map (fun a => (a, e)) = va_pl (L ++ l) (vr_up f l e) := by
  unfold va_pl
  rw [List.map_append]
  congr 1
  · apply List.map_congr_left
    intro a ha
    rw [vr_up_ne (fun q => h a q ha)]
  · apply List.map_congr_left
    intro a ha
    rw [vr_up_in ha]
theorem vr_lay {X rows : va_W} {x : Nat × va_E} {pl : va_W} {D : va_G} {cl : List vw_C} {H : Heap} (hP : va_P D cl (((X ++ pl) ++ [x]) ++ rows) H) : va_P D cl ((X ++ [x]) ++ (pl ++ rows)) H := by
  rw [List.append_assoc (X ++ pl)] at hP
  have h := va_P.swap hP
  rw [← List.append_assoc X] at h
  have h2 := va_P.swap h
  rw [List.append_assoc (X ++ [x])] at h2
  exact h2
theorem vr_layD {X rows : va_W} {x : Nat × va_E} {pl : va_W} {A : Nat → Prop} (hD : va_D A (((X ++ pl) ++ [x]) ++ rows)) : va_D A ((X ++ [x]) ++ (pl ++ rows)) := by
  rw [List.append_assoc (X ++ pl)] at hD
  have h := va_D.swap hD
  rw [← List.append_assoc X] at h
  have h2 := va_D.swap h
  rw [List.append_assoc (X ++ [x])] at h2
  exact h2
def va_AOA (ty : FieldType) (U : State) : Prop := (Cond.arrayOver (.array ty)).before #[] U = true
theorem va_AOA.use {ty : FieldType} {A : Array Value} {U : State} (h : va_AOA ty U) : (Cond.arrayOver (.array ty)).before A U = true := h
section VGM
variable {p : Program} {l : Launch} {e : Env} {R : Room} {s : State} {m : MethodId} {args : Array Value} {below : List Frame} {meth : Method} {c : Code} {H : Heap} {locs : List Loc} {cells slots : Nat} {Q : State → Prop}
variable {cc : ByteArray} {pc : Nat} {ls : Array Slot} {rest : List Value} {D : va_G} {cl : List vw_C} {A : Nat → Prop} {a : Nat} {tys : List (ClassId × FieldType)} {ws : va_W} {H0 : Heap}
theorem va_mna {X : va_W} {L : List Nat} {f : Nat → va_E} {cc : ByteArray} (hexec : p.tables.exec = Jvm.exec) (hb : c.code = cc) {own : String} {index : Nat} {ty : FieldType} {cy : ClassId} (hown : s.vm.findClass own = some m.cls) (hclink : (Cond.classLink own index ("[" ++ (FieldType.array ty).toString)).before args s = true) (hover : va_AOA ty s) (harr : (Cond.arrayClass ty).before args s = true) (hcy : s.vm.findClass (FieldType.array ty).toString = some cy)
    (hK : va_K D cl tys s) (hP : va_P D cl (X ++ va_pl L f) H) (hD : va_D A (X ++ va_pl L f)) (hS : va_S A H0 H locs) (hA : ∀ q, H0.size ≤ q → A q) {n k : Int32} {N' K' : Nat} {z : vp_A} (hn : ¬ n < 0) (hk : ¬ k < 0) (hN : n.toNatClampNeg = N') (hM : k.toNatClampNeg = K')
    (hb1 : N' * 4 ≤ 536870912) (hb2 : K' * componentBytes ty ≤ 536870912) (hb3 : K' ≤ 536870912) (hdf : fits ty (defaultValue ty) = true) (hdd : (defaultValue ty).isDefault = true) (hcells : cells + (1 + N') ≤ R.cells) (hslots : slots + (N' + N' * K') ≤ R.slots) (hz : ∀ c : ClassId, Jvm.Free.Multi.innerC c K' (defaultValue ty) = vp_cell c z) (hdg : decode cc pc = .ok (.multianewarray index 2, 4))
    (kk : ∀ (q : Nat) (r : Nat → Nat) (cA : ClassId) (H1 : Heap), (∀ i j : Nat, i < N' → j < N' → r i = r j → i = j) → (∀ i : Nat, i < N' → r i ∉ L) → va_K D cl (tys ++ [(cA, .array ty)]) s →
      va_P D cl ((X ++ [(q, .inl (cA, N', .inr (.inr (.inr (.inr (fun i => if i < N' then some (r i) else none))))))]) ++ va_pl (L ++ (List.range N').map r) (vr_up f ((List.range N').map r) (.inl (cy, z)))) H1 → va_D A ((X ++ [(q, .inl (cA, N', .inr (.inr (.inr (.inr (fun i => if i < N' then some (r i) else none))))))]) ++ va_pl (L ++ (List.range N').map r) (vr_up f ((List.range N').map r) (.inl (cy, z)))) → va_S A H0 H1 locs →
      W p l e R s m args below meth c H1 locs (cells + 1 + N') (slots + N' + N' * K') Q (F0 m (pc + 4) ls (.ref q :: rest))) : W p l e R s m args below meth c H locs cells slots Q (F0 m pc ls (.int k :: .int n :: rest)) := by
  subst hN
  subst hM
  intro T hT Xs
  obtain ⟨vm₁, cA, comp, -, fA, fC, hO, -, X', step⟩ := Xs.multianewarray2F hexec hown hclink (va_AOA.use hover) harr (g := F0 m pc ls (.int k :: .int n :: rest)) rfl (by rw [hb]; exact hdg) rfl hn hk hb1 hb2 hb3 hdf hdd hcells hslots
  have ec : some cy = some comp := hcy.symm.trans fC
  cases ec
  generalize hF : Jvm.Free.Multi.fill (T.setVm vm₁) cA cy n.toNatClampNeg k.toNatClampNeg (defaultValue ty) n.toNatClampNeg = F at X' step
  have hTh : (T.setVm vm₁).heap = H := hT
  obtain ⟨f1, f2, -, -⟩ := Jvm.Free.Multi.fill_facts (T.setVm vm₁) cA cy n.toNatClampNeg k.toNatClampNeg (defaultValue ty) n.toNatClampNeg
  rw [hF, hTh] at f1 f2
  have hold : ∀ x : Nat, x < H.size → F.heap[x]? = H[x]? := fun x hx => by
    have := Jvm.Free.Multi.fill_old (T.setVm vm₁) cA cy n.toNatClampNeg k.toNatClampNeg (defaultValue ty) (a := x) (by rw [hTh]; exact hx) n.toNatClampNeg
    rw [hF, hTh] at this
    exact this
  have hrow : ∀ j : Nat, j < n.toNatClampNeg → F.heap[H.size + 1 + j]? = some (vp_cell cy z) := fun j hj => by
    have := Jvm.Free.Multi.fill_inner (T.setVm vm₁) cA cy n.toNatClampNeg k.toNatClampNeg (defaultValue ty) n.toNatClampNeg j hj
    rw [hF, hTh, hz] at this
    exact this
  have hout : Jvm.Free.Multi.outerC cA n.toNatClampNeg H.size n.toNatClampNeg = vp_cell cA (n.toNatClampNeg, .inr (.inr (.inr (.inr (fun i => if i < n.toNatClampNeg then some (H.size + 1 + i) else none))))) := by
    rw [vp_cell_q]
    exact vr_outer cA n.toNatClampNeg H.size n.toNatClampNeg
  rw [hout] at f2
  have hlt : ∀ a, a ∈ L → a < H.size := fun a ha => by
    obtain ⟨k9, hk9⟩ := va_pl_get (X := X) (f := f) ha
    exact (hP k9 _ hk9).lt
  have hnl : ∀ i : Nat, i < n.toNatClampNeg → H.size + 1 + i ∉ L := fun i _ h => by
    have := hlt _ h
    omega
  have hnm : ∀ a, a ∈ (List.range n.toNatClampNeg).map (fun i => H.size + 1 + i) → a ∉ L := fun a ha h => by
    obtain ⟨i, -, rfl⟩ := List.mem_map.mp ha
    have := hlt _ h
    omega
  have hP0 : va_P D cl (X ++ va_pl L f) F.heap := hP.kept (fun k9 x hx => hold x.1 ((hP k9 x hx).lt))
  have hP1 : va_P D cl ((X ++ va_pl L f) ++ [(H.size, .inl (cA, n.toNatClampNeg, .inr (.inr (.inr (.inr (fun i => if i < n.toNatClampNeg then some (H.size + 1 + i) else none))))))]) F.heap := hP0.app (fun k9 x hx => by
    have h0 : k9 < 1 := (List.getElem?_eq_some_iff.mp hx).1
    rw [show k9 = 0 by omega] at hx
    cases hx
    exact f2)
  have hP2 : va_P D cl (((X ++ va_pl L f) ++ [(H.size, .inl (cA, n.toNatClampNeg, .inr (.inr (.inr (.inr (fun i => if i < n.toNatClampNeg then some (H.size + 1 + i) else none))))))]) ++ ((List.range n.toNatClampNeg).map (fun i => H.size + 1 + i)).map (fun a => (a, .inl (cy, z)))) F.heap := hP1.app (fun k9 x hx => by
    obtain ⟨a, ha, rfl⟩ := List.mem_map.mp (List.mem_of_getElem? hx)
    obtain ⟨i, hi, rfl⟩ := List.mem_map.mp ha
    exact hrow i (List.mem_range.mp hi))
  have hD2 : va_D A (((X ++ va_pl L f) ++ [(H.size, .inl (cA, n.toNatClampNeg, .inr (.inr (.inr (.inr (fun i => if i < n.toNatClampNeg then some (H.size + 1 + i) else none))))))]) ++ ((List.range n.toNatClampNeg).map (fun i => H.size + 1 + i)).map (fun a => (a, .inl (cy, z)))) := by
    have hD1 := hD.push (e := .inl (cA, n.toNatClampNeg, .inr (.inr (.inr (.inr (fun i => if i < n.toNatClampNeg then some (H.size + 1 + i) else none)))))) hP rfl (hA _ hS.1)
    generalize hW1 : (X ++ va_pl L f) ++ [(H.size, .inl (cA, n.toNatClampNeg, .inr (.inr (.inr (.inr (fun i => if i < n.toNatClampNeg then some (H.size + 1 + i) else none))))))] = W1 at hD1 hP1 ⊢
    have hle : ∀ (k9 : Nat) (x : Nat × va_E), W1[k9]? = some x → x.1 ≤ H.size := fun k9 x hx => by
      rw [← hW1] at hx
      by_cases hl : k9 < (X ++ va_pl L f).length
      · rw [List.getElem?_append_left hl] at hx
        exact Nat.le_of_lt ((hP k9 x hx).lt)
      · rw [List.getElem?_append_right (by omega)] at hx
        have h0 : k9 - (X ++ va_pl L f).length < 1 := (List.getElem?_eq_some_iff.mp hx).1
        rw [show k9 - (X ++ va_pl L f).length = 0 by omega] at hx
        cases hx
        exact Nat.le_refl _
    have hr : ∀ (k9 : Nat) (x : Nat × va_E), (((List.range n.toNatClampNeg).map (fun i => H.size + 1 + i)).map (fun a => ((a, .inl (cy, z)) : Nat × va_E)))[k9]? = some x → x.1 = H.size + 1 + k9 := fun k9 x hx => by
      rw [List.getElem?_map, List.getElem?_map] at hx
      by_cases h9 : k9 < n.toNatClampNeg
      · rw [List.getElem?_range h9] at hx
        cases hx
        rfl
      · have hn0 : (List.range n.toNatClampNeg)[k9]? = none := List.getElem?_eq_none (by rw [List.length_range]; omega)
        rw [hn0] at hx
        cases hx
    refine ⟨fun i j x y hi hj hxy => ?_, fun k9 x hx => ?_⟩
    · by_cases h1 : i < W1.length <;> by_cases h2 : j < W1.length
      · rw [List.getElem?_append_left h1] at hi
        rw [List.getElem?_append_left h2] at hj
        exact hD1.1 i j x y hi hj hxy
      · rw [List.getElem?_append_left h1] at hi
        rw [List.getElem?_append_right (by omega)] at hj
        have := hle _ _ hi
        have := hr _ _ hj
        omega
      · rw [List.getElem?_append_right (by omega)] at hi
        rw [List.getElem?_append_left h2] at hj
        have := hle _ _ hj
        have := hr _ _ hi
        omega
      · rw [List.getElem?_append_right (by omega)] at hi hj
        have := hr _ _ hi
        have := hr _ _ hj
        omega
    · by_cases h1 : k9 < W1.length
      · rw [List.getElem?_append_left h1] at hx
        exact hD1.2 k9 x hx
      · rw [List.getElem?_append_right (by omega)] at hx
        have := hr _ _ hx
        exact hA _ (by have := hS.1; omega)
  have hAr : ArrOfT s cA (.array ty) := fun N9 z9 => by
    obtain ⟨-, k9, hk9, cm9, hkk9⟩ := (hO 0 0 0).1
    exact ⟨(fun q hq => by cases hq), k9, hk9, cm9, hkk9⟩
  have hK2 : va_K D cl (tys ++ [(cA, .array ty)]) s := ⟨hK.1, fun k9 x hx => by
    by_cases hl : k9 < tys.length
    · rw [List.getElem?_append_left hl] at hx
      exact hK.2 k9 x hx
    · rw [List.getElem?_append_right (by omega)] at hx
      have h0 : k9 - tys.length < 1 := (List.getElem?_eq_some_iff.mp hx).1
      rw [show k9 - tys.length = 0 by omega] at hx
      cases hx
      exact ⟨hAr, fA⟩⟩
  obtain ⟨t, a1, b1⟩ := kk H.size (fun i => H.size + 1 + i) cA F.heap (fun i j _ _ h => by have h9 : H.size + 1 + i = H.size + 1 + j := h; omega) hnl hK2 (by rw [← vr_rows hnm]; exact vr_lay hP2) (by rw [← vr_rows hnm]; exact vr_layD hD2) ⟨by rw [f1]; have := hS.1; omega, fun x h1 h2 => (hold x (Nat.lt_of_lt_of_le h1 hS.1)).trans (hS.2.1 x h1 h2), hS.2.2⟩ F rfl X'
  refine ⟨t, step t ?_, b1⟩
  have e : T.heap.size = H.size := by rw [hT]
  rw [e]
  exact a1
end VGM
section LMU
variable {p : Program} {l : Launch} {e : Env} {R : Room} {s : State} {m : MethodId} {args : Array Value} {below : List Frame} {meth : Method} {c : Code} {H H1 : Heap} {locs locs1 : List Loc} {cells slots : Nat} {Q : State → Prop}
variable {D : va_G} {cy : Nat → ClassId} {B : Nat} {ρ : Nat → Nat} {f pc : Nat} {ls st st' r : List Value} {h h1 : lm_H} {sl : Array Slot}
def lm_rm (ρ : Nat → Nat) (a n q : Nat) (g : Nat → Nat) : Nat → Nat := fun x => if x = a then q else if a < x ∧ x < a + (n + 1) then g (x - a - 1) else ρ x
theorem lm_t_mul (V : lm_V D cy s) (hx : p.tables.exec = Jvm.exec) {cc : ByteArray} (hb : c.code = cc) {own : String} {idx a K ki : Nat} {n k : Int32} {ty : FieldType} {z : vp_A} (hown : s.vm.findClass own = some m.cls) (hB : B ≤ s.heap.size) (hlink : (Cond.classLink own idx ("[" ++ (FieldType.array ty).toString)).before args s = true)
    (hK : K = 5 ∨ K = 6) (hki : ki = 1 ∨ ki = 2) (hover : va_AOA ty s) (harr : (Cond.arrayClass ty).before args s = true) (hcy : s.vm.findClass (FieldType.array ty).toString = some (cy ki)) (hcK : s.vm.findClass ("[" ++ (FieldType.array ty).toString) = some (cy K))
    (hzc : ∀ c : ClassId, Jvm.Free.Multi.innerC c k.toNatClampNeg (defaultValue ty) = vp_cell c z) (hzE : ∀ (ρ' : Nat → Nat) (j : Nat), j < n.toNatClampNeg → lm_E cy ρ' (lm_mul h a K ki n.toNatClampNeg k.toNatClampNeg) (a + 1 + j) = .inl (cy ki, z))
    (hdf : fits ty (defaultValue ty) = true) (hdd : (defaultValue ty).isDefault = true) (hcb : componentBytes ty ≤ 8)
    (hd : decode cc pc = .ok (.multianewarray idx 2, 4)) (G : lm_G D cy B s ρ ls (.int k :: .int n :: st) h H locs sl) (ha : 64 ≤ a) (hfree : ∀ j, j < n.toNatClampNeg + 1 → lm_kd h (a + j) = 0) (hn : ¬ n < 0) (hk : ¬ k < 0) (hn2 : n.toNatClampNeg ≤ 1000) (hk2 : k.toNatClampNeg ≤ 1000)
    (hr1 : cells + (1 + n.toNatClampNeg) ≤ R.cells) (hr2 : slots + (n.toNatClampNeg + n.toNatClampNeg * k.toNatClampNeg) ≤ R.slots)
    (kk : lm_K p l e R s m args below meth c cells slots Q D cy B ρ h (pc + 4, ls, .ref a :: st, lm_mul h a K ki n.toNatClampNeg k.toNatClampNeg)) :
    W p l e R s m args below meth c H locs cells slots Q (F0 m pc sl ((Value.int k :: Value.int n :: st).map (lm_vm ρ))) := by
  have hst : ∀ v ∈ st, lm_ok h v := fun v hv => G.2.2.2.2.2.2 v (List.mem_cons_of_mem _ (List.mem_cons_of_mem _ hv))
  obtain ⟨L, hnd, hL, hP, hD⟩ := G.1
  have hcb2 : k.toNatClampNeg * componentBytes ty ≤ 536870912 := Nat.le_trans (Nat.mul_le_mul hk2 hcb) (by decide)
  refine va_mna (X := L.map (lm_F cy ρ h)) (L := []) (f := fun _ => .inr (0, [])) (cy := cy ki) (z := z) hx hb hown hlink hover harr hcy V.2.1 (by rw [show va_pl [] (fun _ => (Sum.inr (0, []) : va_E)) = [] from rfl, List.append_nil]; exact hP) (by rw [show va_pl [] (fun _ => (Sum.inr (0, []) : va_E)) = [] from rfl, List.append_nil]; exact hD) G.2.2.2.1 (fun q hq => Nat.le_trans hB hq) hn hk rfl rfl (by omega) hcb2 (by omega) hdf hdd hr1 hr2 hzc hd (fun q g cA H1 hinj hnl hK1 hP1 hD1 hS1 => ?_)
  have hcA : cA = cy K := by
    have h5 := (hK1.2 5 (cA, .array ty) rfl).2
    exact Option.some.inj ((show s.vm.findClass ("[" ++ (FieldType.array ty).toString) = some cA from h5).symm.trans hcK)
  subst hcA
  generalize hN : n.toNatClampNeg = N at *
  generalize hM : k.toNatClampNeg = M at *
  have hin : ∀ b, lm_kd h b ≠ 0 → ¬ (a ≤ b ∧ b < a + (N + 1)) := fun b hb0 q => hb0 (by
    have := hfree (b - a) (by omega)
    rwa [show a + (b - a) = b by omega] at this)
  have hrm : ∀ b, ¬ (a ≤ b ∧ b < a + (N + 1)) → lm_rm ρ a N q g b = ρ b := fun b hb0 => by
    unfold lm_rm
    rw [if_neg (by omega), if_neg (by omega)]
  have hrma : lm_rm ρ a N q g a = q := if_pos rfl
  have hrmi : ∀ j, j < N → lm_rm ρ a N q g (a + 1 + j) = g j := fun j hj => by
    unfold lm_rm
    rw [if_neg (by omega), if_pos (by omega), show a + 1 + j - a - 1 = j by omega]
  have hag : lm_ag h ρ (lm_rm ρ a N q g) := fun b hb0 => hrm b (hin b hb0)
  have ekd : ∀ b, ¬ (a ≤ b ∧ b < a + (N + 1)) → lm_kd (lm_mul h a K ki N M) b = lm_kd h b := fun b hb0 => by
    show lm_u1 (lm_us h.2.2.2.1 a (N + 1) ki) a K b = _
    rw [lm_u1_ne (by omega), lm_us_ne hb0]
  have ekda : lm_kd (lm_mul h a K ki N M) a = K := lm_u1_eq
  have ekdi : ∀ j, j < N → lm_kd (lm_mul h a K ki N M) (a + 1 + j) = ki := fun j hj => by
    show lm_u1 (lm_us h.2.2.2.1 a (N + 1) ki) a K (a + 1 + j) = _
    rw [lm_u1_ne (by omega), lm_us_in (by omega)]
  have eln : ∀ b, ¬ (a ≤ b ∧ b < a + (N + 1)) → lm_ln (lm_mul h a K ki N M) b = lm_ln h b := fun b hb0 => by
    show lm_u1 (lm_us h.2.2.2.2.1 a (N + 1) M) a N b = _
    rw [lm_u1_ne (by omega), lm_us_ne hb0]
  have e1 : ∀ b, ¬ (a ≤ b ∧ b < a + (N + 1)) → (lm_mul h a K ki N M).1 b = h.1 b := fun b hb0 => lm_us_ne hb0
  have e2 : ∀ b, ¬ (a ≤ b ∧ b < a + (N + 1)) → (lm_mul h a K ki N M).2.1 b = h.2.1 b := fun b hb0 => lm_us_ne hb0
  have e3 : ∀ b, ¬ (a ≤ b ∧ b < a + (N + 1)) → lm_hr (lm_mul h a K ki N M) b = lm_hr h b := fun b hb0 => by
    show lm_row (lm_us h.2.2.1 a (N + 1) (fun _ => none)) a _ b = _
    rw [lm_row_ne (by omega), lm_us_ne hb0]
  have e3a : ∀ j, lm_hr (lm_mul h a K ki N M) a j = if j < N then some (a + 1 + j) else none := fun j => by
    show lm_row (lm_us h.2.2.1 a (N + 1) (fun _ => none)) a _ a j = _
    rw [lm_row_eq]
  have e3i : ∀ i j, i < N → lm_hr (lm_mul h a K ki N M) (a + 1 + i) j = none := fun i j hi => by
    show lm_row (lm_us h.2.2.1 a (N + 1) (fun _ => none)) a _ (a + 1 + i) j = _
    rw [lm_row_ne (by omega), lm_us_in (by omega)]
  have eE : ∀ b, lm_kd h b ≠ 0 → lm_E cy (lm_rm ρ a N q g) (lm_mul h a K ki N M) b = lm_E cy ρ h b := fun b hb0 =>
    lm_E_cong (ekd b (hin b hb0)) (eln b (hin b hb0)) (e1 b (hin b hb0)) (e2 b (hin b hb0)) (e3 b (hin b hb0)) (fun j d hd0 => hrm d (hin d (G.2.1.1 b j d hb0 hd0)))
  have eEa : lm_E cy (lm_rm ρ a N q g) (lm_mul h a K ki N M) a = .inl (cy K, N, .inr (.inr (.inr (.inr (fun i => if i < N then some (g i) else none))))) := by
    rw [lm_E_r ekda (by omega) (by omega)]
    show Sum.inl (cy K, lm_u1 (lm_us h.2.2.2.2.1 a (N + 1) M) a N a, Sum.inr (Sum.inr (Sum.inr (Sum.inr (fun j => (lm_hr (lm_mul h a K ki N M) a j).map (lm_rm ρ a N q g)))))) = _
    rw [lm_u1_eq]
    refine congrArg (fun w : Nat → Option Nat => (Sum.inl (cy K, N, Sum.inr (Sum.inr (Sum.inr (Sum.inr w)))) : va_E)) (funext fun j => ?_)
    rw [e3a j]
    by_cases hj : j < N
    · rw [if_pos hj, if_pos hj, Option.map_some, hrmi j hj]
    · rw [if_neg hj, if_neg hj]
      rfl
  have ews : ((L.map (lm_F cy ρ h) ++ [(q, .inl (cy K, N, .inr (.inr (.inr (.inr (fun i => if i < N then some (g i) else none))))))]) ++ va_pl ([] ++ (List.range N).map g) (vr_up (fun _ => .inr (0, [])) ((List.range N).map g) (.inl (cy ki, z)))) = ((L ++ [a]) ++ (List.range N).map (fun j => a + 1 + j)).map (lm_F cy (lm_rm ρ a N q g) (lm_mul h a K ki N M)) := by
    rw [List.map_append, List.map_append, List.nil_append]
    congr 1
    · congr 1
      · apply List.map_congr_left
        intro b hb0
        have hb1 := ((hL b).mp hb0).2
        simp only [lm_F, eE b hb1, hrm b (hin b hb1)]
      · simp only [List.map_cons, List.map_nil, lm_F, eEa, hrma]
    · unfold va_pl
      rw [List.map_map, List.map_map]
      apply List.map_congr_left
      intro j hj
      have hj' := List.mem_range.mp hj
      simp only [Function.comp, lm_F, hrmi j hj', hzE _ j hj']
      rw [vr_up_in (List.mem_map.mpr ⟨j, hj, rfl⟩)]
  rw [ews] at hP1 hD1
  have hok : ∀ v, lm_ok h v → lm_ok (lm_mul h a K ki N M) v := fun v hv b hb0 => by
    have := hv b hb0
    rw [ekd b (hin b this)]
    exact this
  have hcases : ∀ b, (a ≤ b ∧ b < a + (N + 1)) → b = a ∨ ∃ j, j < N ∧ b = a + 1 + j := fun b hb0 => by
    by_cases hba : b = a
    · exact Or.inl hba
    · exact Or.inr ⟨b - a - 1, by omega, by omega⟩
  have hWd : lm_Wd D cy B (lm_rm ρ a N q g) (lm_mul h a K ki N M) H1 := by
    refine ⟨_, ?_, fun b => ?_, hP1, hD1⟩
    · rw [List.nodup_append, List.nodup_append]
      refine ⟨⟨hnd, by simp, fun x hx0 y hy0 => ?_⟩, ?_, fun x hx0 y hy0 => ?_⟩
      · rw [List.mem_singleton.mp hy0]
        exact fun z0 => ((hL x).mp hx0).2 (by rw [z0]; have := hfree 0 (by omega); simpa using this)
      · show List.Pairwise (· ≠ ·) _
        exact List.pairwise_map.mpr (List.Pairwise.imp (fun {x y} (hxy : x ≠ y) (z0 : a + 1 + x = a + 1 + y) => hxy (by omega)) (show List.Pairwise (· ≠ ·) (List.range N) from List.nodup_range))
      · obtain ⟨j, hj, rfl⟩ := List.mem_map.mp hy0
        have hj' := List.mem_range.mp hj
        rcases List.mem_append.mp hx0 with w | w
        · exact fun z0 => hin x ((hL x).mp w).2 (by omega)
        · rw [List.mem_singleton.mp w]
          omega
    · rw [List.mem_append, List.mem_append, List.mem_singleton, List.mem_map, hL b]
      by_cases hb0 : a ≤ b ∧ b < a + (N + 1)
      · rcases hcases b hb0 with rfl | ⟨j, hj, rfl⟩
        · exact ⟨fun _ => ⟨ha, by rw [ekda]; omega⟩, fun _ => Or.inl (Or.inr rfl)⟩
        · exact ⟨fun _ => ⟨by omega, by rw [ekdi j hj]; omega⟩, fun _ => Or.inr ⟨j, List.mem_range.mpr hj, rfl⟩⟩
      · rw [ekd b hb0]
        refine ⟨fun w => ?_, fun w => Or.inl (Or.inl w)⟩
        rcases w with (w | w) | ⟨j, hj, w⟩
        · exact w
        · exact absurd ⟨by omega, by omega⟩ hb0
        · exact absurd ⟨by omega, by have := List.mem_range.mp hj; omega⟩ hb0
  have hnot64 : ∀ b, b < 64 → ¬ (a ≤ b ∧ b < a + (N + 1)) := fun b hb0 w => by omega
  have hHV : lm_HV (lm_mul h a K ki N M) := by
    refine ⟨fun b j d hb0 hd0 => ?_, fun b hb0 hb1 => ?_, fun b hb0 => by rw [ekd b (hnot64 b hb0)]; exact G.2.1.2.2 b hb0⟩
    · by_cases hb2 : a ≤ b ∧ b < a + (N + 1)
      · rcases hcases b hb2 with rfl | ⟨i, hi, rfl⟩
        · rw [e3a j] at hd0
          split at hd0
          · rename_i hj
            cases hd0
            rw [ekdi j hj]
            omega
          · cases hd0
        · rw [e3i i j hi] at hd0
          cases hd0
      · rw [ekd b hb2] at hb0
        rw [e3 b hb2] at hd0
        have := G.2.1.1 b j d hb0 hd0
        rw [ekd d (hin d this)]
        exact this
    · by_cases hb2 : a ≤ b ∧ b < a + (N + 1)
      · rcases hcases b hb2 with rfl | ⟨i, hi, rfl⟩
        · rw [ekda]
          omega
        · rw [ekdi i hi]
          omega
      · rw [ekd b hb2] at hb1 ⊢
        exact G.2.1.2.1 b hb0 hb1
  have G1 : lm_G D cy B s (lm_rm ρ a N q g) ls (.ref a :: st) (lm_mul h a K ki N M) H1 locs sl :=
    ⟨hWd, hHV, lm_Old.cong G.2.1 hag (fun b hb0 => ekd b (hnot64 b hb0)) (fun b hb0 => eln b (hnot64 b hb0)) (fun b hb0 => e1 b (hnot64 b hb0)) (fun b hb0 => e3 b (hnot64 b hb0)) G.2.2.1, hS1, lm_L_ag hag G.2.2.2.2.2.1 G.2.2.2.2.1, fun v hv => hok v (G.2.2.2.2.2.1 v hv), lm_ok_cons (fun b hb0 => by cases hb0; rw [ekda]; omega) (fun v hv => hok v (hst v hv))⟩
  have := kk (lm_rm ρ a N q g) H1 locs sl (cells + 1 + N) (slots + N + N * M) hag G1 (by show cells + 1 + N + lm_nc h = cells + (lm_nc h + 1 + N); omega) (by show slots + N + N * M + lm_ns h = slots + (lm_ns h + N + N * M); omega)
  simp only [List.map_cons] at this
  rw [lm_map_ag hag hst] at this
  have e9 : lm_vm (lm_rm ρ a N q g) (.ref a) = .ref q := by show Value.ref (lm_rm ρ a N q g a) = _; rw [hrma]
  rw [e9] at this
  exact this
theorem lm_inner_i (c : ClassId) (k : Nat) : Jvm.Free.Multi.innerC c k (defaultValue .int) = vp_cell c (k, .inl (fun _ => 0)) := by
  show ({ cls := c, slots := Array.replicate k (defaultValue .int), vm := .none } : Cell) = _
  rw [arrV_new]
  rfl
theorem lm_inner_l (c : ClassId) (k : Nat) : Jvm.Free.Multi.innerC c k (defaultValue .long) = vp_cell c (k, .inr (.inl (fun _ => 0))) := by
  show ({ cls := c, slots := Array.replicate k (defaultValue .long), vm := .none } : Cell) = _
  rw [arrV_new]
  rfl
theorem lm_mul_Ei {a n k j : Nat} (ρ' : Nat → Nat) (hj : j < n) : lm_E cy ρ' (lm_mul h a 5 1 n k) (a + 1 + j) = .inl (cy 1, k, .inl (fun _ => 0)) := by
  have hk : lm_kd (lm_mul h a 5 1 n k) (a + 1 + j) = 1 := by
    show lm_u1 (lm_us h.2.2.2.1 a (n + 1) 1) a 5 (a + 1 + j) = 1
    rw [lm_u1_ne (by omega), lm_us_in (by omega)]
  rw [lm_E_i hk]
  show Sum.inl (cy 1, lm_u1 (lm_us h.2.2.2.2.1 a (n + 1) k) a n (a + 1 + j), Sum.inl (lm_us h.1 a (n + 1) (fun _ => 0) (a + 1 + j))) = _
  rw [lm_u1_ne (by omega), lm_us_in (by omega), lm_us_in (by omega)]
theorem lm_mul_El {a n k j : Nat} (ρ' : Nat → Nat) (hj : j < n) : lm_E cy ρ' (lm_mul h a 6 2 n k) (a + 1 + j) = .inl (cy 2, k, .inr (.inl (fun _ => 0))) := by
  have hk : lm_kd (lm_mul h a 6 2 n k) (a + 1 + j) = 2 := by
    show lm_u1 (lm_us h.2.2.2.1 a (n + 1) 2) a 6 (a + 1 + j) = 2
    rw [lm_u1_ne (by omega), lm_us_in (by omega)]
  rw [lm_E_l hk]
  show Sum.inl (cy 2, lm_u1 (lm_us h.2.2.2.2.1 a (n + 1) k) a n (a + 1 + j), Sum.inr (Sum.inl (lm_us h.2.1 a (n + 1) (fun _ => 0) (a + 1 + j)))) = _
  rw [lm_u1_ne (by omega), lm_us_in (by omega), lm_us_in (by omega)]
end LMU
end
section
/-! calls: how the machine goes on behind one; the JDK's checkIndex -/
section LMC
variable {p : Program} {l : Launch} {e : Env} {R : Room} {s : State} {m : MethodId} {args : Array Value} {below : List Frame} {meth : Method} {c : Code} {H : Heap} {locs : List Loc} {cells slots : Nat} {Q : State → Prop}
variable {B pc mc ms : Nat} {sl : Array Slot} {rest st0 : List Value}
theorem lm_cgo {Qa : State → Outcome → State → Prop} (hr : va_Run p l e R s m args below meth c H locs cells slots mc ms (F0 m pc sl st0) rest Qa (fun q => B ≤ q)) (hS : va_S (fun q => B ≤ q) s.heap H locs) (hF : ∀ st₀ v t, st₀.heap = H → Qa st₀ (.returned v) t → va_F (fun q => B ≤ q) st₀ t)
    (kk : ∀ (v : Option Value) (st₀ t : State) (H1 : Heap) (locs1 : List Loc), st₀.heap = H → t.heap = H1 → s.WarmedH t.vm → Qa st₀ (.returned v) t → va_S (fun q => B ≤ q) s.heap H1 locs1 → W p l e R s m args below meth c H1 locs1 (cells + mc) (slots + ms) Q (F0 m (pc + 3) sl (v.toList ++ rest))) :
    W p l e R s m args below meth c H locs cells slots Q (F0 m pc sl st0) := by
  intro T hT X
  obtain ⟨v, st₀, t, T', L, h0, X', hL, e1, e2, hq, st⟩ := hr T hT X
  obtain ⟨hz, hk⟩ := hF st₀ v t h0 hq
  rw [h0] at hz hk
  obtain ⟨t2, a1, b1⟩ := kk v st₀ t T'.heap (locs ++ L) h0 e1.symm (by rw [← e2]; exact X'.warmed) hq
    ⟨Nat.le_trans hS.1 (by rw [e1]; exact hz), fun q h1 h2 => by rw [e1, hk q (Nat.lt_of_lt_of_le h1 hS.1) h2]; exact hS.2.1 q h1 h2, fun q hq => by
      rcases List.mem_append.mp hq with h | h
      · exact hS.2.2 q h
      · exact hL q h⟩ T' rfl X'
  exact ⟨t2, st t2 a1, b1⟩
end LMC
abbrev lm_c3 : ByteArray := prog_19_method_11_code
def lm_y3 : MethodName := ⟨"jdk/internal/util/Preconditions", "checkIndex", "(IILjava/util/function/BiFunction;)I"⟩
abbrev lm_c0 : ByteArray := prog_14_method_155_code
def lm_y0 : MethodName := ⟨"java/lang/String", "checkIndex", "(II)V"⟩
def lm_w0 : List Jvm.Cond := .code lm_y0 lm_c0 2 none :: ([.fieldLink "java/lang/String" 1053 "jdk/internal/util/Preconditions" "SIOOBE_FORMATTER" "Ljava/util/function/BiFunction;", .methodLink "java/lang/String" 1059 lm_y3, .static lm_y3, .initialized "jdk/internal/util/Preconditions", .code lm_y3 lm_c3 3 (some .int)])
theorem lm_d3_0 : decode lm_c3 0 = .ok (.iload_n 0, 1) := by decide +kernel
theorem lm_d3_1 : decode lm_c3 1 = .ok (.ifCond .lt 8, 3) := by decide +kernel
theorem lm_d3_4 : decode lm_c3 4 = .ok (.iload_n 0, 1) := by decide +kernel
theorem lm_d3_5 : decode lm_c3 5 = .ok (.iload_n 1, 1) := by decide +kernel
theorem lm_d3_6 : decode lm_c3 6 = .ok (.if_icmp .lt 10, 3) := by decide +kernel
theorem lm_d3_16 : decode lm_c3 16 = .ok (.iload_n 0, 1) := by decide +kernel
theorem lm_d3_17 : decode lm_c3 17 = .ok (.ireturn, 1) := by decide +kernel
theorem lm_d0_0 : decode lm_c0 0 = .ok (.iload_n 0, 1) := by decide +kernel
theorem lm_d0_1 : decode lm_c0 1 = .ok (.iload_n 1, 1) := by decide +kernel
theorem lm_d0_2 : decode lm_c0 2 = .ok (.getstatic 1053, 3) := by decide +kernel
theorem lm_d0_5 : decode lm_c0 5 = .ok (.invokestatic 1059, 3) := by decide +kernel
theorem lm_d0_8 : decode lm_c0 8 = .ok (.pop, 1) := by decide +kernel
theorem lm_d0_9 : decode lm_c0 9 = .ok (.return_, 1) := by decide +kernel
set_option maxRecDepth 20000 in
theorem lm_g0 : GoodIn lm_w0 (va_wsS "java/lang/String" 1059 lm_y3 [.code lm_y3 lm_c3 3 (some .int)]) := goodIn_p _ [5] rfl (by decide +kernel)
theorem lm_ck3 (l : Launch) (B : Nat) (i n : Int32) (z : Value) (hz : z.category = 1) (h1 : ¬ i < 0) (h2 : i < n) :
    Met l lm_y3 [.code lm_y3 lm_c3 3 (some .int)] ({ frames := 0, cells := 0, slots := 0, locals := 0 }) (fun v _ => v = ([.int i, .int n, z] : List Value).toArray) (fun _ st o t => o = .returned (some (.int i)) ∧ t.heap = st.heap) 0 0 (fun q => B ≤ q) := by
  refine Met.ofW (cc := lm_c3) (maxL := 3) (ret := some .int) (by decide) rfl ?_
  intro p e s m args below meth c s₁ Bd hml hv
  subst hv
  have hx := Bd.exec
  have hb := Bd.bytes
  have hr := Bd.returns
  have hlocks := Bd.notSynchronized
  have hl := lv_entry ([.int i, .int n, z]) (n := 3) (by simp only [lg_sl, List.flatMap_cons, List.flatMap_nil, hz, if_neg (show ¬ (1 = 2) by decide), List.length_append, List.length_cons, List.length_nil]; exact Nat.le_refl 3)
  rw [lg_entry_eq]
  generalize (lg_sl ([.int i, .int n, z]) ++ List.replicate (3 - (lg_sl ([.int i, .int n, z])).length) Slot.unset).toArray = ls at hl ⊢
  have hl : lv_has ls 3 [(0, .int i), (1, .int n), (2, z)] := hl
  refine lv_iload_n hx hb lm_d3_0 rfl (lv_at hl 0 rfl) ?_
  refine lv_if_lt (tgt := 9) hx hb lm_d3_1 (by decide) (fun q => absurd q h1) (fun _ => ?_)
  refine lv_iload_n hx hb lm_d3_4 rfl (lv_at hl 0 rfl) ?_
  refine lv_iload_n hx hb lm_d3_5 rfl (lv_at hl 1 rfl) ?_
  refine lv_icmp_lt (tgt := 16) hx hb lm_d3_6 (by decide) (fun _ => ?_) (fun q => absurd h2 q)
  refine lv_iload_n hx hb lm_d3_16 rfl (lv_at hl 0 rfl) ?_
  exact W.iret hx hb hr (fun t ht hW => ⟨rfl, by rw [ht]⟩) (fun q hq => by cases hq) lm_d3_17
theorem lm_ck0 (l : Launch) (B : Nat) (i n : Int32) (h1 : ¬ i < 0) (h2 : i < n) :
    Met l lm_y0 lm_w0 ({ frames := 1, cells := 0, slots := 0, locals := 30 }) (fun v U => v = ([.int i, .int n] : List Value).toArray ∧ va_Zq "jdk/internal/util/Preconditions" "SIOOBE_FORMATTER" "Ljava/util/function/BiFunction;" (fun q => B ≤ q) U U.heap) (fun _ st o t => o = .returned none ∧ t.heap = st.heap) 0 0 (fun q => B ≤ q) := by
  refine Met.ofW (cc := lm_c0) (maxL := 2) (ret := none) (by decide) rfl ?_
  intro p e s m args below meth c s₁ Bd hml hv
  obtain ⟨rfl, hzq⟩ := hv
  have hx := Bd.exec
  have hb := Bd.bytes
  have hr := Bd.returns
  have hlocks := Bd.notSynchronized
  have hts := atoms_spec (ws := lm_w0) Bd.pre
  have hown : s.vm.findClass "java/lang/String" = some m.cls := findClass_of_methodNamed Bd.named
  have hl := lv_entry ([.int i, .int n]) (n := 2) (Nat.le_of_ble_eq_true rfl)
  rw [lg_entry_eq]
  generalize (lg_sl ([.int i, .int n]) ++ List.replicate (2 - (lg_sl ([.int i, .int n])).length) Slot.unset).toArray = ls at hl ⊢
  have hl : lv_has ls 2 [(0, .int i), (1, .int n)] := hl
  have hS : va_S (fun q => B ≤ q) s.heap s.heap [] := va_S.rf
  obtain ⟨z, hz, hZ⟩ : ∃ z : Value, z.category = 1 ∧ va_Z "jdk/internal/util/Preconditions" "SIOOBE_FORMATTER" "Ljava/util/function/BiFunction;" z (fun q => B ≤ q) s s.heap := by
    rcases hzq with q | ⟨t, q⟩
    · exact ⟨.null, rfl, q⟩
    · exact ⟨.ref t, rfl, q⟩
  refine lv_iload_n hx hb lm_d0_0 rfl (lv_at hl 0 rfl) ?_
  refine lv_iload_n hx hb lm_d0_1 rfl (lv_at hl 1 rfl) ?_
  refine va_gets hx hb hZ hS hown (hts (.fieldLink "java/lang/String" 1053 "jdk/internal/util/Preconditions" "SIOOBE_FORMATTER" "Ljava/util/function/BiFunction;") (by decide +kernel)) (fun _ h => h) lm_d0_2 ?_
  refine lm_cgo (va_runS (As := [.int i, .int n, z]) (rest := []) ⟨hx, hb, hml, hown, hts⟩ (lm_ck3 l B i n z hz h1 h2) (va_cwS 3 hts lm_g0 rfl rfl rfl (by decide +kernel) ⟨by decide, by decide⟩) ⟨fun a U g mk q => q, fun U hU hW => rfl⟩ rfl rfl hl.1 rfl (lv_room (by decide)) lm_d0_5 ⟨Nat.le_refl _, Nat.le_refl _⟩) hS (fun st₀ v t h0 hq => ⟨by rw [hq.2]; exact Nat.le_refl _, fun q _ _ => by rw [hq.2]⟩) (fun v st₀ t H1 locs1 h0 ht hW hq hS1 => ?_)
  obtain ⟨hv, hh⟩ := hq
  cases hv
  refine lv_pop hx hb lm_d0_8 rfl ?_
  exact W.vret hx hb hr (fun t2 ht2 hW2 => ⟨rfl, by rw [ht2, ← ht, hh, h0]⟩) hS1.2.2 lm_d0_9
set_option maxRecDepth 100000 in
theorem lm_obj_words : Cond.instanceMethod objectInit ∈ lw_tbl ∧ Cond.code objectInit ⟨#[0xb1]⟩ 1 none ∈ lw_tbl := by decide +kernel
set_option maxRecDepth 100000 in
theorem lm_cpy_words : Cond.native arraycopyName ∈ lw_tbl ∧ Cond.static arraycopyName ∈ lw_tbl ∧ Cond.initialized "java/lang/System" ∈ lw_tbl := by decide +kernel
set_option maxRecDepth 100000 in
theorem lm_ck_words : (∀ w ∈ lm_w0, w ∈ lw_tbl) ∧ Cond.static lm_y0 ∈ lw_tbl ∧ Cond.initialized "java/lang/String" ∈ lw_tbl := by decide +kernel
set_option maxRecDepth 100000 in
theorem lm_mm_words : Cond.static Lib.Math.max.name ∈ lw_tbl ∧ Cond.static Lib.Math.min.name ∈ lw_tbl ∧ Cond.initialized "java/lang/Math" ∈ lw_tbl ∧ Cond.code Lib.Math.max.name Lib.Math.max.code 2 (some .int) ∈ lw_tbl ∧ Cond.code Lib.Math.min.name Lib.Math.min.code 2 (some .int) ∈ lw_tbl := by decide +kernel
end
section
/-! the main theorem of LM: what it computes the machine does -/
theorem lm_lookup_mem {α : Type} {l : List (Nat × α)} {k : Nat} {v : α} (h : l.lookup k = some v) : (k, v) ∈ l := by
  induction l with
  | nil => cases h
  | cons q l ih =>
    obtain ⟨a, b⟩ := q
    rw [List.lookup_cons] at h
    by_cases hk : (k == a) = true
    · rw [hk] at h
      cases h
      rw [eq_of_beq hk]
      exact List.mem_cons_self
    · simp only [Bool.not_eq_true] at hk
      rw [hk] at h
      exact List.mem_cons_of_mem _ (ih h)
theorem lm_cls_lt : ∀ x ∈ lm_mt, x.1 < 18 ∧ x.2.2.2.1 ≤ 70 := by decide +kernel
theorem lm_m_mem {f : Nat} (h : f < lm_mt.length) : lm_m f ∈ lm_mt := by
  unfold lm_m
  rw [List.getD_eq_getElem?_getD, List.getElem?_eq_getElem h]
  exact List.getElem_mem h
section LMM
variable {p : Program} {l : Launch} {e : Env} {R : Room} {s : State} {m : MethodId} {args : Array Value} {below : List Frame} {meth : Method} {c : Code} {H : Heap} {locs : List Loc} {cells slots : Nat} {Q : State → Prop}
variable {D : va_G} {cy : Nat → ClassId} {B : Nat} {ρ : Nat → Nat} {f pc : Nat} {ls st : List Value} {h : lm_H} {sl : Array Slot}
theorem lm_G_sub {st' : List Value} (G : lm_G D cy B s ρ ls st h H locs sl) (hs : ∀ v ∈ st', v ∈ st) : lm_G D cy B s ρ ls st' h H locs sl := ⟨G.1, G.2.1, G.2.2.1, G.2.2.2.1, G.2.2.2.2.1, G.2.2.2.2.2.1, fun v hv => G.2.2.2.2.2.2 v (hs v hv)⟩
theorem lm_t_objInit (V : lm_V D cy s) (hx : p.tables.exec = Jvm.exec) {cc : ByteArray} (hb : c.code = cc) (hnl : ls.length = c.maxLocals) {c0 idx a i : Nat} {r : List Value} (hown : s.vm.findClass (lm_own c0) = some m.cls) (hw : lw_tbl[i]? = some (.methodLink (lm_own c0) idx objectInit)) (hd : decode cc pc = .ok (.invokespecial idx, 3))
    (G : lm_G D cy B s ρ ls (.ref a :: r) h H locs sl) (hr : (r.map Value.category).sum ≤ 8) (hf : 1 ≤ R.frames) (hlo : 60 ≤ R.locals)
    (kk : lm_K p l e R s m args below meth c cells slots Q D cy B ρ h (pc + 3, ls, r, h)) :
    W p l e R s m args below meth c H locs cells slots Q (F0 m pc sl ((Value.ref a :: r).map (lm_vm ρ))) := by
  have hst := G.2.2.2.2.2.2
  obtain ⟨lv, hl1, -⟩ := G.2.2.2.2.1
  have hsum : ((r.map (lm_vm ρ)).map fun v => v.category).sum = (r.map Value.category).sum := by
    rw [List.map_map]
    congr 1
    exact List.map_congr_left (fun v _ => lm_vm_cat ρ v)
  exact W.objInit hx hb hown (V.1 _ (lm_in hw rfl) args) (V.1 _ (List.mem_filter.mpr ⟨lm_obj_words.1, rfl⟩) args) (V.1 _ (List.mem_filter.mpr ⟨lm_obj_words.2, rfl⟩) args) (g := F0 m pc sl ((Value.ref a :: r).map (lm_vm ρ))) rfl (by rw [← hnl]; exact hl1.1) rfl hd hf (by show 2 * 0 + _ + 12 ≤ _; rw [hsum]; omega) (lm_K_st kk G (fun v hv => hst v (List.mem_cons_of_mem _ hv)))
theorem lm_t_arraycopy (V : lm_V D cy s) (hx : p.tables.exec = Jvm.exec) {cc : ByteArray} (hb : c.code = cc) (hnl : ls.length = c.maxLocals) {c0 idx a0 a1 i : Nat} {sp dp n : Int32} {r : List Value} (hown : s.vm.findClass (lm_own c0) = some m.cls) (hw : lw_tbl[i]? = some (.methodLink (lm_own c0) idx arraycopyName)) (hd : decode cc pc = .ok (.invokestatic idx, 3))
    (G : lm_G D cy B s ρ ls (.int n :: .int dp :: .ref a1 :: .int sp :: .ref a0 :: r) h H locs sl) (hr : (r.map Value.category).sum ≤ 8) (hf : 1 ≤ R.frames) (hlo : 60 ≤ R.locals) (k0 : lm_kd h a0 = 2) (k1 : lm_kd h a1 = 2) (b0 : 64 ≤ a0) (b1 : 64 ≤ a1) (h1 : ¬ sp < 0) (h2 : ¬ dp < 0) (h3 : ¬ n < 0)
    (h4 : sp.toNatClampNeg + n.toNatClampNeg ≤ lm_ln h a0) (h5 : dp.toNatClampNeg + n.toNatClampNeg ≤ lm_ln h a1)
    (kk : lm_K p l e R s m args below meth c cells slots Q D cy B ρ h (pc + 3, ls, r, (h.1, lm_row h.2.1 a1 (va_cpy (h.2.1 a0) (h.2.1 a1) sp.toNatClampNeg dp.toNatClampNeg n.toNatClampNeg), h.2.2))) :
    W p l e R s m args below meth c H locs cells slots Q (F0 m pc sl ((Value.int n :: Value.int dp :: Value.ref a1 :: Value.int sp :: Value.ref a0 :: r).map (lm_vm ρ))) := by
  have hst := G.2.2.2.2.2.2
  obtain ⟨lv, hl1, -⟩ := G.2.2.2.2.1
  have hsum : ((r.map (lm_vm ρ)).map fun v => v.category).sum = (r.map Value.category).sum := by
    rw [List.map_map]
    congr 1
    exact List.map_congr_left (fun v _ => lm_vm_cat ρ v)
  obtain ⟨L, hn, hL, hP, hD⟩ := G.1
  obtain ⟨q0, hq0⟩ := List.getElem?_of_mem ((hL a0).mpr ⟨b0, by omega⟩)
  obtain ⟨q1, hq1⟩ := List.getElem?_of_mem ((hL a1).mpr ⟨b1, by omega⟩)
  have e0 : (L.map (lm_F cy ρ h))[q0]? = some (ρ a0, .inl (cy 2, lm_ln h a0, .inr (.inl (h.2.1 a0)))) := by rw [List.getElem?_map, hq0, ← lm_E_l (ρ := ρ) k0]; rfl
  have e1 : (L.map (lm_F cy ρ h))[q1]? = some (ρ a1, .inl (cy 2, lm_ln h a1, .inr (.inl (h.2.1 a1)))) := by rw [List.getElem?_map, hq1, ← lm_E_l (ρ := ρ) k1]; rfl
  obtain ⟨w1, w2, w3⟩ := lm_cpy_words
  refine va_copyl (ty := .long) hx hb (by rw [← hnl]; exact hl1.1.symm) hown (V.1 _ (lm_in hw rfl) args) (V.1 _ (List.mem_filter.mpr ⟨w1, rfl⟩) args) (V.1 _ (List.mem_filter.mpr ⟨w2, rfl⟩) args) (V.1 _ (List.mem_filter.mpr ⟨w3, rfl⟩) args) V.2.1 hP hD G.2.2.2.1 q0 q1 1 1 e0 e1 rfl rfl rfl h1 h2 h3 h4 h5 (fun _ _ => rfl) hf (by rw [hsum]; show _ + (5 + 2 + 11) ≤ _; omega) hd (fun H1 locs1 hP1 hD1 hS1 => ?_)
  have eE : lm_E cy ρ (h.1, lm_row h.2.1 a1 (va_cpy (h.2.1 a0) (h.2.1 a1) sp.toNatClampNeg dp.toNatClampNeg n.toNatClampNeg), h.2.2) a1 = .inl (cy 2, lm_ln h a1, .inr (.inl (va_cpy (h.2.1 a0) (h.2.1 a1) sp.toNatClampNeg dp.toNatClampNeg n.toNatClampNeg))) := by
    rw [lm_E_l (h := (h.1, lm_row h.2.1 a1 (va_cpy (h.2.1 a0) (h.2.1 a1) sp.toNatClampNeg dp.toNatClampNeg n.toNatClampNeg), h.2.2)) k1]
    show Sum.inl (cy 2, lm_ln h a1, Sum.inr (Sum.inl (lm_row h.2.1 a1 _ a1))) = _
    rw [lm_row_eq]
  have em := lm_map_set (F := lm_F cy ρ h) (F' := lm_F cy ρ (h.1, lm_row h.2.1 a1 (va_cpy (h.2.1 a0) (h.2.1 a1) sp.toNatClampNeg dp.toNatClampNeg n.toNatClampNeg), h.2.2)) hn hq1 (fun d hd => by
    simp only [lm_F]
    rw [lm_E_cong (h := h) (h' := (h.1, lm_row h.2.1 a1 (va_cpy (h.2.1 a0) (h.2.1 a1) sp.toNatClampNeg dp.toNatClampNeg n.toNatClampNeg), h.2.2)) rfl rfl rfl (lm_row_ne hd) rfl (fun _ _ _ => rfl)])
  simp only [lm_F, eE] at em
  rw [em] at hP1 hD1
  exact kk ρ H1 locs1 sl cells slots (lm_ag_rf h ρ) (lm_G_put G ⟨L, hn, hL, hP1, hD1⟩ hS1 b1 rfl rfl (fun b hb => rfl) (fun d hd => rfl) (fun j d hd => G.2.1.1 a1 j d (by omega) hd) (fun v hv => hst v (by simp [hv]))) rfl rfl
theorem lm_t_arraycopyi (V : lm_V D cy s) (hx : p.tables.exec = Jvm.exec) {cc : ByteArray} (hb : c.code = cc) (hnl : ls.length = c.maxLocals) {c0 idx a0 a1 i : Nat} {sp dp n : Int32} {r : List Value} (hown : s.vm.findClass (lm_own c0) = some m.cls) (hw : lw_tbl[i]? = some (.methodLink (lm_own c0) idx arraycopyName)) (hd : decode cc pc = .ok (.invokestatic idx, 3))
    (G : lm_G D cy B s ρ ls (.int n :: .int dp :: .ref a1 :: .int sp :: .ref a0 :: r) h H locs sl) (hr : (r.map Value.category).sum ≤ 8) (hf : 1 ≤ R.frames) (hlo : 60 ≤ R.locals) (k0 : lm_kd h a0 = 1) (k1 : lm_kd h a1 = 1) (b0 : 64 ≤ a0) (b1 : 64 ≤ a1) (h1 : ¬ sp < 0) (h2 : ¬ dp < 0) (h3 : ¬ n < 0)
    (h4 : sp.toNatClampNeg + n.toNatClampNeg ≤ lm_ln h a0) (h5 : dp.toNatClampNeg + n.toNatClampNeg ≤ lm_ln h a1)
    (kk : lm_K p l e R s m args below meth c cells slots Q D cy B ρ h (pc + 3, ls, r, (lm_row h.1 a1 (va_cpy (h.1 a0) (h.1 a1) sp.toNatClampNeg dp.toNatClampNeg n.toNatClampNeg), h.2))) :
    W p l e R s m args below meth c H locs cells slots Q (F0 m pc sl ((Value.int n :: Value.int dp :: Value.ref a1 :: Value.int sp :: Value.ref a0 :: r).map (lm_vm ρ))) := by
  have hst := G.2.2.2.2.2.2
  obtain ⟨lv, hl1, -⟩ := G.2.2.2.2.1
  have hsum : ((r.map (lm_vm ρ)).map fun v => v.category).sum = (r.map Value.category).sum := by
    rw [List.map_map]
    congr 1
    exact List.map_congr_left (fun v _ => lm_vm_cat ρ v)
  obtain ⟨L, hn, hL, hP, hD⟩ := G.1
  obtain ⟨q0, hq0⟩ := List.getElem?_of_mem ((hL a0).mpr ⟨b0, by omega⟩)
  obtain ⟨q1, hq1⟩ := List.getElem?_of_mem ((hL a1).mpr ⟨b1, by omega⟩)
  have e0 : (L.map (lm_F cy ρ h))[q0]? = some (ρ a0, .inl (cy 1, lm_ln h a0, .inl (h.1 a0))) := by rw [List.getElem?_map, hq0, ← lm_E_i (ρ := ρ) k0]; rfl
  have e1 : (L.map (lm_F cy ρ h))[q1]? = some (ρ a1, .inl (cy 1, lm_ln h a1, .inl (h.1 a1))) := by rw [List.getElem?_map, hq1, ← lm_E_i (ρ := ρ) k1]; rfl
  obtain ⟨w1, w2, w3⟩ := lm_cpy_words
  refine va_copyi (ty := .int) hx hb (by rw [← hnl]; exact hl1.1.symm) hown (V.1 _ (lm_in hw rfl) args) (V.1 _ (List.mem_filter.mpr ⟨w1, rfl⟩) args) (V.1 _ (List.mem_filter.mpr ⟨w2, rfl⟩) args) (V.1 _ (List.mem_filter.mpr ⟨w3, rfl⟩) args) V.2.1 hP hD G.2.2.2.1 q0 q1 0 0 e0 e1 rfl rfl rfl h1 h2 h3 h4 h5 (fun _ _ => rfl) hf (by rw [hsum]; show _ + (5 + 2 + 11) ≤ _; omega) hd (fun H1 locs1 hP1 hD1 hS1 => ?_)
  have eE : lm_E cy ρ (lm_row h.1 a1 (va_cpy (h.1 a0) (h.1 a1) sp.toNatClampNeg dp.toNatClampNeg n.toNatClampNeg), h.2) a1 = .inl (cy 1, lm_ln h a1, .inl (va_cpy (h.1 a0) (h.1 a1) sp.toNatClampNeg dp.toNatClampNeg n.toNatClampNeg)) := by
    rw [lm_E_i (h := (lm_row h.1 a1 (va_cpy (h.1 a0) (h.1 a1) sp.toNatClampNeg dp.toNatClampNeg n.toNatClampNeg), h.2)) k1]
    show Sum.inl (cy 1, lm_ln h a1, Sum.inl (lm_row h.1 a1 _ a1)) = _
    rw [lm_row_eq]
  have em := lm_map_set (F := lm_F cy ρ h) (F' := lm_F cy ρ (lm_row h.1 a1 (va_cpy (h.1 a0) (h.1 a1) sp.toNatClampNeg dp.toNatClampNeg n.toNatClampNeg), h.2)) hn hq1 (fun d hd => by
    simp only [lm_F]
    rw [lm_E_cong (h := h) (h' := (lm_row h.1 a1 (va_cpy (h.1 a0) (h.1 a1) sp.toNatClampNeg dp.toNatClampNeg n.toNatClampNeg), h.2)) rfl rfl (lm_row_ne hd) rfl rfl (fun _ _ _ => rfl)])
  simp only [lm_F, eE] at em
  rw [em] at hP1 hD1
  exact kk ρ H1 locs1 sl cells slots (lm_ag_rf h ρ) (lm_G_put G ⟨L, hn, hL, hP1, hD1⟩ hS1 b1 rfl rfl (fun b hb => lm_row_ne hb) (fun d hd => rfl) (fun j d hd => G.2.1.1 a1 j d (by omega) hd) (fun v hv => hst v (by simp [hv]))) rfl rfl
theorem lm_t_checkIndex (V : lm_V D cy s) (hx : p.tables.exec = Jvm.exec) {cc : ByteArray} (hb : c.code = cc) (hnl : ls.length = c.maxLocals) {c0 idx k : Nat} {i n : Int32} {r : List Value} (hown : s.vm.findClass (lm_own c0) = some m.cls) (hw : lw_tbl[k]? = some (.methodLink (lm_own c0) idx lm_y0)) (hd : decode cc pc = .ok (.invokestatic idx, 3))
    (G : lm_G D cy B s ρ ls (.int n :: .int i :: r) h H locs sl) (hr : (r.map Value.category).sum ≤ 8) (hf : 4 ≤ R.frames) (hlo : 100 ≤ R.locals) (hcs : cells ≤ R.cells ∧ slots ≤ R.slots) (h1 : ¬ i < 0) (h2 : i < n)
    (kk : lm_K p l e R s m args below meth c cells slots Q D cy B ρ h (pc + 3, ls, r, h)) :
    W p l e R s m args below meth c H locs cells slots Q (F0 m pc sl ((Value.int n :: Value.int i :: r).map (lm_vm ρ))) := by
  have hst := G.2.2.2.2.2.2
  obtain ⟨lv, hl1, -⟩ := G.2.2.2.2.1
  have hS := G.2.2.2.1
  have hsum : ((r.map (lm_vm ρ)).map fun v => v.category).sum = (r.map Value.category).sum := by
    rw [List.map_map]
    congr 1
    exact List.map_congr_left (fun v _ => lm_vm_cat ρ v)
  obtain ⟨w1, w2, w3⟩ := lm_ck_words
  have hts : ∀ w ∈ lm_ts, w.before args s = true := fun w hw => V.1 w hw args
  have hG : GoodIn lm_ts (va_wsS (lm_own c0) idx lm_y0 lm_w0) := by
    intro w hw9
    have hmem : w ∈ lm_ts ∧ goodWord w = true := by
      rcases List.mem_append.mp hw9 with q | q
      · simp only [List.mem_cons, List.not_mem_nil, or_false] at q
        rcases q with rfl | rfl | rfl
        · exact ⟨lm_in hw rfl, rfl⟩
        · exact ⟨List.mem_filter.mpr ⟨w2, rfl⟩, rfl⟩
        · exact ⟨List.mem_filter.mpr ⟨w3, rfl⟩, rfl⟩
      · have hq := w1 w q
        unfold lm_w0 at q
        simp only [List.mem_cons, List.not_mem_nil, or_false] at q
        rcases q with rfl | rfl | rfl | rfl | rfl | rfl <;> exact ⟨List.mem_filter.mpr ⟨hq, rfl⟩, rfl⟩
    exact ⟨hmem.1, good_of_word hmem.2⟩
  refine lm_cgo (B := B) (va_runS (As := [.int i, .int n]) (rest := r.map (lm_vm ρ)) ⟨hx, hb, rfl, hown, hts⟩ (lm_ck0 l B i n h1 h2) (va_cwS 2 hts hG rfl rfl rfl (by decide +kernel) ⟨by show 1 + 1 ≤ _; omega, by show 8 + (2 + 11) + 30 ≤ _; omega⟩) ⟨fun a U g mk q => q, fun U hU hW => ⟨rfl, by rw [hU]; exact ((G.2.2.1.2.2.2.2.2.1).kept hS.2.1).moved hW.alike⟩⟩ rfl rfl (by rw [← hnl]; exact hl1.1) rfl (lv_room (by rw [hsum]; exact hr)) hd ⟨hcs.1, hcs.2⟩) hS (fun st₀ v t h0 hq => ⟨by rw [hq.2]; exact Nat.le_refl _, fun q _ _ => by rw [hq.2]⟩) (fun v st₀ t H1 locs1 h0 ht hW hq hS1 => ?_)
  obtain ⟨hv, hh⟩ := hq
  cases hv
  have e : H1 = H := by rw [← ht, hh, h0]
  subst e
  exact kk ρ H1 locs1 sl cells slots (lm_ag_rf h ρ) ⟨G.1, G.2.1, G.2.2.1, hS1, G.2.2.2.2.1, G.2.2.2.2.2.1, fun v hv => hst v (by simp [hv])⟩ rfl rfl
theorem lm_lk_spec (x : Int32) (d : Int) : ∀ ps : List (Int × Int), (∀ q ∈ ps, -2147483648 ≤ q.1 ∧ q.1 ≤ 2147483647) → lm_lk x ps d = Op.lookupswitch.offset ps d x.toInt := by
  intro ps
  induction ps with
  | nil => intro _; rfl
  | cons q ps ih =>
    intro hr
    obtain ⟨a, o⟩ := q
    have h1 := hr (a, o) List.mem_cons_self
    have hiff := lm_ofInt_iff x (n := a) h1.1 (by have := h1.2; dsimp only at this; omega)
    have hi := ih (fun q hq => hr q (List.mem_cons_of_mem _ hq))
    by_cases hx : x.toInt = a
    · simp only [lm_lk, Op.lookupswitch.offset, if_pos (hiff.mpr hx), if_pos hx.symm]
    · simp only [lm_lk, Op.lookupswitch.offset, if_neg (fun z => hx (hiff.mp z)), if_neg (Ne.symm hx), hi]
theorem lm_iv_no0 (w : Option (Nat × Nat × Nat × Nat)) (pc : Nat) (ls st : List Value) (h : lm_H) {q} : lm_iv w 0 pc ls st h ≠ some (.inl q) := by
  intro hs
  unfold lm_iv at hs
  split at hs
  · cases hs
  · split at hs
    · split at hs
      · split at hs <;> cases hs
      · cases hs
    · split at hs
      · split at hs <;> cases hs
      · split at hs
        · split at hs
          · split at hs <;> cases hs
          · cases hs
        · split at hs
          · split at hs
            · split at hs
              · rename_i hc; exact absurd hc.1 (by decide)
              · cases hs
            · cases hs
          · split at hs
            · split at hs
              · split at hs
                · rename_i hc; exact absurd hc.1 (by decide)
                · split at hs
                  · rename_i hc; exact absurd hc.1 (by decide)
                  · cases hs
              · cases hs
            · split at hs
              · split at hs
                · split at hs
                  · rename_i hc; exact absurd hc.1 (by decide)
                  · cases hs
                · cases hs
              · split at hs
                · split at hs
                  · split at hs
                    · rename_i hc; exact absurd hc.1 (by decide)
                    · cases hs
                  · cases hs
                · split at hs
                  · split at hs
                    · split at hs
                      · rename_i hc; exact absurd hc.1 (by decide)
                      · cases hs
                    · cases hs
                  · cases hs
theorem lm_t_ivI (V : lm_V D cy s) (hx : p.tables.exec = Jvm.exec) {cc : ByteArray} (hb : c.code = cc) (hnl : ls.length = c.maxLocals) {c0 idx : Nat} (hown : s.vm.findClass (lm_own c0) = some m.cls) (hd : decode cc pc = .ok (.invokespecial idx, 3))
    (G : lm_G D cy B s ρ ls st h H locs sl) (hr : 4 ≤ R.frames ∧ 100 ≤ R.locals ∧ cells ≤ R.cells ∧ slots ≤ R.slots) {q} (hs : lm_iv ((lm_kM c0).lookup idx) 2 pc ls st h = some (.inl q)) (kk : lm_K p l e R s m args below meth c cells slots Q D cy B ρ h q) :
    W p l e R s m args below meth c H locs cells slots Q (F0 m pc sl (st.map (lm_vm ρ))) := by
  unfold lm_iv at hs
  split at hs
  · cases hs
  · rename_i kind g n z hlk
    have hok := lm_okc_all _ _ (lm_lookup_mem hlk)
    split at hs
    · split at hs
      · split at hs <;> cases hs
      · cases hs
    · split at hs
      · split at hs <;> cases hs
      · split at hs
        · split at hs
          · split at hs <;> cases hs
          · cases hs
        · split at hs
          · rename_i hk5
            subst hk5
            split at hs
            · split at hs
              · rename_i hc
                cases hs
                exact lm_t_objInit V hx hb hnl hown (of_decide_eq_true hok) hd G hc.2 (by omega) (by omega) kk
              · cases hs
            · cases hs
          · split at hs
            · split at hs
              · split at hs
                · rename_i hc; exact absurd hc.1 (by decide)
                · split at hs
                  · rename_i hc; exact absurd hc.1 (by decide)
                  · cases hs
              · cases hs
            · split at hs
              · split at hs
                · split at hs
                  · rename_i hc; exact absurd hc.1 (by decide)
                  · cases hs
                · cases hs
              · split at hs
                · split at hs
                  · split at hs
                    · rename_i hc; exact absurd hc.1 (by decide)
                    · cases hs
                  · cases hs
                · split at hs
                  · split at hs
                    · split at hs
                      · rename_i hc; exact absurd hc.1 (by decide)
                      · cases hs
                    · cases hs
                  · cases hs
theorem lm_t_mm (V : lm_V D cy s) (hx : p.tables.exec = Jvm.exec) {cc : ByteArray} (hb : c.code = cc) (hnl : ls.length = c.maxLocals) {c0 idx i : Nat} {x y : Int32} {r : List Value} (hown : s.vm.findClass (lm_own c0) = some m.cls) (hd : decode cc pc = .ok (.invokestatic idx, 3)) (mx : Bool)
    (hw : lw_tbl[i]? = some (.methodLink (lm_own c0) idx (if mx then Lib.Math.max.name else Lib.Math.min.name))) (G : lm_G D cy B s ρ ls (.int y :: .int x :: r) h H locs sl) (hrr : (r.map Value.category).sum ≤ 8) (hr : 4 ≤ R.frames ∧ 100 ≤ R.locals ∧ cells ≤ R.cells ∧ slots ≤ R.slots)
    (kk : lm_K p l e R s m args below meth c cells slots Q D cy B ρ h (pc + 3, ls, .int (if mx then (if x < y then y else x) else (if y < x then y else x)) :: r, h)) :
    W p l e R s m args below meth c H locs cells slots Q (F0 m pc sl ((Value.int y :: Value.int x :: r).map (lm_vm ρ))) := by
  have hst := G.2.2.2.2.2.2
  obtain ⟨lv, hl1, -⟩ := G.2.2.2.2.1
  have hsum : ((r.map (lm_vm ρ)).map fun v => v.category).sum = (r.map Value.category).sum := by
    rw [List.map_map]
    congr 1
    exact List.map_congr_left (fun v _ => lm_vm_cat ρ v)
  have hK := lm_K_st kk G (lm_ok_cons (lm_ok_int _ _) (fun v hv => hst v (List.mem_cons_of_mem _ (List.mem_cons_of_mem _ hv))))
  obtain ⟨w1, w2, w3, w4, w5⟩ := lm_mm_words
  cases mx
  · exact va_mmin hx hb (by rw [← hnl]; exact hl1.1.symm) hown (V.1 _ (lm_in hw rfl) args) (V.1 _ (List.mem_filter.mpr ⟨w2, rfl⟩) args) (V.1 _ (List.mem_filter.mpr ⟨w3, rfl⟩) args) (V.1 _ (List.mem_filter.mpr ⟨w5, rfl⟩) args) (by omega) (by rw [hsum]; omega) hr.2.2.1 hr.2.2.2 hd hK
  · exact va_mmax hx hb (by rw [← hnl]; exact hl1.1.symm) hown (V.1 _ (lm_in hw rfl) args) (V.1 _ (List.mem_filter.mpr ⟨w1, rfl⟩) args) (V.1 _ (List.mem_filter.mpr ⟨w3, rfl⟩) args) (V.1 _ (List.mem_filter.mpr ⟨w4, rfl⟩) args) (by omega) (by rw [hsum]; omega) hr.2.2.1 hr.2.2.2 hd hK
theorem lm_t_ivS (V : lm_V D cy s) (hx : p.tables.exec = Jvm.exec) {cc : ByteArray} (hb : c.code = cc) (hnl : ls.length = c.maxLocals) {c0 idx : Nat} (hown : s.vm.findClass (lm_own c0) = some m.cls) (hd : decode cc pc = .ok (.invokestatic idx, 3))
    (G : lm_G D cy B s ρ ls st h H locs sl) (hr : 4 ≤ R.frames ∧ 100 ≤ R.locals ∧ cells ≤ R.cells ∧ slots ≤ R.slots) {q} (hs : lm_iv ((lm_kM c0).lookup idx) 1 pc ls st h = some (.inl q)) (kk : lm_K p l e R s m args below meth c cells slots Q D cy B ρ h q) :
    W p l e R s m args below meth c H locs cells slots Q (F0 m pc sl (st.map (lm_vm ρ))) := by
  unfold lm_iv at hs
  split at hs
  · cases hs
  · rename_i kind g n z hlk
    have hok := lm_okc_all _ _ (lm_lookup_mem hlk)
    split at hs
    · split at hs
      · split at hs <;> cases hs
      · cases hs
    · split at hs
      · split at hs <;> cases hs
      · split at hs
        · split at hs
          · split at hs <;> cases hs
          · cases hs
        · split at hs
          · split at hs
            · split at hs
              · rename_i hc; exact absurd hc.1 (by decide)
              · cases hs
            · cases hs
          · split at hs
            · rename_i hk
              subst hk
              split at hs
              · split at hs
                · rename_i hc
                  obtain ⟨-, c1, c2, c3, c4, c5, c6, c7, c8, c9, c10⟩ := hc
                  cases hs
                  exact lm_t_arraycopy V hx hb hnl hown (of_decide_eq_true hok) hd G c1 (by omega) (by omega) c2 c3 c4 c5 c6 c7 c8 c9 c10 kk
                · split at hs
                  · rename_i hc
                    obtain ⟨-, c1, c2, c3, c4, c5, c6, c7, c8, c9, c10⟩ := hc
                    cases hs
                    exact lm_t_arraycopyi V hx hb hnl hown (of_decide_eq_true hok) hd G c1 (by omega) (by omega) c2 c3 c4 c5 c6 c7 c8 c9 c10 kk
                  · cases hs
              · cases hs
            · split at hs
              · rename_i hk
                subst hk
                split at hs
                · split at hs
                  · rename_i hc
                    obtain ⟨-, c1, c2, c3⟩ := hc
                    cases hs
                    exact lm_t_checkIndex V hx hb hnl hown (of_decide_eq_true hok) hd G c1 hr.1 hr.2.1 hr.2.2 c2 c3 kk
                  · cases hs
                · cases hs
              · split at hs
                · rename_i hk
                  subst hk
                  split at hs
                  · split at hs
                    · rename_i hc
                      cases hs
                      exact lm_t_mm V hx hb hnl hown hd true (of_decide_eq_true hok) G hc.2 hr kk
                    · cases hs
                  · cases hs
                · split at hs
                  · rename_i hk
                    subst hk
                    split at hs
                    · split at hs
                      · rename_i hc
                        cases hs
                        exact lm_t_mm V hx hb hnl hown hd false (of_decide_eq_true hok) G hc.2 hr kk
                      · cases hs
                    · cases hs
                  · cases hs
end LMM
end
section
section LMZ
variable {p : Program} {l : Launch} {e : Env} {R : Room} {s : State} {m : MethodId} {args : Array Value} {below : List Frame} {meth : Method} {c : Code} {H : Heap} {locs : List Loc} {cells slots : Nat} {Q : State → Prop}
variable {D : va_G} {cy : Nat → ClassId} {B : Nat} {ρ : Nat → Nat} {f pc : Nat} {ls st : List Value} {h : lm_H} {sl : Array Slot}
set_option maxHeartbeats 4000000 in
/-- a step of LM that is no call and no return is the machine's -/
theorem lm_step (Cx : lm_Cx f p s m meth c) (hf : f < lm_mt.length) (V : lm_V D cy s) (hB : B ≤ s.heap.size) (G : lm_G D cy B s ρ ls st h H locs sl) (hnl : ls.length = (lm_m f).2.2.2.1) {i : Instr} {len : Nat} (hd : decode (lm_m f).2.2.1 pc = .ok (i, len)) (hln : lm_lok (pc, i, len) = true)
    {q : Nat × List Value × List Value × lm_H} (hs : lm_i f (lm_m f).1 pc i ls st h = some (.inl q)) (hr : 4 ≤ R.frames ∧ 200 ≤ R.locals ∧ cells + lm_nc q.2.2.2 ≤ R.cells + lm_nc h ∧ slots + lm_ns q.2.2.2 ≤ R.slots + lm_ns h)
    (kk : lm_K p l e R s m args below meth c cells slots Q D cy B ρ h q) : W p l e R s m args below meth c H locs cells slots Q (F0 m pc sl (st.map (lm_vm ρ))) := by
  obtain ⟨hx, hb, hml, hown, hret, hlocks, hname⟩ := Cx
  have hc0 := (lm_cls_lt _ (lm_m_mem hf)).1
  have hini : f ∈ lm_inits → meth.name = "<init>" := fun hi => by rw [hname hi]; exact (lm_inits_ok f hi).2.1
  have hst := G.2.2.2.2.2.2
  have hvl := G.2.2.2.2.2.1
  have hle := lm_i_le hs
  have hnc := hle.2.2.1
  have hns := hle.2.2.2
  cases i
  case iconst n =>
    obtain rfl : len = 1 := eq_of_beq hln
    cases (show lm_nx (pc + 1) ls (Value.int (Int32.ofInt n) :: st) h = some (.inl q) from hs)
    exact lv_iconst hx hb hd rfl (lm_K_st kk G (lm_ok_cons (lm_ok_int _ _) hst))
  case bipush n =>
    obtain rfl : len = 2 := eq_of_beq hln
    cases (show lm_nx (pc + 2) ls (Value.int (Int8.ofInt n).toInt32 :: st) h = some (.inl q) from hs)
    exact lv_bipush hx hb hd rfl (lm_K_st kk G (lm_ok_cons (lm_ok_int _ _) hst))
  case sipush n =>
    obtain rfl : len = 3 := eq_of_beq hln
    cases (show lm_nx (pc + 3) ls (Value.int (Int16.ofInt n).toInt32 :: st) h = some (.inl q) from hs)
    exact lv_sipush hx hb hd rfl (lm_K_st kk G (lm_ok_cons (lm_ok_int _ _) hst))
  case lconst n =>
    obtain rfl : len = 1 := eq_of_beq hln
    cases (show lm_nx (pc + 1) ls (Value.long (Int64.ofNat n) :: st) h = some (.inl q) from hs)
    exact lv_lconst hx hb hd rfl (lm_K_st kk G (lm_ok_cons (lm_ok_long _ _) hst))
  case ldc idx =>
    obtain rfl : len = 2 := eq_of_beq hln
    simp only [lm_i] at hs
    split at hs
    · rename_i v z hlk
      cases hs
      have hm := lm_lookup_mem hlk
      have hok := lm_okv_all _ _ hm
      unfold lm_okv at hok
      dsimp only at hok
      split at hok
      · exact lv_ldc hx hb hown (V.1 _ (lm_in (of_decide_eq_true hok) rfl) args) hd (lm_K_st kk G (lm_ok_cons (lm_ok_int _ _) hst))
      · rename_i k
        obtain ⟨⟨k1, k2⟩, tx, hR⟩ := G.2.2.1.2.2.2.2.2.2 _ _ hm k rfl
        exact va_ldcS hx hb hown hR hd (lm_K_st kk G (lm_ok_cons (fun b hb => by cases hb; omega) hst))
      · cases hok
    · cases hs
  case ldc_w idx =>
    obtain rfl : len = 3 := eq_of_beq hln
    simp only [lm_i] at hs
    split at hs
    · rename_i v z hlk
      cases hs
      have hm := lm_lookup_mem hlk
      have hok := lm_okv_all _ _ hm
      exact lv_ldcw hx hb hown (V.1 _ (lm_in (of_decide_eq_true hok) rfl) args) hd (lm_K_st kk G (lm_ok_cons (lm_ok_int _ _) hst))
    · cases hs
  case ldc2_w idx =>
    obtain rfl : len = 3 := eq_of_beq hln
    simp only [lm_i] at hs
    split at hs
    · rename_i v z hlk
      cases hs
      exact lv_ldc2 hx hb hown (V.1 _ (lm_in (lm_okl_all _ _ (lm_lookup_mem hlk)) rfl) args) hd (lm_K_st kk G (lm_ok_cons (lm_ok_long _ _) hst))
    · cases hs
  case getstatic idx =>
    obtain rfl : len = 3 := eq_of_beq hln
    simp only [lm_i] at hs
    split at hs
    · rename_i v z hlk
      cases hs
      have hO := G.2.2.1
      rcases lm_oks_all _ _ (lm_lookup_mem hlk) with ⟨e1, hw⟩ | ⟨e1, hw⟩
      · dsimp only at e1 hw
        subst e1
        exact va_getsN hx hb hO.2.2.2.2.1.2 G.2.2.2.1 hown (V.1 _ (lm_in hw rfl) args) (fun _ z => z) hd (lm_K_st kk G (lm_ok_cons (fun b hb => by cases hb; rw [hO.2.2.2.2.1.1]; decide) hst))
      · dsimp only at e1 hw
        subst e1
        exact va_gets hx hb hO.2.2.2.1 G.2.2.2.1 hown (V.1 _ (lm_in hw rfl) args) (fun _ z => z) hd (lm_K_st kk G (lm_ok_cons (lm_ok_int _ _) hst))
    · cases hs
  case iload k =>
    obtain rfl : len = 2 := eq_of_beq hln
    exact lm_t_iload hx hb G kk hd hs
  case iload_n k =>
    obtain rfl : len = 1 := eq_of_beq hln
    exact lm_t_iload_n hx hb G kk hd hs
  case istore k =>
    obtain rfl : len = 2 := eq_of_beq hln
    exact lm_t_istore hx hb G kk hd hs
  case istore_n k =>
    obtain rfl : len = 1 := eq_of_beq hln
    exact lm_t_istore_n hx hb G kk hd hs
  case lload k =>
    obtain rfl : len = 2 := eq_of_beq hln
    exact lm_t_lload hx hb G kk hd hs
  case lload_n k =>
    obtain rfl : len = 1 := eq_of_beq hln
    exact lm_t_lload_n hx hb G kk hd hs
  case lstore k =>
    obtain rfl : len = 2 := eq_of_beq hln
    exact lm_t_lstore hx hb G kk hd hs
  case lstore_n k =>
    obtain rfl : len = 1 := eq_of_beq hln
    exact lm_t_lstore_n hx hb G kk hd hs
  case aload k =>
    obtain rfl : len = 2 := eq_of_beq hln
    exact lm_t_aload hx hb G kk hd hs
  case aload_n k =>
    obtain rfl : len = 1 := eq_of_beq hln
    exact lm_t_aload_n hx hb G kk hd hs
  case astore k =>
    obtain rfl : len = 2 := eq_of_beq hln
    exact lm_t_astore hx hb G kk hd hs
  case astore_n k =>
    obtain rfl : len = 1 := eq_of_beq hln
    exact lm_t_astore_n hx hb G kk hd hs
  case iinc k n =>
    obtain rfl : len = 3 := eq_of_beq hln
    simp only [lm_i] at hs
    split at hs
    · rename_i x hi
      cases hs
      obtain ⟨lv, hl1, hl2⟩ := G.2.2.2.2.1
      obtain ⟨z, hz⟩ := List.getElem?_of_mem (hl2 k _ hi (lm_nj_i x))
      have hkl := (List.getElem?_eq_some_iff.mp hi).1
      exact lv_iinc hx hb hd hl1 hz rfl hkl rfl (fun sl1 hl1 => lm_K_s1 kk G hkl hl2 hl1 (lm_ok_int _ _) hst)
    · cases hs
  case iadd =>
    obtain rfl : len = 1 := eq_of_beq hln
    exact lm_t_iadd hx hb G kk hd hs
  case isub =>
    obtain rfl : len = 1 := eq_of_beq hln
    exact lm_t_isub hx hb G kk hd hs
  case imul =>
    obtain rfl : len = 1 := eq_of_beq hln
    exact lm_t_imul hx hb G kk hd hs
  case iand =>
    obtain rfl : len = 1 := eq_of_beq hln
    exact lm_t_iand hx hb G kk hd hs
  case ior =>
    obtain rfl : len = 1 := eq_of_beq hln
    exact lm_t_ior hx hb G kk hd hs
  case ixor =>
    obtain rfl : len = 1 := eq_of_beq hln
    exact lm_t_ixor hx hb G kk hd hs
  case ishl =>
    obtain rfl : len = 1 := eq_of_beq hln
    exact lm_t_ishl hx hb G kk hd hs
  case ishr =>
    obtain rfl : len = 1 := eq_of_beq hln
    exact lm_t_ishr hx hb G kk hd hs
  case iushr =>
    obtain rfl : len = 1 := eq_of_beq hln
    exact lm_t_iushr hx hb G kk hd hs
  case ineg =>
    obtain rfl : len = 1 := eq_of_beq hln
    exact lm_t_ineg hx hb G kk hd hs
  case i2l =>
    obtain rfl : len = 1 := eq_of_beq hln
    exact lm_t_i2l hx hb G kk hd hs
  case i2b =>
    obtain rfl : len = 1 := eq_of_beq hln
    exact lm_t_i2b hx hb G kk hd hs
  case i2s =>
    obtain rfl : len = 1 := eq_of_beq hln
    exact lm_t_i2s hx hb G kk hd hs
  case i2c =>
    obtain rfl : len = 1 := eq_of_beq hln
    exact lm_t_i2c hx hb G kk hd hs
  case ladd =>
    obtain rfl : len = 1 := eq_of_beq hln
    exact lm_t_ladd hx hb G kk hd hs
  case lmul =>
    obtain rfl : len = 1 := eq_of_beq hln
    exact lm_t_lmul hx hb G kk hd hs
  case land =>
    obtain rfl : len = 1 := eq_of_beq hln
    exact lm_t_land hx hb G kk hd hs
  case lor =>
    obtain rfl : len = 1 := eq_of_beq hln
    exact lm_t_lor hx hb G kk hd hs
  case lxor =>
    obtain rfl : len = 1 := eq_of_beq hln
    exact lm_t_lxor hx hb G kk hd hs
  case lshl =>
    obtain rfl : len = 1 := eq_of_beq hln
    exact lm_t_lshl hx hb G kk hd hs
  case lshr =>
    obtain rfl : len = 1 := eq_of_beq hln
    exact lm_t_lshr hx hb G kk hd hs
  case irem =>
    obtain rfl : len = 1 := eq_of_beq hln
    simp only [lm_i] at hs
    split at hs
    · split at hs
      · cases hs
      · rename_i hy
        cases hs
        exact lv_irem hx hb hd hy (lm_K_st kk G (lm_ok_cons (lm_ok_int _ _) (fun v hv => hst v (List.mem_cons_of_mem _ (List.mem_cons_of_mem _ hv)))))
    · cases hs
  case ldiv =>
    obtain rfl : len = 1 := eq_of_beq hln
    simp only [lm_i] at hs
    split at hs
    · split at hs
      · cases hs
      · rename_i hy
        cases hs
        exact lv_ldiv hx hb hd hy (lm_K_st kk G (lm_ok_cons (lm_ok_long _ _) (fun v hv => hst v (List.mem_cons_of_mem _ (List.mem_cons_of_mem _ hv)))))
    · cases hs
  case lrem =>
    obtain rfl : len = 1 := eq_of_beq hln
    simp only [lm_i] at hs
    split at hs
    · split at hs
      · cases hs
      · rename_i hy
        cases hs
        exact lv_lrem hx hb hd hy (lm_K_st kk G (lm_ok_cons (lm_ok_long _ _) (fun v hv => hst v (List.mem_cons_of_mem _ (List.mem_cons_of_mem _ hv)))))
    · cases hs
  case l2i =>
    obtain rfl : len = 1 := eq_of_beq hln
    simp only [lm_i] at hs
    split at hs
    · cases hs
      exact lv_l2i hx hb hd rfl (lm_K_st kk G (lm_ok_cons (lm_ok_int _ _) (fun v hv => hst v (List.mem_cons_of_mem _ hv))))
    · cases hs
  case lcmp =>
    obtain rfl : len = 1 := eq_of_beq hln
    simp only [lm_i] at hs
    split at hs
    · cases hs
      exact W.lcmp hx hb hd (lm_K_st kk G (lm_ok_cons (lm_ok_int _ _) (fun v hv => hst v (List.mem_cons_of_mem _ (List.mem_cons_of_mem _ hv)))))
    · cases hs
  case dup =>
    obtain rfl : len = 1 := eq_of_beq hln
    simp only [lm_i] at hs
    split at hs
    · cases hs
      exact lv_dup hx hb hd rfl (lm_K_st kk G (lm_ok_cons (lm_ok_int _ _) hst))
    · cases hs
      exact lv_dup hx hb hd rfl (lm_K_st kk G (lm_ok_cons (hst _ List.mem_cons_self) hst))
    · cases hs
  case dup_x1 =>
    obtain rfl : len = 1 := eq_of_beq hln
    simp only [lm_i] at hs
    split at hs
    · cases hs
      exact lv_dup_x1 hx hb hd rfl rfl (lm_K_st kk G (fun v hv => hst v (by simp at hv ⊢; rcases hv with z | z | z | z <;> simp [z])))
    · cases hs
  case dup2 =>
    obtain rfl : len = 1 := eq_of_beq hln
    simp only [lm_i] at hs
    split at hs
    · cases hs
      exact lv_dup2_11 hx hb hd rfl rfl (lm_K_st kk G (fun v hv => hst v (by simp at hv ⊢; rcases hv with z | z | z | z | z <;> simp [z])))
    · cases hs
  case pop =>
    obtain rfl : len = 1 := eq_of_beq hln
    simp only [lm_i] at hs
    split at hs
    · cases hs
      exact lv_pop hx hb hd rfl (lm_K_st kk G (fun v hv => hst v (List.mem_cons_of_mem _ hv)))
    · cases hs
  case goto off =>
    obtain rfl : len = 3 := eq_of_beq hln
    obtain ⟨t, ht, rfl⟩ := lm_go_inv hs
    exact lv_goto hx hb hd ht (lm_K_st kk G hst)
  case if_icmp co off =>
    obtain rfl : len = 3 := eq_of_beq hln
    simp only [lm_i] at hs
    split at hs
    · exact lm_t_if_icmp hx hb (lm_G_sub G (fun v hv => by simp [hv])) kk hd hs
    · cases hs
  case ifCond co off =>
    obtain rfl : len = 3 := eq_of_beq hln
    simp only [lm_i] at hs
    split at hs
    · exact lm_t_ifCond hx hb (lm_G_sub G (fun v hv => by simp [hv])) kk hd hs
    · cases hs
  case ifnonnull off =>
    obtain rfl : len = 3 := eq_of_beq hln
    simp only [lm_i] at hs
    split at hs
    · obtain ⟨t, ht, rfl⟩ := lm_go_inv hs
      exact lv_ifnonnull hx hb hd ht (lm_K_st kk G (fun v hv => hst v (List.mem_cons_of_mem _ hv)))
    · cases hs
      exact lv_ifnonnullN hx hb hd (lm_K_st kk G (fun v hv => hst v (List.mem_cons_of_mem _ hv)))
    · cases hs
  case tableswitch d lo hi os =>
    simp only [lm_i] at hs
    split at hs
    · rename_i x r
      split at hs
      · rename_i hc
        obtain ⟨t, ht, rfl⟩ := lm_go_inv hs
        have hlen : (os.toList.length : Int) = (os.size : Int) := by simp
        obtain ⟨g1, g2⟩ := lm_sw_spec x os.toList lo d hc.2.1 (by omega)
        by_cases ho : x.toInt < lo ∨ hi < x.toInt
        · rw [g1 (by omega)] at ht
          exact lv_tableOut hx hb hd ho ht (lm_K_st kk G (fun v hv => hst v (List.mem_cons_of_mem _ hv)))
        · have ho1 : ¬ x.toInt < lo := fun z => ho (Or.inl z)
          have ho2 : ¬ hi < x.toInt := fun z => ho (Or.inr z)
          exact lv_tableIn hx hb hd ho1 ho2 (by have := g2 ho1 (by omega); rwa [Array.getElem?_toList] at this) ht (lm_K_st kk G (fun v hv => hst v (List.mem_cons_of_mem _ hv)))
      · cases hs
    · cases hs
  case lookupswitch d ps =>
    simp only [lm_i] at hs
    split at hs
    · rename_i x r
      split at hs
      · rename_i hc
        obtain ⟨t, ht, rfl⟩ := lm_go_inv hs
        rw [lm_lk_spec x d ps.toList (fun q hq => of_decide_eq_true (List.all_eq_true.mp hc.2 q hq))] at ht
        exact lv_lookup hx hb hd hc.1 rfl ht (lm_K_st kk G (fun v hv => hst v (List.mem_cons_of_mem _ hv)))
      · cases hs
    · cases hs
  case getfield idx =>
    obtain rfl : len = 3 := eq_of_beq hln
    simp only [lm_i] at hs
    split at hs
    · rename_i ci k z hlk
      split at hs
      · split at hs
        · rename_i hk
          cases hs
          exact lm_t_getfield hx hb V hown (lm_lookup_mem hlk) hd G hk kk
        · cases hs
      · cases hs
    · cases hs
  case putfield idx =>
    obtain rfl : len = 3 := eq_of_beq hln
    simp only [lm_i] at hs
    split at hs
    · rename_i ci k z hlk
      split at hs
      · split at hs
        · rename_i hk
          split at hs
          · rename_i h1 hp
            cases hs
            exact lm_t_putfield (f := f) V hx hb hown hini hc0 (lm_lookup_mem hlk) hd G hk.1 hk.2.2 hp kk
          · cases hs
        · cases hs
      · cases hs
    · cases hs
  case iaload =>
    obtain rfl : len = 1 := eq_of_beq hln
    simp only [lm_i] at hs
    split at hs
    · obtain ⟨hk, hin, rfl⟩ := lm_ir_inv hs
      exact lm_t_iaload hx hb V hd G (of_decide_eq_true hk) hin kk
    · cases hs
  case laload =>
    obtain rfl : len = 1 := eq_of_beq hln
    simp only [lm_i] at hs
    split at hs
    · obtain ⟨hk, hin, rfl⟩ := lm_ir_inv hs
      exact lm_t_laload hx hb V hd G (of_decide_eq_true hk) hin kk
    · cases hs
  case baload =>
    obtain rfl : len = 1 := eq_of_beq hln
    simp only [lm_i] at hs
    split at hs
    · obtain ⟨hk, hin, rfl⟩ := lm_ir_inv hs
      exact lm_t_baload hx hb hd G (of_decide_eq_true hk) hin kk
    · cases hs
  case aaload =>
    obtain rfl : len = 1 := eq_of_beq hln
    simp only [lm_i] at hs
    split at hs
    · obtain ⟨hk, hin, rfl⟩ := lm_ir_inv hs
      exact lm_t_aaload hx hb V hd G (of_decide_eq_true hk) hin kk
    · cases hs
  case iastore =>
    obtain rfl : len = 1 := eq_of_beq hln
    simp only [lm_i] at hs
    split at hs
    · split at hs
      · rename_i hk
        cases hs
        exact lm_t_iastore hx hb V hd G hk.1 hk.2.1 hk.2.2 kk
      · cases hs
    · cases hs
  case lastore =>
    obtain rfl : len = 1 := eq_of_beq hln
    simp only [lm_i] at hs
    split at hs
    · split at hs
      · rename_i hk
        cases hs
        exact lm_t_lastore hx hb V hd G hk.1 hk.2.1 hk.2.2 kk
      · cases hs
    · cases hs
  case aastore =>
    obtain rfl : len = 1 := eq_of_beq hln
    simp only [lm_i] at hs
    split at hs
    · split at hs
      · rename_i hk
        cases hs
        exact lm_t_aastore hx hb V hd G hk.1 hk.2.1 hk.2.2.1 hk.2.2.2.1 hk.2.2.2.2 kk
      · cases hs
    · cases hs
  case arraylength =>
    obtain rfl : len = 1 := eq_of_beq hln
    simp only [lm_i] at hs
    split at hs
    · split at hs
      · rename_i hk
        cases hs
        exact lm_t_arraylength hx hb V hd G hk kk
      · cases hs
    · cases hs
  case new idx =>
    obtain rfl : len = 3 := eq_of_beq hln
    simp only [lm_i] at hs
    split at hs
    · rename_i ci N z hlk
      split at hs
      · rename_i hk
        cases hs
        exact lm_t_new V hx hb hown hB (lm_lookup_mem hlk) hd G hk.1 hk.2.1 hk.2.2 (by have := hr.2.2.1; simp only [lm_new, lm_nc] at this; omega) (by have := hr.2.2.2; simp only [lm_new, lm_ns] at this; omega) kk
      · cases hs
    · cases hs
  case newarray ty =>
    obtain rfl : len = 2 := eq_of_beq hln
    simp only [lm_i] at hs
    split at hs
    · split at hs
      · rename_i hk
        cases hs
        have hr1 := hr.2.2.1
        have hr2 := hr.2.2.2
        simp only [lm_arr, lm_nc, lm_ns] at hr1 hr2
        rcases hk.2.2.2.2 with rfl | rfl
        · exact lm_t_newi V hx hb hB hd G hk.1 hk.2.1 hk.2.2.1 hk.2.2.2.1 (by omega) (by omega) kk
        · exact lm_t_newl V hx hb hB hd G hk.1 hk.2.1 hk.2.2.1 hk.2.2.2.1 (by omega) (by omega) kk
      · cases hs
    · cases hs
  case anewarray idx =>
    obtain rfl : len = 3 := eq_of_beq hln
    simp only [lm_i] at hs
    split at hs
    · rename_i ci N z hlk
      split at hs
      · split at hs
        · rename_i hk
          cases hs
          have hr1 := hr.2.2.1
          have hr2 := hr.2.2.2
          simp only [lm_arr, lm_nc, lm_ns] at hr1 hr2
          obtain rfl := hk.2.2.2.2
          exact lm_t_newq V hx hb hown hB (lm_lookup_mem hlk) hd G hk.1 hk.2.1 hk.2.2.1 hk.2.2.2.1 (by omega) (by omega) kk
        · cases hs
      · cases hs
    · cases hs
  case multianewarray idx dm =>
    obtain rfl : len = 4 := eq_of_beq hln
    simp only [lm_i] at hs
    split at hs
    · rename_i ci N z hlk
      split at hs
      · split at hs
        · rename_i hk
          cases hs
          obtain ⟨rfl, hci, h64, hn, hk0, hn2, hk2, hall⟩ := hk
          have hfree : ∀ j, j < _ + 1 → lm_kd h (h.2.2.2.2.2.1 + j) = 0 := fun j hj => by have := List.all_eq_true.mp hall j (List.mem_range.mpr hj); simpa using this
          have hr1 := hr.2.2.1
          have hr2 := hr.2.2.2
          simp only [lm_mul, lm_nc, lm_ns] at hr1 hr2
          have hw := lm_okn_all _ _ (lm_lookup_mem hlk)
          rcases hci with rfl | rfl
          · exact lm_t_mul (ty := .int) (K := 5) (ki := 1) (z := (_, .inl (fun _ => 0))) V hx hb hown hB (V.1 _ (lm_in (hw.2.1 rfl) rfl) args) (Or.inl rfl) (Or.inl rfl) V.2.2.2.1 (V.1 _ (List.mem_filter.mpr ⟨lm_arr_words.1, rfl⟩) args) (V.2.1.2 0 (cy 1, .int) rfl).2 (V.2.1.2 3 (cy 5, .array .int) rfl).2 (fun c9 => lm_inner_i c9 _) (fun ρ9 j9 hj9 => lm_mul_Ei ρ9 hj9) rfl rfl (by decide) hd G h64 hfree hn hk0 hn2 hk2 (by omega) (by omega) kk
          · exact lm_t_mul (ty := .long) (K := 6) (ki := 2) (z := (_, .inr (.inl (fun _ => 0)))) V hx hb hown hB (V.1 _ (lm_in (hw.2.2 rfl) rfl) args) (Or.inr rfl) (Or.inr rfl) V.2.2.2.2 (V.1 _ (List.mem_filter.mpr ⟨lm_arr_words.2, rfl⟩) args) (V.2.1.2 1 (cy 2, .long) rfl).2 (V.2.1.2 4 (cy 6, .array .long) rfl).2 (fun c9 => lm_inner_l c9 _) (fun ρ9 j9 hj9 => lm_mul_El ρ9 hj9) rfl rfl (by decide) hd G h64 hfree hn hk0 hn2 hk2 (by omega) (by omega) kk
        · cases hs
      · cases hs
    · cases hs
  case invokevirtual idx =>
    obtain rfl : len = 3 := eq_of_beq hln
    exact absurd hs (lm_iv_no0 _ _ _ _ _)
  case invokestatic idx =>
    obtain rfl : len = 3 := eq_of_beq hln
    exact lm_t_ivS V hx hb (hnl.trans hml.symm) hown hd G ⟨by omega, by omega, by omega, by omega⟩ hs kk
  case invokespecial idx =>
    obtain rfl : len = 3 := eq_of_beq hln
    exact lm_t_ivI V hx hb (hnl.trans hml.symm) hown hd G ⟨by omega, by omega, by omega, by omega⟩ hs kk
  all_goals exact absurd hs (by first | (intro z; cases z; done) | (simp only [lm_i]; (repeat' split) <;> simp))
end LMZ
end
section
/-! LM's calls, and the induction -/
theorem lm_iv_call {w : Option (Nat × Nat × Nat × Nat)} {op pc : Nat} {ls st : List Value} {h : lm_H} {q} (hs : lm_iv w op pc ls st h = some (.inr (.inr q))) : ∃ kind n i, w = some (kind, q.1, n, i) ∧ q.2.2.1 = pc + 3 ∧ q.2.2.2.2 = h ∧ n ≤ st.length ∧ (q.2.2.2.1.map Value.category).sum ≤ 8 ∧
    ((kind = 0 ∧ op = 0 ∧ ∃ a, st.drop n = .ref a :: q.2.2.2.1 ∧ lm_kd h a = 10 + lm_cis.getD (lm_m q.1).1 99 ∧ q.2.1 = .ref a :: (st.take n).reverse) ∨
     ((kind = 1 ∨ kind = 3) ∧ op = 1 ∧ st.drop n = q.2.2.2.1 ∧ q.2.1 = (st.take n).reverse) ∨
     ((kind = 2 ∨ kind = 4) ∧ op = 2 ∧ ∃ a, st.drop n = .ref a :: q.2.2.2.1 ∧ q.2.1 = .ref a :: (st.take n).reverse)) := by
  unfold lm_iv at hs
  split at hs
  · cases hs
  · rename_i kind g n i
    split at hs
    · rename_i hk
      split at hs
      · rename_i a r hdr
        split at hs
        · rename_i hc
          cases hs
          exact ⟨kind, n, i, rfl, rfl, rfl, hc.2.1, hc.2.2.1, Or.inl ⟨hk, hc.1, a, hdr, hc.2.2.2, rfl⟩⟩
        · cases hs
      · cases hs
    · split at hs
      · rename_i hk
        split at hs
        · rename_i hc
          cases hs
          exact ⟨kind, n, i, rfl, rfl, rfl, hc.2.1, hc.2.2, Or.inr (Or.inl ⟨hk, hc.1, rfl, rfl⟩)⟩
        · cases hs
      · split at hs
        · rename_i hk
          split at hs
          · rename_i a r hdr
            split at hs
            · rename_i hc
              cases hs
              exact ⟨kind, n, i, rfl, rfl, rfl, hc.2.1, hc.2.2, Or.inr (Or.inr ⟨hk, hc.1, a, hdr, rfl⟩)⟩
            · cases hs
          · cases hs
        · (repeat' (split at hs))
          all_goals cases hs
theorem lm_iv_ret {w : Option (Nat × Nat × Nat × Nat)} {op pc : Nat} {ls st : List Value} {h : lm_H} {r} (hs : lm_iv w op pc ls st h = some (.inr (.inl r))) : False := by
  unfold lm_iv at hs
  split at hs
  · cases hs
  · (repeat' (split at hs))
    all_goals cases hs
set_option maxHeartbeats 4000000 in
/-- what returns, what calls -/
theorem lm_i_ret {f c pc : Nat} {i : Instr} {ls st : List Value} {h : lm_H} {r} (hs : lm_i f c pc i ls st h = some (.inr (.inl r))) : r.2 = h ∧ (i = .ireturn ∨ i = .lreturn ∨ i = .areturn ∨ i = .return_) := by
  cases i
  case ireturn =>
    refine ⟨?_, Or.inl rfl⟩
    simp only [lm_i] at hs
    (repeat' (split at hs))
    all_goals first | (cases hs; rfl) | (cases hs; done)
  case lreturn =>
    refine ⟨?_, Or.inr (Or.inl rfl)⟩
    simp only [lm_i] at hs
    (repeat' (split at hs))
    all_goals first | (cases hs; rfl) | (cases hs; done)
  case areturn =>
    refine ⟨?_, Or.inr (Or.inr (Or.inl rfl))⟩
    simp only [lm_i] at hs
    (repeat' (split at hs))
    all_goals first | (cases hs; rfl) | (cases hs; done)
  case return_ =>
    refine ⟨?_, Or.inr (Or.inr (Or.inr rfl))⟩
    simp only [lm_i] at hs
    (repeat' (split at hs))
    all_goals first | (cases hs; rfl) | (cases hs; done)
  case invokevirtual idx => exact (lm_iv_ret hs).elim
  case invokestatic idx => exact (lm_iv_ret hs).elim
  case invokespecial idx => exact (lm_iv_ret hs).elim
  all_goals exfalso
  all_goals first
    | (cases hs; done)
    | (simp only [lm_i, lm_i1, lm_i2, lm_l2, lm_ls, lm_li, lm_ll, lm_la, lm_si, lm_sl, lm_sa, lm_go, lm_bt, lm_br, lm_ir] at hs; (repeat' (split at hs)); all_goals (cases hs; done))
set_option maxHeartbeats 4000000 in
theorem lm_i_call {f c pc : Nat} {i : Instr} {ls st : List Value} {h : lm_H} {q} (hs : lm_i f c pc i ls st h = some (.inr (.inr q))) :
    (∃ idx, i = .invokevirtual idx ∧ lm_iv ((lm_kM c).lookup idx) 0 pc ls st h = some (.inr (.inr q))) ∨ (∃ idx, i = .invokestatic idx ∧ lm_iv ((lm_kM c).lookup idx) 1 pc ls st h = some (.inr (.inr q))) ∨ (∃ idx, i = .invokespecial idx ∧ lm_iv ((lm_kM c).lookup idx) 2 pc ls st h = some (.inr (.inr q))) := by
  cases i
  case invokevirtual idx => exact Or.inl ⟨idx, rfl, hs⟩
  case invokestatic idx => exact Or.inr (Or.inl ⟨idx, rfl, hs⟩)
  case invokespecial idx => exact Or.inr (Or.inr ⟨idx, rfl, hs⟩)
  all_goals exfalso
  all_goals first
    | (cases hs; done)
    | (simp only [lm_i, lm_i1, lm_i2, lm_l2, lm_ls, lm_li, lm_ll, lm_la, lm_si, lm_sl, lm_sa, lm_go, lm_bt, lm_br, lm_ir] at hs; (repeat' (split at hs)); all_goals (cases hs; done))
theorem lm_st_ret {f pc : Nat} {ls st : List Value} {h : lm_H} {r} (hs : lm_st f pc ls st h = some (.inr (.inl r))) : r.2 = h := by
  unfold lm_st at hs
  split at hs
  · exact (lm_i_ret hs).1
  · cases hs
theorem lm_st_call {f pc : Nat} {ls st : List Value} {h : lm_H} {q} (hs : lm_st f pc ls st h = some (.inr (.inr q))) : q.2.2.2.2 = h := by
  unfold lm_st at hs
  split at hs
  · rcases lm_i_call hs with ⟨idx, -, h1⟩ | ⟨idx, -, h1⟩ | ⟨idx, -, h1⟩
    all_goals
      obtain ⟨_, _, _, _, _, he, _⟩ := lm_iv_call h1
      exact he
  · cases hs
theorem lm_ex_le : ∀ (n d f pc : Nat) (ls st : List Value) (h : lm_H) (r : Option Value × lm_H), lm_ex n d f pc ls st h = some r → lm_le h r.2 := by
  intro n
  induction n with
  | zero => intro d f pc ls st h r hr; cases hr
  | succ n ih =>
    intro d f pc ls st h r hr
    unfold lm_ex at hr
    split at hr
    · cases hr
    · rename_i q hq
      exact lm_le_tr (lm_st_le hq) (ih _ _ _ _ _ _ _ hr)
    · rename_i r' hq
      cases hr
      rw [lm_st_ret hq]
      exact lm_le_rf h
    · rename_i q hq
      have he := lm_st_call hq
      split at hr
      · cases hr
      · split at hr
        · split at hr
          · rename_i r1 h1
            have a1 := ih _ _ _ _ _ _ _ h1
            rw [he] at a1
            exact lm_le_tr a1 (ih _ _ _ _ _ _ _ hr)
          · cases hr
        · cases hr
theorem lm_iv_len {w : Option (Nat × Nat × Nat × Nat)} {op pc : Nat} {ls st : List Value} {h : lm_H} {q} (hs : lm_iv w op pc ls st h = some (.inl q)) : q.2.1 = ls := by
  unfold lm_iv at hs
  split at hs
  · cases hs
  · split at hs
    · split at hs
      · split at hs <;> cases hs
      · cases hs
    · split at hs
      · split at hs <;> cases hs
      · split at hs
        · split at hs
          · split at hs <;> cases hs
          · cases hs
        · split at hs
          · split at hs
            · split at hs <;> first | (cases hs; rfl) | (cases hs; done)
            · cases hs
          · split at hs
            · split at hs
              · split at hs
                · cases hs; rfl
                · split at hs
                  · cases hs; rfl
                  · cases hs
              · cases hs
            · split at hs
              · split at hs
                · split at hs <;> first | (cases hs; rfl) | (cases hs; done)
                · cases hs
              · split at hs
                · split at hs
                  · split at hs <;> first | (cases hs; rfl) | (cases hs; done)
                  · cases hs
                · split at hs
                  · split at hs
                    · split at hs <;> first | (cases hs; rfl) | (cases hs; done)
                    · cases hs
                  · cases hs
set_option maxHeartbeats 4000000 in
theorem lm_i_len {f c pc : Nat} {i : Instr} {ls st : List Value} {h : lm_H} {q} (hs : lm_i f c pc i ls st h = some (.inl q)) : q.2.1.length = ls.length := by
  have hs2 : ∀ i v, (lm_s2 ls i v).length = ls.length := fun i v => by unfold lm_s2; rw [List.length_set, lm_s1_len]
  cases i
  case invokevirtual idx => rw [lm_iv_len hs]
  case invokestatic idx => rw [lm_iv_len hs]
  case invokespecial idx => rw [lm_iv_len hs]
  all_goals first
    | (cases hs; done)
    | (obtain ⟨_, _, _, _, rfl⟩ := lm_i2_inv hs; rfl)
    | (obtain ⟨_, _, _, rfl⟩ := lm_i1_inv hs; rfl)
    | (obtain ⟨_, _, _, _, rfl⟩ := lm_l2_inv hs; rfl)
    | (obtain ⟨_, _, _, _, rfl⟩ := lm_ls_inv hs; rfl)
    | (obtain ⟨_, _, rfl⟩ := lm_li_inv hs; rfl)
    | (obtain ⟨_, _, rfl⟩ := lm_ll_inv hs; rfl)
    | (obtain ⟨_, _, rfl⟩ := lm_la_inv hs; rfl)
    | (obtain ⟨_, _, _, _, rfl⟩ := lm_si_inv hs; exact lm_s1_len _ _ _)
    | (obtain ⟨_, _, _, _, rfl⟩ := lm_sl_inv hs; exact hs2 _ _)
    | (obtain ⟨_, _, _, _, rfl⟩ := lm_sa_inv hs; exact lm_s1_len _ _ _)
    | (obtain ⟨_, _, rfl⟩ := lm_go_inv hs; rfl)
    | (simp only [lm_i, lm_bt, lm_br, lm_ir, lm_go] at hs; (repeat' (split at hs)); all_goals first | (cases hs; rfl) | (cases hs; exact lm_s1_len _ _ _) | (cases hs; done))
theorem lm_st_len {f pc : Nat} {ls st : List Value} {h : lm_H} {q} (hs : lm_st f pc ls st h = some (.inl q)) : q.2.1.length = ls.length := by
  unfold lm_st at hs
  split at hs
  · exact lm_i_len hs
  · cases hs
end
section
/-! a method's contract out of LM's run of it; a call; the induction -/
def lm_Pc (D : va_G) (cy : Nat → ClassId) (B : Nat) (ρ : Nat → Nat) (as : List Value) (h : lm_H) : Array Value → State → Prop := fun v U => v = (as.map (lm_vm ρ)).toArray ∧ lm_V D cy U ∧ lm_Wd D cy B ρ h U.heap ∧ lm_HV h ∧ lm_Old B ρ h U U.heap ∧ B ≤ U.heap.size ∧ ∀ v ∈ as, lm_ok h v
def lm_Qc (D : va_G) (cy : Nat → ClassId) (B : Nat) (ρ : Nat → Nat) (h : lm_H) (r : Option Value × lm_H) : Array Value → State → Outcome → State → Prop := fun _ st o t =>
  (∃ ρ', lm_ag h ρ ρ' ∧ o = .returned (r.1.map (lm_vm ρ')) ∧ lm_Wd D cy B ρ' r.2 t.heap ∧ lm_HV r.2 ∧ ∀ v, r.1 = some v → lm_ok r.2 v) ∧ va_F (fun q => B ≤ q) st t
theorem lm_Pc_blind (D : va_G) (cy : Nat → ClassId) (B : Nat) (ρ : Nat → Nat) (as : List Value) (h : lm_H) : FrameBlind (lm_Pc D cy B ρ as h) := by
  intro a U g mk hq
  obtain ⟨h1, h2, h3, h4, h5, h6, h7⟩ := hq
  have hW : U.WarmedH (U.calling g mk a).vm := State.WarmedH.refl U
  exact ⟨h1, lm_V.warm hW h2, h3, h4, lm_Old.moved hW (fun _ _ _ => rfl) h5, h6, h7⟩
/-- what LM computes in n steps, the machine does -/
def lm_AD (D : va_G) (cy : Nat → ClassId) (B n : Nat) : Prop := ∀ (d f pc : Nat) (ls st : List Value) (h : lm_H) (r : Option Value × lm_H), lm_ex n d f pc ls st h = some r → f < lm_mt.length →
  ∀ (p : Program) (l : Launch) (e : Env) (R : Room) (s : State) (m : MethodId) (args : Array Value) (below : List Frame) (meth : Method) (c : Code) (H : Heap) (locs : List Loc) (cells slots : Nat) (Q : State → Prop) (ρ : Nat → Nat) (sl : Array Slot),
  lm_Cx f p s m meth c → lm_V D cy s → B ≤ s.heap.size → lm_G D cy B s ρ ls st h H locs sl → ls.length = (lm_m f).2.2.2.1 → (d + 4 ≤ R.frames ∧ 100 * (d + 2) ≤ R.locals ∧ cells + lm_nc r.2 ≤ R.cells + lm_nc h ∧ slots + lm_ns r.2 ≤ R.slots + lm_ns h) →
  (∀ (pc' : Nat) (ls' st' : List Value) (ρ' : Nat → Nat) (H' : Heap) (locs' : List Loc) (sl' : Array Slot) (cells' slots' : Nat), lm_st f pc' ls' st' r.2 = some (.inr (.inl r)) → lm_ag h ρ ρ' → lm_G D cy B s ρ' ls' st' r.2 H' locs' sl' → cells' + lm_nc h = cells + lm_nc r.2 → slots' + lm_ns h = slots + lm_ns r.2 →
    W p l e R s m args below meth c H' locs' cells' slots' Q (F0 m pc' sl' (st'.map (lm_vm ρ')))) →
  W p l e R s m args below meth c H locs cells slots Q (F0 m pc sl (st.map (lm_vm ρ)))
theorem lm_m_drop {f : Nat} (h0 : 0 < f) (h : f < lm_mt.length) : lm_m f ∈ lm_mt.drop 1 := by
  apply List.mem_of_getElem? (i := f - 1)
  rw [List.getElem?_drop, show 1 + (f - 1) = f by omega]
  unfold lm_m
  rw [List.getD_eq_getElem?_getD, List.getElem?_eq_getElem h]
  rfl
section LMA
variable {p : Program} {l : Launch} {e : Env} {R : Room} {s : State} {m : MethodId} {args : Array Value} {below : List Frame} {meth : Method} {c : Code} {H : Heap} {locs : List Loc} {cells slots : Nat} {Q : State → Prop}
variable {D : va_G} {cy : Nat → ClassId} {B n : Nat} {ρ ρ' : Nat → Nat} {f pc : Nat} {ls st : List Value} {h : lm_H} {sl : Array Slot}
/-- a method's return -/
theorem lm_end (Cx : lm_Cx f p s m meth c) (hf : f < lm_mt.length) {r : Option Value × lm_H} (hst : lm_st f pc ls st r.2 = some (.inr (.inl r))) (hag : lm_ag h ρ ρ') (G : lm_G D cy B s ρ' ls st r.2 H locs sl) :
    W p l e R s m args below meth c H locs cells slots (MQ below (lm_Qc D cy B ρ h r) args s cells slots (fun q => B ≤ q)) (F0 m pc sl (st.map (lm_vm ρ'))) := by
  obtain ⟨hx, hb, hml, hown, hret, hlocks, hname⟩ := Cx
  have hS := G.2.2.2.1
  unfold lm_st at hst
  split at hst
  · rename_i i len hlk
    have hmem := lm_lookup_mem hlk
    have hd := lm_decs _ (lm_m_mem hf) _ hmem
    have hln := lm_lens _ (lm_m_mem hf) _ hmem
    dsimp only at hd
    have hq : ∀ v : Option Value, r.1 = v → (∀ w, v = some w → lm_ok r.2 w) → ∀ t : State, t.heap = H → s.WarmedH t.vm → lm_Qc D cy B ρ h r args s (.returned (v.map (lm_vm ρ'))) t := fun v hv hok t ht hW =>
      ⟨⟨ρ', hag, by rw [hv], by rw [ht]; exact G.1, G.2.1, by rw [hv]; exact hok⟩, hS.F ht⟩
    have hvst := G.2.2.2.2.2.2
    rcases (lm_i_ret hst).2 with rfl | rfl | rfl | rfl
    · obtain rfl : len = 1 := eq_of_beq hln
      simp only [lm_i] at hst
      split at hst
      · rename_i x
        split at hst
        · rename_i hrt
          have e1 : r.1 = some (.int x) := (congrArg Prod.fst (Sum.inl.inj (Sum.inr.inj (Option.some.inj hst)))).symm
          exact W.iret hx hb (hret.trans hrt) (hq _ e1 (fun w hw => by cases hw; exact lm_ok_int _ _)) hS.2.2 hd
        · rename_i ty hne hrt
          split at hst
          · rename_i hn
            have e1 : r.1 = some (.int x) := (congrArg Prod.fst (Sum.inl.inj (Sum.inr.inj (Option.some.inj hst)))).symm
            exact W.zret hx hb (hret.trans hrt) hn (hq _ e1 (fun w hw => by cases hw; exact lm_ok_int _ _)) hS.2.2 hd
          · cases hst
        · cases hst
      · cases hst
    · obtain rfl : len = 1 := eq_of_beq hln
      simp only [lm_i] at hst
      split at hst
      · rename_i x
        split at hst
        · rename_i hrt
          have e1 : r.1 = some (.long x) := (congrArg Prod.fst (Sum.inl.inj (Sum.inr.inj (Option.some.inj hst)))).symm
          exact W.lret hx hb (hret.trans hrt) (hq _ e1 (fun w hw => by cases hw; exact lm_ok_long _ _)) hS.2.2 hd
        · cases hst
      · cases hst
    · obtain rfl : len = 1 := eq_of_beq hln
      simp only [lm_i] at hst
      split at hst
      · rename_i x
        split at hst
        · rename_i hrt
          have e1 : r.1 = some (.ref x) := (congrArg Prod.fst (Sum.inl.inj (Sum.inr.inj (Option.some.inj hst)))).symm
          exact W.aret (v := .ref (ρ' x)) hx hb (hret.trans hrt) (Or.inl ⟨_, rfl⟩) (Or.inr ⟨_, rfl⟩) (hq _ e1 (fun w hw => by cases hw; exact hvst _ List.mem_cons_self)) hS.2.2 hd
        · cases hst
      · cases hst
    · obtain rfl : len = 1 := eq_of_beq hln
      simp only [lm_i] at hst
      split at hst
      · split at hst
        · rename_i hrt
          have e1 : r.1 = none := (congrArg Prod.fst (Sum.inl.inj (Sum.inr.inj (Option.some.inj hst)))).symm
          exact W.vret hx hb (hret.trans hrt) (hq _ e1 (fun w hw => by cases hw)) hS.2.2 hd
        · cases hst
      · cases hst
  · cases hst
theorem lm_met (ad : lm_AD D cy B n) (l : Launch) {d g : Nat} {as : List Value} {r : Option Value × lm_H} (hex : lm_ex n d g 0 (lm_ini (lm_m g).2.2.2.1 as) [] h = some r) (hg : g < lm_mt.length) (hg0 : 0 < g) (hlen : (lm_exp as).length ≤ (lm_m g).2.2.2.1) (ρ : Nat → Nat) :
    Met l (lm_m g).2.1 [Cond.code (lm_m g).2.1 (lm_m g).2.2.1 (lm_m g).2.2.2.1 (lm_m g).2.2.2.2.1] ({ frames := d + 4, cells := lm_nc r.2 - lm_nc h, slots := lm_ns r.2 - lm_ns h, locals := 100 * (d + 2) }) (lm_Pc D cy B ρ as h) (lm_Qc D cy B ρ h r) (lm_nc r.2 - lm_nc h) (lm_ns r.2 - lm_ns h) (fun q => B ≤ q) := by
  have hm := lm_mt_ok _ (lm_m_drop hg0 hg)
  refine Met.ofW (cc := (lm_m g).2.2.1) (maxL := (lm_m g).2.2.2.1) (ret := (lm_m g).2.2.2.2.1) hm.2.1 rfl ?_
  intro p e s m args below meth c s₁ Bd hml hv
  obtain ⟨rfl, h2, h3, h4, h5, h6, h7⟩ := hv
  have hle := lm_ex_le _ _ _ _ _ _ _ _ hex
  have hnc := hle.2.2.1
  have hns := hle.2.2.2
  rw [lg_entry_eq]
  have Cx : lm_Cx g p s m meth c := ⟨Bd.exec, Bd.bytes, hml, by rw [hm.2.2.2.2]; exact findClass_of_methodNamed Bd.named, Bd.returns, Bd.notSynchronized, fun _ => (name_of_methodNamed Bd.named Bd.method).1⟩
  refine ad d g 0 _ [] h r hex hg p l e _ s m _ below meth c s.heap [] 0 0 _ ρ _ Cx h2 h6 ⟨h3, h4, h5, va_S.rf, lm_L_ini ρ hlen, lm_ok_ini h7, fun v hv => by cases hv⟩ (lm_ini_len hlen) ⟨Nat.le_refl _, Nat.le_refl _, by show 0 + lm_nc r.2 ≤ lm_nc r.2 - lm_nc h + lm_nc h; omega, by show 0 + lm_ns r.2 ≤ lm_ns r.2 - lm_ns h + lm_ns h; omega⟩ ?_
  intro pc' ls' st' ρ' H' locs' sl' cells' slots' hst hag G hc hs
  obtain rfl : cells' = lm_nc r.2 - lm_nc h := by omega
  obtain rfl : slots' = lm_ns r.2 - lm_ns h := by omega
  exact lm_end Cx hg hst hag G
theorem lm_cis_str : ∀ x ∈ lm_mt, lm_cis.getD x.1 99 < 8 ∨ lm_cis.getD x.1 99 = 99 ∨ (lm_cis.getD x.1 99 = 30 ∧ lm_own x.1 = "java/lang/String") := by decide +kernel
theorem lm_recv (V : lm_V D cy s) (G : lm_G D cy B s ρ ls st h H locs sl) {g a : Nat} (hg : g < lm_mt.length) (hk : lm_kd h a = 10 + lm_cis.getD (lm_m g).1 99) : ∃ cellB : Cell, H[ρ a]? = some cellB ∧ cellB.vm.isStatics = false ∧ s.vm.findClass (lm_own (lm_m g).1) = some cellB.cls := by
  have hm := lm_m_mem hg
  have hc0 := (lm_cls_lt _ hm).1
  have hk0 : lm_kd h a ≠ 0 := by omega
  generalize hci : lm_cis.getD (lm_m g).1 99 = ci at hk
  rcases lm_cis_str _ hm with z | z | z
  · rw [hci] at z
    have ha := lm_new64 G.2.1 z hk
    obtain ⟨ws, kq, hP, hD, he, -⟩ := lm_Wd_at G.1 ha hk0
    rw [lm_E_obj hk] at he
    have hown : (lm_cl ci).1 = lm_own (lm_m g).1 := by rw [← hci]; exact lm_cis_own _ hc0 (by rw [hci]; exact z)
    have hcl := lm_cl_get z
    rw [hown] at hcl
    exact va_recv V.2.1 hP (ci := ci) (q0 := kq) hcl he
  · rw [hci] at z
    rcases Nat.lt_or_ge a 64 with q | q
    · rcases G.2.1.2.2 a q with y | y | y | y <;> omega
    · rcases G.2.1.2.1 a q hk0 with y | y | y | y | y | y <;> omega
  · rw [hci] at z
    have ha : a < 64 := by
      rcases Nat.lt_or_ge a 64 with q | q
      · exact q
      · rcases G.2.1.2.1 a q hk0 with y | y | y | y | y | y <;> omega
    obtain ⟨cell, h1, h2, h3, -⟩ := (G.2.2.1.2.2.1 a ha (by omega)).1.kept G.2.2.2.1.2.1
    exact ⟨cell, h1, h2, by rw [z.2]; exact h3⟩
/-- a call: the machine goes on behind it from LM's state behind it -/
theorem lm_call (ad : lm_AD D cy B n) (Cx : lm_Cx f p s m meth c) (V : lm_V D cy s) (hB : B ≤ s.heap.size) (G : lm_G D cy B s ρ ls st h H locs sl) (hnl : ls.length = (lm_m f).2.2.2.1) {d idx op len : Nat} {i : Instr}
    (hop : (i = .invokevirtual idx ∧ op = 0) ∨ (i = .invokestatic idx ∧ op = 1) ∨ (i = .invokespecial idx ∧ op = 2)) (hd : decode (lm_m f).2.2.1 pc = .ok (i, len)) (hln : lm_lok (pc, i, len) = true)
    {q : Nat × List Value × Nat × List Value × lm_H} (hs : lm_iv ((lm_kM (lm_m f).1).lookup idx) op pc ls st h = some (.inr (.inr q))) {r : Option Value × lm_H} (hlen : (lm_exp q.2.1).length ≤ (lm_m q.1).2.2.2.1) (hex : lm_ex n d q.1 0 (lm_ini (lm_m q.1).2.2.2.1 q.2.1) [] h = some r)
    (hr : d + 1 + 4 ≤ R.frames ∧ 100 * (d + 1 + 2) ≤ R.locals ∧ cells + lm_nc r.2 ≤ R.cells + lm_nc h ∧ slots + lm_ns r.2 ≤ R.slots + lm_ns h)
    (kk : ∀ (ρ' : Nat → Nat) (H' : Heap) (locs' : List Loc), lm_ag h ρ ρ' → lm_G D cy B s ρ' ls (r.1.toList ++ q.2.2.2.1) r.2 H' locs' sl → W p l e R s m args below meth c H' locs' (cells + (lm_nc r.2 - lm_nc h)) (slots + (lm_ns r.2 - lm_ns h)) Q (F0 m (pc + 3) sl ((r.1.toList ++ q.2.2.2.1).map (lm_vm ρ')))) :
    W p l e R s m args below meth c H locs cells slots Q (F0 m pc sl (st.map (lm_vm ρ))) := by
  obtain ⟨hx, hb, hml, hown, hret, hlocks, hname⟩ := Cx
  obtain ⟨kind, k, iw, hlk, hpc, hh, hkl, hsum, hcase⟩ := lm_iv_call hs
  have hmem := lm_lookup_mem hlk
  have hok := lm_okc_all _ _ hmem
  have hle := lm_ex_le _ _ _ _ _ _ _ _ hex
  have hnc := hle.2.2.1
  have hns := hle.2.2.2
  have hS := G.2.2.2.1
  have hvst := G.2.2.2.2.2.2
  obtain ⟨lv, hl1, -⟩ := G.2.2.2.2.1
  have hsz : sl.size = (lm_m f).2.2.2.1 := by rw [← hnl]; exact hl1.1
  have hsumr : ((q.2.2.2.1.map (lm_vm ρ)).map fun v => v.category).sum ≤ 8 := by
    have e : ((q.2.2.2.1.map (lm_vm ρ)).map fun v => v.category) = q.2.2.2.1.map Value.category := by
      rw [List.map_map]
      exact List.map_congr_left (fun v _ => lm_vm_cat ρ v)
    rw [e]
    exact hsum
  have hgk : 0 < q.1 ∧ q.1 < lm_mt.length ∧ (op = 0 → q.1 ∈ lm_virt) ∧ (op = 1 → q.1 ∈ lm_stat) ∧ (op = 2 → q.1 ∈ lm_inits) ∧ lm_np (lm_m q.1).2.1 k := by
    unfold lm_okc at hok
    dsimp only at hok
    rcases hcase with ⟨rfl, rfl, -⟩ | ⟨hk, rfl, -⟩ | ⟨hk, rfl, -⟩
    · simp only [Bool.and_eq_true, decide_eq_true_eq] at hok
      have hv : q.1 ∈ lm_virt := by simpa using hok.2
      exact ⟨(lm_virt_ok _ hv).2.2.1, (lm_virt_ok _ hv).2.2.2, fun _ => hv, (fun z => absurd z (by decide)), (fun z => absurd z (by decide)), hok.1.2⟩
    · rcases hk with rfl | rfl
      all_goals
        simp only [Bool.and_eq_true, decide_eq_true_eq] at hok
        have hv : q.1 ∈ lm_stat := by simpa using hok.2
        exact ⟨(lm_stat_ok _ hv).2.1, (lm_stat_ok _ hv).2.2, (fun z => absurd z (by decide)), fun _ => hv, (fun z => absurd z (by decide)), hok.1.2⟩
    · rcases hk with rfl | rfl
      all_goals
        simp only [Bool.and_eq_true, decide_eq_true_eq] at hok
        have hv : q.1 ∈ lm_inits := by simpa using hok.2
        exact ⟨(lm_inits_ok _ hv).2.2.2.1, (lm_inits_ok _ hv).2.2.2.2, (fun z => absurd z (by decide)), (fun z => absurd z (by decide)), fun _ => hv, hok.1.2⟩
  obtain ⟨hg0, hgl, hgv, hgs, hgi, hnp⟩ := hgk
  have hmo := lm_mt_ok _ (lm_m_drop hg0 hgl)
  have hcw := lm_cws _ (lm_m_drop hg0 hgl)
  have hmet := lm_met ad l hex hgl hg0 hlen ρ
  have hmaxL := (lm_cls_lt _ (lm_m_mem hgl)).2
  have hst_as : ∀ v ∈ q.2.1, lm_ok h v := by
    have key : ∀ v ∈ st.take k, lm_ok h v := fun v hv => hvst v (List.mem_of_mem_take hv)
    have key2 : ∀ v ∈ st.drop k, lm_ok h v := fun v hv => hvst v (List.mem_of_mem_drop hv)
    rcases hcase with ⟨-, -, a, e1, -, e2⟩ | ⟨-, -, e1, e2⟩ | ⟨-, -, a, e1, e2⟩
    · rw [e2]
      exact lm_ok_cons (key2 _ (by rw [e1]; exact List.mem_cons_self)) (fun v hv => key v (List.mem_reverse.mp hv))
    · rw [e2]
      exact fun v hv => key v (List.mem_reverse.mp hv)
    · rw [e2]
      exact lm_ok_cons (key2 _ (by rw [e1]; exact List.mem_cons_self)) (fun v hv => key v (List.mem_reverse.mp hv))
  have hrest : ∀ v ∈ q.2.2.2.1, lm_ok h v := by
    have key2 : ∀ v ∈ st.drop k, lm_ok h v := fun v hv => hvst v (List.mem_of_mem_drop hv)
    rcases hcase with ⟨-, -, a, e1, -⟩ | ⟨-, -, e1, -⟩ | ⟨-, -, a, e1, -⟩
    · exact fun v hv => key2 v (by rw [e1]; exact List.mem_cons_of_mem _ hv)
    · exact fun v hv => key2 v (by rw [e1]; exact hv)
    · exact fun v hv => key2 v (by rw [e1]; exact List.mem_cons_of_mem _ hv)
  have hpc' : ∀ U : State, U.heap = H → s.WarmedH U.vm → lm_Pc D cy B ρ q.2.1 h (q.2.1.map (lm_vm ρ)).toArray U := fun U hU hW =>
    ⟨rfl, lm_V.warm hW V, by rw [hU]; exact G.1, G.2.1, by rw [hU]; exact lm_Old.moved hW hS.2.1 G.2.2.1, by rw [hU]; exact Nat.le_trans hB hS.1, hst_as⟩
  have hcodeW : Cond.code (lm_m q.1).2.1 (lm_m q.1).2.2.1 (lm_m q.1).2.2.2.1 (lm_m q.1).2.2.2.2.1 ∈ lm_ts := List.mem_filter.mpr ⟨hcw, rfl⟩
  have hbase : (lm_nc r.2 - lm_nc h = lm_nc r.2 - lm_nc h) ∧ (lm_ns r.2 - lm_ns h = lm_ns r.2 - lm_ns h) ∧ d + 4 + 1 ≤ R.frames ∧ 8 + ((lm_m q.1).2.2.2.1 + 11) + 100 * (d + 2) ≤ R.locals ∧ (∀ w ∈ [Cond.code (lm_m q.1).2.1 (lm_m q.1).2.2.1 (lm_m q.1).2.2.2.1 (lm_m q.1).2.2.2.2.1], ∀ (a' : Array Value) (U : State), s.WarmedH U.vm → w.before a' U = true) ∧ Cond.code (lm_m q.1).2.1 (lm_m q.1).2.2.1 (lm_m q.1).2.2.2.1 (lm_m q.1).2.2.2.2.1 ∈ [Cond.code (lm_m q.1).2.1 (lm_m q.1).2.2.1 (lm_m q.1).2.2.2.1 (lm_m q.1).2.2.2.2.1] :=
    ⟨rfl, rfl, by omega, by omega, fun w hw a' U hW => by rw [List.mem_singleton.mp hw]; exact (lm_V.warm hW V).1 _ hcodeW a', List.mem_singleton.mpr rfl⟩
  have hcodeB := V.1 _ hcodeW args
  have hiniB := V.1 _ (lm_in hmo.1 rfl) args
  have hsig : ∀ sig, parseMethodDescriptor (lm_m q.1).2.1.desc = some sig → k = sig.parameters.length := fun sig hsg => by
    have h2 := hnp
    unfold lm_np at h2
    rw [hsg] at h2
    exact (Option.some.inj h2).symm
  have htl : (st.take k).reverse.length = k := by rw [List.length_reverse, List.length_take]; omega
  have hsplit : st.map (lm_vm ρ) = ((st.take k).reverse.map (lm_vm ρ)).reverse ++ (st.drop k).map (lm_vm ρ) := by
    rw [← List.map_reverse, List.reverse_reverse, ← List.map_append, List.take_append_drop]
  have hfit : cells + (lm_nc r.2 - lm_nc h) ≤ R.cells ∧ slots + (lm_ns r.2 - lm_ns h) ≤ R.slots := ⟨by omega, by omega⟩
  have hrun : va_Run p l e R s m args below meth c H locs cells slots (lm_nc r.2 - lm_nc h) (lm_ns r.2 - lm_ns h) (F0 m pc sl (st.map (lm_vm ρ))) (q.2.2.2.1.map (lm_vm ρ)) (lm_Qc D cy B ρ h r (q.2.1.map (lm_vm ρ)).toArray) (fun q => B ≤ q) := by
    unfold lm_okc at hok
    dsimp only at hok
    rcases hcase with ⟨rfl, rfl, a, e1, e2, e3⟩ | ⟨hk, rfl, e1, e2⟩ | ⟨hk, rfl, a, e1, e2⟩
    · simp only [Bool.and_eq_true, decide_eq_true_eq] at hok
      have hi : i = .invokevirtual idx := by rcases hop with z | z | z <;> first | exact z.1 | (exact absurd z.2 (by decide))
      subst hi
      obtain rfl : len = 3 := eq_of_beq hln
      obtain ⟨v1, v2, -⟩ := lm_virt_ok _ (hgv rfl)
      rw [e3] at hpc' hmet ⊢
      rw [e1] at hsplit
      have hcell : ∃ cellB : Cell, H[ρ a]? = some cellB ∧ cellB.vm.isStatics = false ∧ s.vm.findClass (lm_m q.1).2.1.cls = some cellB.cls := by
        rw [← hmo.2.2.2.2]
        exact lm_recv V G hgl e2
      have := va_runV (As := (st.take k).reverse.map (lm_vm ρ)) (rest := q.2.2.2.1.map (lm_vm ρ)) (g := F0 m pc sl (st.map (lm_vm ρ))) (e := e) (p := p) (below := below) (meth := meth) (locs := locs) (cells := cells) (slots := slots) ⟨hx, hb, hml, hown, fun w hw => V.1 w hw args⟩ hmet ⟨⟨hbase.1, hbase.2.1, hbase.2.2.1, hbase.2.2.2.1, hbase.2.2.2.2.1, hbase.2.2.2.2.2, hcodeB, hiniB, ⟨hmo.2.2.1, hmo.2.2.2.1⟩, hsig, V.1 _ (lm_in hok.1.1 rfl) args⟩, V.1 _ (lm_in v1 rfl) args, V.1 _ (lm_in v2 rfl) args⟩ ⟨lm_Pc_blind _ _ _ _ _ _, hcell, hpc'⟩ rfl (by rw [List.length_map]; exact htl) hsz hsplit (lv_room hsumr) hd hfit
      exact this
    · have hi : i = .invokestatic idx := by rcases hop with z | z | z <;> first | exact z.1 | (exact absurd z.2 (by decide))
      subst hi
      obtain rfl : len = 3 := eq_of_beq hln
      obtain ⟨v1, -⟩ := lm_stat_ok _ (hgs rfl)
      rw [e2] at hpc' hmet ⊢
      rw [e1] at hsplit
      rcases hk with rfl | rfl
      · simp only [Bool.and_eq_true, decide_eq_true_eq] at hok
        exact va_runS (As := (st.take k).reverse.map (lm_vm ρ)) (rest := q.2.2.2.1.map (lm_vm ρ)) ⟨hx, hb, hml, hown, fun w hw => V.1 w hw args⟩ hmet ⟨⟨hbase.1, hbase.2.1, hbase.2.2.1, hbase.2.2.2.1, hbase.2.2.2.2.1, hbase.2.2.2.2.2, hcodeB, hiniB, ⟨hmo.2.2.1, hmo.2.2.2.1⟩, hsig, V.1 _ (lm_in hok.1.1 rfl) args⟩, V.1 _ (lm_in v1 rfl) args⟩ ⟨lm_Pc_blind _ _ _ _ _ _, hpc'⟩ rfl (by rw [List.length_map]; exact htl) hsz hsplit (lv_room hsumr) hd hfit
      · simp only [Bool.and_eq_true, decide_eq_true_eq] at hok
        exact va_runSN (As := (st.take k).reverse.map (lm_vm ρ)) (rest := q.2.2.2.1.map (lm_vm ρ)) ⟨hx, hb, hml, hown, fun w hw => V.1 w hw args⟩ hmet ⟨⟨⟨hbase.1, hbase.2.1, hbase.2.2.1, hbase.2.2.2.1, hbase.2.2.2.2.1, hbase.2.2.2.2.2⟩, hcodeB, hiniB, ⟨hmo.2.2.1, hmo.2.2.2.1⟩, hsig, V.1 _ (lm_in hok.1.1 rfl) args⟩, V.1 _ (lm_in v1 rfl) args, trivial⟩ ⟨lm_Pc_blind _ _ _ _ _ _, hpc'⟩ rfl (by rw [List.length_map]; exact htl) hsz hsplit (lv_room hsumr) hd hfit
    · have hi : i = .invokespecial idx := by rcases hop with z | z | z <;> first | exact z.1 | (exact absurd z.2 (by decide))
      subst hi
      obtain rfl : len = 3 := eq_of_beq hln
      obtain ⟨v1, v2, v3, -⟩ := lm_inits_ok _ (hgi rfl)
      rw [e2] at hpc' hmet ⊢
      rw [e1] at hsplit
      rw [v3] at hbase hcodeB hmet
      rcases hk with rfl | rfl
      · simp only [Bool.and_eq_true, decide_eq_true_eq] at hok
        exact va_runI (As := (st.take k).reverse.map (lm_vm ρ)) (rest := q.2.2.2.1.map (lm_vm ρ)) ⟨hx, hb, hml, hown, fun w hw => V.1 w hw args⟩ hmet ⟨⟨hbase.1, hbase.2.1, hbase.2.2.1, hbase.2.2.2.1, hbase.2.2.2.2.1, hbase.2.2.2.2.2, hcodeB, hiniB, ⟨hmo.2.2.1, hmo.2.2.2.1⟩, hsig, V.1 _ (lm_in hok.1.1 rfl) args⟩, v2, V.1 _ (lm_in v1 rfl) args⟩ ⟨lm_Pc_blind _ _ _ _ _ _, hpc'⟩ rfl (by rw [List.length_map]; exact htl) hsz hsplit (lv_room hsumr) hd hfit
      · simp only [Bool.and_eq_true, decide_eq_true_eq] at hok
        exact va_runIN (As := (st.take k).reverse.map (lm_vm ρ)) (rest := q.2.2.2.1.map (lm_vm ρ)) ⟨hx, hb, hml, hown, fun w hw => V.1 w hw args⟩ hmet ⟨⟨⟨hbase.1, hbase.2.1, hbase.2.2.1, hbase.2.2.2.1, hbase.2.2.2.2.1, hbase.2.2.2.2.2⟩, hcodeB, hiniB, ⟨hmo.2.2.1, hmo.2.2.2.1⟩, hsig, V.1 _ (lm_in hok.1.1 rfl) args⟩, v2, V.1 _ (lm_in v1 rfl) args⟩ ⟨lm_Pc_blind _ _ _ _ _ _, hpc'⟩ rfl (by rw [List.length_map]; exact htl) hsz hsplit (lv_room hsumr) hd hfit
  refine lm_cgo hrun hS (fun st₀ v t h0 hq => hq.2) (fun v st₀ t H1 locs1 h0 ht hW hq hS1 => ?_)
  obtain ⟨⟨ρ', hag, hv, hWd, hHV, hokv⟩, -⟩ := hq
  rw [ht] at hWd
  have hv' : v = r.1.map (lm_vm ρ') := Outcome.returned.inj hv
  have hok2 : ∀ w, lm_ok h w → lm_ok r.2 w := fun w hw b hb => by rw [hle.1 b (hw b hb)]; exact hw b hb
  have hres : ∀ w ∈ r.1.toList ++ q.2.2.2.1, lm_ok r.2 w := fun w hw => by
    rcases List.mem_append.mp hw with z | z
    · exact hokv w (Option.mem_toList.mp z)
    · exact hok2 w (hrest w z)
  have hG' : lm_G D cy B s ρ' ls (r.1.toList ++ q.2.2.2.1) r.2 H1 locs1 sl :=
    ⟨hWd, hHV, lm_Old.cong G.2.1 hag (fun a ha => (hle.2.1 a ha).1) (fun a ha => (hle.2.1 a ha).2.1) (fun a ha => (hle.2.1 a ha).2.2.1) (fun a ha => (hle.2.1 a ha).2.2.2) G.2.2.1, hS1, lm_L_ag hag G.2.2.2.2.2.1 G.2.2.2.2.1, fun w hw => hok2 w (G.2.2.2.2.2.1 w hw), hres⟩
  have := kk ρ' H1 locs1 hag hG'
  rw [List.map_append, lm_map_ag hag hrest] at this
  rw [hv']
  have e9 : (r.1.map (lm_vm ρ')).toList = r.1.toList.map (lm_vm ρ') := by cases r.1 <;> rfl
  rw [e9]
  exact this
end LMA
/-- THE MAIN THEOREM OF LM -/
theorem lm_ad (D : va_G) (cy : Nat → ClassId) (B : Nat) : ∀ n, lm_AD D cy B n := by
  intro n
  induction n with
  | zero => intro d f pc ls st h r hr; cases hr
  | succ n ih =>
    intro d f pc ls st h r hr hf p l e R s m args below meth c H locs cells slots Q ρ sl Cx V hB G hnl hrm kk
    unfold lm_ex at hr
    split at hr
    · cases hr
    · rename_i q hq
      have hle1 := lm_st_le hq
      have hle2 := lm_ex_le _ _ _ _ _ _ _ _ hr
      have hq0 := hq
      unfold lm_st at hq
      split at hq
      · rename_i i len hlk
        have hmem : (pc, i, len) ∈ (lm_m f).2.2.2.2.2.1 := lm_lookup_mem hlk
        have hd : decode (lm_m f).2.2.1 pc = .ok (i, len) := lm_decs (lm_m f) (lm_m_mem hf) (pc, i, len) hmem
        have hln : lm_lok (pc, i, len) = true := lm_lens (lm_m f) (lm_m_mem hf) (pc, i, len) hmem
        have hls : q.2.1.length = ls.length := lm_st_len hq0
        have a1 := hle1.2.2.1
        have a2 := hle1.2.2.2
        have a3 := hle2.2.2.1
        have a4 := hle2.2.2.2
        refine lm_step Cx hf V hB G hnl hd hln hq ⟨by omega, by omega, by omega, by omega⟩ ?_
        intro ρ' H' locs' sl' cells' slots' hag G' hc hs
        refine ih d f _ _ _ _ r hr hf p l e R s m args below meth c H' locs' cells' slots' Q ρ' sl' Cx V hB G' (hls.trans hnl) ⟨hrm.1, hrm.2.1, by omega, by omega⟩ ?_
        intro pc2 ls2 st2 ρ2 H2 locs2 sl2 cells2 slots2 hst2 hag2 G2 hc2 hs2
        exact kk pc2 ls2 st2 ρ2 H2 locs2 sl2 cells2 slots2 hst2 (fun a ha => by rw [hag2 a (by rw [hle1.1 a ha]; exact ha), hag a ha]) G2 (by omega) (by omega)
      · cases hq
    · rename_i r' hq
      cases hr
      have he := lm_st_ret hq
      have hq2 : lm_st f pc ls st r.2 = some (.inr (.inl r)) := by rw [he]; exact hq
      have G2 : lm_G D cy B s ρ ls st r.2 H locs sl := by rw [he]; exact G
      exact kk pc ls st ρ H locs sl cells slots hq2 (lm_ag_rf h ρ) G2 (by rw [he]) (by rw [he])
    · rename_i q hq
      have heh := lm_st_call hq
      split at hr
      · cases hr
      · rename_i d' 
        split at hr
        · rename_i hlen
          split at hr
          · rename_i r1 h1
            have hle1 := lm_ex_le _ _ _ _ _ _ _ _ h1
            have hle2 := lm_ex_le _ _ _ _ _ _ _ _ hr
            rw [heh] at h1 hle1
            have a1 := hle1.2.2.1
            have a2 := hle1.2.2.2
            have a3 := hle2.2.2.1
            have a4 := hle2.2.2.2
            unfold lm_st at hq
            split at hq
            · rename_i i len hlk
              have hmem : (pc, i, len) ∈ (lm_m f).2.2.2.2.2.1 := lm_lookup_mem hlk
              have hd : decode (lm_m f).2.2.1 pc = .ok (i, len) := lm_decs (lm_m f) (lm_m_mem hf) (pc, i, len) hmem
              have hln : lm_lok (pc, i, len) = true := lm_lens (lm_m f) (lm_m_mem hf) (pc, i, len) hmem
              have hgo : ∀ (idx op : Nat), ((i = .invokevirtual idx ∧ op = 0) ∨ (i = .invokestatic idx ∧ op = 1) ∨ (i = .invokespecial idx ∧ op = 2)) → lm_iv ((lm_kM (lm_m f).1).lookup idx) op pc ls st h = some (.inr (.inr q)) → W p l e R s m args below meth c H locs cells slots Q (F0 m pc sl (st.map (lm_vm ρ))) := by
                intro idx op hop hs
                have hpc : q.2.2.1 = pc + 3 := by
                  obtain ⟨_, _, _, _, hp, _⟩ := lm_iv_call hs
                  exact hp
                refine lm_call ih Cx V hB G hnl hop hd hln hs hlen h1 ⟨by omega, by omega, by omega, by omega⟩ ?_
                intro ρ' H' locs' hag G'
                rw [hpc] at hr
                refine ih (d' + 1) f _ _ _ _ r hr hf p l e R s m args below meth c H' locs' _ _ Q ρ' sl Cx V hB G' hnl ⟨hrm.1, hrm.2.1, by omega, by omega⟩ ?_
                intro pc2 ls2 st2 ρ2 H2 locs2 sl2 cells2 slots2 hst2 hag2 G2 hc2 hs2
                exact kk pc2 ls2 st2 ρ2 H2 locs2 sl2 cells2 slots2 hst2 (fun a ha => by rw [hag2 a (by rw [hle1.1 a ha]; exact ha), hag a ha]) G2 (by omega) (by omega)
              rcases lm_i_call hq with ⟨idx, e1, hs⟩ | ⟨idx, e1, hs⟩ | ⟨idx, e1, hs⟩
              · exact hgo idx 0 (Or.inl ⟨e1, rfl⟩) hs
              · exact hgo idx 1 (Or.inr (Or.inl ⟨e1, rfl⟩)) hs
              · exact hgo idx 2 (Or.inr (Or.inr ⟨e1, rfl⟩)) hs
            · cases hq
          · cases hr
        · cases hr
end
section
/-! LM without a count of steps -/
theorem lm_ex_mono : ∀ (n d f pc : Nat) (ls st : List Value) (h : lm_H) (r : Option Value × lm_H), lm_ex n d f pc ls st h = some r → lm_ex (n + 1) d f pc ls st h = some r := by
  intro n
  induction n with
  | zero => intro d f pc ls st h r hr; cases hr
  | succ n ih =>
    intro d f pc ls st h r hr
    unfold lm_ex at hr ⊢
    split at hr
    · cases hr
    · exact ih _ _ _ _ _ _ _ hr
    · exact hr
    · split at hr
      · cases hr
      · rename_i q hq e
        split at hr
        · rename_i hl
          split at hr
          · rename_i r1 h1
            simp only [if_pos hl, ih _ _ _ _ _ _ _ h1]
            exact ih _ _ _ _ _ _ _ hr
          · cases hr
        · cases hr
theorem lm_ex_le2 {n m d f pc : Nat} {ls st : List Value} {h : lm_H} {r : Option Value × lm_H} (hnm : n ≤ m) (hr : lm_ex n d f pc ls st h = some r) : lm_ex m d f pc ls st h = some r := by
  induction hnm with
  | refl => exact hr
  | step _ ih => exact lm_ex_mono _ _ _ _ _ _ _ _ ih
/-- LM's run comes to r -/
def lm_run (d f pc : Nat) (ls st : List Value) (h : lm_H) (r : Option Value × lm_H) : Prop := ∃ n, lm_ex n d f pc ls st h = some r
/-- a call of a method comes to r -/
def lm_c (d g : Nat) (as : List Value) (h : lm_H) (r : Option Value × lm_H) : Prop := (lm_exp as).length ≤ (lm_m g).2.2.2.1 ∧ lm_run d g 0 (lm_ini (lm_m g).2.2.2.1 as) [] h r
theorem lm_r_nx {d f pc pc' : Nat} {ls ls' st st' : List Value} {h h' : lm_H} {r : Option Value × lm_H} (hs : lm_st f pc ls st h = some (.inl (pc', ls', st', h'))) (k : lm_run d f pc' ls' st' h' r) : lm_run d f pc ls st h r := by
  obtain ⟨n, hn⟩ := k
  refine ⟨n + 1, ?_⟩
  unfold lm_ex
  rw [hs]
  exact hn
theorem lm_r_rt {d f pc : Nat} {ls st : List Value} {h : lm_H} {r : Option Value × lm_H} (hs : lm_st f pc ls st h = some (.inr (.inl r))) : lm_run d f pc ls st h r := by
  refine ⟨1, ?_⟩
  unfold lm_ex
  rw [hs]
theorem lm_r_ca {d f pc g pc' : Nat} {ls st as rest : List Value} {h h0 h1 : lm_H} {v : Option Value} {r : Option Value × lm_H} (hs : lm_st f pc ls st h = some (.inr (.inr (g, as, pc', rest, h0)))) (hc : lm_c d g as h0 (v, h1)) (k : lm_run (d + 1) f pc' ls (v.toList ++ rest) h1 r) : lm_run (d + 1) f pc ls st h r := by
  obtain ⟨hl, n, hn⟩ := hc
  obtain ⟨m, hm⟩ := k
  refine ⟨max n m + 1, ?_⟩
  unfold lm_ex
  rw [hs]
  simp only [if_pos hl, lm_ex_le2 (Nat.le_max_left n m) hn]
  exact lm_ex_le2 (Nat.le_max_right n m) hm
/-- depth: more does no harm -/
theorem lm_ex_dep : ∀ (n d f pc : Nat) (ls st : List Value) (h : lm_H) (r : Option Value × lm_H), lm_ex n d f pc ls st h = some r → lm_ex n (d + 1) f pc ls st h = some r := by
  intro n
  induction n with
  | zero => intro d f pc ls st h r hr; cases hr
  | succ n ih =>
    intro d f pc ls st h r hr
    unfold lm_ex at hr ⊢
    split at hr
    · cases hr
    · exact ih _ _ _ _ _ _ _ hr
    · exact hr
    · split at hr
      · cases hr
      · rename_i q hq e
        split at hr
        · rename_i hl
          split at hr
          · rename_i r1 h1
            simp only [if_pos hl, ih _ _ _ _ _ _ _ h1]
            exact ih _ _ _ _ _ _ _ hr
          · cases hr
        · cases hr
theorem lm_c_dep {d d' g : Nat} {as : List Value} {h : lm_H} {r : Option Value × lm_H} (hd : d ≤ d') (hc : lm_c d g as h r) : lm_c d' g as h r := by
  obtain ⟨hl, n, hn⟩ := hc
  refine ⟨hl, n, ?_⟩
  induction hd with
  | refl => exact hn
  | step _ ih => exact lm_ex_dep _ _ _ _ _ _ _ _ ih
end
section
/-! walking a method in LM: a row an instruction that asks something, one row for a stretch that asks nothing -/
noncomputable def lm_sN : Nat → Nat → Nat → List Value → List Value → lm_H → Option lm_R
  | 0, _, pc, ls, st, h => some (.inl (pc, ls, st, h))
  | n + 1, f, pc, ls, st, h => match lm_st f pc ls st h with
    | some (.inl q) => lm_sN n f q.1 q.2.1 q.2.2.1 q.2.2.2
    | _ => none
theorem lm_r_N0 (n : Nat) {d f pc pc' : Nat} {ls ls' st st' : List Value} {h h' : lm_H} {r : Option Value × lm_H} (hs : lm_sN n f pc ls st h = some (.inl (pc', ls', st', h'))) (k : lm_run d f pc' ls' st' h' r) : lm_run d f pc ls st h r := by
  induction n generalizing pc ls st h with
  | zero =>
    cases hs
    exact k
  | succ n ih =>
    unfold lm_sN at hs
    split at hs
    · rename_i q hq
      exact lm_r_nx (pc' := q.1) (ls' := q.2.1) (st' := q.2.2.1) (h' := q.2.2.2) hq (ih hs)
    · cases hs
theorem lm_r_N (n pc' : Nat) (ls' st' : List Value) {d f pc : Nat} {ls st : List Value} {h : lm_H} {r : Option Value × lm_H} (hs : lm_sN n f pc ls st h = some (.inl (pc', ls', st', h))) (k : lm_run d f pc' ls' st' h r) : lm_run d f pc ls st h r := lm_r_N0 n hs k
theorem lm_st_of {f pc len : Nat} {i : Instr} {ls st : List Value} {h : lm_H} (hi : (lm_m f).2.2.2.2.2.1.lookup pc = some (i, len)) : lm_st f pc ls st h = lm_i f (lm_m f).1 pc i ls st h := by
  unfold lm_st
  rw [hi]
section LWK
variable {d f pc len : Nat} {ls st : List Value} {r : Option Value × lm_H} {hi : Nat → Nat → Int32} {hl : Nat → Nat → Int64} {X : lm_X} {a : Nat}
/-- getfield, an int or a boolean -/
theorem lm_r_gi {idx ci k z : Nat} (h1 : (lm_m f).2.2.2.2.2.1.lookup pc = some (.getfield idx, len)) (h2 : (lm_kF (lm_m f).1).lookup idx = some (ci, k, z)) (h3 : (lm_fk ci k == 1) = false) (hg : X.2.1 a = 10 + ci) (k : lm_run d f (pc + 3) ls (.int (hi a k) :: st) (hi, hl, X) r) : lm_run d f pc ls (.ref a :: st) (hi, hl, X) r := by
  refine lm_r_nx ?_ k
  rw [lm_st_of h1]
  simp only [lm_i, h2, if_pos hg, lm_fv, if_neg (show ¬ lm_fk ci _ = 1 from by simpa using h3)]
/-- getfield, a reference -/
theorem lm_r_gr {idx ci k z b : Nat} (h1 : (lm_m f).2.2.2.2.2.1.lookup pc = some (.getfield idx, len)) (h2 : (lm_kF (lm_m f).1).lookup idx = some (ci, k, z)) (h3 : (lm_fk ci k == 1) = true) (hg : X.2.1 a = 10 + ci) (hb : X.1 a k = some b) (k : lm_run d f (pc + 3) ls (.ref b :: st) (hi, hl, X) r) : lm_run d f pc ls (.ref a :: st) (hi, hl, X) r := by
  refine lm_r_nx ?_ k
  rw [lm_st_of h1]
  simp only [lm_i, h2, if_pos hg, lm_fv, if_pos (show lm_fk ci _ = 1 from by simpa using h3), hb, va_rf]
/-- getfield, null -/
theorem lm_r_g0 {idx ci k z : Nat} (h1 : (lm_m f).2.2.2.2.2.1.lookup pc = some (.getfield idx, len)) (h2 : (lm_kF (lm_m f).1).lookup idx = some (ci, k, z)) (h3 : (lm_fk ci k == 1) = true) (hg : X.2.1 a = 10 + ci) (hb : X.1 a k = none) (k : lm_run d f (pc + 3) ls (.null :: st) (hi, hl, X) r) : lm_run d f pc ls (.ref a :: st) (hi, hl, X) r := by
  refine lm_r_nx ?_ k
  rw [lm_st_of h1]
  simp only [lm_i, h2, if_pos hg, lm_fv, if_pos (show lm_fk ci _ = 1 from by simpa using h3), hb, va_rf]
/-- putfield, an int -/
theorem lm_r_pi {idx ci k z : Nat} {x : Int32} (h1 : (lm_m f).2.2.2.2.2.1.lookup pc = some (.putfield idx, len)) (h2 : (lm_kF (lm_m f).1).lookup idx = some (ci, k, z)) (h3 : (lm_ft ci k == 0) = true) (h4 : lm_pok f (lm_m f).1 ci k = true) (hg : X.2.1 a = 10 + ci) (h64 : 64 ≤ a) (k : lm_run d f (pc + 3) ls st (lm_up hi a k x, hl, X) r) : lm_run d f pc ls (.int x :: .ref a :: st) (hi, hl, X) r := by
  refine lm_r_nx ?_ k
  rw [lm_st_of h1]
  simp only [lm_i, h2, if_pos (show X.2.1 a = 10 + ci ∧ 64 ≤ a ∧ lm_pok f (lm_m f).1 ci _ = true from ⟨hg, h64, h4⟩), lm_put, if_pos (show lm_ft ci _ = 0 from by simpa using h3)]
/-- putfield, a boolean -/
theorem lm_r_pb {idx ci k z : Nat} {x : Int32} (h1 : (lm_m f).2.2.2.2.2.1.lookup pc = some (.putfield idx, len)) (h2 : (lm_kF (lm_m f).1).lookup idx = some (ci, k, z)) (h3 : (lm_ft ci k == 2) = true) (h4 : lm_pok f (lm_m f).1 ci k = true) (hg : X.2.1 a = 10 + ci) (h64 : 64 ≤ a) (hx : x = 0 ∨ x = 1) (k : lm_run d f (pc + 3) ls st (lm_up hi a k x, hl, X) r) : lm_run d f pc ls (.int x :: .ref a :: st) (hi, hl, X) r := by
  refine lm_r_nx ?_ k
  have h3' := eq_of_beq h3
  rw [lm_st_of h1]
  simp only [lm_i, h2, if_pos (show X.2.1 a = 10 + ci ∧ 64 ≤ a ∧ lm_pok f (lm_m f).1 ci _ = true from ⟨hg, h64, h4⟩), lm_put]
  rw [h3']
  rw [if_neg (show ¬ (2 = 0) by decide), if_pos (show 2 = 2 ∧ (x = 0 ∨ x = 1) from ⟨rfl, hx⟩)]
/-- putfield, a reference -/
theorem lm_r_pr {idx ci k z b : Nat} (h1 : (lm_m f).2.2.2.2.2.1.lookup pc = some (.putfield idx, len)) (h2 : (lm_kF (lm_m f).1).lookup idx = some (ci, k, z)) (h3 : (lm_ft ci k == 1) = true) (h4 : lm_pok f (lm_m f).1 ci k = true) (hg : X.2.1 a = 10 + ci) (h64 : 64 ≤ a) (k : lm_run d f (pc + 3) ls st (hi, hl, lm_up X.1 a k (some b), X.2) r) : lm_run d f pc ls (.ref b :: .ref a :: st) (hi, hl, X) r := by
  refine lm_r_nx ?_ k
  rw [lm_st_of h1]
  simp only [lm_i, h2, if_pos (show X.2.1 a = 10 + ci ∧ 64 ≤ a ∧ lm_pok f (lm_m f).1 ci _ = true from ⟨hg, h64, h4⟩), lm_put, if_pos (show lm_ft ci _ = 1 from by simpa using h3)]
theorem lm_r_ia {i : Int32} (h1 : (lm_m f).2.2.2.2.2.1.lookup pc = some (.iaload, len)) (hg : X.2.1 a = 1) {n : Nat} (hn : X.2.2.1 a = n) (hin : vp_in i n) (k : lm_run d f (pc + 1) ls (.int (hi a i.toNatClampNeg) :: st) (hi, hl, X) r) : lm_run d f pc ls (.int i :: .ref a :: st) (hi, hl, X) r := by
  refine lm_r_nx ?_ k
  rw [lm_st_of h1]
  simp only [lm_i, lm_ir, hg, decide_true, true_and]
  exact if_pos (by rw [hn]; exact hin)
theorem lm_r_ba {i : Int32} (h1 : (lm_m f).2.2.2.2.2.1.lookup pc = some (.baload, len)) (hg : X.2.1 a = 8) {n : Nat} (hn : X.2.2.1 a = n) (hin : vp_in i n) (k : lm_run d f (pc + 1) ls (.int (hi a i.toNatClampNeg) :: st) (hi, hl, X) r) : lm_run d f pc ls (.int i :: .ref a :: st) (hi, hl, X) r := by
  refine lm_r_nx ?_ k
  rw [lm_st_of h1]
  simp only [lm_i, lm_ir, hg, decide_true, true_and]
  exact if_pos (by rw [hn]; exact hin)
theorem lm_r_la {i : Int32} (h1 : (lm_m f).2.2.2.2.2.1.lookup pc = some (.laload, len)) (hg : X.2.1 a = 2) {n : Nat} (hn : X.2.2.1 a = n) (hin : vp_in i n) (k : lm_run d f (pc + 1) ls (.long (hl a i.toNatClampNeg) :: st) (hi, hl, X) r) : lm_run d f pc ls (.int i :: .ref a :: st) (hi, hl, X) r := by
  refine lm_r_nx ?_ k
  rw [lm_st_of h1]
  simp only [lm_i, lm_ir, hg, decide_true, true_and]
  exact if_pos (by rw [hn]; exact hin)
theorem lm_r_aa {i : Int32} {b : Nat} (h1 : (lm_m f).2.2.2.2.2.1.lookup pc = some (.aaload, len)) (hg : 4 ≤ X.2.1 a ∧ X.2.1 a ≤ 6) {n : Nat} (hn : X.2.2.1 a = n) (hin : vp_in i n) (hb : X.1 a i.toNatClampNeg = some b) (k : lm_run d f (pc + 1) ls (.ref b :: st) (hi, hl, X) r) : lm_run d f pc ls (.int i :: .ref a :: st) (hi, hl, X) r := by
  refine lm_r_nx ?_ k
  rw [lm_st_of h1]
  simp only [lm_i, lm_ir, hg, hb, va_rf, and_self, decide_true, true_and]
  exact if_pos (by rw [hn]; exact hin)
theorem lm_r_is {i x : Int32} (h1 : (lm_m f).2.2.2.2.2.1.lookup pc = some (.iastore, len)) (hg : X.2.1 a = 1) (h64 : 64 ≤ a) {n : Nat} (hn : X.2.2.1 a = n) (hin : vp_in i n) (k : lm_run d f (pc + 1) ls st (lm_up hi a i.toNatClampNeg x, hl, X) r) : lm_run d f pc ls (.int x :: .int i :: .ref a :: st) (hi, hl, X) r := by
  refine lm_r_nx ?_ k
  rw [lm_st_of h1]
  simp only [lm_i]
  exact if_pos ⟨hg, h64, by show ¬ (i < 0 ∨ X.2.2.1 a ≤ _); rw [hn]; exact hin⟩
theorem lm_r_ls {i : Int32} {x : Int64} (h1 : (lm_m f).2.2.2.2.2.1.lookup pc = some (.lastore, len)) (hg : X.2.1 a = 2) (h64 : 64 ≤ a) {n : Nat} (hn : X.2.2.1 a = n) (hin : vp_in i n) (k : lm_run d f (pc + 1) ls st (hi, lm_up hl a i.toNatClampNeg x, X) r) : lm_run d f pc ls (.long x :: .int i :: .ref a :: st) (hi, hl, X) r := by
  refine lm_r_nx ?_ k
  rw [lm_st_of h1]
  simp only [lm_i]
  exact if_pos ⟨hg, h64, by show ¬ (i < 0 ∨ X.2.2.1 a ≤ _); rw [hn]; exact hin⟩
theorem lm_r_al (h1 : (lm_m f).2.2.2.2.2.1.lookup pc = some (.arraylength, len)) (hg : X.2.1 a ≠ 0 ∧ X.2.1 a < 10) {n : Nat} (hn : X.2.2.1 a = n) (k : lm_run d f (pc + 1) ls (.int (Int32.ofNat n) :: st) (hi, hl, X) r) : lm_run d f pc ls (.ref a :: st) (hi, hl, X) r := by
  refine lm_r_nx ?_ k
  rw [lm_st_of h1]
  subst hn
  simp only [lm_i]
  exact if_pos hg
theorem lm_r_rem {x y : Int32} {h : lm_H} (h1 : (lm_m f).2.2.2.2.2.1.lookup pc = some (.irem, len)) (hy : ¬ y = 0) (k : lm_run d f (pc + 1) ls (.int (x - x / y * y) :: st) h r) : lm_run d f pc ls (.int y :: .int x :: st) h r := by
  refine lm_r_nx ?_ k
  rw [lm_st_of h1]
  simp only [lm_i]
  exact if_neg hy
theorem lm_r_lrem {x y : Int64} {h : lm_H} (h1 : (lm_m f).2.2.2.2.2.1.lookup pc = some (.lrem, len)) (hy : ¬ y = 0) (k : lm_run d f (pc + 1) ls (.long (x - x / y * y) :: st) h r) : lm_run d f pc ls (.long y :: .long x :: st) h r := by
  refine lm_r_nx ?_ k
  rw [lm_st_of h1]
  simp only [lm_i]
  exact if_neg hy
theorem lm_r_ldiv {x y : Int64} {h : lm_H} (h1 : (lm_m f).2.2.2.2.2.1.lookup pc = some (.ldiv, len)) (hy : ¬ y = 0) (k : lm_run d f (pc + 1) ls (.long (x / y) :: st) h r) : lm_run d f pc ls (.long y :: .long x :: st) h r := by
  refine lm_r_nx ?_ k
  rw [lm_st_of h1]
  simp only [lm_i]
  exact if_neg hy
/-- branches; a row a condition: the jump is taken, or not -/
theorem lm_r_icmp_eq {off : Int} {t : Nat} {x y : Int32} {h : lm_H} (h1 : (lm_m f).2.2.2.2.2.1.lookup pc = some (.if_icmp .eq off, len)) (ht : lm_tg pc off = some t) (kt : x = y → lm_run d f t ls st h r) (kf : ¬ x = y → lm_run d f (pc + 3) ls st h r) : lm_run d f pc ls (.int y :: .int x :: st) h r := by
  by_cases hc : x = y
  · refine lm_r_nx ?_ (kt hc)
    rw [lm_st_of h1]
    simp only [lm_i, lm_bt, ht, lm_br]
    exact if_pos hc
  · refine lm_r_nx ?_ (kf hc)
    rw [lm_st_of h1]
    simp only [lm_i, lm_bt, ht, lm_br]
    exact if_neg hc
theorem lm_r_icmp_ne {off : Int} {t : Nat} {x y : Int32} {h : lm_H} (h1 : (lm_m f).2.2.2.2.2.1.lookup pc = some (.if_icmp .ne off, len)) (ht : lm_tg pc off = some t) (kt : ¬ x = y → lm_run d f t ls st h r) (kf : x = y → lm_run d f (pc + 3) ls st h r) : lm_run d f pc ls (.int y :: .int x :: st) h r := by
  by_cases hc : x = y
  · refine lm_r_nx ?_ (kf hc)
    rw [lm_st_of h1]
    simp only [lm_i, lm_bt, ht, lm_br]
    exact if_pos hc
  · refine lm_r_nx ?_ (kt hc)
    rw [lm_st_of h1]
    simp only [lm_i, lm_bt, ht, lm_br]
    exact if_neg hc
theorem lm_r_icmp_lt {off : Int} {t : Nat} {x y : Int32} {h : lm_H} (h1 : (lm_m f).2.2.2.2.2.1.lookup pc = some (.if_icmp .lt off, len)) (ht : lm_tg pc off = some t) (kt : x < y → lm_run d f t ls st h r) (kf : ¬ x < y → lm_run d f (pc + 3) ls st h r) : lm_run d f pc ls (.int y :: .int x :: st) h r := by
  by_cases hc : x < y
  · refine lm_r_nx ?_ (kt hc)
    rw [lm_st_of h1]
    simp only [lm_i, lm_bt, ht, lm_br]
    exact if_pos hc
  · refine lm_r_nx ?_ (kf hc)
    rw [lm_st_of h1]
    simp only [lm_i, lm_bt, ht, lm_br]
    exact if_neg hc
theorem lm_r_icmp_ge {off : Int} {t : Nat} {x y : Int32} {h : lm_H} (h1 : (lm_m f).2.2.2.2.2.1.lookup pc = some (.if_icmp .ge off, len)) (ht : lm_tg pc off = some t) (kt : ¬ x < y → lm_run d f t ls st h r) (kf : x < y → lm_run d f (pc + 3) ls st h r) : lm_run d f pc ls (.int y :: .int x :: st) h r := by
  by_cases hc : x < y
  · refine lm_r_nx ?_ (kf hc)
    rw [lm_st_of h1]
    simp only [lm_i, lm_bt, ht, lm_br]
    exact if_pos hc
  · refine lm_r_nx ?_ (kt hc)
    rw [lm_st_of h1]
    simp only [lm_i, lm_bt, ht, lm_br]
    exact if_neg hc
theorem lm_r_icmp_gt {off : Int} {t : Nat} {x y : Int32} {h : lm_H} (h1 : (lm_m f).2.2.2.2.2.1.lookup pc = some (.if_icmp .gt off, len)) (ht : lm_tg pc off = some t) (kt : y < x → lm_run d f t ls st h r) (kf : ¬ y < x → lm_run d f (pc + 3) ls st h r) : lm_run d f pc ls (.int y :: .int x :: st) h r := by
  by_cases hc : y < x
  · refine lm_r_nx ?_ (kt hc)
    rw [lm_st_of h1]
    simp only [lm_i, lm_bt, ht, lm_br]
    exact if_pos hc
  · refine lm_r_nx ?_ (kf hc)
    rw [lm_st_of h1]
    simp only [lm_i, lm_bt, ht, lm_br]
    exact if_neg hc
theorem lm_r_icmp_le {off : Int} {t : Nat} {x y : Int32} {h : lm_H} (h1 : (lm_m f).2.2.2.2.2.1.lookup pc = some (.if_icmp .le off, len)) (ht : lm_tg pc off = some t) (kt : ¬ y < x → lm_run d f t ls st h r) (kf : y < x → lm_run d f (pc + 3) ls st h r) : lm_run d f pc ls (.int y :: .int x :: st) h r := by
  by_cases hc : y < x
  · refine lm_r_nx ?_ (kf hc)
    rw [lm_st_of h1]
    simp only [lm_i, lm_bt, ht, lm_br]
    exact if_pos hc
  · refine lm_r_nx ?_ (kt hc)
    rw [lm_st_of h1]
    simp only [lm_i, lm_bt, ht, lm_br]
    exact if_neg hc
theorem lm_r_if_eq {off : Int} {t : Nat} {x : Int32} {h : lm_H} (h1 : (lm_m f).2.2.2.2.2.1.lookup pc = some (.ifCond .eq off, len)) (ht : lm_tg pc off = some t) (kt : x = 0 → lm_run d f t ls st h r) (kf : ¬ x = 0 → lm_run d f (pc + 3) ls st h r) : lm_run d f pc ls (.int x :: st) h r := by
  by_cases hc : x = 0
  · refine lm_r_nx ?_ (kt hc)
    rw [lm_st_of h1]
    simp only [lm_i, lm_bt, ht, lm_br]
    exact if_pos hc
  · refine lm_r_nx ?_ (kf hc)
    rw [lm_st_of h1]
    simp only [lm_i, lm_bt, ht, lm_br]
    exact if_neg hc
theorem lm_r_if_ne {off : Int} {t : Nat} {x : Int32} {h : lm_H} (h1 : (lm_m f).2.2.2.2.2.1.lookup pc = some (.ifCond .ne off, len)) (ht : lm_tg pc off = some t) (kt : ¬ x = 0 → lm_run d f t ls st h r) (kf : x = 0 → lm_run d f (pc + 3) ls st h r) : lm_run d f pc ls (.int x :: st) h r := by
  by_cases hc : x = 0
  · refine lm_r_nx ?_ (kf hc)
    rw [lm_st_of h1]
    simp only [lm_i, lm_bt, ht, lm_br]
    exact if_pos hc
  · refine lm_r_nx ?_ (kt hc)
    rw [lm_st_of h1]
    simp only [lm_i, lm_bt, ht, lm_br]
    exact if_neg hc
theorem lm_r_if_lt {off : Int} {t : Nat} {x : Int32} {h : lm_H} (h1 : (lm_m f).2.2.2.2.2.1.lookup pc = some (.ifCond .lt off, len)) (ht : lm_tg pc off = some t) (kt : x < 0 → lm_run d f t ls st h r) (kf : ¬ x < 0 → lm_run d f (pc + 3) ls st h r) : lm_run d f pc ls (.int x :: st) h r := by
  by_cases hc : x < 0
  · refine lm_r_nx ?_ (kt hc)
    rw [lm_st_of h1]
    simp only [lm_i, lm_bt, ht, lm_br]
    exact if_pos hc
  · refine lm_r_nx ?_ (kf hc)
    rw [lm_st_of h1]
    simp only [lm_i, lm_bt, ht, lm_br]
    exact if_neg hc
theorem lm_r_if_ge {off : Int} {t : Nat} {x : Int32} {h : lm_H} (h1 : (lm_m f).2.2.2.2.2.1.lookup pc = some (.ifCond .ge off, len)) (ht : lm_tg pc off = some t) (kt : ¬ x < 0 → lm_run d f t ls st h r) (kf : x < 0 → lm_run d f (pc + 3) ls st h r) : lm_run d f pc ls (.int x :: st) h r := by
  by_cases hc : x < 0
  · refine lm_r_nx ?_ (kf hc)
    rw [lm_st_of h1]
    simp only [lm_i, lm_bt, ht, lm_br]
    exact if_pos hc
  · refine lm_r_nx ?_ (kt hc)
    rw [lm_st_of h1]
    simp only [lm_i, lm_bt, ht, lm_br]
    exact if_neg hc
theorem lm_r_if_gt {off : Int} {t : Nat} {x : Int32} {h : lm_H} (h1 : (lm_m f).2.2.2.2.2.1.lookup pc = some (.ifCond .gt off, len)) (ht : lm_tg pc off = some t) (kt : 0 < x → lm_run d f t ls st h r) (kf : ¬ 0 < x → lm_run d f (pc + 3) ls st h r) : lm_run d f pc ls (.int x :: st) h r := by
  by_cases hc : 0 < x
  · refine lm_r_nx ?_ (kt hc)
    rw [lm_st_of h1]
    simp only [lm_i, lm_bt, ht, lm_br]
    exact if_pos hc
  · refine lm_r_nx ?_ (kf hc)
    rw [lm_st_of h1]
    simp only [lm_i, lm_bt, ht, lm_br]
    exact if_neg hc
theorem lm_r_if_le {off : Int} {t : Nat} {x : Int32} {h : lm_H} (h1 : (lm_m f).2.2.2.2.2.1.lookup pc = some (.ifCond .le off, len)) (ht : lm_tg pc off = some t) (kt : ¬ 0 < x → lm_run d f t ls st h r) (kf : 0 < x → lm_run d f (pc + 3) ls st h r) : lm_run d f pc ls (.int x :: st) h r := by
  by_cases hc : 0 < x
  · refine lm_r_nx ?_ (kf hc)
    rw [lm_st_of h1]
    simp only [lm_i, lm_bt, ht, lm_br]
    exact if_pos hc
  · refine lm_r_nx ?_ (kt hc)
    rw [lm_st_of h1]
    simp only [lm_i, lm_bt, ht, lm_br]
    exact if_neg hc
/-- switches -/
theorem lm_r_ts {dd lo hh : Int} {os : Array Int} {x : Int32} {h : lm_H} {t : Nat} (h1 : (lm_m f).2.2.2.2.2.1.lookup pc = some (.tableswitch dd lo hh os, len)) (h2 : hh - lo + 1 = (os.size : Int) ∧ -2147483648 ≤ lo ∧ hh ≤ 2147483647) (ht : lm_tg pc (lm_sw x lo os.toList dd) = some t) (k : lm_run d f t ls st h r) : lm_run d f pc ls (.int x :: st) h r := by
  refine lm_r_nx ?_ k
  rw [lm_st_of h1]
  simp only [lm_i, if_pos h2, lm_go, ht]
theorem lm_r_ks {dd : Int} {ps : Array (Int × Int)} {x : Int32} {h : lm_H} {t : Nat} (h1 : (lm_m f).2.2.2.2.2.1.lookup pc = some (.lookupswitch dd ps, len)) (h2 : (ps.toList.zip (ps.toList.drop 1)).all (fun (a, next) => a.1 < next.1) = true ∧ ps.toList.all (fun q => decide (-2147483648 ≤ q.1 ∧ q.1 ≤ 2147483647)) = true) (ht : lm_tg pc (lm_lk x ps.toList dd) = some t) (k : lm_run d f t ls st h r) : lm_run d f pc ls (.int x :: st) h r := by
  refine lm_r_nx ?_ k
  rw [lm_st_of h1]
  simp only [lm_i, if_pos h2, lm_go, ht]
/-- returns -/
theorem lm_r_ri {x : Int32} {h : lm_H} (h1 : (lm_m f).2.2.2.2.2.1.lookup pc = some (.ireturn, len)) (h2 : (lm_m f).2.2.2.2.1 = some .int) (he : (some (.int x), h) = r) : lm_run d f pc ls [.int x] h r := by
  subst he
  refine lm_r_rt ?_
  rw [lm_st_of h1]
  simp only [lm_i, h2]
theorem lm_r_rz {x : Int32} {h : lm_H} (h1 : (lm_m f).2.2.2.2.2.1.lookup pc = some (.ireturn, len)) (h2 : (lm_m f).2.2.2.2.1 = some .boolean) (hx : x = 0 ∨ x = 1) (he : (some (.int x), h) = r) : lm_run d f pc ls [.int x] h r := by
  subst he
  refine lm_r_rt ?_
  rw [lm_st_of h1]
  simp only [lm_i, h2]
  rcases hx with rfl | rfl <;> rfl
theorem lm_r_rl {x : Int64} {h : lm_H} (h1 : (lm_m f).2.2.2.2.2.1.lookup pc = some (.lreturn, len)) (h2 : (lm_m f).2.2.2.2.1 = some .long) (he : (some (.long x), h) = r) : lm_run d f pc ls [.long x] h r := by
  subst he
  refine lm_r_rt ?_
  rw [lm_st_of h1]
  simp only [lm_i, h2]
theorem lm_r_rv {h : lm_H} (h1 : (lm_m f).2.2.2.2.2.1.lookup pc = some (.return_, len)) (h2 : (lm_m f).2.2.2.2.1 = none) (he : (none, h) = r) : lm_run d f pc ls [] h r := by
  subst he
  refine lm_r_rt ?_
  rw [lm_st_of h1]
  simp only [lm_i, h2]
end LWK
theorem lm_by {x : Int32} (c : Int32) {P : Prop} (h1 : x = c → P) (h2 : ¬ x = c → P) : P := if h : x = c then h1 h else h2 h
end
section
/-! contracts of AwakeByHalves$State (made by wip/gen/gen19.py) -/
def b2i (p : Prop) [Decidable p] : Int32 := if p then 1 else 0
theorem b2i_pos {p : Prop} [Decidable p] (h : p) : b2i p = 1 := if_pos h
theorem b2i_neg {p : Prop} [Decidable p] (h : ¬ p) : b2i p = 0 := if_neg h
theorem b2i_or (p : Prop) [Decidable p] : b2i p = 0 ∨ b2i p = 1 := by unfold b2i; split <;> simp
def s_marks (s : Int32) : Int32 := s &&& 255
def s_stand (s m : Int32) : Prop := ¬ (s >>> (m &&& 31)) &&& 1 = 0
def s_turn (s m : Int32) : Int32 := s ^^^ (1 <<< (m &&& 31))
def s_count (s c : Int32) : Int32 := (s >>> ((8 + c * 5) &&& 31)) &&& 31
def s_with (s c v : Int32) : Int32 := (s &&& ((31 <<< ((8 + c * 5) &&& 31)) ^^^ (-1))) ||| (v <<< ((8 + c * 5) &&& 31))
def s_awake (s : Int32) : Int32 := (s >>> (28 &&& 31)) &&& 1
def s_next (s : Int32) : Int32 := s ^^^ 268435456
theorem c_X4_marksIn {d : Nat} {hi : Nat → Nat → Int32} {hl : Nat → Nat → Int64} {X : lm_X} {s : Int32} : lm_c d 28 [.int s] (hi, hl, X) (some (.int (s_marks s)), (hi, hl, X)) := by
  refine ⟨Nat.le_of_ble_eq_true rfl, ?_⟩
  show lm_run d 28 0 [.int s] [] (hi, hl, X) _
  refine lm_r_N 3 5 [.int s] [.int (s &&& 255)] rfl ?_
  refine lm_r_ri rfl rfl ?_
  rfl
theorem c_X4_awakeIn {d : Nat} {hi : Nat → Nat → Int32} {hl : Nat → Nat → Int64} {X : lm_X} {s : Int32} : lm_c d 34 [.int s] (hi, hl, X) (some (.int (s_awake s)), (hi, hl, X)) := by
  refine ⟨Nat.le_of_ble_eq_true rfl, ?_⟩
  show lm_run d 34 0 [.int s] [] (hi, hl, X) _
  refine lm_r_N 5 6 [.int s] [.int ((s >>> (28 &&& 31)) &&& 1)] rfl ?_
  refine lm_r_ri rfl rfl ?_
  rfl
theorem c_X4_turned {d : Nat} {hi : Nat → Nat → Int32} {hl : Nat → Nat → Int64} {X : lm_X} {s m : Int32} : lm_c d 30 [.int s, .int m] (hi, hl, X) (some (.int (s_turn s m)), (hi, hl, X)) := by
  refine ⟨Nat.le_of_ble_eq_true rfl, ?_⟩
  show lm_run d 30 0 [.int s, .int m] [] (hi, hl, X) _
  refine lm_r_N 5 5 [.int s, .int m] [.int (s ^^^ (1 <<< (m &&& 31)))] rfl ?_
  refine lm_r_ri rfl rfl ?_
  rfl
theorem c_X4_countIn {d : Nat} {hi : Nat → Nat → Int32} {hl : Nat → Nat → Int64} {X : lm_X} {s c : Int32} : lm_c d 31 [.int s, .int c] (hi, hl, X) (some (.int (s_count s c)), (hi, hl, X)) := by
  refine ⟨Nat.le_of_ble_eq_true rfl, ?_⟩
  show lm_run d 31 0 [.int s, .int c] [] (hi, hl, X) _
  refine lm_r_N 9 11 [.int s, .int c] [.int ((s >>> ((8 + (c * 5)) &&& 31)) &&& 31)] rfl ?_
  refine lm_r_ri rfl rfl ?_
  rfl
theorem c_X4_withCount {d : Nat} {hi : Nat → Nat → Int32} {hl : Nat → Nat → Int64} {X : lm_X} {s c v : Int32} : lm_c d 32 [.int s, .int c, .int v] (hi, hl, X) (some (.int (s_with s c v)), (hi, hl, X)) := by
  refine ⟨Nat.le_of_ble_eq_true rfl, ?_⟩
  show lm_run d 32 0 [.int s, .int c, .int v, lm_jk] [] (hi, hl, X) _
  refine lm_r_N 17 19 [.int s, .int c, .int v, .int (8 + (c * 5))] [.int ((s &&& ((31 <<< ((8 + (c * 5)) &&& 31)) ^^^ (-1))) ||| (v <<< ((8 + (c * 5)) &&& 31)))] rfl ?_
  refine lm_r_ri rfl rfl ?_
  rfl
theorem c_X4_nextDay {d : Nat} {hi : Nat → Nat → Int32} {hl : Nat → Nat → Int64} {X : lm_X} {s : Int32} : lm_c d 35 [.int s] (hi, hl, X) (some (.int (s_next s)), (hi, hl, X)) := by
  refine ⟨Nat.le_of_ble_eq_true rfl, ?_⟩
  show lm_run d 35 0 [.int s] [] (hi, hl, X) _
  refine lm_r_N 3 4 [.int s] [.int (s ^^^ 268435456)] rfl ?_
  refine lm_r_ri rfl rfl ?_
  rfl
end
section
def lm_sts : List (String × Nat × String × List Int32) := [("AwakeByHalves$Tape", 49, "act", [97, 99, 116]), ("AwakeByHalves$Tape", 103, "need", [110, 101, 101, 100]), ("AwakeByHalves$Tape", 109, "bar", [98, 97, 114]), ("AwakeByHalves$Tape", 58, "mark", [109, 97, 114, 107]), ("AwakeByHalves$Tape", 63, "count", [99, 111, 117, 110, 116]), ("AwakeByHalves$Tape", 68, "likes", [108, 105, 107, 101, 115]), ("AwakeByHalves$Tape", 74, "hates", [104, 97, 116, 101, 115]), ("AwakeByHalves$Tape", 76, "counts", [99, 111, 117, 110, 116, 115]), ("AwakeByHalves$Tape", 81, "costs", [99, 111, 115, 116, 115]), ("AwakeByHalves$Tape", 83, "hides", [104, 105, 100, 101, 115]), ("AwakeByHalves$Tape", 88, "locks", [108, 111, 99, 107, 115]), ("AwakeByHalvesModel", 193, "act", [97, 99, 116]), ("AwakeByHalvesModel", 201, "need", [110, 101, 101, 100]), ("AwakeByHalvesModel", 203, "bar", [98, 97, 114]), ("AwakeByHalvesModel", 208, "mark", [109, 97, 114, 107]), ("AwakeByHalvesModel", 210, "count", [99, 111, 117, 110, 116]), ("AwakeByHalvesModel", 212, "likes", [108, 105, 107, 101, 115]), ("AwakeByHalvesModel", 218, "hates", [104, 97, 116, 101, 115]), ("AwakeByHalvesModel", 220, "counts", [99, 111, 117, 110, 116, 115]), ("AwakeByHalvesModel", 221, "costs", [99, 111, 115, 116, 115]), ("AwakeByHalvesModel", 223, "hides", [104, 105, 100, 101, 115]), ("AwakeByHalvesModel", 225, "locks", [108, 111, 99, 107, 115])]
def lm_so (i : Nat) : String × Nat × String × List Int32 := lm_sts.getD i ("", 0, "", [])
def lm_ra : List Int32 := [-1, 0, 1, 0, 2, 1, 0]
/-- LM's heap at the law's entry: the script of L ints, the texts, RULE_ABOVE -/
def lm_h0 (L : Nat) (xs : Nat → Int32) : lm_H :=
  (fun a j => if a = 0 then xs j else if 31 ≤ a ∧ a < 53 then (lm_so (a - 31)).2.2.2.getD j 0 else if a = 60 then lm_ra.getD j 0 else 0,
   fun _ _ => 0,
   fun a j => if 1 ≤ a ∧ a < 23 ∧ j = 0 then some (a + 30) else none,
   fun a => if a = 0 then 1 else if 1 ≤ a ∧ a < 23 then 40 else if 31 ≤ a ∧ a < 53 then 8 else if a = 60 then 1 else 0,
   fun a => if a = 0 then L else if 31 ≤ a ∧ a < 53 then (lm_so (a - 31)).2.2.2.length else if a = 60 then 7 else 0,
   64, 0, 0)
theorem lm_ts_any {w : Jvm.Cond} (hg : lm_gw w = true) {s : State} {A : Array Value} (h : w.before A s = true) (a : Array Value) : w.before a s = true := by
  have key : goodWord w = true → w.before a s = true := fun hq => word_at (State.WarmedH.refl s) (good_of_word hq) h
  cases w <;> first
    | exact va_Nw.use rfl (va_Nw.of rfl h)
    | exact key hg
theorem lm_arrOf {s : State} {ty : FieldType} {A : Array Value} (h : (Cond.arrayClass ty).before A s = true) : ∃ c : ClassId, ArrOfT s c ty ∧ s.vm.findClass ("[" ++ ty.toString) = some c := by
  obtain ⟨c, k, comp, h1, h2, h3⟩ := Cond.arrayClass_spec h
  exact ⟨c, fun n z => ⟨fun q hq => (by cases hq), k, h2, comp, h3⟩, h1⟩
theorem lm_str1 {args : Array Value} {s : State} {tm : Term} {n : Nat} {byt : List Int32} {A : Nat → Prop} (hN : n < 2 ^ 31) (hex : (Cond.exactly tm "java/lang/String").before args s = true) (hco : (Cond.eq (.field tm "java/lang/String" "coder" "B") (.int 0)).before args s = true)
    (har : (Cond.arrayOf (.field tm "java/lang/String" "value" "[B") .byte).before args s = true) (hle : (Cond.eq (.length (.field tm "java/lang/String" "value" "[B")) (.int (Int32.ofNat n))).before args s = true)
    (hel : ∀ j : Nat, j < n → (Cond.eq (.elem (.field tm "java/lang/String" "value" "[B") (.int (Int32.ofNat j))) (.int (byt.getD j 0))).before args s = true) (hA : ∀ a : Nat, a < s.heap.size → ¬ A a) :
    ∃ q : Nat × Nat, tm.eval args s none [] s = some (.ref q.1) ∧ va_O "java/lang/String" q.1 A s s.heap ∧ va_OF "java/lang/String" "coder" "B" (.int 0) q.1 A s s.heap ∧ va_OF "java/lang/String" "value" "[B" (.ref q.2) q.1 A s s.heap ∧ va_T .byte q.2 n (fun j => .int (byt.getD j 0)) A s s.heap := by
  obtain ⟨a, c, cA, kA, q1, q2, q3, q4, q5, q6, -⟩ := Cond.exactly_spec (args := args) (first := s) (o := none) (s := s) (idx := []) (t := tm) (cls := "java/lang/String") hex
  obtain ⟨t, ht, hT⟩ := va_Tof (f := fun j => .int (byt.getD j 0)) (A := A) hN har (va_eqt hle) (fun j hj => va_eqt (hel j hj)) hA
  exact ⟨(a, t), q1, ⟨cA, q3, q5, by rw [q6]; exact q2, hA a (Array.getElem?_eq_some_iff.mp q3).1⟩, vk_OFof q1 (va_eqt hco) hA, vk_OFof q1 ht hA, hT⟩
def lm_nar : Jvm.Cond := Jvm.Cond.and given_1 narrow_1
def lm_tm (i : Nat) : Term := .string (lm_so i).1 (lm_so i).2.1
set_option maxRecDepth 100000 in
theorem lm_sw1 : ∀ i, i < 22 → Cond.exactly (lm_tm i) "java/lang/String" ∈ flatC lm_nar := by decide +kernel
set_option maxRecDepth 100000 in
theorem lm_sw2 : ∀ i, i < 22 → Cond.eq (.field (lm_tm i) "java/lang/String" "coder" "B") (.int 0) ∈ flatC lm_nar := by decide +kernel
set_option maxRecDepth 100000 in
theorem lm_sw3 : ∀ i, i < 22 → Cond.arrayOf (.field (lm_tm i) "java/lang/String" "value" "[B") .byte ∈ flatC lm_nar := by decide +kernel
set_option maxRecDepth 100000 in
theorem lm_sw4 : ∀ i, i < 22 → Cond.eq (.length (.field (lm_tm i) "java/lang/String" "value" "[B")) (.int (Int32.ofNat (lm_so i).2.2.2.length)) ∈ flatC lm_nar := by decide +kernel
set_option maxRecDepth 100000 in
theorem lm_sw5 : ∀ i, i < 22 → ∀ j, j < (lm_so i).2.2.2.length → Cond.eq (.elem (.field (lm_tm i) "java/lang/String" "value" "[B") (.int (Int32.ofNat j))) (.int ((lm_so i).2.2.2.getD j 0)) ∈ flatC lm_nar := by decide +kernel
set_option maxRecDepth 100000 in
theorem lm_sw6 : ∀ i, i < 22 → Cond.stringRef (lm_so i).1 (lm_so i).2.1 (lm_so i).2.2.1 ∈ lw_tbl ∧ (lm_so i).2.2.2.length < 2 ^ 31 := by decide +kernel
set_option maxRecDepth 100000 in
theorem lm_ra1 : Cond.arrayOf (.static "AwakeByHalves" "RULE_ABOVE" "[I") .int ∈ flatC lm_nar ∧ Cond.eq (.length (.static "AwakeByHalves" "RULE_ABOVE" "[I")) (.int 7) ∈ flatC lm_nar ∧ (∀ j, j < 7 → Cond.eq (.elem (.static "AwakeByHalves" "RULE_ABOVE" "[I") (.int (Int32.ofNat j))) (.int (lm_ra.getD j 0)) ∈ flatC lm_nar) ∧ Cond.eq (.static "java/lang/String" "COMPACT_STRINGS" "Z") (.int 1) ∈ flatC lm_nar ∧ Cond.isRef (.static "jdk/internal/util/Preconditions" "SIOOBE_FORMATTER" "Ljava/util/function/BiFunction;") ∈ flatC lm_nar := by decide +kernel
set_option maxRecDepth 100000 in
theorem lm_ra2 : Cond.laysStatic "AwakeByHalves" "RULE_ABOVE" "[I" ∈ lw_tbl ∧ Cond.laysStatic "java/lang/String" "COMPACT_STRINGS" "Z" ∈ lw_tbl ∧ Cond.laysStatic "jdk/internal/util/Preconditions" "SIOOBE_FORMATTER" "Ljava/util/function/BiFunction;" ∈ lw_tbl ∧ Cond.initialized "AwakeByHalves" ∈ lw_tbl ∧ Cond.initialized "java/lang/String" ∈ lw_tbl ∧ Cond.initialized "jdk/internal/util/Preconditions" ∈ lw_tbl ∧ Cond.arrayOver (.object "AwakeByHalves$Shelf") ∈ lw_tbl ∧ Cond.arrayOver (.array .int) ∈ lw_tbl ∧ Cond.arrayOver (.array .long) ∈ lw_tbl := by decide +kernel
/-- which text an entry of kV is -/
def lm_kvc (c : Nat) (q : Nat × Value × Nat) : Bool := match q.2.1 with
  | .ref k => decide (1 ≤ k ∧ k < 23) && decide ((lm_so (k - 1)).1 = lm_own c ∧ (lm_so (k - 1)).2.1 = q.1)
  | _ => true
set_option maxRecDepth 100000 in
theorem lm_kvc_0 : ∀ q ∈ lm_kV_0, lm_kvc 0 q = true := by decide +kernel
set_option maxRecDepth 100000 in
theorem lm_kvc_1 : ∀ q ∈ lm_kV_1, lm_kvc 1 q = true := by decide +kernel
set_option maxRecDepth 100000 in
theorem lm_kvc_2 : ∀ q ∈ lm_kV_2, lm_kvc 2 q = true := by decide +kernel
set_option maxRecDepth 100000 in
theorem lm_kvc_3 : ∀ q ∈ lm_kV_3, lm_kvc 3 q = true := by decide +kernel
set_option maxRecDepth 100000 in
theorem lm_kvc_4 : ∀ q ∈ lm_kV_4, lm_kvc 4 q = true := by decide +kernel
set_option maxRecDepth 100000 in
theorem lm_kvc_5 : ∀ q ∈ lm_kV_5, lm_kvc 5 q = true := by decide +kernel
set_option maxRecDepth 100000 in
theorem lm_kvc_6 : ∀ q ∈ lm_kV_6, lm_kvc 6 q = true := by decide +kernel
set_option maxRecDepth 100000 in
theorem lm_kvc_7 : ∀ q ∈ lm_kV_7, lm_kvc 7 q = true := by decide +kernel
set_option maxRecDepth 100000 in
theorem lm_kvc_8 : ∀ q ∈ lm_kV_8, lm_kvc 8 q = true := by decide +kernel
set_option maxRecDepth 100000 in
theorem lm_kvc_9 : ∀ q ∈ lm_kV_9, lm_kvc 9 q = true := by decide +kernel
set_option maxRecDepth 100000 in
theorem lm_kvc_10 : ∀ q ∈ lm_kV_10, lm_kvc 10 q = true := by decide +kernel
set_option maxRecDepth 100000 in
theorem lm_kvc_11 : ∀ q ∈ lm_kV_11, lm_kvc 11 q = true := by decide +kernel
set_option maxRecDepth 100000 in
theorem lm_kvc_12 : ∀ q ∈ lm_kV_12, lm_kvc 12 q = true := by decide +kernel
set_option maxRecDepth 100000 in
theorem lm_kvc_13 : ∀ q ∈ lm_kV_13, lm_kvc 13 q = true := by decide +kernel
set_option maxRecDepth 100000 in
theorem lm_kvc_14 : ∀ q ∈ lm_kV_14, lm_kvc 14 q = true := by decide +kernel
theorem lm_kvc_all (c : Nat) : ∀ q ∈ lm_kV c, lm_kvc c q = true := by
  unfold lm_kV
  match c with
  | 0 => exact lm_kvc_0
  | 1 => exact lm_kvc_1
  | 2 => exact lm_kvc_2
  | 3 => exact lm_kvc_3
  | 4 => exact lm_kvc_4
  | 5 => exact lm_kvc_5
  | 6 => exact lm_kvc_6
  | 7 => exact lm_kvc_7
  | 8 => exact lm_kvc_8
  | 9 => exact lm_kvc_9
  | 10 => exact lm_kvc_10
  | 11 => exact lm_kvc_11
  | 12 => exact lm_kvc_12
  | 13 => exact lm_kvc_13
  | 14 => exact lm_kvc_14
  | n + 15 => exact fun q h => absurd h (by simp)
theorem lm_kvc_nat {c : Nat} {q : Nat × Value × Nat} {k : Nat} (hkc : lm_kvc c q = true) (hk : q.2.1 = .ref k) : 1 ≤ k ∧ k < 23 ∧ k < 64 ∧ k - 1 < 22 ∧ ¬ k = 0 ∧ (lm_so (k - 1)).1 = lm_own c ∧ (lm_so (k - 1)).2.1 = q.1 := by
  unfold lm_kvc at hkc
  rw [hk] at hkc
  have h9 : (decide (1 ≤ k ∧ k < 23) && decide ((lm_so (k - 1)).1 = lm_own c ∧ (lm_so (k - 1)).2.1 = q.1)) = true := hkc
  rw [Bool.and_eq_true] at h9
  have h1 := of_decide_eq_true h9.1
  have h2 := of_decide_eq_true h9.2
  exact ⟨h1.1, h1.2, by omega, by omega, by omega, h2.1, h2.2⟩
set_option maxRecDepth 100000 in
theorem lm_law_lt : 0 < lm_mt.length := by decide +kernel
def lm_r0 (b t : Nat) (ad : Nat → Nat × Nat) : Nat → Nat := fun a => if a = 0 then b else if 1 ≤ a ∧ a < 23 then (ad (a - 1)).1 else if 31 ≤ a ∧ a < 53 then (ad (a - 31)).2 else t
/-- THE LAW'S START, out of LM's run of it -/
theorem lm_start (hrun : ∀ (L : Nat) (xs : Nat → Int32), L ≤ 3584 → ∃ (n : Nat) (h1 : lm_H), lm_ex n 60 0 0 [.ref 0, lm_jk, lm_jk, lm_jk] [] (lm_h0 L xs) = some (some (.int 1), h1) ∧ lm_nc h1 ≤ 600000 ∧ lm_ns h1 ≤ 7302250)
    {p : Program} {e : Env} {s : State} {m : MethodId} {below : List Frame} {meth : Method} {c : Code} (l : Launch) {b L : Nat} {xs : Nat → Int32} (hL : L ≤ 3584) (C0 : lw_At p s m meth c b L xs) :
    W p l e room_1 s m #[Value.ref b] below meth c s.heap [] 0 0 (lw_Z below #[Value.ref b] s) (entryFrame m ([Value.ref b] : List Value).toArray 4) := by
  obtain ⟨hx, hb, hr, hml, hown, hts, hX, hbl, hlocks, hgv⟩ := id C0
  obtain ⟨n, h1, hex, hnc, hns⟩ := hrun L xs hL
  have hflat := flat_of_before lm_nar hgv
  have hA : ∀ a : Nat, a < s.heap.size → ¬ (fun q : Nat => s.heap.size ≤ q) a := fun a ha => Nat.not_le.mpr ha
  obtain ⟨k1, k2, k3, k4, k5⟩ := lm_ra1
  obtain ⟨j1, j2, j3, j4, j5, j6, j7, j8, j9⟩ := lm_ra2
  -- classes
  have hkn : ∀ ci, ci < 8 → ∃ (cC : ClassId) (iS : Nat → Nat), u_Kn s (lm_cl ci).1 (lm_cl ci).2.1 (lm_cl ci).2.2 cC iS := fun ci hci =>
    u_known (n := (lm_cl ci).2.2) hts (fun w hw => (List.mem_filter.mp (lm_us_all hci w hw)).1) (hts _ (lm_new_words ci hci).1)
  have hkn2 : ∀ ci, ∃ q : ClassId × (Nat → Nat), ci < 8 → u_Kn s (lm_cl ci).1 (lm_cl ci).2.1 (lm_cl ci).2.2 q.1 q.2 := fun ci => by
    by_cases hci : ci < 8
    · obtain ⟨cC, iS, hq⟩ := hkn ci hci
      exact ⟨(cC, iS), fun _ => hq⟩
    · exact ⟨(0, fun _ => 0), fun z => absurd z hci⟩
  obtain ⟨dd, hdd⟩ := Classical.axiomOfChoice hkn2
  obtain ⟨y1, a1, f1⟩ := lm_arrOf (hts _ lm_arr_words.1)
  obtain ⟨y2, a2, f2⟩ := lm_arrOf (hts _ lm_arr_words.2)
  obtain ⟨p4, y4, q4, s1, -, s3, s4, s5⟩ := Cond.arrayOver_spec (hts _ j7)
  obtain ⟨p5, y5, q5, t1, -, t3, t4, t5⟩ := Jvm.Stand.arrayOver_specB (hts _ j8)
  obtain ⟨p6, y6, q6, u1, -, u3, u4, u5⟩ := Jvm.Stand.arrayOver_specB (hts _ j9)
  generalize hcy : (fun k : Nat => if k = 1 then y1 else if k = 2 then y2 else if k = 4 then y4 else if k = 5 then y5 else y6) = cy
  have hK : va_K (fun ci => (dd ci).1, fun ci => (dd ci).2) vwCl (lm_tys cy) s := by
    refine ⟨fun ci q hq => ?_, fun k q hq => ?_⟩
    · have hci : ci < 8 := (List.getElem?_eq_some_iff.mp hq).1
      have := hdd ci hci
      rw [lm_cl_get hci] at hq
      cases hq
      exact this
    · subst hcy
      match k, hq with
      | 0, hq => cases hq; exact ⟨a1, f1⟩
      | 1, hq => cases hq; exact ⟨a2, f2⟩
      | 2, hq => cases hq; exact ⟨fun N z => ⟨(fun k h => by cases h), q4, s3, p4, s4⟩, q4, p4, s3, s4, s1, s5⟩
      | 3, hq => cases hq; exact ⟨fun N z => ⟨(fun k h => by cases h), q5, t3, p5, t4⟩, t5⟩
      | 4, hq => cases hq; exact ⟨fun N z => ⟨(fun k h => by cases h), q6, u3, p6, u4⟩, u5⟩
      | k + 5, hq => simp [lm_tys] at hq
  have V : lm_V (fun ci => (dd ci).1, fun ci => (dd ci).2) cy s :=
    ⟨fun w hw a => lm_ts_any (List.mem_filter.mp hw).2 (hts w (List.mem_filter.mp hw).1) a, hK, hts _ j7, hts _ j8, hts _ j9⟩
  -- old cells
  obtain ⟨t, ht, hT⟩ := va_Tof (N := 7) (f := fun j => .int (lm_ra.getD j 0)) (A := fun q : Nat => s.heap.size ≤ q) (by decide) (hflat _ k1) (va_eqt (hflat _ k2)) (fun j hj => va_eqt (hflat _ (k3 j hj))) hA
  have hstr : ∀ i : Nat, ∃ q : Nat × Nat, i < 22 → (lm_tm i).eval #[Value.ref b] s none [] s = some (.ref q.1) ∧ va_O "java/lang/String" q.1 (fun q : Nat => s.heap.size ≤ q) s s.heap ∧ va_OF "java/lang/String" "coder" "B" (.int 0) q.1 (fun q : Nat => s.heap.size ≤ q) s s.heap ∧ va_OF "java/lang/String" "value" "[B" (.ref q.2) q.1 (fun q : Nat => s.heap.size ≤ q) s s.heap ∧ va_T .byte q.2 (lm_so i).2.2.2.length (fun j => .int ((lm_so i).2.2.2.getD j 0)) (fun q : Nat => s.heap.size ≤ q) s s.heap := fun i => by
    by_cases hi : i < 22
    · obtain ⟨q, hq⟩ := lm_str1 (lm_sw6 i hi).2 (hflat _ (lm_sw1 i hi)) (hflat _ (lm_sw2 i hi)) (hflat _ (lm_sw3 i hi)) (hflat _ (lm_sw4 i hi)) (fun j hj => hflat _ (lm_sw5 i hi j hj)) hA
      exact ⟨q, fun _ => hq⟩
    · exact ⟨(0, 0), fun z => absurd z hi⟩
  obtain ⟨ad, had⟩ := Classical.axiomOfChoice hstr
  have r0 : lm_r0 b t ad 0 = b := if_pos rfl
  have rK : ∀ a, 1 ≤ a → a < 23 → lm_r0 b t ad a = (ad (a - 1)).1 := fun a ha hb0 => by
    unfold lm_r0
    rw [if_neg (by omega), if_pos ⟨ha, hb0⟩]
  have rV : ∀ a, 31 ≤ a → a < 53 → lm_r0 b t ad a = (ad (a - 31)).2 := fun a ha hb0 => by
    unfold lm_r0
    rw [if_neg (by omega), if_neg (by omega), if_pos ⟨ha, hb0⟩]
  have rR : lm_r0 b t ad 60 = t := by
    unfold lm_r0
    rw [if_neg (by omega), if_neg (by omega), if_neg (by omega)]
  have hkd : ∀ a, lm_kd (lm_h0 L xs) a = if a = 0 then 1 else if 1 ≤ a ∧ a < 23 then 40 else if 31 ≤ a ∧ a < 53 then 8 else if a = 60 then 1 else 0 := fun a => rfl
  have hHV : lm_HV (lm_h0 L xs) := by
    refine ⟨fun a j d ha hd => ?_, fun a ha h0 => ?_, fun a ha => ?_⟩
    · have hd' : (if 1 ≤ a ∧ a < 23 ∧ j = 0 then some (a + 30) else none) = some d := hd
      split at hd'
      · rename_i hc
        cases hd'
        rw [hkd, if_neg (by omega), if_neg (by omega), if_pos (by omega)]
        decide
      · cases hd'
    · rw [hkd, if_neg (by omega), if_neg (by omega), if_neg (by omega), if_neg (by omega)] at h0
      exact absurd rfl h0
    · rw [hkd]
      repeat' split
      all_goals simp
  have hO : lm_Old s.heap.size (lm_r0 b t ad) (lm_h0 L xs) s s.heap := by
    refine ⟨fun a ha hk => ?_, fun a ha hk => ?_, fun a ha hk => ?_, va_Zof (hts _ j2) (hts _ j5) (va_eqi (hflat _ k4)) hA, ⟨rfl, ?_⟩, va_Zqof (hts _ j3) (hts _ j6) (hflat _ k5) hA, fun c0 q hm k hk => ?_⟩
    · rw [hkd] at hk
      by_cases h0 : a = 0
      · subst h0
        rw [r0]
        obtain ⟨scr, x1, x2, x3, x4, x5⟩ := hX
        exact ⟨scr, x1, x2, x3, by rw [x4]; exact Nat.le_refl _, by rw [x4]; rfl, fun j hj => x5 j hj, hA b hbl⟩
      · rw [if_neg h0] at hk
        by_cases h60 : a = 60
        · subst h60
          rw [rR]
          exact hT
        · exfalso
          revert hk
          repeat' split
          all_goals first | (intro z; exact absurd z (by decide)) | (intro _; omega)
    · rw [hkd] at hk
      have hr : 31 ≤ a ∧ a < 53 := by
        by_cases h0 : a = 0
        · rw [if_pos h0] at hk; exact absurd hk (by decide)
        · rw [if_neg h0] at hk
          by_cases h2 : 1 ≤ a ∧ a < 23
          · rw [if_pos h2] at hk; exact absurd hk (by decide)
          · rw [if_neg h2] at hk
            by_cases h3 : 31 ≤ a ∧ a < 53
            · exact h3
            · rw [if_neg h3] at hk
              split at hk <;> exact absurd hk (by decide)
      have hln : lm_ln (lm_h0 L xs) a = (lm_so (a - 31)).2.2.2.length := by
        show (if a = 0 then L else if 31 ≤ a ∧ a < 53 then (lm_so (a - 31)).2.2.2.length else if a = 60 then 7 else 0) = _
        rw [if_neg (by omega), if_pos hr]
      have hhi : ∀ j, (lm_h0 L xs).1 a j = (lm_so (a - 31)).2.2.2.getD j 0 := fun j => by
        show (if a = 0 then xs j else if 31 ≤ a ∧ a < 53 then (lm_so (a - 31)).2.2.2.getD j 0 else if a = 60 then lm_ra.getD j 0 else 0) = _
        rw [if_neg (by omega), if_pos hr]
      rw [rV a hr.1 hr.2, hln]
      simp only [hhi]
      exact (had (a - 31) (by omega)).2.2.2.2
    · rw [hkd] at hk
      have hr : 1 ≤ a ∧ a < 23 := by
        by_cases h0 : a = 0
        · rw [if_pos h0] at hk; exact absurd hk (by decide)
        · rw [if_neg h0] at hk
          by_cases h2 : 1 ≤ a ∧ a < 23
          · exact h2
          · rw [if_neg h2] at hk
            repeat' split at hk
            all_goals exact absurd hk (by decide)
      obtain ⟨-, g1, g2, g3, -⟩ := had (a - 1) (by omega)
      rw [rK a hr.1 hr.2]
      have e0 : lm_vm (lm_r0 b t ad) (lm_fv (lm_h0 L xs) 30 a 0) = .ref (ad (a - 1)).2 := by
        show lm_vm (lm_r0 b t ad) (va_rf (if 1 ≤ a ∧ a < 23 ∧ 0 = 0 then some (a + 30) else none)) = _
        rw [if_pos ⟨hr.1, hr.2, rfl⟩]
        show Value.ref (lm_r0 b t ad (a + 30)) = _
        rw [rV (a + 30) (by omega) (by omega), show a + 30 - 31 = a - 1 by omega]
      have e1 : lm_vm (lm_r0 b t ad) (lm_fv (lm_h0 L xs) 30 a 1) = .int 0 := by
        show Value.int (if a = 0 then xs 1 else if 31 ≤ a ∧ a < 53 then (lm_so (a - 31)).2.2.2.getD 1 0 else if a = 60 then lm_ra.getD 1 0 else 0) = _
        rw [if_neg (by omega), if_neg (by omega), if_neg (by omega)]
      rw [e0, e1]
      exact ⟨g1, g3, g2⟩
    · rw [rR]
      exact va_Zof (hts _ j1) (hts _ j4) ht hA
    · obtain ⟨i1, i2, i5, i6, i7, i3, i4⟩ := lm_kvc_nat (lm_kvc_all c0 q hm) hk
      refine ⟨⟨i5, ?_⟩, (lm_so (k - 1)).2.2.1, ?_⟩
      · rw [hkd, if_neg i7, if_pos ⟨i1, i2⟩]
      · rw [rK k i1 i2, ← i3, ← i4]
        exact vk_R.of (hts _ (lm_sw6 (k - 1) i6).1) (had (k - 1) i6).1
  -- the run
  have hG : lm_G (fun ci => (dd ci).1, fun ci => (dd ci).2) cy s.heap.size s (lm_r0 b t ad) [.ref 0, lm_jk, lm_jk, lm_jk] [] (lm_h0 L xs) s.heap [] ((lg_sl ([Value.ref b]) ++ List.replicate (4 - (lg_sl ([Value.ref b])).length) Slot.unset).toArray) := by
    refine ⟨⟨[], List.nodup_nil, fun a => ?_, fun k q hq => by simp at hq, ⟨fun i j x y hi => by simp at hi, fun k q hq => by simp at hq⟩⟩, hHV, hO, va_S.rf, ?_, fun v hv => ?_, fun v hv => by cases hv⟩
    · constructor
      · intro z; cases z
      · intro z
        exfalso
        apply z.2
        rw [hkd, if_neg (by omega), if_neg (by omega), if_neg (by omega), if_neg (by omega)]
    · have := lm_L_ini (lm_r0 b t ad) (n := 4) (as := [.ref 0]) (by decide)
      simp only [List.map_cons, List.map_nil, show lm_vm (lm_r0 b t ad) (.ref 0) = .ref b from congrArg Value.ref r0] at this
      exact this
    · simp only [List.mem_cons, List.not_mem_nil, or_false] at hv
      rcases hv with rfl | rfl | rfl | rfl
      · intro a0 e0
        cases e0
        rw [hkd]
        decide
      all_goals exact lm_ok_jk _
  rw [lg_entry_eq]
  have hCx : lm_Cx 0 p s m meth c := ⟨hx, hb, hml, hown, hr, hlocks, fun z => absurd z (by decide)⟩
  refine lm_ad _ _ _ n 60 0 0 _ [] _ _ hex lm_law_lt p l e room_1 s m _ below meth c s.heap [] 0 0 _ _ _ hCx V (Nat.le_refl _) hG rfl ⟨by decide, by decide, by show 0 + lm_nc h1 ≤ 600000 + 0; omega, by show 0 + lm_ns h1 ≤ 7302250 + 0; omega⟩ ?_
  intro pc' ls' st' ρ' H' locs' sl' cells' slots' hst hag G hc hs
  have hS := G.2.2.2.1
  have hc' : cells' = lm_nc h1 := by have : cells' + 0 = 0 + lm_nc h1 := hc; omega
  have hs' : slots' = lm_ns h1 := by have : slots' + 0 = 0 + lm_ns h1 := hs; omega
  unfold lm_st at hst
  split at hst
  · rename_i i len hlk
    have hmem : (pc', i, len) ∈ (lm_m 0).2.2.2.2.2.1 := lm_lookup_mem hlk
    have hd : decode (lm_m 0).2.2.1 pc' = .ok (i, len) := lm_decs (lm_m 0) (lm_m_mem lm_law_lt) (pc', i, len) hmem
    have hln : lm_lok (pc', i, len) = true := lm_lens (lm_m 0) (lm_m_mem lm_law_lt) (pc', i, len) hmem
    rcases (lm_i_ret hst).2 with rfl | rfl | rfl | rfl
    · obtain rfl : len = 1 := eq_of_beq hln
      have hst2 : st' = [.int 1] := by
        simp only [lm_i] at hst
        split at hst
        · rename_i x
          have e1 : x = 1 := by
            repeat' split at hst
            all_goals first | (cases hst; done) | (have h9 := congrArg Prod.fst (Sum.inl.inj (Sum.inr.inj (Option.some.inj hst))); exact Value.int.inj (Option.some.inj h9))
          rw [e1]
        · cases hst
      subst hst2
      refine va_forget (fun q hq => hS.2.2 q hq) ?_
      refine W.widen (k := 600000) (n := 7302250) (by omega) (by omega) ?_
      exact lw_ret hx hb hr hlocks hd
    · exfalso
      simp only [lm_i] at hst
      repeat' split at hst
      all_goals first | (cases hst; done) | (have h9 := congrArg Prod.fst (Sum.inl.inj (Sum.inr.inj (Option.some.inj hst))); cases h9)
    · exfalso
      simp only [lm_i] at hst
      repeat' split at hst
      all_goals first | (cases hst; done) | (have h9 := congrArg Prod.fst (Sum.inl.inj (Sum.inr.inj (Option.some.inj hst))); cases h9)
    · exfalso
      simp only [lm_i] at hst
      repeat' split at hst
      all_goals first | (cases hst; done) | (have h9 := congrArg Prod.fst (Sum.inl.inj (Sum.inr.inj (Option.some.inj hst))); cases h9)
  · cases hst
end
section
/-! shapes (where references lead, kinds, lengths) and contracts of AwakeByHalves$Town -/
def sh_T (X : lm_X) (b : Nat) : Prop := 64 ≤ b ∧ X.2.1 b = 14 ∧ (∀ k, k < 9 → X.1 b k = some (b + (1 + k)) ∧ X.2.1 (b + (1 + k)) = 1) ∧ (∀ k, k < 7 → X.2.2.1 (b + (1 + k)) = 10) ∧ X.2.2.1 (b + 8) = 24 ∧ X.2.2.1 (b + 9) = 2
section
variable {X : lm_X} {b : Nat}
theorem T_64 (S : sh_T X b) : 64 ≤ b := S.1
theorem T_kd (S : sh_T X b) : X.2.1 b = 10 + 4 := S.2.1
theorem T_r0 (S : sh_T X b) : X.1 b 0 = some (b + 1) := (S.2.2.1 0 (by decide)).1
theorem T_k0 (S : sh_T X b) : X.2.1 (b + 1) = 1 := (S.2.2.1 0 (by decide)).2
theorem T_l0 (S : sh_T X b) : X.2.2.1 (b + 1) = 10 := S.2.2.2.1 0 (by decide)
theorem T_r1 (S : sh_T X b) : X.1 b 1 = some (b + 2) := (S.2.2.1 1 (by decide)).1
theorem T_k1 (S : sh_T X b) : X.2.1 (b + 2) = 1 := (S.2.2.1 1 (by decide)).2
theorem T_l1 (S : sh_T X b) : X.2.2.1 (b + 2) = 10 := S.2.2.2.1 1 (by decide)
theorem T_r2 (S : sh_T X b) : X.1 b 2 = some (b + 3) := (S.2.2.1 2 (by decide)).1
theorem T_k2 (S : sh_T X b) : X.2.1 (b + 3) = 1 := (S.2.2.1 2 (by decide)).2
theorem T_l2 (S : sh_T X b) : X.2.2.1 (b + 3) = 10 := S.2.2.2.1 2 (by decide)
theorem T_r3 (S : sh_T X b) : X.1 b 3 = some (b + 4) := (S.2.2.1 3 (by decide)).1
theorem T_k3 (S : sh_T X b) : X.2.1 (b + 4) = 1 := (S.2.2.1 3 (by decide)).2
theorem T_l3 (S : sh_T X b) : X.2.2.1 (b + 4) = 10 := S.2.2.2.1 3 (by decide)
theorem T_r4 (S : sh_T X b) : X.1 b 4 = some (b + 5) := (S.2.2.1 4 (by decide)).1
theorem T_k4 (S : sh_T X b) : X.2.1 (b + 5) = 1 := (S.2.2.1 4 (by decide)).2
theorem T_l4 (S : sh_T X b) : X.2.2.1 (b + 5) = 10 := S.2.2.2.1 4 (by decide)
theorem T_r5 (S : sh_T X b) : X.1 b 5 = some (b + 6) := (S.2.2.1 5 (by decide)).1
theorem T_k5 (S : sh_T X b) : X.2.1 (b + 6) = 1 := (S.2.2.1 5 (by decide)).2
theorem T_l5 (S : sh_T X b) : X.2.2.1 (b + 6) = 10 := S.2.2.2.1 5 (by decide)
theorem T_r6 (S : sh_T X b) : X.1 b 6 = some (b + 7) := (S.2.2.1 6 (by decide)).1
theorem T_k6 (S : sh_T X b) : X.2.1 (b + 7) = 1 := (S.2.2.1 6 (by decide)).2
theorem T_l6 (S : sh_T X b) : X.2.2.1 (b + 7) = 10 := S.2.2.2.1 6 (by decide)
theorem T_r7 (S : sh_T X b) : X.1 b 7 = some (b + 8) := (S.2.2.1 7 (by decide)).1
theorem T_k7 (S : sh_T X b) : X.2.1 (b + 8) = 1 := (S.2.2.1 7 (by decide)).2
theorem T_l7 (S : sh_T X b) : X.2.2.1 (b + 8) = 24 := S.2.2.2.2.1
theorem T_r8 (S : sh_T X b) : X.1 b 8 = some (b + 9) := (S.2.2.1 8 (by decide)).1
theorem T_k8 (S : sh_T X b) : X.2.1 (b + 9) = 1 := (S.2.2.1 8 (by decide)).2
theorem T_l8 (S : sh_T X b) : X.2.2.1 (b + 9) = 2 := S.2.2.2.2.2
end
def t_lockd (lk : Nat → Int32) (half a : Int32) : Bool := !decide ((lk a.toNatClampNeg >>> (half &&& 31)) &&& 1 = 0)
def bz (b : Bool) : Int32 := if b then 1 else 0
def s_std (s m : Int32) : Bool := !decide ((s >>> (m &&& 31)) &&& 1 = 0)
theorem bz_or (b : Bool) : bz b = 0 ∨ bz b = 1 := by cases b <;> simp [bz]
theorem c_X4_isStanding {d : Nat} {hi : Nat → Nat → Int32} {hl : Nat → Nat → Int64} {X : lm_X} {s m : Int32}  : lm_c d 29 [.int s, .int m] (hi, hl, X) (some (.int (bz (s_std s m))), (hi, hl, X)) := by
  refine ⟨Nat.le_of_ble_eq_true rfl, ?_⟩
  show lm_run d 29 0 [.int s, .int m] [] (hi, hl, X) _
  refine lm_r_N 5 5 [.int s, .int m] [.int ((s >>> (m &&& 31)) &&& 1)] rfl ?_
  refine lm_r_if_eq (t := 12) rfl rfl (fun c1 => ?_) (fun c1 => ?_)
  · refine lm_r_N 1 13 [.int s, .int m] [.int 0] rfl ?_
    refine lm_r_rz rfl rfl (by first | exact Or.inl rfl | exact Or.inr rfl | assumption) ?_
    simp [bz, t_lockd, s_std, *]
  · refine lm_r_N 2 13 [.int s, .int m] [.int 1] rfl ?_
    refine lm_r_rz rfl rfl (by first | exact Or.inl rfl | exact Or.inr rfl | assumption) ?_
    simp [bz, t_lockd, s_std, *]
theorem c_X6_isFull {d : Nat} {hi : Nat → Nat → Int32} {hl : Nat → Nat → Int64} {X : lm_X} {b : Nat} (S : sh_T X b)  : lm_c d 54 [.ref b] (hi, hl, X) (some (.int (bz (!decide (hi b 9 < 10)))), (hi, hl, X)) := by
  refine ⟨Nat.le_of_ble_eq_true rfl, ?_⟩
  show lm_run d 54 0 [.ref b] [] (hi, hl, X) _
  refine lm_r_N 1 1 [.ref b] [.ref b] rfl ?_
  refine lm_r_gi rfl rfl rfl (T_kd S) ?_
  refine lm_r_N 1 6 [.ref b] [.int 10, .int (hi b 9)] rfl ?_
  refine lm_r_icmp_lt (t := 13) rfl rfl (fun c1 => ?_) (fun c1 => ?_)
  · refine lm_r_N 1 14 [.ref b] [.int 0] rfl ?_
    refine lm_r_rz rfl rfl (by first | exact Or.inl rfl | exact Or.inr rfl | assumption) ?_
    simp [bz, *]
  · refine lm_r_N 2 14 [.ref b] [.int 1] rfl ?_
    refine lm_r_rz rfl rfl (by first | exact Or.inl rfl | exact Or.inr rfl | assumption) ?_
    simp [bz, *]
theorem c_X6_isLocked {d : Nat} {hi : Nat → Nat → Int32} {hl : Nat → Nat → Int64} {X : lm_X} {b : Nat} (S : sh_T X b) {half a : Int32} (ha : vp_in a 10) : lm_c d 57 [.ref b, .int half, .int a] (hi, hl, X) (some (.int (bz (t_lockd (hi (b + 7)) half a))), (hi, hl, X)) := by
  refine ⟨Nat.le_of_ble_eq_true rfl, ?_⟩
  show lm_run d 57 0 [.ref b, .int half, .int a] [] (hi, hl, X) _
  refine lm_r_N 1 1 [.ref b, .int half, .int a] [.ref b] rfl ?_
  refine lm_r_gr (b := b + 7) rfl rfl rfl (T_kd S) (T_r6 S) ?_
  refine lm_r_N 1 5 [.ref b, .int half, .int a] [.int a, .ref (b + 7)] rfl ?_
  refine lm_r_ia rfl (T_k6 S) (T_l6 S) (by first | assumption | decide) ?_
  refine lm_r_N 4 10 [.ref b, .int half, .int a] [.int (((hi (b + 7) a.toNatClampNeg) >>> (half &&& 31)) &&& 1)] rfl ?_
  refine lm_r_if_eq (t := 17) rfl rfl (fun c1 => ?_) (fun c1 => ?_)
  · refine lm_r_N 1 18 [.ref b, .int half, .int a] [.int 0] rfl ?_
    refine lm_r_rz rfl rfl (by first | exact Or.inl rfl | exact Or.inr rfl | assumption) ?_
    simp [bz, t_lockd, s_std, *]
  · refine lm_r_N 2 18 [.ref b, .int half, .int a] [.int 1] rfl ?_
    refine lm_r_rz rfl rfl (by first | exact Or.inl rfl | exact Or.inr rfl | assumption) ?_
    simp [bz, t_lockd, s_std, *]
theorem c_X6_setWorth {d : Nat} {hi : Nat → Nat → Int32} {hl : Nat → Nat → Int64} {X : lm_X} {b : Nat} (S : sh_T X b) {half what v : Int32} (ha : vp_in (half * 12 + what) 24) : lm_c d 56 [.ref b, .int half, .int what, .int v] (hi, hl, X) (none, (lm_up (lm_up hi (b + 8) (half * 12 + what).toNatClampNeg v) b 16 (lm_up hi (b + 8) (half * 12 + what).toNatClampNeg v b 16 + 1), hl, X)) := by
  refine ⟨Nat.le_of_ble_eq_true rfl, ?_⟩
  show lm_run d 56 0 [.ref b, .int half, .int what, .int v] [] (hi, hl, X) _
  refine lm_r_N 1 1 [.ref b, .int half, .int what, .int v] [.ref b] rfl ?_
  refine lm_r_gr (b := b + 8) rfl rfl rfl (T_kd S) (T_r7 S) ?_
  refine lm_r_N 6 11 [.ref b, .int half, .int what, .int v] [.int v, .int ((half * 12) + what), .ref (b + 8)] rfl ?_
  refine lm_r_is rfl (T_k7 S) (Nat.le_trans (T_64 S) (by omega)) (T_l7 S) (by first | assumption | decide) ?_
  refine lm_r_N 2 14 [.ref b, .int half, .int what, .int v] [.ref b, .ref b] rfl ?_
  refine lm_r_gi rfl rfl rfl (T_kd S) ?_
  refine lm_r_N 2 19 [.ref b, .int half, .int what, .int v] [.int (((lm_up hi (b + 8) ((half * 12) + what).toNatClampNeg v) b 16) + 1), .ref b] rfl ?_
  refine lm_r_pi rfl rfl rfl rfl (T_kd S) (T_64 S) ?_
  refine lm_r_rv rfl rfl ?_
  rfl
end
section
/-! runs with a postcondition; rows whose indexes are natural numbers -/
def lm_wp (d f pc : Nat) (ls st : List Value) (h : lm_H) (P : Option Value → lm_H → Prop) : Prop := ∃ v h1, lm_run d f pc ls st h (v, h1) ∧ P v h1
def lm_w (d g : Nat) (as : List Value) (h : lm_H) (P : Option Value → lm_H → Prop) : Prop := ∃ v h1, lm_c d g as h (v, h1) ∧ P v h1
theorem lm_w_of {d g : Nat} {as : List Value} {h h1 : lm_H} {v : Option Value} {P : Option Value → lm_H → Prop} (hc : lm_c d g as h (v, h1)) (hp : P v h1) : lm_w d g as h P := ⟨v, h1, hc, hp⟩
theorem lm_w_dep {d d' g : Nat} {as : List Value} {h : lm_H} {P : Option Value → lm_H → Prop} (hd : d ≤ d') (hw : lm_w d g as h P) : lm_w d' g as h P := by
  obtain ⟨v, h1, hc, hp⟩ := hw
  exact ⟨v, h1, lm_c_dep hd hc, hp⟩
theorem lm_w_in {d g : Nat} {as : List Value} {h : lm_H} {P : Option Value → lm_H → Prop} (hl : (lm_exp as).length ≤ (lm_m g).2.2.2.1) (hw : lm_wp d g 0 (lm_ini (lm_m g).2.2.2.1 as) [] h P) : lm_w d g as h P := by
  obtain ⟨v, h1, hr, hp⟩ := hw
  exact ⟨v, h1, ⟨hl, hr⟩, hp⟩
/-- a contract that says all of the answer and the heap -/
theorem lm_c_of {d g : Nat} {as : List Value} {h : lm_H} {r : Option Value × lm_H} (hw : lm_w d g as h (fun v h1 => (v, h1) = r)) : lm_c d g as h r := by
  obtain ⟨v, h1, hc, rfl⟩ := hw
  exact hc
theorem lm_w_mono {d g : Nat} {as : List Value} {h : lm_H} {P Q : Option Value → lm_H → Prop} (hw : lm_w d g as h P) (hpq : ∀ v h1, P v h1 → Q v h1) : lm_w d g as h Q := by
  obtain ⟨v, h1, hc, hp⟩ := hw
  exact ⟨v, h1, hc, hpq v h1 hp⟩
theorem lm_wp_mono {d f pc : Nat} {ls st : List Value} {h : lm_H} {P Q : Option Value → lm_H → Prop} (hw : lm_wp d f pc ls st h P) (hpq : ∀ v h1, P v h1 → Q v h1) : lm_wp d f pc ls st h Q := by
  obtain ⟨v, h1, hc, hp⟩ := hw
  exact ⟨v, h1, hc, hpq v h1 hp⟩
theorem nI_nn {n : Nat} (h : n < 2147483648) : (nI n).toNatClampNeg = n := by
  show (Int32.ofNat n).toNatClampNeg = n
  rw [Int32.toNatClampNeg_ofNat_of_lt (by omega)]
theorem w_N (n pc' : Nat) (ls' st' : List Value) {d f pc : Nat} {ls st : List Value} {h : lm_H} {P : Option Value → lm_H → Prop} (hs : lm_sN n f pc ls st h = some (.inl (pc', ls', st', h))) (k : lm_wp d f pc' ls' st' h P) : lm_wp d f pc ls st h P := by
  obtain ⟨v, h1, k1, k2⟩ := k
  exact ⟨v, h1, lm_r_N n pc' ls' st' hs k1, k2⟩
theorem w_nx {d f pc pc' : Nat} {ls ls' st st' : List Value} {h h' : lm_H} {P : Option Value → lm_H → Prop} (hs : lm_st f pc ls st h = some (.inl (pc', ls', st', h'))) (k : lm_wp d f pc' ls' st' h' P) : lm_wp d f pc ls st h P := by
  obtain ⟨v, h1, k1, k2⟩ := k
  exact ⟨v, h1, lm_r_nx hs k1, k2⟩
/-- a call by a contract that says all -/
theorem w_cc {d f pc g pc' : Nat} {ls st as rest : List Value} {h h0 h1 : lm_H} {v : Option Value} {P : Option Value → lm_H → Prop} (hs : lm_st f pc ls st h = some (.inr (.inr (g, as, pc', rest, h0)))) (hc : lm_c d g as h0 (v, h1)) (k : lm_wp (d + 1) f pc' ls (v.toList ++ rest) h1 P) : lm_wp (d + 1) f pc ls st h P := by
  obtain ⟨v2, h2, k1, k2⟩ := k
  exact ⟨v2, h2, lm_r_ca hs hc k1, k2⟩
/-- a call by a contract with a postcondition -/
theorem w_ca {d f pc g pc' : Nat} {ls st as rest : List Value} {h h0 : lm_H} {Q P : Option Value → lm_H → Prop} (hs : lm_st f pc ls st h = some (.inr (.inr (g, as, pc', rest, h0)))) (hc : lm_w d g as h0 Q) (k : ∀ v h1, Q v h1 → lm_wp (d + 1) f pc' ls (v.toList ++ rest) h1 P) : lm_wp (d + 1) f pc ls st h P := by
  obtain ⟨v, h1, hc1, hq⟩ := hc
  exact w_cc hs hc1 (k v h1 hq)
section LWW
variable {d f pc len : Nat} {ls st : List Value} {P : Option Value → lm_H → Prop} {hi : Nat → Nat → Int32} {hl : Nat → Nat → Int64} {X : lm_X} {a : Nat}
theorem w_gi {idx ci k z : Nat} {v : Int32} (h1 : (lm_m f).2.2.2.2.2.1.lookup pc = some (.getfield idx, len)) (h2 : (lm_kF (lm_m f).1).lookup idx = some (ci, k, z)) (h3 : (lm_fk ci k == 1) = false) (hg : X.2.1 a = 10 + ci) (hv : hi a k = v) (k : lm_wp d f (pc + 3) ls (.int v :: st) (hi, hl, X) P) : lm_wp d f pc ls (.ref a :: st) (hi, hl, X) P := by
  subst hv
  obtain ⟨v1, h9, k1, k2⟩ := k
  exact ⟨v1, h9, lm_r_gi h1 h2 h3 hg k1, k2⟩
theorem w_gr {idx ci k z : Nat} (b : Nat) (h1 : (lm_m f).2.2.2.2.2.1.lookup pc = some (.getfield idx, len)) (h2 : (lm_kF (lm_m f).1).lookup idx = some (ci, k, z)) (h3 : (lm_fk ci k == 1) = true) (hg : X.2.1 a = 10 + ci) (hb : X.1 a k = some b) (k : lm_wp d f (pc + 3) ls (.ref b :: st) (hi, hl, X) P) : lm_wp d f pc ls (.ref a :: st) (hi, hl, X) P := by
  obtain ⟨v1, h9, k1, k2⟩ := k
  exact ⟨v1, h9, lm_r_gr h1 h2 h3 hg hb k1, k2⟩
theorem w_g0 {idx ci k z : Nat} (h1 : (lm_m f).2.2.2.2.2.1.lookup pc = some (.getfield idx, len)) (h2 : (lm_kF (lm_m f).1).lookup idx = some (ci, k, z)) (h3 : (lm_fk ci k == 1) = true) (hg : X.2.1 a = 10 + ci) (hb : X.1 a k = none) (k : lm_wp d f (pc + 3) ls (.null :: st) (hi, hl, X) P) : lm_wp d f pc ls (.ref a :: st) (hi, hl, X) P := by
  obtain ⟨v1, h9, k1, k2⟩ := k
  exact ⟨v1, h9, lm_r_g0 h1 h2 h3 hg hb k1, k2⟩
theorem w_pi {idx ci k z : Nat} {x : Int32} (h1 : (lm_m f).2.2.2.2.2.1.lookup pc = some (.putfield idx, len)) (h2 : (lm_kF (lm_m f).1).lookup idx = some (ci, k, z)) (h3 : (lm_ft ci k == 0) = true) (h4 : lm_pok f (lm_m f).1 ci k = true) (hg : X.2.1 a = 10 + ci) (h64 : 64 ≤ a) (k : lm_wp d f (pc + 3) ls st (lm_up hi a k x, hl, X) P) : lm_wp d f pc ls (.int x :: .ref a :: st) (hi, hl, X) P := by
  obtain ⟨v1, h9, k1, k2⟩ := k
  exact ⟨v1, h9, lm_r_pi h1 h2 h3 h4 hg h64 k1, k2⟩
theorem w_pb {idx ci k z : Nat} {x : Int32} (h1 : (lm_m f).2.2.2.2.2.1.lookup pc = some (.putfield idx, len)) (h2 : (lm_kF (lm_m f).1).lookup idx = some (ci, k, z)) (h3 : (lm_ft ci k == 2) = true) (h4 : lm_pok f (lm_m f).1 ci k = true) (hg : X.2.1 a = 10 + ci) (h64 : 64 ≤ a) (hx : x = 0 ∨ x = 1) (k : lm_wp d f (pc + 3) ls st (lm_up hi a k x, hl, X) P) : lm_wp d f pc ls (.int x :: .ref a :: st) (hi, hl, X) P := by
  obtain ⟨v1, h9, k1, k2⟩ := k
  exact ⟨v1, h9, lm_r_pb h1 h2 h3 h4 hg h64 hx k1, k2⟩
theorem w_pr {idx ci k z b : Nat} (h1 : (lm_m f).2.2.2.2.2.1.lookup pc = some (.putfield idx, len)) (h2 : (lm_kF (lm_m f).1).lookup idx = some (ci, k, z)) (h3 : (lm_ft ci k == 1) = true) (h4 : lm_pok f (lm_m f).1 ci k = true) (hg : X.2.1 a = 10 + ci) (h64 : 64 ≤ a) (k : lm_wp d f (pc + 3) ls st (hi, hl, lm_up X.1 a k (some b), X.2) P) : lm_wp d f pc ls (.ref b :: .ref a :: st) (hi, hl, X) P := by
  obtain ⟨v1, h9, k1, k2⟩ := k
  exact ⟨v1, h9, lm_r_pr h1 h2 h3 h4 hg h64 k1, k2⟩
theorem w_ia (j : Nat) {i v : Int32} (h1 : (lm_m f).2.2.2.2.2.1.lookup pc = some (.iaload, len)) (hg : X.2.1 a = 1) {n : Nat} (hn : X.2.2.1 a = n) (hj : i = nI j) (hlt : j < n) (hb : n < 2147483648) (hv : hi a j = v) (k : lm_wp d f (pc + 1) ls (.int v :: st) (hi, hl, X) P) : lm_wp d f pc ls (.int i :: .ref a :: st) (hi, hl, X) P := by
  subst hj hv
  obtain ⟨v1, h9, k1, k2⟩ := k
  exact ⟨v1, h9, lm_r_ia h1 hg hn (nI_in hlt hb) (by rw [nI_nn (by omega)]; exact k1), k2⟩
theorem w_ba (j : Nat) {i v : Int32} (h1 : (lm_m f).2.2.2.2.2.1.lookup pc = some (.baload, len)) (hg : X.2.1 a = 8) {n : Nat} (hn : X.2.2.1 a = n) (hj : i = nI j) (hlt : j < n) (hb : n < 2147483648) (hv : hi a j = v) (k : lm_wp d f (pc + 1) ls (.int v :: st) (hi, hl, X) P) : lm_wp d f pc ls (.int i :: .ref a :: st) (hi, hl, X) P := by
  subst hj hv
  obtain ⟨v1, h9, k1, k2⟩ := k
  exact ⟨v1, h9, lm_r_ba h1 hg hn (nI_in hlt hb) (by rw [nI_nn (by omega)]; exact k1), k2⟩
theorem w_la (j : Nat) {i : Int32} {v : Int64} (h1 : (lm_m f).2.2.2.2.2.1.lookup pc = some (.laload, len)) (hg : X.2.1 a = 2) {n : Nat} (hn : X.2.2.1 a = n) (hj : i = nI j) (hlt : j < n) (hb : n < 2147483648) (hv : hl a j = v) (k : lm_wp d f (pc + 1) ls (.long v :: st) (hi, hl, X) P) : lm_wp d f pc ls (.int i :: .ref a :: st) (hi, hl, X) P := by
  subst hj hv
  obtain ⟨v1, h9, k1, k2⟩ := k
  exact ⟨v1, h9, lm_r_la h1 hg hn (nI_in hlt hb) (by rw [nI_nn (by omega)]; exact k1), k2⟩
theorem w_aa (j b : Nat) {i : Int32} (h1 : (lm_m f).2.2.2.2.2.1.lookup pc = some (.aaload, len)) (hg : 4 ≤ X.2.1 a ∧ X.2.1 a ≤ 6) {n : Nat} (hn : X.2.2.1 a = n) (hj : i = nI j) (hlt : j < n) (hb : n < 2147483648) (hv : X.1 a j = some b) (k : lm_wp d f (pc + 1) ls (.ref b :: st) (hi, hl, X) P) : lm_wp d f pc ls (.int i :: .ref a :: st) (hi, hl, X) P := by
  subst hj
  obtain ⟨v1, h9, k1, k2⟩ := k
  exact ⟨v1, h9, lm_r_aa h1 hg hn (nI_in hlt hb) (by rw [nI_nn (by omega)]; exact hv) k1, k2⟩
theorem w_is (j : Nat) {i x : Int32} (h1 : (lm_m f).2.2.2.2.2.1.lookup pc = some (.iastore, len)) (hg : X.2.1 a = 1) (h64 : 64 ≤ a) {n : Nat} (hn : X.2.2.1 a = n) (hj : i = nI j) (hlt : j < n) (hb : n < 2147483648) (k : lm_wp d f (pc + 1) ls st (lm_up hi a j x, hl, X) P) : lm_wp d f pc ls (.int x :: .int i :: .ref a :: st) (hi, hl, X) P := by
  subst hj
  obtain ⟨v1, h9, k1, k2⟩ := k
  exact ⟨v1, h9, lm_r_is h1 hg h64 hn (nI_in hlt hb) (by rw [nI_nn (by omega)]; exact k1), k2⟩
theorem w_ls (j : Nat) {i : Int32} {x : Int64} (h1 : (lm_m f).2.2.2.2.2.1.lookup pc = some (.lastore, len)) (hg : X.2.1 a = 2) (h64 : 64 ≤ a) {n : Nat} (hn : X.2.2.1 a = n) (hj : i = nI j) (hlt : j < n) (hb : n < 2147483648) (k : lm_wp d f (pc + 1) ls st (hi, lm_up hl a j x, X) P) : lm_wp d f pc ls (.long x :: .int i :: .ref a :: st) (hi, hl, X) P := by
  subst hj
  obtain ⟨v1, h9, k1, k2⟩ := k
  exact ⟨v1, h9, lm_r_ls h1 hg h64 hn (nI_in hlt hb) (by rw [nI_nn (by omega)]; exact k1), k2⟩
theorem w_al (n : Nat) (h1 : (lm_m f).2.2.2.2.2.1.lookup pc = some (.arraylength, len)) (hg : X.2.1 a ≠ 0 ∧ X.2.1 a < 10) (hn : X.2.2.1 a = n) (k : lm_wp d f (pc + 1) ls (.int (nI n) :: st) (hi, hl, X) P) : lm_wp d f pc ls (.ref a :: st) (hi, hl, X) P := by
  obtain ⟨v1, h9, k1, k2⟩ := k
  exact ⟨v1, h9, lm_r_al h1 hg hn k1, k2⟩
theorem w_rem {x y : Int32} {h : lm_H} (h1 : (lm_m f).2.2.2.2.2.1.lookup pc = some (.irem, len)) (hy : ¬ y = 0) (k : lm_wp d f (pc + 1) ls (.int (x - x / y * y) :: st) h P) : lm_wp d f pc ls (.int y :: .int x :: st) h P := by
  obtain ⟨v1, h9, k1, k2⟩ := k
  exact ⟨v1, h9, lm_r_rem h1 hy k1, k2⟩
theorem w_lrem {x y : Int64} {h : lm_H} (h1 : (lm_m f).2.2.2.2.2.1.lookup pc = some (.lrem, len)) (hy : ¬ y = 0) (k : lm_wp d f (pc + 1) ls (.long (x - x / y * y) :: st) h P) : lm_wp d f pc ls (.long y :: .long x :: st) h P := by
  obtain ⟨v1, h9, k1, k2⟩ := k
  exact ⟨v1, h9, lm_r_lrem h1 hy k1, k2⟩
theorem w_ldiv {x y : Int64} {h : lm_H} (h1 : (lm_m f).2.2.2.2.2.1.lookup pc = some (.ldiv, len)) (hy : ¬ y = 0) (k : lm_wp d f (pc + 1) ls (.long (x / y) :: st) h P) : lm_wp d f pc ls (.long y :: .long x :: st) h P := by
  obtain ⟨v1, h9, k1, k2⟩ := k
  exact ⟨v1, h9, lm_r_ldiv h1 hy k1, k2⟩
theorem w_icmp_eq {off : Int} {t : Nat} {x y : Int32} {h : lm_H} (h1 : (lm_m f).2.2.2.2.2.1.lookup pc = some (.if_icmp .eq off, len)) (ht : lm_tg pc off = some t) (kt : x = y → lm_wp d f t ls st h P) (kf : ¬ x = y → lm_wp d f (pc + 3) ls st h P) : lm_wp d f pc ls (.int y :: .int x :: st) h P := by
  by_cases hc : x = y
  · obtain ⟨v1, h9, k1, k2⟩ := kt hc
    exact ⟨v1, h9, lm_r_icmp_eq h1 ht (fun _ => k1) (fun z => absurd hc z), k2⟩
  · obtain ⟨v1, h9, k1, k2⟩ := kf hc
    exact ⟨v1, h9, lm_r_icmp_eq h1 ht (fun z => absurd z hc) (fun _ => k1), k2⟩
theorem w_icmp_eq_t {off : Int} {t : Nat} {x y : Int32} {h : lm_H} (h1 : (lm_m f).2.2.2.2.2.1.lookup pc = some (.if_icmp .eq off, len)) (ht : lm_tg pc off = some t) (hc : x = y) (k : lm_wp d f t ls st h P) : lm_wp d f pc ls (.int y :: .int x :: st) h P := w_icmp_eq h1 ht (fun _ => k) (fun z => absurd hc z)
theorem w_icmp_eq_f {off : Int} {t : Nat} {x y : Int32} {h : lm_H} (h1 : (lm_m f).2.2.2.2.2.1.lookup pc = some (.if_icmp .eq off, len)) (ht : lm_tg pc off = some t) (hc : ¬ x = y) (k : lm_wp d f (pc + 3) ls st h P) : lm_wp d f pc ls (.int y :: .int x :: st) h P := w_icmp_eq h1 ht (fun z => absurd z hc) (fun _ => k)
theorem w_icmp_ne {off : Int} {t : Nat} {x y : Int32} {h : lm_H} (h1 : (lm_m f).2.2.2.2.2.1.lookup pc = some (.if_icmp .ne off, len)) (ht : lm_tg pc off = some t) (kt : ¬ x = y → lm_wp d f t ls st h P) (kf : x = y → lm_wp d f (pc + 3) ls st h P) : lm_wp d f pc ls (.int y :: .int x :: st) h P := by
  by_cases hc : x = y
  · obtain ⟨v1, h9, k1, k2⟩ := kf hc
    exact ⟨v1, h9, lm_r_icmp_ne h1 ht (fun z => absurd hc z) (fun _ => k1), k2⟩
  · obtain ⟨v1, h9, k1, k2⟩ := kt hc
    exact ⟨v1, h9, lm_r_icmp_ne h1 ht (fun _ => k1) (fun z => absurd z hc), k2⟩
theorem w_icmp_ne_t {off : Int} {t : Nat} {x y : Int32} {h : lm_H} (h1 : (lm_m f).2.2.2.2.2.1.lookup pc = some (.if_icmp .ne off, len)) (ht : lm_tg pc off = some t) (hc : ¬ x = y) (k : lm_wp d f t ls st h P) : lm_wp d f pc ls (.int y :: .int x :: st) h P := w_icmp_ne h1 ht (fun _ => k) (fun z => absurd z hc)
theorem w_icmp_ne_f {off : Int} {t : Nat} {x y : Int32} {h : lm_H} (h1 : (lm_m f).2.2.2.2.2.1.lookup pc = some (.if_icmp .ne off, len)) (ht : lm_tg pc off = some t) (hc : x = y) (k : lm_wp d f (pc + 3) ls st h P) : lm_wp d f pc ls (.int y :: .int x :: st) h P := w_icmp_ne h1 ht (fun z => absurd hc z) (fun _ => k)
theorem w_icmp_lt {off : Int} {t : Nat} {x y : Int32} {h : lm_H} (h1 : (lm_m f).2.2.2.2.2.1.lookup pc = some (.if_icmp .lt off, len)) (ht : lm_tg pc off = some t) (kt : x < y → lm_wp d f t ls st h P) (kf : ¬ x < y → lm_wp d f (pc + 3) ls st h P) : lm_wp d f pc ls (.int y :: .int x :: st) h P := by
  by_cases hc : x < y
  · obtain ⟨v1, h9, k1, k2⟩ := kt hc
    exact ⟨v1, h9, lm_r_icmp_lt h1 ht (fun _ => k1) (fun z => absurd hc z), k2⟩
  · obtain ⟨v1, h9, k1, k2⟩ := kf hc
    exact ⟨v1, h9, lm_r_icmp_lt h1 ht (fun z => absurd z hc) (fun _ => k1), k2⟩
theorem w_icmp_lt_t {off : Int} {t : Nat} {x y : Int32} {h : lm_H} (h1 : (lm_m f).2.2.2.2.2.1.lookup pc = some (.if_icmp .lt off, len)) (ht : lm_tg pc off = some t) (hc : x < y) (k : lm_wp d f t ls st h P) : lm_wp d f pc ls (.int y :: .int x :: st) h P := w_icmp_lt h1 ht (fun _ => k) (fun z => absurd hc z)
theorem w_icmp_lt_f {off : Int} {t : Nat} {x y : Int32} {h : lm_H} (h1 : (lm_m f).2.2.2.2.2.1.lookup pc = some (.if_icmp .lt off, len)) (ht : lm_tg pc off = some t) (hc : ¬ x < y) (k : lm_wp d f (pc + 3) ls st h P) : lm_wp d f pc ls (.int y :: .int x :: st) h P := w_icmp_lt h1 ht (fun z => absurd z hc) (fun _ => k)
theorem w_icmp_ge {off : Int} {t : Nat} {x y : Int32} {h : lm_H} (h1 : (lm_m f).2.2.2.2.2.1.lookup pc = some (.if_icmp .ge off, len)) (ht : lm_tg pc off = some t) (kt : ¬ x < y → lm_wp d f t ls st h P) (kf : x < y → lm_wp d f (pc + 3) ls st h P) : lm_wp d f pc ls (.int y :: .int x :: st) h P := by
  by_cases hc : x < y
  · obtain ⟨v1, h9, k1, k2⟩ := kf hc
    exact ⟨v1, h9, lm_r_icmp_ge h1 ht (fun z => absurd hc z) (fun _ => k1), k2⟩
  · obtain ⟨v1, h9, k1, k2⟩ := kt hc
    exact ⟨v1, h9, lm_r_icmp_ge h1 ht (fun _ => k1) (fun z => absurd z hc), k2⟩
theorem w_icmp_ge_t {off : Int} {t : Nat} {x y : Int32} {h : lm_H} (h1 : (lm_m f).2.2.2.2.2.1.lookup pc = some (.if_icmp .ge off, len)) (ht : lm_tg pc off = some t) (hc : ¬ x < y) (k : lm_wp d f t ls st h P) : lm_wp d f pc ls (.int y :: .int x :: st) h P := w_icmp_ge h1 ht (fun _ => k) (fun z => absurd z hc)
theorem w_icmp_ge_f {off : Int} {t : Nat} {x y : Int32} {h : lm_H} (h1 : (lm_m f).2.2.2.2.2.1.lookup pc = some (.if_icmp .ge off, len)) (ht : lm_tg pc off = some t) (hc : x < y) (k : lm_wp d f (pc + 3) ls st h P) : lm_wp d f pc ls (.int y :: .int x :: st) h P := w_icmp_ge h1 ht (fun z => absurd hc z) (fun _ => k)
theorem w_icmp_gt {off : Int} {t : Nat} {x y : Int32} {h : lm_H} (h1 : (lm_m f).2.2.2.2.2.1.lookup pc = some (.if_icmp .gt off, len)) (ht : lm_tg pc off = some t) (kt : y < x → lm_wp d f t ls st h P) (kf : ¬ y < x → lm_wp d f (pc + 3) ls st h P) : lm_wp d f pc ls (.int y :: .int x :: st) h P := by
  by_cases hc : y < x
  · obtain ⟨v1, h9, k1, k2⟩ := kt hc
    exact ⟨v1, h9, lm_r_icmp_gt h1 ht (fun _ => k1) (fun z => absurd hc z), k2⟩
  · obtain ⟨v1, h9, k1, k2⟩ := kf hc
    exact ⟨v1, h9, lm_r_icmp_gt h1 ht (fun z => absurd z hc) (fun _ => k1), k2⟩
theorem w_icmp_gt_t {off : Int} {t : Nat} {x y : Int32} {h : lm_H} (h1 : (lm_m f).2.2.2.2.2.1.lookup pc = some (.if_icmp .gt off, len)) (ht : lm_tg pc off = some t) (hc : y < x) (k : lm_wp d f t ls st h P) : lm_wp d f pc ls (.int y :: .int x :: st) h P := w_icmp_gt h1 ht (fun _ => k) (fun z => absurd hc z)
theorem w_icmp_gt_f {off : Int} {t : Nat} {x y : Int32} {h : lm_H} (h1 : (lm_m f).2.2.2.2.2.1.lookup pc = some (.if_icmp .gt off, len)) (ht : lm_tg pc off = some t) (hc : ¬ y < x) (k : lm_wp d f (pc + 3) ls st h P) : lm_wp d f pc ls (.int y :: .int x :: st) h P := w_icmp_gt h1 ht (fun z => absurd z hc) (fun _ => k)
theorem w_icmp_le {off : Int} {t : Nat} {x y : Int32} {h : lm_H} (h1 : (lm_m f).2.2.2.2.2.1.lookup pc = some (.if_icmp .le off, len)) (ht : lm_tg pc off = some t) (kt : ¬ y < x → lm_wp d f t ls st h P) (kf : y < x → lm_wp d f (pc + 3) ls st h P) : lm_wp d f pc ls (.int y :: .int x :: st) h P := by
  by_cases hc : y < x
  · obtain ⟨v1, h9, k1, k2⟩ := kf hc
    exact ⟨v1, h9, lm_r_icmp_le h1 ht (fun z => absurd hc z) (fun _ => k1), k2⟩
  · obtain ⟨v1, h9, k1, k2⟩ := kt hc
    exact ⟨v1, h9, lm_r_icmp_le h1 ht (fun _ => k1) (fun z => absurd z hc), k2⟩
theorem w_icmp_le_t {off : Int} {t : Nat} {x y : Int32} {h : lm_H} (h1 : (lm_m f).2.2.2.2.2.1.lookup pc = some (.if_icmp .le off, len)) (ht : lm_tg pc off = some t) (hc : ¬ y < x) (k : lm_wp d f t ls st h P) : lm_wp d f pc ls (.int y :: .int x :: st) h P := w_icmp_le h1 ht (fun _ => k) (fun z => absurd z hc)
theorem w_icmp_le_f {off : Int} {t : Nat} {x y : Int32} {h : lm_H} (h1 : (lm_m f).2.2.2.2.2.1.lookup pc = some (.if_icmp .le off, len)) (ht : lm_tg pc off = some t) (hc : y < x) (k : lm_wp d f (pc + 3) ls st h P) : lm_wp d f pc ls (.int y :: .int x :: st) h P := w_icmp_le h1 ht (fun z => absurd hc z) (fun _ => k)
theorem w_if_eq {off : Int} {t : Nat} {x : Int32} {h : lm_H} (h1 : (lm_m f).2.2.2.2.2.1.lookup pc = some (.ifCond .eq off, len)) (ht : lm_tg pc off = some t) (kt : x = 0 → lm_wp d f t ls st h P) (kf : ¬ x = 0 → lm_wp d f (pc + 3) ls st h P) : lm_wp d f pc ls (.int x :: st) h P := by
  by_cases hc : x = 0
  · obtain ⟨v1, h9, k1, k2⟩ := kt hc
    exact ⟨v1, h9, lm_r_if_eq h1 ht (fun _ => k1) (fun z => absurd hc z), k2⟩
  · obtain ⟨v1, h9, k1, k2⟩ := kf hc
    exact ⟨v1, h9, lm_r_if_eq h1 ht (fun z => absurd z hc) (fun _ => k1), k2⟩
theorem w_if_eq_t {off : Int} {t : Nat} {x : Int32} {h : lm_H} (h1 : (lm_m f).2.2.2.2.2.1.lookup pc = some (.ifCond .eq off, len)) (ht : lm_tg pc off = some t) (hc : x = 0) (k : lm_wp d f t ls st h P) : lm_wp d f pc ls (.int x :: st) h P := w_if_eq h1 ht (fun _ => k) (fun z => absurd hc z)
theorem w_if_eq_f {off : Int} {t : Nat} {x : Int32} {h : lm_H} (h1 : (lm_m f).2.2.2.2.2.1.lookup pc = some (.ifCond .eq off, len)) (ht : lm_tg pc off = some t) (hc : ¬ x = 0) (k : lm_wp d f (pc + 3) ls st h P) : lm_wp d f pc ls (.int x :: st) h P := w_if_eq h1 ht (fun z => absurd z hc) (fun _ => k)
theorem w_if_ne {off : Int} {t : Nat} {x : Int32} {h : lm_H} (h1 : (lm_m f).2.2.2.2.2.1.lookup pc = some (.ifCond .ne off, len)) (ht : lm_tg pc off = some t) (kt : ¬ x = 0 → lm_wp d f t ls st h P) (kf : x = 0 → lm_wp d f (pc + 3) ls st h P) : lm_wp d f pc ls (.int x :: st) h P := by
  by_cases hc : x = 0
  · obtain ⟨v1, h9, k1, k2⟩ := kf hc
    exact ⟨v1, h9, lm_r_if_ne h1 ht (fun z => absurd hc z) (fun _ => k1), k2⟩
  · obtain ⟨v1, h9, k1, k2⟩ := kt hc
    exact ⟨v1, h9, lm_r_if_ne h1 ht (fun _ => k1) (fun z => absurd z hc), k2⟩
theorem w_if_ne_t {off : Int} {t : Nat} {x : Int32} {h : lm_H} (h1 : (lm_m f).2.2.2.2.2.1.lookup pc = some (.ifCond .ne off, len)) (ht : lm_tg pc off = some t) (hc : ¬ x = 0) (k : lm_wp d f t ls st h P) : lm_wp d f pc ls (.int x :: st) h P := w_if_ne h1 ht (fun _ => k) (fun z => absurd z hc)
theorem w_if_ne_f {off : Int} {t : Nat} {x : Int32} {h : lm_H} (h1 : (lm_m f).2.2.2.2.2.1.lookup pc = some (.ifCond .ne off, len)) (ht : lm_tg pc off = some t) (hc : x = 0) (k : lm_wp d f (pc + 3) ls st h P) : lm_wp d f pc ls (.int x :: st) h P := w_if_ne h1 ht (fun z => absurd hc z) (fun _ => k)
theorem w_if_lt {off : Int} {t : Nat} {x : Int32} {h : lm_H} (h1 : (lm_m f).2.2.2.2.2.1.lookup pc = some (.ifCond .lt off, len)) (ht : lm_tg pc off = some t) (kt : x < 0 → lm_wp d f t ls st h P) (kf : ¬ x < 0 → lm_wp d f (pc + 3) ls st h P) : lm_wp d f pc ls (.int x :: st) h P := by
  by_cases hc : x < 0
  · obtain ⟨v1, h9, k1, k2⟩ := kt hc
    exact ⟨v1, h9, lm_r_if_lt h1 ht (fun _ => k1) (fun z => absurd hc z), k2⟩
  · obtain ⟨v1, h9, k1, k2⟩ := kf hc
    exact ⟨v1, h9, lm_r_if_lt h1 ht (fun z => absurd z hc) (fun _ => k1), k2⟩
theorem w_if_lt_t {off : Int} {t : Nat} {x : Int32} {h : lm_H} (h1 : (lm_m f).2.2.2.2.2.1.lookup pc = some (.ifCond .lt off, len)) (ht : lm_tg pc off = some t) (hc : x < 0) (k : lm_wp d f t ls st h P) : lm_wp d f pc ls (.int x :: st) h P := w_if_lt h1 ht (fun _ => k) (fun z => absurd hc z)
theorem w_if_lt_f {off : Int} {t : Nat} {x : Int32} {h : lm_H} (h1 : (lm_m f).2.2.2.2.2.1.lookup pc = some (.ifCond .lt off, len)) (ht : lm_tg pc off = some t) (hc : ¬ x < 0) (k : lm_wp d f (pc + 3) ls st h P) : lm_wp d f pc ls (.int x :: st) h P := w_if_lt h1 ht (fun z => absurd z hc) (fun _ => k)
theorem w_if_ge {off : Int} {t : Nat} {x : Int32} {h : lm_H} (h1 : (lm_m f).2.2.2.2.2.1.lookup pc = some (.ifCond .ge off, len)) (ht : lm_tg pc off = some t) (kt : ¬ x < 0 → lm_wp d f t ls st h P) (kf : x < 0 → lm_wp d f (pc + 3) ls st h P) : lm_wp d f pc ls (.int x :: st) h P := by
  by_cases hc : x < 0
  · obtain ⟨v1, h9, k1, k2⟩ := kf hc
    exact ⟨v1, h9, lm_r_if_ge h1 ht (fun z => absurd hc z) (fun _ => k1), k2⟩
  · obtain ⟨v1, h9, k1, k2⟩ := kt hc
    exact ⟨v1, h9, lm_r_if_ge h1 ht (fun _ => k1) (fun z => absurd z hc), k2⟩
theorem w_if_ge_t {off : Int} {t : Nat} {x : Int32} {h : lm_H} (h1 : (lm_m f).2.2.2.2.2.1.lookup pc = some (.ifCond .ge off, len)) (ht : lm_tg pc off = some t) (hc : ¬ x < 0) (k : lm_wp d f t ls st h P) : lm_wp d f pc ls (.int x :: st) h P := w_if_ge h1 ht (fun _ => k) (fun z => absurd z hc)
theorem w_if_ge_f {off : Int} {t : Nat} {x : Int32} {h : lm_H} (h1 : (lm_m f).2.2.2.2.2.1.lookup pc = some (.ifCond .ge off, len)) (ht : lm_tg pc off = some t) (hc : x < 0) (k : lm_wp d f (pc + 3) ls st h P) : lm_wp d f pc ls (.int x :: st) h P := w_if_ge h1 ht (fun z => absurd hc z) (fun _ => k)
theorem w_if_gt {off : Int} {t : Nat} {x : Int32} {h : lm_H} (h1 : (lm_m f).2.2.2.2.2.1.lookup pc = some (.ifCond .gt off, len)) (ht : lm_tg pc off = some t) (kt : 0 < x → lm_wp d f t ls st h P) (kf : ¬ 0 < x → lm_wp d f (pc + 3) ls st h P) : lm_wp d f pc ls (.int x :: st) h P := by
  by_cases hc : 0 < x
  · obtain ⟨v1, h9, k1, k2⟩ := kt hc
    exact ⟨v1, h9, lm_r_if_gt h1 ht (fun _ => k1) (fun z => absurd hc z), k2⟩
  · obtain ⟨v1, h9, k1, k2⟩ := kf hc
    exact ⟨v1, h9, lm_r_if_gt h1 ht (fun z => absurd z hc) (fun _ => k1), k2⟩
theorem w_if_gt_t {off : Int} {t : Nat} {x : Int32} {h : lm_H} (h1 : (lm_m f).2.2.2.2.2.1.lookup pc = some (.ifCond .gt off, len)) (ht : lm_tg pc off = some t) (hc : 0 < x) (k : lm_wp d f t ls st h P) : lm_wp d f pc ls (.int x :: st) h P := w_if_gt h1 ht (fun _ => k) (fun z => absurd hc z)
theorem w_if_gt_f {off : Int} {t : Nat} {x : Int32} {h : lm_H} (h1 : (lm_m f).2.2.2.2.2.1.lookup pc = some (.ifCond .gt off, len)) (ht : lm_tg pc off = some t) (hc : ¬ 0 < x) (k : lm_wp d f (pc + 3) ls st h P) : lm_wp d f pc ls (.int x :: st) h P := w_if_gt h1 ht (fun z => absurd z hc) (fun _ => k)
theorem w_if_le {off : Int} {t : Nat} {x : Int32} {h : lm_H} (h1 : (lm_m f).2.2.2.2.2.1.lookup pc = some (.ifCond .le off, len)) (ht : lm_tg pc off = some t) (kt : ¬ 0 < x → lm_wp d f t ls st h P) (kf : 0 < x → lm_wp d f (pc + 3) ls st h P) : lm_wp d f pc ls (.int x :: st) h P := by
  by_cases hc : 0 < x
  · obtain ⟨v1, h9, k1, k2⟩ := kf hc
    exact ⟨v1, h9, lm_r_if_le h1 ht (fun z => absurd hc z) (fun _ => k1), k2⟩
  · obtain ⟨v1, h9, k1, k2⟩ := kt hc
    exact ⟨v1, h9, lm_r_if_le h1 ht (fun _ => k1) (fun z => absurd z hc), k2⟩
theorem w_if_le_t {off : Int} {t : Nat} {x : Int32} {h : lm_H} (h1 : (lm_m f).2.2.2.2.2.1.lookup pc = some (.ifCond .le off, len)) (ht : lm_tg pc off = some t) (hc : ¬ 0 < x) (k : lm_wp d f t ls st h P) : lm_wp d f pc ls (.int x :: st) h P := w_if_le h1 ht (fun _ => k) (fun z => absurd z hc)
theorem w_if_le_f {off : Int} {t : Nat} {x : Int32} {h : lm_H} (h1 : (lm_m f).2.2.2.2.2.1.lookup pc = some (.ifCond .le off, len)) (ht : lm_tg pc off = some t) (hc : 0 < x) (k : lm_wp d f (pc + 3) ls st h P) : lm_wp d f pc ls (.int x :: st) h P := w_if_le h1 ht (fun z => absurd hc z) (fun _ => k)
theorem w_ts {dd lo hh : Int} {os : Array Int} {x : Int32} {h : lm_H} {t : Nat} (h1 : (lm_m f).2.2.2.2.2.1.lookup pc = some (.tableswitch dd lo hh os, len)) (h2 : hh - lo + 1 = (os.size : Int) ∧ -2147483648 ≤ lo ∧ hh ≤ 2147483647) (ht : lm_tg pc (lm_sw x lo os.toList dd) = some t) (k : lm_wp d f t ls st h P) : lm_wp d f pc ls (.int x :: st) h P := by
  obtain ⟨v1, h9, k1, k2⟩ := k
  exact ⟨v1, h9, lm_r_ts h1 h2 ht k1, k2⟩
theorem w_ks {dd : Int} {ps : Array (Int × Int)} {x : Int32} {h : lm_H} {t : Nat} (h1 : (lm_m f).2.2.2.2.2.1.lookup pc = some (.lookupswitch dd ps, len)) (h2 : (ps.toList.zip (ps.toList.drop 1)).all (fun (a, next) => a.1 < next.1) = true ∧ ps.toList.all (fun q => decide (-2147483648 ≤ q.1 ∧ q.1 ≤ 2147483647)) = true) (ht : lm_tg pc (lm_lk x ps.toList dd) = some t) (k : lm_wp d f t ls st h P) : lm_wp d f pc ls (.int x :: st) h P := by
  obtain ⟨v1, h9, k1, k2⟩ := k
  exact ⟨v1, h9, lm_r_ks h1 h2 ht k1, k2⟩
theorem w_ri {x : Int32} {h : lm_H} (h1 : (lm_m f).2.2.2.2.2.1.lookup pc = some (.ireturn, len)) (h2 : (lm_m f).2.2.2.2.1 = some .int) (he : P (some (.int x)) h) : lm_wp d f pc ls [.int x] h P := ⟨_, _, lm_r_ri h1 h2 rfl, he⟩
theorem w_rz {x : Int32} {h : lm_H} (h1 : (lm_m f).2.2.2.2.2.1.lookup pc = some (.ireturn, len)) (h2 : (lm_m f).2.2.2.2.1 = some .boolean) (hx : x = 0 ∨ x = 1) (he : P (some (.int x)) h) : lm_wp d f pc ls [.int x] h P := ⟨_, _, lm_r_rz h1 h2 hx rfl, he⟩
theorem w_rl {x : Int64} {h : lm_H} (h1 : (lm_m f).2.2.2.2.2.1.lookup pc = some (.lreturn, len)) (h2 : (lm_m f).2.2.2.2.1 = some .long) (he : P (some (.long x)) h) : lm_wp d f pc ls [.long x] h P := ⟨_, _, lm_r_rl h1 h2 rfl, he⟩
theorem w_rv {h : lm_H} (h1 : (lm_m f).2.2.2.2.2.1.lookup pc = some (.return_, len)) (h2 : (lm_m f).2.2.2.2.1 = none) (he : P none h) : lm_wp d f pc ls [] h P := ⟨_, _, lm_r_rv h1 h2 rfl, he⟩
theorem w_ra {x : Nat} {h : lm_H} {s : String} (h1 : (lm_m f).2.2.2.2.2.1.lookup pc = some (.areturn, len)) (h2 : (lm_m f).2.2.2.2.1 = some (.object s)) (he : P (some (.ref x)) h) : lm_wp d f pc ls [.ref x] h P := by
  refine ⟨_, _, lm_r_rt ?_, he⟩
  rw [lm_st_of h1]
  simp only [lm_i, h2]
theorem w_rc {x : Int32} {h : lm_H} (h1 : (lm_m f).2.2.2.2.2.1.lookup pc = some (.ireturn, len)) {ty : FieldType} (h2 : (lm_m f).2.2.2.2.1 = some ty) (hx : narrow ty (.int x) = .int x) (he : P (some (.int x)) h) : lm_wp d f pc ls [.int x] h P := by
  refine ⟨_, _, lm_r_rt ?_, he⟩
  rw [lm_st_of h1]
  cases ty <;> simp only [lm_i, h2, hx, if_true]
theorem w_nn {off : Int} {t : Nat} {h : lm_H} (h1 : (lm_m f).2.2.2.2.2.1.lookup pc = some (.ifnonnull off, len)) (ht : lm_tg pc off = some t) (k : lm_wp d f t ls st h P) : lm_wp d f pc ls (.ref a :: st) h P := by
  refine w_nx ?_ k
  rw [lm_st_of h1]
  simp only [lm_i, lm_go, ht]
theorem w_n0 {off : Int} {h : lm_H} (h1 : (lm_m f).2.2.2.2.2.1.lookup pc = some (.ifnonnull off, len)) (k : lm_wp d f (pc + 3) ls st h P) : lm_wp d f pc ls (.null :: st) h P := by
  refine w_nx ?_ k
  rw [lm_st_of h1]
  simp only [lm_i]
end LWW
theorem bz0 {b : Bool} : bz b = 0 ↔ b = false := by cases b <;> simp [bz]
theorem bz1 {b : Bool} : ¬ bz b = 0 ↔ b = true := by cases b <;> simp [bz]
theorem bz_0 : bz false = 0 := rfl
theorem bz_1 : bz true = 1 := rfl
theorem w_zeq {d f pc len t : Nat} {ls st : List Value} {P : Option Value → lm_H → Prop} {off : Int} {b : Bool} {h : lm_H} (h1 : (lm_m f).2.2.2.2.2.1.lookup pc = some (.ifCond .eq off, len)) (ht : lm_tg pc off = some t) (kt : b = false → lm_wp d f t ls st h P) (kf : b = true → lm_wp d f (pc + 3) ls st h P) : lm_wp d f pc ls (.int (bz b) :: st) h P := w_if_eq h1 ht (fun z => kt (bz0.mp z)) (fun z => kf (bz1.mp z))
theorem w_zne {d f pc len t : Nat} {ls st : List Value} {P : Option Value → lm_H → Prop} {off : Int} {b : Bool} {h : lm_H} (h1 : (lm_m f).2.2.2.2.2.1.lookup pc = some (.ifCond .ne off, len)) (ht : lm_tg pc off = some t) (kt : b = true → lm_wp d f t ls st h P) (kf : b = false → lm_wp d f (pc + 3) ls st h P) : lm_wp d f pc ls (.int (bz b) :: st) h P := w_if_ne h1 ht (fun z => kt (bz1.mp z)) (fun z => kf (bz0.mp z))
end
