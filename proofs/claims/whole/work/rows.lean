section
-- ===== PART A: goes FIRST, ahead of the names: the tables' words, and 'selects' of the private methods out of them =====
/-- a private method of a class that the tables say can be made, by its rows of tables_1 -/
def lw_okq (q : MethodName × Nat) : Prop := (q.1.cls ≠ "java/lang/invoke/MethodHandle" ∧ q.1.cls ≠ "java/lang/invoke/VarHandle") ∧ Cond.instantiable q.1.cls q.2 ∈ tables_1 ∧ Cond.privateMethod q.1 ∈ tables_1 ∧ Cond.instanceMethod q.1 ∈ tables_1
theorem lw_p0 : lw_okq (⟨"ChainedChest", "tell", "(I)I"⟩, 9) := ⟨⟨by decide +kernel, by decide +kernel⟩, List.mem_of_getElem? (i := 17) (by decide +kernel), List.mem_of_getElem? (i := 215) (by decide +kernel), List.mem_of_getElem? (i := 216) (by decide +kernel)⟩
theorem lw_p1 : lw_okq (⟨"ChainedChest$Chest", "reason", "(IIII)I"⟩, 8) := ⟨⟨by decide +kernel, by decide +kernel⟩, List.mem_of_getElem? (i := 25) (by decide +kernel), List.mem_of_getElem? (i := 333) (by decide +kernel), List.mem_of_getElem? (i := 334) (by decide +kernel)⟩
theorem lw_p2 : lw_okq (⟨"ChainedChest$Ways", "markFollowers", "(II)V"⟩, 11) := ⟨⟨by decide +kernel, by decide +kernel⟩, List.mem_of_getElem? (i := 77) (by decide +kernel), List.mem_of_getElem? (i := 390) (by decide +kernel), List.mem_of_getElem? (i := 391) (by decide +kernel)⟩
theorem lw_p3 : lw_okq (⟨"ChainedChest$Ways", "leastOn", "(III[I)I"⟩, 11) := ⟨⟨by decide +kernel, by decide +kernel⟩, List.mem_of_getElem? (i := 77) (by decide +kernel), List.mem_of_getElem? (i := 400) (by decide +kernel), List.mem_of_getElem? (i := 401) (by decide +kernel)⟩
theorem lw_p4 : lw_okq (⟨"ChainedChest$Ways", "cost", "(IIII)I"⟩, 11) := ⟨⟨by decide +kernel, by decide +kernel⟩, List.mem_of_getElem? (i := 77) (by decide +kernel), List.mem_of_getElem? (i := 404) (by decide +kernel), List.mem_of_getElem? (i := 405) (by decide +kernel)⟩
theorem lw_p5 : lw_okq (⟨"ChainedChest", "orNone", "(I)I"⟩, 9) := ⟨⟨by decide +kernel, by decide +kernel⟩, List.mem_of_getElem? (i := 17) (by decide +kernel), List.mem_of_getElem? (i := 410) (by decide +kernel), List.mem_of_getElem? (i := 411) (by decide +kernel)⟩
theorem lw_p6 : lw_okq (⟨"ChainedChest$Ways", "firstBest", "(I)I"⟩, 11) := ⟨⟨by decide +kernel, by decide +kernel⟩, List.mem_of_getElem? (i := 77) (by decide +kernel), List.mem_of_getElem? (i := 425) (by decide +kernel), List.mem_of_getElem? (i := 426) (by decide +kernel)⟩
theorem lw_p7 : lw_okq (⟨"ChainedChest$Ways", "handOn", "(II)V"⟩, 11) := ⟨⟨by decide +kernel, by decide +kernel⟩, List.mem_of_getElem? (i := 77) (by decide +kernel), List.mem_of_getElem? (i := 482) (by decide +kernel), List.mem_of_getElem? (i := 483) (by decide +kernel)⟩
theorem lw_p8 : lw_okq (⟨"ChainedChest$Smith", "tryLink", "(II)V"⟩, 4) := ⟨⟨by decide +kernel, by decide +kernel⟩, List.mem_of_getElem? (i := 117) (by decide +kernel), List.mem_of_getElem? (i := 538) (by decide +kernel), List.mem_of_getElem? (i := 539) (by decide +kernel)⟩
theorem lw_p9 : lw_okq (⟨"ChainedChest$Ways", "odds", "(I)J"⟩, 11) := ⟨⟨by decide +kernel, by decide +kernel⟩, List.mem_of_getElem? (i := 77) (by decide +kernel), List.mem_of_getElem? (i := 578) (by decide +kernel), List.mem_of_getElem? (i := 579) (by decide +kernel)⟩
theorem lw_p10 : lw_okq (⟨"ChainedChest", "sheetFinding", "(I)I"⟩, 9) := ⟨⟨by decide +kernel, by decide +kernel⟩, List.mem_of_getElem? (i := 17) (by decide +kernel), List.mem_of_getElem? (i := 596) (by decide +kernel), List.mem_of_getElem? (i := 597) (by decide +kernel)⟩
theorem lw_p11 : lw_okq (⟨"ChainedChest", "isSheet", "(I)Z"⟩, 9) := ⟨⟨by decide +kernel, by decide +kernel⟩, List.mem_of_getElem? (i := 17) (by decide +kernel), List.mem_of_getElem? (i := 600) (by decide +kernel), List.mem_of_getElem? (i := 601) (by decide +kernel)⟩
theorem lw_p12 : lw_okq (⟨"ChainedChest$Ways", "soundingOf", "(II)I"⟩, 11) := ⟨⟨by decide +kernel, by decide +kernel⟩, List.mem_of_getElem? (i := 77) (by decide +kernel), List.mem_of_getElem? (i := 628) (by decide +kernel), List.mem_of_getElem? (i := 629) (by decide +kernel)⟩
theorem lw_p13 : lw_okq (⟨"ChainedChest$Chest", "draw", "()I"⟩, 8) := ⟨⟨by decide +kernel, by decide +kernel⟩, List.mem_of_getElem? (i := 25) (by decide +kernel), List.mem_of_getElem? (i := 667) (by decide +kernel), List.mem_of_getElem? (i := 668) (by decide +kernel)⟩
theorem lw_p14 : lw_okq (⟨"ChainedChest$Tape", "nextToken", "()V"⟩, 6) := ⟨⟨by decide +kernel, by decide +kernel⟩, List.mem_of_getElem? (i := 137) (by decide +kernel), List.mem_of_getElem? (i := 713) (by decide +kernel), List.mem_of_getElem? (i := 714) (by decide +kernel)⟩
theorem lw_p15 : lw_okq (⟨"ChainedChest$Tape", "byteAt", "(I)I"⟩, 6) := ⟨⟨by decide +kernel, by decide +kernel⟩, List.mem_of_getElem? (i := 137) (by decide +kernel), List.mem_of_getElem? (i := 717) (by decide +kernel), List.mem_of_getElem? (i := 718) (by decide +kernel)⟩
def lw_privs_1 : List (MethodName × Nat) := [(⟨"ChainedChest", "tell", "(I)I"⟩, 9), (⟨"ChainedChest$Chest", "reason", "(IIII)I"⟩, 8), (⟨"ChainedChest$Ways", "markFollowers", "(II)V"⟩, 11), (⟨"ChainedChest$Ways", "leastOn", "(III[I)I"⟩, 11), (⟨"ChainedChest$Ways", "cost", "(IIII)I"⟩, 11), (⟨"ChainedChest", "orNone", "(I)I"⟩, 9), (⟨"ChainedChest$Ways", "firstBest", "(I)I"⟩, 11), (⟨"ChainedChest$Ways", "handOn", "(II)V"⟩, 11), (⟨"ChainedChest$Smith", "tryLink", "(II)V"⟩, 4), (⟨"ChainedChest$Ways", "odds", "(I)J"⟩, 11), (⟨"ChainedChest", "sheetFinding", "(I)I"⟩, 9), (⟨"ChainedChest", "isSheet", "(I)Z"⟩, 9), (⟨"ChainedChest$Ways", "soundingOf", "(II)I"⟩, 11), (⟨"ChainedChest$Chest", "draw", "()I"⟩, 8), (⟨"ChainedChest$Tape", "nextToken", "()V"⟩, 6), (⟨"ChainedChest$Tape", "byteAt", "(I)I"⟩, 6)]
theorem lw_r1 : ∀ q ∈ lw_privs_1, lw_okq q := List.forall_mem_cons.mpr ⟨lw_p0, List.forall_mem_cons.mpr ⟨lw_p1, List.forall_mem_cons.mpr ⟨lw_p2, List.forall_mem_cons.mpr ⟨lw_p3, List.forall_mem_cons.mpr ⟨lw_p4, List.forall_mem_cons.mpr ⟨lw_p5, List.forall_mem_cons.mpr ⟨lw_p6, List.forall_mem_cons.mpr ⟨lw_p7, List.forall_mem_cons.mpr ⟨lw_p8, List.forall_mem_cons.mpr ⟨lw_p9, List.forall_mem_cons.mpr ⟨lw_p10, List.forall_mem_cons.mpr ⟨lw_p11, List.forall_mem_cons.mpr ⟨lw_p12, List.forall_mem_cons.mpr ⟨lw_p13, List.forall_mem_cons.mpr ⟨lw_p14, List.forall_mem_cons.mpr ⟨lw_p15, fun _ h => absurd h List.not_mem_nil⟩⟩⟩⟩⟩⟩⟩⟩⟩⟩⟩⟩⟩⟩⟩⟩
theorem lw_p16 : lw_okq (⟨"ChainedChest$Tape", "readWord", "()V"⟩, 6) := ⟨⟨by decide +kernel, by decide +kernel⟩, List.mem_of_getElem? (i := 137) (by decide +kernel), List.mem_of_getElem? (i := 724) (by decide +kernel), List.mem_of_getElem? (i := 725) (by decide +kernel)⟩
theorem lw_p17 : lw_okq (⟨"ChainedChest$Tape", "readNumber", "()V"⟩, 6) := ⟨⟨by decide +kernel, by decide +kernel⟩, List.mem_of_getElem? (i := 137) (by decide +kernel), List.mem_of_getElem? (i := 731) (by decide +kernel), List.mem_of_getElem? (i := 732) (by decide +kernel)⟩
theorem lw_p18 : lw_okq (⟨"ChainedChest$Tape", "readItem", "(LChainedChest$Chest;)Z"⟩, 6) := ⟨⟨by decide +kernel, by decide +kernel⟩, List.mem_of_getElem? (i := 137) (by decide +kernel), List.mem_of_getElem? (i := 736) (by decide +kernel), List.mem_of_getElem? (i := 737) (by decide +kernel)⟩
theorem lw_p19 : lw_okq (⟨"ChainedChest$Tape", "isWord", "(Ljava/lang/String;)Z"⟩, 6) := ⟨⟨by decide +kernel, by decide +kernel⟩, List.mem_of_getElem? (i := 137) (by decide +kernel), List.mem_of_getElem? (i := 750) (by decide +kernel), List.mem_of_getElem? (i := 751) (by decide +kernel)⟩
theorem lw_p20 : lw_okq (⟨"ChainedChest$Tape", "readLock", "(LChainedChest$Chest;I)Z"⟩, 6) := ⟨⟨by decide +kernel, by decide +kernel⟩, List.mem_of_getElem? (i := 137) (by decide +kernel), List.mem_of_getElem? (i := 802) (by decide +kernel), List.mem_of_getElem? (i := 803) (by decide +kernel)⟩
theorem lw_p21 : lw_okq (⟨"ChainedChest$Tape", "readRule", "(LChainedChest$Chest;I)Z"⟩, 6) := ⟨⟨by decide +kernel, by decide +kernel⟩, List.mem_of_getElem? (i := 137) (by decide +kernel), List.mem_of_getElem? (i := 828) (by decide +kernel), List.mem_of_getElem? (i := 829) (by decide +kernel)⟩
theorem lw_p22 : lw_okq (⟨"ChainedChestModel", "no", "(I)I"⟩, 24) := ⟨⟨by decide +kernel, by decide +kernel⟩, List.mem_of_getElem? (i := 955) (by decide +kernel), List.mem_of_getElem? (i := 1042) (by decide +kernel), List.mem_of_getElem? (i := 1043) (by decide +kernel)⟩
theorem lw_p23 : lw_okq (⟨"ChainedChestModel", "comes", "(I)V"⟩, 24) := ⟨⟨by decide +kernel, by decide +kernel⟩, List.mem_of_getElem? (i := 955) (by decide +kernel), List.mem_of_getElem? (i := 1047) (by decide +kernel), List.mem_of_getElem? (i := 1048) (by decide +kernel)⟩
theorem lw_p24 : lw_okq (⟨"ChainedChestModel", "puts", "(III)V"⟩, 24) := ⟨⟨by decide +kernel, by decide +kernel⟩, List.mem_of_getElem? (i := 955) (by decide +kernel), List.mem_of_getElem? (i := 1051) (by decide +kernel), List.mem_of_getElem? (i := 1052) (by decide +kernel)⟩
theorem lw_p25 : lw_okq (⟨"ChainedChestModel", "isLock", "(I)Z"⟩, 24) := ⟨⟨by decide +kernel, by decide +kernel⟩, List.mem_of_getElem? (i := 955) (by decide +kernel), List.mem_of_getElem? (i := 1059) (by decide +kernel), List.mem_of_getElem? (i := 1060) (by decide +kernel)⟩
theorem lw_p26 : lw_okq (⟨"ChainedChestModel", "get", "(II)I"⟩, 24) := ⟨⟨by decide +kernel, by decide +kernel⟩, List.mem_of_getElem? (i := 955) (by decide +kernel), List.mem_of_getElem? (i := 1063) (by decide +kernel), List.mem_of_getElem? (i := 1064) (by decide +kernel)⟩
theorem lw_p27 : lw_okq (⟨"ChainedChestModel", "slackBy", "(I)I"⟩, 24) := ⟨⟨by decide +kernel, by decide +kernel⟩, List.mem_of_getElem? (i := 955) (by decide +kernel), List.mem_of_getElem? (i := 1070) (by decide +kernel), List.mem_of_getElem? (i := 1071) (by decide +kernel)⟩
theorem lw_p28 : lw_okq (⟨"ChainedChestModel", "freeBy", "(I)I"⟩, 24) := ⟨⟨by decide +kernel, by decide +kernel⟩, List.mem_of_getElem? (i := 955) (by decide +kernel), List.mem_of_getElem? (i := 1074) (by decide +kernel), List.mem_of_getElem? (i := 1075) (by decide +kernel)⟩
theorem lw_p29 : lw_okq (⟨"ChainedChestModel", "takesBy", "(IIII)I"⟩, 24) := ⟨⟨by decide +kernel, by decide +kernel⟩, List.mem_of_getElem? (i := 955) (by decide +kernel), List.mem_of_getElem? (i := 1078) (by decide +kernel), List.mem_of_getElem? (i := 1079) (by decide +kernel)⟩
theorem lw_p30 : lw_okq (⟨"ChainedChestModel", "soundsOf", "(I)I"⟩, 24) := ⟨⟨by decide +kernel, by decide +kernel⟩, List.mem_of_getElem? (i := 955) (by decide +kernel), List.mem_of_getElem? (i := 1088) (by decide +kernel), List.mem_of_getElem? (i := 1089) (by decide +kernel)⟩
theorem lw_p31 : lw_okq (⟨"ChainedChestModel", "mostOf", "(I)I"⟩, 24) := ⟨⟨by decide +kernel, by decide +kernel⟩, List.mem_of_getElem? (i := 955) (by decide +kernel), List.mem_of_getElem? (i := 1096) (by decide +kernel), List.mem_of_getElem? (i := 1097) (by decide +kernel)⟩
def lw_privs_2 : List (MethodName × Nat) := [(⟨"ChainedChest$Tape", "readWord", "()V"⟩, 6), (⟨"ChainedChest$Tape", "readNumber", "()V"⟩, 6), (⟨"ChainedChest$Tape", "readItem", "(LChainedChest$Chest;)Z"⟩, 6), (⟨"ChainedChest$Tape", "isWord", "(Ljava/lang/String;)Z"⟩, 6), (⟨"ChainedChest$Tape", "readLock", "(LChainedChest$Chest;I)Z"⟩, 6), (⟨"ChainedChest$Tape", "readRule", "(LChainedChest$Chest;I)Z"⟩, 6), (⟨"ChainedChestModel", "no", "(I)I"⟩, 24), (⟨"ChainedChestModel", "comes", "(I)V"⟩, 24), (⟨"ChainedChestModel", "puts", "(III)V"⟩, 24), (⟨"ChainedChestModel", "isLock", "(I)Z"⟩, 24), (⟨"ChainedChestModel", "get", "(II)I"⟩, 24), (⟨"ChainedChestModel", "slackBy", "(I)I"⟩, 24), (⟨"ChainedChestModel", "freeBy", "(I)I"⟩, 24), (⟨"ChainedChestModel", "takesBy", "(IIII)I"⟩, 24), (⟨"ChainedChestModel", "soundsOf", "(I)I"⟩, 24), (⟨"ChainedChestModel", "mostOf", "(I)I"⟩, 24)]
theorem lw_r2 : ∀ q ∈ lw_privs_2, lw_okq q := List.forall_mem_cons.mpr ⟨lw_p16, List.forall_mem_cons.mpr ⟨lw_p17, List.forall_mem_cons.mpr ⟨lw_p18, List.forall_mem_cons.mpr ⟨lw_p19, List.forall_mem_cons.mpr ⟨lw_p20, List.forall_mem_cons.mpr ⟨lw_p21, List.forall_mem_cons.mpr ⟨lw_p22, List.forall_mem_cons.mpr ⟨lw_p23, List.forall_mem_cons.mpr ⟨lw_p24, List.forall_mem_cons.mpr ⟨lw_p25, List.forall_mem_cons.mpr ⟨lw_p26, List.forall_mem_cons.mpr ⟨lw_p27, List.forall_mem_cons.mpr ⟨lw_p28, List.forall_mem_cons.mpr ⟨lw_p29, List.forall_mem_cons.mpr ⟨lw_p30, List.forall_mem_cons.mpr ⟨lw_p31, fun _ h => absurd h List.not_mem_nil⟩⟩⟩⟩⟩⟩⟩⟩⟩⟩⟩⟩⟩⟩⟩⟩
theorem lw_p32 : lw_okq (⟨"ChainedChestModel", "allLocks", "()I"⟩, 24) := ⟨⟨by decide +kernel, by decide +kernel⟩, List.mem_of_getElem? (i := 955) (by decide +kernel), List.mem_of_getElem? (i := 1100) (by decide +kernel), List.mem_of_getElem? (i := 1101) (by decide +kernel)⟩
theorem lw_p33 : lw_okq (⟨"ChainedChestModel", "mayBy", "(I)I"⟩, 24) := ⟨⟨by decide +kernel, by decide +kernel⟩, List.mem_of_getElem? (i := 955) (by decide +kernel), List.mem_of_getElem? (i := 1120) (by decide +kernel), List.mem_of_getElem? (i := 1121) (by decide +kernel)⟩
theorem lw_p34 : lw_okq (⟨"ChainedChestModel", "whyBy", "(IIII)I"⟩, 24) := ⟨⟨by decide +kernel, by decide +kernel⟩, List.mem_of_getElem? (i := 955) (by decide +kernel), List.mem_of_getElem? (i := 1124) (by decide +kernel), List.mem_of_getElem? (i := 1125) (by decide +kernel)⟩
theorem lw_p35 : lw_okq (⟨"ChainedChestModel", "takesNow", "(I)I"⟩, 24) := ⟨⟨by decide +kernel, by decide +kernel⟩, List.mem_of_getElem? (i := 955) (by decide +kernel), List.mem_of_getElem? (i := 1136) (by decide +kernel), List.mem_of_getElem? (i := 1137) (by decide +kernel)⟩
theorem lw_p36 : lw_okq (⟨"ChainedChestModel", "comesOff", "(I)V"⟩, 24) := ⟨⟨by decide +kernel, by decide +kernel⟩, List.mem_of_getElem? (i := 955) (by decide +kernel), List.mem_of_getElem? (i := 1141) (by decide +kernel), List.mem_of_getElem? (i := 1142) (by decide +kernel)⟩
theorem lw_p37 : lw_okq (⟨"ChainedChestModel", "doesPlay", "(I)Z"⟩, 24) := ⟨⟨by decide +kernel, by decide +kernel⟩, List.mem_of_getElem? (i := 955) (by decide +kernel), List.mem_of_getElem? (i := 1145) (by decide +kernel), List.mem_of_getElem? (i := 1146) (by decide +kernel)⟩
theorem lw_p38 : lw_okq (⟨"ChainedChestModel", "isOut", "(I)Z"⟩, 24) := ⟨⟨by decide +kernel, by decide +kernel⟩, List.mem_of_getElem? (i := 955) (by decide +kernel), List.mem_of_getElem? (i := 1153) (by decide +kernel), List.mem_of_getElem? (i := 1154) (by decide +kernel)⟩
theorem lw_p39 : lw_okq (⟨"ChainedChestModel", "leastFrom", "(II)I"⟩, 24) := ⟨⟨by decide +kernel, by decide +kernel⟩, List.mem_of_getElem? (i := 955) (by decide +kernel), List.mem_of_getElem? (i := 1161) (by decide +kernel), List.mem_of_getElem? (i := 1162) (by decide +kernel)⟩
theorem lw_p40 : lw_okq (⟨"ChainedChestModel", "costs", "(IIIII)I"⟩, 24) := ⟨⟨by decide +kernel, by decide +kernel⟩, List.mem_of_getElem? (i := 955) (by decide +kernel), List.mem_of_getElem? (i := 1166) (by decide +kernel), List.mem_of_getElem? (i := 1167) (by decide +kernel)⟩
theorem lw_p41 : lw_okq (⟨"ChainedChestModel", "told1", "(I)I"⟩, 24) := ⟨⟨by decide +kernel, by decide +kernel⟩, List.mem_of_getElem? (i := 955) (by decide +kernel), List.mem_of_getElem? (i := 1170) (by decide +kernel), List.mem_of_getElem? (i := 1171) (by decide +kernel)⟩
theorem lw_p42 : lw_okq (⟨"ChainedChestModel", "findsRow", "()Z"⟩, 24) := ⟨⟨by decide +kernel, by decide +kernel⟩, List.mem_of_getElem? (i := 955) (by decide +kernel), List.mem_of_getElem? (i := 1178) (by decide +kernel), List.mem_of_getElem? (i := 1179) (by decide +kernel)⟩
theorem lw_p43 : lw_okq (⟨"ChainedChestModel", "setsAside", "()V"⟩, 24) := ⟨⟨by decide +kernel, by decide +kernel⟩, List.mem_of_getElem? (i := 955) (by decide +kernel), List.mem_of_getElem? (i := 1194) (by decide +kernel), List.mem_of_getElem? (i := 1195) (by decide +kernel)⟩
theorem lw_p44 : lw_okq (⟨"ChainedChestModel", "laysBack", "()V"⟩, 24) := ⟨⟨by decide +kernel, by decide +kernel⟩, List.mem_of_getElem? (i := 955) (by decide +kernel), List.mem_of_getElem? (i := 1198) (by decide +kernel), List.mem_of_getElem? (i := 1199) (by decide +kernel)⟩
theorem lw_p45 : lw_okq (⟨"ChainedChestModel", "countsWays", "(Z)V"⟩, 24) := ⟨⟨by decide +kernel, by decide +kernel⟩, List.mem_of_getElem? (i := 955) (by decide +kernel), List.mem_of_getElem? (i := 1206) (by decide +kernel), List.mem_of_getElem? (i := 1207) (by decide +kernel)⟩
theorem lw_p46 : lw_okq (⟨"ChainedChestModel", "bestLink", "()I"⟩, 24) := ⟨⟨by decide +kernel, by decide +kernel⟩, List.mem_of_getElem? (i := 955) (by decide +kernel), List.mem_of_getElem? (i := 1238) (by decide +kernel), List.mem_of_getElem? (i := 1239) (by decide +kernel)⟩
theorem lw_p47 : lw_okq (⟨"ChainedChestModel", "wrongSheet", "(I)I"⟩, 24) := ⟨⟨by decide +kernel, by decide +kernel⟩, List.mem_of_getElem? (i := 955) (by decide +kernel), List.mem_of_getElem? (i := 1259) (by decide +kernel), List.mem_of_getElem? (i := 1260) (by decide +kernel)⟩
def lw_privs_3 : List (MethodName × Nat) := [(⟨"ChainedChestModel", "allLocks", "()I"⟩, 24), (⟨"ChainedChestModel", "mayBy", "(I)I"⟩, 24), (⟨"ChainedChestModel", "whyBy", "(IIII)I"⟩, 24), (⟨"ChainedChestModel", "takesNow", "(I)I"⟩, 24), (⟨"ChainedChestModel", "comesOff", "(I)V"⟩, 24), (⟨"ChainedChestModel", "doesPlay", "(I)Z"⟩, 24), (⟨"ChainedChestModel", "isOut", "(I)Z"⟩, 24), (⟨"ChainedChestModel", "leastFrom", "(II)I"⟩, 24), (⟨"ChainedChestModel", "costs", "(IIIII)I"⟩, 24), (⟨"ChainedChestModel", "told1", "(I)I"⟩, 24), (⟨"ChainedChestModel", "findsRow", "()Z"⟩, 24), (⟨"ChainedChestModel", "setsAside", "()V"⟩, 24), (⟨"ChainedChestModel", "laysBack", "()V"⟩, 24), (⟨"ChainedChestModel", "countsWays", "(Z)V"⟩, 24), (⟨"ChainedChestModel", "bestLink", "()I"⟩, 24), (⟨"ChainedChestModel", "wrongSheet", "(I)I"⟩, 24)]
theorem lw_r3 : ∀ q ∈ lw_privs_3, lw_okq q := List.forall_mem_cons.mpr ⟨lw_p32, List.forall_mem_cons.mpr ⟨lw_p33, List.forall_mem_cons.mpr ⟨lw_p34, List.forall_mem_cons.mpr ⟨lw_p35, List.forall_mem_cons.mpr ⟨lw_p36, List.forall_mem_cons.mpr ⟨lw_p37, List.forall_mem_cons.mpr ⟨lw_p38, List.forall_mem_cons.mpr ⟨lw_p39, List.forall_mem_cons.mpr ⟨lw_p40, List.forall_mem_cons.mpr ⟨lw_p41, List.forall_mem_cons.mpr ⟨lw_p42, List.forall_mem_cons.mpr ⟨lw_p43, List.forall_mem_cons.mpr ⟨lw_p44, List.forall_mem_cons.mpr ⟨lw_p45, List.forall_mem_cons.mpr ⟨lw_p46, List.forall_mem_cons.mpr ⟨lw_p47, fun _ h => absurd h List.not_mem_nil⟩⟩⟩⟩⟩⟩⟩⟩⟩⟩⟩⟩⟩⟩⟩⟩
theorem lw_p48 : lw_okq (⟨"ChainedChestModel", "countsHeard", "(I)V"⟩, 24) := ⟨⟨by decide +kernel, by decide +kernel⟩, List.mem_of_getElem? (i := 955) (by decide +kernel), List.mem_of_getElem? (i := 1266) (by decide +kernel), List.mem_of_getElem? (i := 1267) (by decide +kernel)⟩
theorem lw_p49 : lw_okq (⟨"ChainedChestModel", "heardLocks", "(II)I"⟩, 24) := ⟨⟨by decide +kernel, by decide +kernel⟩, List.mem_of_getElem? (i := 955) (by decide +kernel), List.mem_of_getElem? (i := 1270) (by decide +kernel), List.mem_of_getElem? (i := 1271) (by decide +kernel)⟩
theorem lw_p50 : lw_okq (⟨"ChainedChestModel", "heardTold", "(IZ)I"⟩, 24) := ⟨⟨by decide +kernel, by decide +kernel⟩, List.mem_of_getElem? (i := 955) (by decide +kernel), List.mem_of_getElem? (i := 1278) (by decide +kernel), List.mem_of_getElem? (i := 1279) (by decide +kernel)⟩
theorem lw_p51 : lw_okq (⟨"ChainedChestModel", "heardSet", "(IZ)I"⟩, 24) := ⟨⟨by decide +kernel, by decide +kernel⟩, List.mem_of_getElem? (i := 955) (by decide +kernel), List.mem_of_getElem? (i := 1282) (by decide +kernel), List.mem_of_getElem? (i := 1283) (by decide +kernel)⟩
theorem lw_p52 : lw_okq (⟨"ChainedChestModel", "draw", "()I"⟩, 24) := ⟨⟨by decide +kernel, by decide +kernel⟩, List.mem_of_getElem? (i := 955) (by decide +kernel), List.mem_of_getElem? (i := 1299) (by decide +kernel), List.mem_of_getElem? (i := 1300) (by decide +kernel)⟩
theorem lw_p53 : lw_okq (⟨"ChainedChestModel", "nthOf", "(II)I"⟩, 24) := ⟨⟨by decide +kernel, by decide +kernel⟩, List.mem_of_getElem? (i := 955) (by decide +kernel), List.mem_of_getElem? (i := 1304) (by decide +kernel), List.mem_of_getElem? (i := 1305) (by decide +kernel)⟩
theorem lw_p54 : lw_okq (⟨"ChainedChestModel", "nextToken", "()V"⟩, 24) := ⟨⟨by decide +kernel, by decide +kernel⟩, List.mem_of_getElem? (i := 955) (by decide +kernel), List.mem_of_getElem? (i := 1324) (by decide +kernel), List.mem_of_getElem? (i := 1325) (by decide +kernel)⟩
theorem lw_p55 : lw_okq (⟨"ChainedChestModel", "readsItem", "()Z"⟩, 24) := ⟨⟨by decide +kernel, by decide +kernel⟩, List.mem_of_getElem? (i := 955) (by decide +kernel), List.mem_of_getElem? (i := 1339) (by decide +kernel), List.mem_of_getElem? (i := 1340) (by decide +kernel)⟩
theorem lw_p56 : lw_okq (⟨"ChainedChestModel", "wordOf", "([C)I"⟩, 24) := ⟨⟨by decide +kernel, by decide +kernel⟩, List.mem_of_getElem? (i := 955) (by decide +kernel), List.mem_of_getElem? (i := 1343) (by decide +kernel), List.mem_of_getElem? (i := 1344) (by decide +kernel)⟩
theorem lw_p57 : lw_okq (⟨"ChainedChestModel", "readsLock", "(I)Z"⟩, 24) := ⟨⟨by decide +kernel, by decide +kernel⟩, List.mem_of_getElem? (i := 955) (by decide +kernel), List.mem_of_getElem? (i := 1347) (by decide +kernel), List.mem_of_getElem? (i := 1348) (by decide +kernel)⟩
theorem lw_p58 : lw_okq (⟨"ChainedChestModel", "takesNumber", "(II)I"⟩, 24) := ⟨⟨by decide +kernel, by decide +kernel⟩, List.mem_of_getElem? (i := 955) (by decide +kernel), List.mem_of_getElem? (i := 1351) (by decide +kernel), List.mem_of_getElem? (i := 1352) (by decide +kernel)⟩
def lw_privs_4 : List (MethodName × Nat) := [(⟨"ChainedChestModel", "countsHeard", "(I)V"⟩, 24), (⟨"ChainedChestModel", "heardLocks", "(II)I"⟩, 24), (⟨"ChainedChestModel", "heardTold", "(IZ)I"⟩, 24), (⟨"ChainedChestModel", "heardSet", "(IZ)I"⟩, 24), (⟨"ChainedChestModel", "draw", "()I"⟩, 24), (⟨"ChainedChestModel", "nthOf", "(II)I"⟩, 24), (⟨"ChainedChestModel", "nextToken", "()V"⟩, 24), (⟨"ChainedChestModel", "readsItem", "()Z"⟩, 24), (⟨"ChainedChestModel", "wordOf", "([C)I"⟩, 24), (⟨"ChainedChestModel", "readsLock", "(I)Z"⟩, 24), (⟨"ChainedChestModel", "takesNumber", "(II)I"⟩, 24)]
theorem lw_r4 : ∀ q ∈ lw_privs_4, lw_okq q := List.forall_mem_cons.mpr ⟨lw_p48, List.forall_mem_cons.mpr ⟨lw_p49, List.forall_mem_cons.mpr ⟨lw_p50, List.forall_mem_cons.mpr ⟨lw_p51, List.forall_mem_cons.mpr ⟨lw_p52, List.forall_mem_cons.mpr ⟨lw_p53, List.forall_mem_cons.mpr ⟨lw_p54, List.forall_mem_cons.mpr ⟨lw_p55, List.forall_mem_cons.mpr ⟨lw_p56, List.forall_mem_cons.mpr ⟨lw_p57, List.forall_mem_cons.mpr ⟨lw_p58, fun _ h => absurd h List.not_mem_nil⟩⟩⟩⟩⟩⟩⟩⟩⟩⟩⟩
def lw_privs : List (MethodName × Nat) := lw_privs_1 ++ (lw_privs_2 ++ (lw_privs_3 ++ (lw_privs_4)))
def lw_tbl : List Cond := k2_sels lw_privs ++ tables_1
theorem lw_privs_ok : ∀ q ∈ lw_privs, lw_okq q := by
  show ∀ q ∈ lw_privs_1 ++ (lw_privs_2 ++ (lw_privs_3 ++ (lw_privs_4))), lw_okq q
  exact List.forall_mem_append.mpr ⟨lw_r1, List.forall_mem_append.mpr ⟨lw_r2, List.forall_mem_append.mpr ⟨lw_r3, lw_r4⟩⟩⟩
-- ===== end of PART A; then your names; then what follows =====
end
section
/-! names and tables of the class, the reference and the few JDK methods that they reach: written by wip/gen/gen.py -/
def RX0 : String := "ChainedChest$Chest"
def TX0 : u_T := fun k => match k with
  | 0 => ("ChainedChest$Chest", "traits", "[[I", true)
  | 1 => ("ChainedChest$Chest", "rules", "[I", true)
  | 2 => ("ChainedChest$Chest", "spots", "[I", true)
  | 3 => ("ChainedChest$Chest", "locks", "I", false)
  | 4 => ("ChainedChest$Chest", "open", "I", false)
  | 5 => ("ChainedChest$Chest", "clock", "I", false)
  | 6 => ("ChainedChest$Chest", "heard", "I", false)
  | _ => ("ChainedChest$Chest", "z", "I", false)
def tyX0 : Nat → FieldType := fun k => match k with
  | 0 => .array (.array .int)
  | 1 => .array .int
  | 2 => .array .int
  | 3 => .int
  | 4 => .int
  | 5 => .int
  | 6 => .int
  | _ => .int
abbrev wsX00 : List Cond := u_ws RX0 TX0 8
theorem nmX0 : ∀ a, a < 8 → ∀ b, b < 8 → a ≠ b → (TX0 a).2.1 ≠ (TX0 b).2.1 := by decide +kernel
theorem tyX0_ok : ∀ k, k < 8 → parseFieldDescriptor (TX0 k).2.2.1 = some (tyX0 k) := by decide +kernel
def RX1 : String := "ChainedChest$Sheet"
def TX1 : u_T := fun k => match k with
  | 0 => ("ChainedChest$Sheet", "numbers", "[I", true)
  | 1 => ("ChainedChest$Sheet", "bits", "I", false)
  | _ => ("ChainedChest$Sheet", "length", "I", false)
def tyX1 : Nat → FieldType := fun k => match k with
  | 0 => .array .int
  | 1 => .int
  | _ => .int
abbrev wsX10 : List Cond := u_ws RX1 TX1 3
theorem nmX1 : ∀ a, a < 3 → ∀ b, b < 3 → a ≠ b → (TX1 a).2.1 ≠ (TX1 b).2.1 := by decide +kernel
theorem tyX1_ok : ∀ k, k < 3 → parseFieldDescriptor (TX1 k).2.2.1 = some (tyX1 k) := by decide +kernel
def RX2 : String := "ChainedChest$Smith"
def TX2 : u_T := fun k => match k with
  | 0 => ("ChainedChest$Smith", "chest", "LChainedChest$Chest;", true)
  | 1 => ("ChainedChest$Smith", "ways", "LChainedChest$Ways;", true)
  | 2 => ("ChainedChest$Smith", "linkPair", "I", false)
  | _ => ("ChainedChest$Smith", "linkTime", "I", false)
def tyX2 : Nat → FieldType := fun k => match k with
  | 0 => .object "ChainedChest$Chest"
  | 1 => .object "ChainedChest$Ways"
  | 2 => .int
  | _ => .int
abbrev wsX20 : List Cond := u_ws RX2 TX2 4
theorem nmX2 : ∀ a, a < 4 → ∀ b, b < 4 → a ≠ b → (TX2 a).2.1 ≠ (TX2 b).2.1 := by decide +kernel
theorem tyX2_ok : ∀ k, k < 4 → parseFieldDescriptor (TX2 k).2.2.1 = some (tyX2 k) := by decide +kernel
def RX3 : String := "ChainedChest$Tape"
def TX3 : u_T := fun k => match k with
  | 0 => ("ChainedChest$Tape", "bytes", "[I", true)
  | 1 => ("ChainedChest$Tape", "size", "I", false)
  | 2 => ("ChainedChest$Tape", "from", "I", false)
  | 3 => ("ChainedChest$Tape", "to", "I", false)
  | 4 => ("ChainedChest$Tape", "token", "I", false)
  | _ => ("ChainedChest$Tape", "value", "I", false)
def tyX3 : Nat → FieldType := fun k => match k with
  | 0 => .array .int
  | 1 => .int
  | 2 => .int
  | 3 => .int
  | 4 => .int
  | _ => .int
abbrev wsX30 : List Cond := u_ws RX3 TX3 6
theorem nmX3 : ∀ a, a < 6 → ∀ b, b < 6 → a ≠ b → (TX3 a).2.1 ≠ (TX3 b).2.1 := by decide +kernel
theorem tyX3_ok : ∀ k, k < 6 → parseFieldDescriptor (TX3 k).2.2.1 = some (tyX3 k) := by decide +kernel
def RX4 : String := "ChainedChest$Ways"
def TX4 : u_T := fun k => match k with
  | 0 => ("ChainedChest$Ways", "chest", "LChainedChest$Chest;", true)
  | 1 => ("ChainedChest$Ways", "mays", "[I", true)
  | 2 => ("ChainedChest$Ways", "slacks", "[I", true)
  | 3 => ("ChainedChest$Ways", "hands", "[I", true)
  | 4 => ("ChainedChest$Ways", "sums", "[I", true)
  | 5 => ("ChainedChest$Ways", "linkedSums", "[I", true)
  | 6 => ("ChainedChest$Ways", "row", "[I", true)
  | 7 => ("ChainedChest$Ways", "rowLength", "I", false)
  | 8 => ("ChainedChest$Ways", "fittingRows", "I", false)
  | 9 => ("ChainedChest$Ways", "fittingAny", "I", false)
  | _ => ("ChainedChest$Ways", "fittingAll", "I", false)
def tyX4 : Nat → FieldType := fun k => match k with
  | 0 => .object "ChainedChest$Chest"
  | 1 => .array .int
  | 2 => .array .int
  | 3 => .array .int
  | 4 => .array .int
  | 5 => .array .int
  | 6 => .array .int
  | 7 => .int
  | 8 => .int
  | 9 => .int
  | _ => .int
abbrev wsX40 : List Cond := u_ws RX4 TX4 11
theorem nmX4 : ∀ a, a < 11 → ∀ b, b < 11 → a ≠ b → (TX4 a).2.1 ≠ (TX4 b).2.1 := by decide +kernel
theorem tyX4_ok : ∀ k, k < 11 → parseFieldDescriptor (TX4 k).2.2.1 = some (tyX4 k) := by decide +kernel
def RX5 : String := "ChainedChest"
def TX5 : u_T := fun k => match k with
  | 0 => ("ChainedChest", "chest", "LChainedChest$Chest;", true)
  | 1 => ("ChainedChest", "kept", "LChainedChest$Chest;", true)
  | 2 => ("ChainedChest", "draft", "LChainedChest$Chest;", true)
  | 3 => ("ChainedChest", "ways", "LChainedChest$Ways;", true)
  | 4 => ("ChainedChest", "smith", "LChainedChest$Smith;", true)
  | 5 => ("ChainedChest", "tape", "LChainedChest$Tape;", true)
  | 6 => ("ChainedChest", "sheets", "[LChainedChest$Sheet;", true)
  | 7 => ("ChainedChest", "told", "[I", true)
  | _ => ("ChainedChest", "isKept", "Z", false)
def tyX5 : Nat → FieldType := fun k => match k with
  | 0 => .object "ChainedChest$Chest"
  | 1 => .object "ChainedChest$Chest"
  | 2 => .object "ChainedChest$Chest"
  | 3 => .object "ChainedChest$Ways"
  | 4 => .object "ChainedChest$Smith"
  | 5 => .object "ChainedChest$Tape"
  | 6 => .array (.object "ChainedChest$Sheet")
  | 7 => .array .int
  | _ => .boolean
abbrev wsX50 : List Cond := u_ws RX5 TX5 9
theorem nmX5 : ∀ a, a < 9 → ∀ b, b < 9 → a ≠ b → (TX5 a).2.1 ≠ (TX5 b).2.1 := by decide +kernel
theorem tyX5_ok : ∀ k, k < 9 → parseFieldDescriptor (TX5 k).2.2.1 = some (tyX5 k) := by decide +kernel
def RX6 : String := "ChainedChestModel"
def TX6 : u_T := fun k => match k with
  | 0 => ("ChainedChestModel", "s", "[I", true)
  | 1 => ("ChainedChestModel", "kept", "[I", true)
  | 2 => ("ChainedChestModel", "aside", "[I", true)
  | 3 => ("ChainedChestModel", "isKept", "Z", false)
  | 4 => ("ChainedChestModel", "found", "[I", true)
  | 5 => ("ChainedChestModel", "left", "[I", true)
  | 6 => ("ChainedChestModel", "row", "[I", true)
  | 7 => ("ChainedChestModel", "rowMany", "I", false)
  | 8 => ("ChainedChestModel", "ways", "[I", true)
  | 9 => ("ChainedChestModel", "linkedBy", "I", false)
  | 10 => ("ChainedChestModel", "tape", "[I", true)
  | 11 => ("ChainedChestModel", "taped", "I", false)
  | 12 => ("ChainedChestModel", "token", "I", false)
  | 13 => ("ChainedChestModel", "begun", "I", false)
  | 14 => ("ChainedChestModel", "ended", "I", false)
  | 15 => ("ChainedChestModel", "value", "J", false)
  | 16 => ("ChainedChestModel", "letters", "[C", true)
  | 17 => ("ChainedChestModel", "more", "[C", true)
  | 18 => ("ChainedChestModel", "others", "[C", true)
  | 19 => ("ChainedChestModel", "fieldOf", "[I", true)
  | 20 => ("ChainedChestModel", "widths", "[I", true)
  | 21 => ("ChainedChestModel", "sizes", "[I", true)
  | 22 => ("ChainedChestModel", "cells", "[I", true)
  | _ => ("ChainedChestModel", "carried", "[I", true)
def tyX6 : Nat → FieldType := fun k => match k with
  | 0 => .array .int
  | 1 => .array .int
  | 2 => .array .int
  | 3 => .boolean
  | 4 => .array .int
  | 5 => .array .int
  | 6 => .array .int
  | 7 => .int
  | 8 => .array .int
  | 9 => .int
  | 10 => .array .int
  | 11 => .int
  | 12 => .int
  | 13 => .int
  | 14 => .int
  | 15 => .long
  | 16 => .array .char
  | 17 => .array .char
  | 18 => .array .char
  | 19 => .array .int
  | 20 => .array .int
  | 21 => .array .int
  | 22 => .array .int
  | _ => .array .int
abbrev wsX60 : List Cond := u_ws RX6 TX6 24
theorem nmX6 : ∀ a, a < 24 → ∀ b, b < 24 → a ≠ b → (TX6 a).2.1 ≠ (TX6 b).2.1 := by decide +kernel
theorem tyX6_ok : ∀ k, k < 24 → parseFieldDescriptor (TX6 k).2.2.1 = some (tyX6 k) := by decide +kernel
abbrev cls7 : List vw_C := [(RX0, TX0, 8), (RX1, TX1, 3), (RX2, TX2, 4), (RX3, TX3, 6), (RX4, TX4, 11), (RX5, TX5, 9), (RX6, TX6, 24)]
/-- classes by number: the seven of the claim, then the JDK's -/
def ocL : List String := [RX0, RX1, RX2, RX3, RX4, RX5, RX6, "java/lang/Integer", "java/lang/Math", "java/lang/String", "java/lang/StringLatin1", "java/util/Arrays", "jdk/internal/util/Preconditions"]
def ocN (k : Nat) : String := ocL.getD k ""
/-- a method: its class's number, its name, its code, its locals, what it returns, how deep its calls go, whether it is static, its arguments (the receiver counts) -/
abbrev MI : Type := Nat × MethodName × ByteArray × Nat × Option FieldType × Nat × Bool × Nat
abbrev mC_become : Nat := 0
abbrev mC_isKind : Nat := 1
abbrev mC_isUnder : Nat := 2
abbrev mC_has : Nat := 3
abbrev mC_allLocks : Nat := 4
abbrev mC_add : Nat := 5
abbrev mC_trait : Nat := 6
abbrev mC_isTrait : Nat := 7
abbrev mC_allows : Nat := 8
abbrev mC_putTrait : Nat := 9
abbrev mC_isRule : Nat := 10
abbrev mC_allowsRule : Nat := 11
abbrev mC_putRule : Nat := 12
abbrev mC_goal : Nat := 13
abbrev mC_isOff : Nat := 14
abbrev mC_shutAll : Nat := 15
abbrev mC_slackAt : Nat := 16
abbrev mC_freeAt : Nat := 17
abbrev mC_isOutAt : Nat := 18
abbrev mC_playsAt : Nat := 19
abbrev mC_mayAt : Nat := 20
abbrev mC_mayWith : Nat := 21
abbrev mC_reasonNow : Nat := 22
abbrev mC_reason : Nat := 23
abbrev mC_takesNow : Nat := 24
abbrev mC_takes : Nat := 25
abbrev mC_sounds : Nat := 26
abbrev mC_step : Nat := 27
abbrev mC_draw : Nat := 28
abbrev mC_tryFriday : Nat := 29
abbrev mC_nth : Nat := 30
abbrev mC_isSpot : Nat := 31
abbrev mC_putSpot : Nat := 32
abbrev mC_atSpot : Nat := 33
abbrev mC_heldSpots : Nat := 34
abbrev mC_allTimes : Nat := 35
abbrev mC_loadTimes : Nat := 36
abbrev mC_firstBarred : Nat := 37
abbrev mS_isWidth : Nat := 38
abbrev mS_isMissing : Nat := 39
abbrev mS_isLike : Nat := 40
abbrev mS_begin : Nat := 41
abbrev mS_length : Nat := 42
abbrev mS_has : Nat := 43
abbrev mS_hasRun : Nat := 44
abbrev mS_number : Nat := 45
abbrev mS_put : Nat := 46
abbrev mS_copyTo : Nat := 47
abbrev mK_fewestTools : Nat := 48
abbrev mK_leastSpare : Nat := 49
abbrev mK_bestWire : Nat := 50
abbrev mK_bestKind : Nat := 51
abbrev mK_bestSpared : Nat := 52
abbrev mK_findLink : Nat := 53
abbrev mK_tryLink : Nat := 54
abbrev mK_linkPair : Nat := 55
abbrev mK_linkTime : Nat := 56
abbrev mT_size : Nat := 57
abbrev mT_put : Nat := 58
abbrev mT_clear : Nat := 59
abbrev mT_read : Nat := 60
abbrev mT_readItem : Nat := 61
abbrev mT_readLock : Nat := 62
abbrev mT_readRule : Nat := 63
abbrev mT_kindWord : Nat := 64
abbrev mT_ruleWord : Nat := 65
abbrev mT_optionWord : Nat := 66
abbrev mT_optionTrait : Nat := 67
abbrev mT_byteAt : Nat := 68
abbrev mT_isLetter : Nat := 69
abbrev mT_isDigit : Nat := 70
abbrev mT_nextToken : Nat := 71
abbrev mT_readWord : Nat := 72
abbrev mT_readNumber : Nat := 73
abbrev mT_isWord : Nat := 74
abbrev mW_explore : Nat := 75
abbrev mW_markFollowers : Nat := 76
abbrev mW_leastFrom : Nat := 77
abbrev mW_settle : Nat := 78
abbrev mW_settleLinked : Nat := 79
abbrev mW_leastOn : Nat := 80
abbrev mW_cost : Nat := 81
abbrev mW_findRow : Nat := 82
abbrev mW_firstBest : Nat := 83
abbrev mW_rowLength : Nat := 84
abbrev mW_rowLock : Nat := 85
abbrev mW_rowEnd : Nat := 86
abbrev mW_rowHeard : Nat := 87
abbrev mW_everOff : Nat := 88
abbrev mW_reachedStates : Nat := 89
abbrev mW_hasWayOut : Nat := 90
abbrev mW_waysOut : Nat := 91
abbrev mW_handOn : Nat := 92
abbrev mW_surestTenths : Nat := 93
abbrev mW_odds : Nat := 94
abbrev mW_listen : Nat := 95
abbrev mW_soundingOf : Nat := 96
abbrev mW_fittingRows : Nat := 97
abbrev mW_fittingAny : Nat := 98
abbrev mW_fittingAll : Nat := 99
abbrev mX_lock : Nat := 100
abbrev mX_of : Nat := 101
abbrev mX_change : Nat := 102
abbrev mX_rule : Nat := 103
abbrev mX_on : Nat := 104
abbrev mX_shut : Nat := 105
abbrev mX_may : Nat := 106
abbrev mX_why : Nat := 107
abbrev mX_off : Nat := 108
abbrev mX_now : Nat := 109
abbrev mX_soonest : Nat := 110
abbrev mX_ith : Nat := 111
abbrev mX_quietest : Nat := 112
abbrev mX_fewest : Nat := 113
abbrev mX_ahead : Nat := 114
abbrev mX_ever : Nat := 115
abbrev mX_states : Nat := 116
abbrev mX_rows : Nat := 117
abbrev mX_tools : Nat := 118
abbrev mX_spare : Nat := 119
abbrev mX_wire : Nat := 120
abbrev mX_kindFor : Nat := 121
abbrev mX_link : Nat := 122
abbrev mX_linked : Nat := 123
abbrev mX_spared : Nat := 124
abbrev mX_surest : Nat := 125
abbrev mX_fits : Nat := 126
abbrev mX_maybe : Nat := 127
abbrev mX_surely : Nat := 128
abbrev mX_hear : Nat := 129
abbrev mX_friday : Nat := 130
abbrev mX_seed : Nat := 131
abbrev mX_feed : Nat := 132
abbrev mX_wipe : Nat := 133
abbrev mX_text : Nat := 134
abbrev mX_hold : Nat := 135
abbrev mX_as : Nat := 136
abbrev mX_sheet : Nat := 137
abbrev mX_write : Nat := 138
abbrev mX_copy : Nat := 139
abbrev mX_load : Nat := 140
abbrev mX_judge : Nat := 141
abbrev mX_image : Nat := 142
abbrev mX_undo : Nat := 143
abbrev mX_tear : Nat := 144
abbrev mX_count : Nat := 145
abbrev mX_status : Nat := 146
abbrev mX_tell : Nat := 147
abbrev mX_orNone : Nat := 148
abbrev mX_isSheet : Nat := 149
abbrev mX_sheetFinding : Nat := 150
abbrev mX_commonDivisor : Nat := 151
abbrev mM_no : Nat := 152
abbrev mM_in1 : Nat := 153
abbrev mM_most : Nat := 154
abbrev mM_bits : Nat := 155
abbrev mM_isIn : Nat := 156
abbrev mM_isLock : Nat := 157
abbrev mM_get : Nat := 158
abbrev mM_puts : Nat := 159
abbrev mM_allLocks : Nat := 160
abbrev mM_slackBy : Nat := 161
abbrev mM_freeBy : Nat := 162
abbrev mM_whyBy : Nat := 163
abbrev mM_takesBy : Nat := 164
abbrev mM_soundsOf : Nat := 165
abbrev mM_mayBy : Nat := 166
abbrev mM_isOut : Nat := 167
abbrev mM_lock : Nat := 168
abbrev mM_comes : Nat := 169
abbrev mM_of : Nat := 170
abbrev mM_mostOf : Nat := 171
abbrev mM_change : Nat := 172
abbrev mM_rule : Nat := 173
abbrev mM_on : Nat := 174
abbrev mM_shut : Nat := 175
abbrev mM_may : Nat := 176
abbrev mM_why : Nat := 177
abbrev mM_doesPlay : Nat := 178
abbrev mM_takesNow : Nat := 179
abbrev mM_comesOff : Nat := 180
abbrev mM_off : Nat := 181
abbrev mM_now : Nat := 182
abbrev mM_costs : Nat := 183
abbrev mM_leastFrom : Nat := 184
abbrev mM_told1 : Nat := 185
abbrev mM_soonest : Nat := 186
abbrev mM_findsRow : Nat := 187
abbrev mM_ith : Nat := 188
abbrev mM_quietest : Nat := 189
abbrev mM_fewest : Nat := 190
abbrev mM_setsAside : Nat := 191
abbrev mM_laysBack : Nat := 192
abbrev mM_ahead : Nat := 193
abbrev mM_countsWays : Nat := 194
abbrev mM_ever : Nat := 195
abbrev mM_states : Nat := 196
abbrev mM_rows : Nat := 197
abbrev mM_tools : Nat := 198
abbrev mM_spare : Nat := 199
abbrev mM_wire : Nat := 200
abbrev mM_kindFor : Nat := 201
abbrev mM_bestLink : Nat := 202
abbrev mM_link : Nat := 203
abbrev mM_linked : Nat := 204
abbrev mM_spared : Nat := 205
abbrev mM_surest : Nat := 206
abbrev mM_isSheet : Nat := 207
abbrev mM_heardLocks : Nat := 208
abbrev mM_countsHeard : Nat := 209
abbrev mM_wrongSheet : Nat := 210
abbrev mM_fits : Nat := 211
abbrev mM_heardSet : Nat := 212
abbrev mM_heardTold : Nat := 213
abbrev mM_maybe : Nat := 214
abbrev mM_surely : Nat := 215
abbrev mM_hear : Nat := 216
abbrev mM_draw : Nat := 217
abbrev mM_nthOf : Nat := 218
abbrev mM_friday : Nat := 219
abbrev mM_seed : Nat := 220
abbrev mM_feed : Nat := 221
abbrev mM_wipe : Nat := 222
abbrev mM_isLetter : Nat := 223
abbrev mM_isDigit : Nat := 224
abbrev mM_nextToken : Nat := 225
abbrev mM_wordOf : Nat := 226
abbrev mM_takesNumber : Nat := 227
abbrev mM_readsLock : Nat := 228
abbrev mM_readsItem : Nat := 229
abbrev mM_text : Nat := 230
abbrev mM_isSpot : Nat := 231
abbrev mM_hold : Nat := 232
abbrev mM_above : Nat := 233
abbrev mM_as : Nat := 234
abbrev mM_sheet : Nat := 235
abbrev mM_write : Nat := 236
abbrev mM_copy : Nat := 237
abbrev mM_load : Nat := 238
abbrev mM_judge : Nat := 239
abbrev mM_image : Nat := 240
abbrev mM_undo : Nat := 241
abbrev mM_tear : Nat := 242
abbrev mM_count : Nat := 243
abbrev mM_status : Nat := 244
abbrev mJI_bitCount : Nat := 245
abbrev mJS_charAt : Nat := 246
abbrev mJS_checkIndex : Nat := 247
abbrev mJS_coder : Nat := 248
abbrev mJS_isLatin1 : Nat := 249
abbrev mJS_length : Nat := 250
abbrev mJL_charAt : Nat := 251
abbrev mJA_fill : Nat := 252
abbrev mJP_checkIndex : Nat := 253
def mL_0 : List MI := [(0, ⟨"ChainedChest$Chest", "become", "(LChainedChest$Chest;)V"⟩, prog_2_method_2_code, 3, (Option.none : Option Jvm.ClassFile.FieldType), 1, false, 2),
  (0, ⟨"ChainedChest$Chest", "isKind", "(I)Z"⟩, prog_2_method_3_code, 1, (Option.some Jvm.ClassFile.FieldType.boolean), 0, true, 1),
  (0, ⟨"ChainedChest$Chest", "isUnder", "(II)Z"⟩, prog_2_method_4_code, 4, (Option.some Jvm.ClassFile.FieldType.boolean), 1, true, 2),
  (0, ⟨"ChainedChest$Chest", "has", "(I)Z"⟩, prog_2_method_5_code, 2, (Option.some Jvm.ClassFile.FieldType.boolean), 0, false, 2),
  (0, ⟨"ChainedChest$Chest", "allLocks", "()I"⟩, prog_2_method_6_code, 1, (Option.some Jvm.ClassFile.FieldType.int), 0, false, 1),
  (0, ⟨"ChainedChest$Chest", "add", "(I)I"⟩, prog_2_method_7_code, 4, (Option.some Jvm.ClassFile.FieldType.int), 0, false, 2),
  (0, ⟨"ChainedChest$Chest", "trait", "(II)I"⟩, prog_2_method_8_code, 3, (Option.some Jvm.ClassFile.FieldType.int), 1, false, 3),
  (0, ⟨"ChainedChest$Chest", "isTrait", "(I)Z"⟩, prog_2_method_9_code, 1, (Option.some Jvm.ClassFile.FieldType.boolean), 0, true, 1),
  (0, ⟨"ChainedChest$Chest", "allows", "(II)Z"⟩, prog_2_method_10_code, 4, (Option.some Jvm.ClassFile.FieldType.boolean), 1, false, 3),
  (0, ⟨"ChainedChest$Chest", "putTrait", "(III)I"⟩, prog_2_method_11_code, 5, (Option.some Jvm.ClassFile.FieldType.int), 1, false, 4),
  (0, ⟨"ChainedChest$Chest", "isRule", "(I)Z"⟩, prog_2_method_12_code, 1, (Option.some Jvm.ClassFile.FieldType.boolean), 0, true, 1),
  (0, ⟨"ChainedChest$Chest", "allowsRule", "(II)Z"⟩, prog_2_method_13_code, 4, (Option.some Jvm.ClassFile.FieldType.boolean), 1, false, 3),
  (0, ⟨"ChainedChest$Chest", "putRule", "(II)I"⟩, prog_2_method_14_code, 4, (Option.some Jvm.ClassFile.FieldType.int), 1, false, 3),
  (0, ⟨"ChainedChest$Chest", "goal", "()I"⟩, prog_2_method_15_code, 1, (Option.some Jvm.ClassFile.FieldType.int), 0, false, 1),
  (0, ⟨"ChainedChest$Chest", "isOff", "(I)Z"⟩, prog_2_method_16_code, 2, (Option.some Jvm.ClassFile.FieldType.boolean), 0, false, 2),
  (0, ⟨"ChainedChest$Chest", "shutAll", "()I"⟩, prog_2_method_17_code, 2, (Option.some Jvm.ClassFile.FieldType.int), 1, false, 1),
  (0, ⟨"ChainedChest$Chest", "slackAt", "(I)I"⟩, prog_2_method_18_code, 4, (Option.some Jvm.ClassFile.FieldType.int), 0, false, 2),
  (0, ⟨"ChainedChest$Chest", "freeAt", "(I)I"⟩, prog_2_method_19_code, 4, (Option.some Jvm.ClassFile.FieldType.int), 0, false, 2),
  (0, ⟨"ChainedChest$Chest", "isOutAt", "(I)Z"⟩, prog_2_method_20_code, 2, (Option.some Jvm.ClassFile.FieldType.boolean), 0, false, 2),
  (0, ⟨"ChainedChest$Chest", "playsAt", "(I)Z"⟩, prog_2_method_21_code, 3, (Option.some Jvm.ClassFile.FieldType.boolean), 0, false, 2),
  (0, ⟨"ChainedChest$Chest", "mayAt", "(I)I"⟩, prog_2_method_22_code, 2, (Option.some Jvm.ClassFile.FieldType.int), 3, false, 2),
  (0, ⟨"ChainedChest$Chest", "mayWith", "(III)I"⟩, prog_2_method_23_code, 6, (Option.some Jvm.ClassFile.FieldType.int), 2, false, 4),
  (0, ⟨"ChainedChest$Chest", "reasonNow", "(I)I"⟩, prog_2_method_24_code, 2, (Option.some Jvm.ClassFile.FieldType.int), 2, false, 2),
  (0, ⟨"ChainedChest$Chest", "reason", "(IIII)I"⟩, prog_2_method_25_code, 6, (Option.some Jvm.ClassFile.FieldType.int), 1, false, 5),
  (0, ⟨"ChainedChest$Chest", "takesNow", "(I)I"⟩, prog_2_method_26_code, 2, (Option.some Jvm.ClassFile.FieldType.int), 1, false, 2),
  (0, ⟨"ChainedChest$Chest", "takes", "(IIII)I"⟩, prog_2_method_27_code, 9, (Option.some Jvm.ClassFile.FieldType.int), 0, false, 5),
  (0, ⟨"ChainedChest$Chest", "sounds", "(I)I"⟩, prog_2_method_28_code, 3, (Option.some Jvm.ClassFile.FieldType.int), 1, false, 2),
  (0, ⟨"ChainedChest$Chest", "step", "(I)V"⟩, prog_2_method_29_code, 3, (Option.none : Option Jvm.ClassFile.FieldType), 2, false, 2),
  (0, ⟨"ChainedChest$Chest", "draw", "()I"⟩, prog_2_method_30_code, 1, (Option.some Jvm.ClassFile.FieldType.int), 0, false, 1),
  (0, ⟨"ChainedChest$Chest", "tryFriday", "(I)I"⟩, prog_2_method_31_code, 8, (Option.some Jvm.ClassFile.FieldType.int), 4, false, 2),
  (0, ⟨"ChainedChest$Chest", "nth", "(II)I"⟩, prog_2_method_32_code, 4, (Option.some Jvm.ClassFile.FieldType.int), 0, true, 2),
  (0, ⟨"ChainedChest$Chest", "isSpot", "(I)Z"⟩, prog_2_method_33_code, 1, (Option.some Jvm.ClassFile.FieldType.boolean), 0, true, 1),
  (0, ⟨"ChainedChest$Chest", "putSpot", "(II)V"⟩, prog_2_method_34_code, 3, (Option.none : Option Jvm.ClassFile.FieldType), 1, false, 3),
  (0, ⟨"ChainedChest$Chest", "atSpot", "(I)I"⟩, prog_2_method_35_code, 2, (Option.some Jvm.ClassFile.FieldType.int), 1, false, 2),
  (0, ⟨"ChainedChest$Chest", "heldSpots", "()I"⟩, prog_2_method_36_code, 3, (Option.some Jvm.ClassFile.FieldType.int), 0, false, 1),
  (0, ⟨"ChainedChest$Chest", "allTimes", "()I"⟩, prog_2_method_37_code, 3, (Option.some Jvm.ClassFile.FieldType.int), 0, false, 1),
  (0, ⟨"ChainedChest$Chest", "loadTimes", "(LChainedChest$Sheet;)I"⟩, prog_2_method_38_code, 4, (Option.some Jvm.ClassFile.FieldType.int), 2, false, 2),
  (0, ⟨"ChainedChest$Chest", "firstBarred", "(LChainedChest$Sheet;)I"⟩, prog_2_method_39_code, 5, (Option.some Jvm.ClassFile.FieldType.int), 4, false, 2),
  (1, ⟨"ChainedChest$Sheet", "isWidth", "(I)Z"⟩, prog_3_method_2_code, 1, (Option.some Jvm.ClassFile.FieldType.boolean), 0, true, 1),
  (1, ⟨"ChainedChest$Sheet", "isMissing", "()Z"⟩, prog_3_method_3_code, 1, (Option.some Jvm.ClassFile.FieldType.boolean), 0, false, 1)]
def mL_1 : List MI := [(1, ⟨"ChainedChest$Sheet", "isLike", "(LChainedChest$Sheet;)Z"⟩, prog_3_method_4_code, 2, (Option.some Jvm.ClassFile.FieldType.boolean), 0, false, 2),
  (1, ⟨"ChainedChest$Sheet", "begin", "(II)I"⟩, prog_3_method_5_code, 3, (Option.some Jvm.ClassFile.FieldType.int), 1, false, 3),
  (1, ⟨"ChainedChest$Sheet", "length", "()I"⟩, prog_3_method_6_code, 1, (Option.some Jvm.ClassFile.FieldType.int), 0, false, 1),
  (1, ⟨"ChainedChest$Sheet", "has", "(I)Z"⟩, prog_3_method_7_code, 2, (Option.some Jvm.ClassFile.FieldType.boolean), 0, false, 2),
  (1, ⟨"ChainedChest$Sheet", "hasRun", "(II)Z"⟩, prog_3_method_8_code, 3, (Option.some Jvm.ClassFile.FieldType.boolean), 0, false, 3),
  (1, ⟨"ChainedChest$Sheet", "number", "(I)I"⟩, prog_3_method_9_code, 2, (Option.some Jvm.ClassFile.FieldType.int), 1, false, 2),
  (1, ⟨"ChainedChest$Sheet", "put", "(II)V"⟩, prog_3_method_10_code, 3, (Option.none : Option Jvm.ClassFile.FieldType), 1, false, 3),
  (1, ⟨"ChainedChest$Sheet", "copyTo", "(ILChainedChest$Sheet;II)V"⟩, prog_3_method_11_code, 5, (Option.none : Option Jvm.ClassFile.FieldType), 1, false, 5),
  (2, ⟨"ChainedChest$Smith", "fewestTools", "()I"⟩, prog_4_method_2_code, 4, (Option.some Jvm.ClassFile.FieldType.int), 5, false, 1),
  (2, ⟨"ChainedChest$Smith", "leastSpare", "()I"⟩, prog_4_method_3_code, 4, (Option.some Jvm.ClassFile.FieldType.int), 5, false, 1),
  (2, ⟨"ChainedChest$Smith", "bestWire", "()I"⟩, prog_4_method_4_code, 5, (Option.some Jvm.ClassFile.FieldType.int), 6, false, 1),
  (2, ⟨"ChainedChest$Smith", "bestKind", "(I)I"⟩, prog_4_method_5_code, 7, (Option.some Jvm.ClassFile.FieldType.int), 5, false, 2),
  (2, ⟨"ChainedChest$Smith", "bestSpared", "()I"⟩, prog_4_method_6_code, 6, (Option.some Jvm.ClassFile.FieldType.int), 5, false, 1),
  (2, ⟨"ChainedChest$Smith", "findLink", "()V"⟩, prog_4_method_7_code, 3, (Option.none : Option Jvm.ClassFile.FieldType), 6, false, 1),
  (2, ⟨"ChainedChest$Smith", "tryLink", "(II)V"⟩, prog_4_method_8_code, 4, (Option.none : Option Jvm.ClassFile.FieldType), 5, false, 3),
  (2, ⟨"ChainedChest$Smith", "linkPair", "()I"⟩, prog_4_method_9_code, 1, (Option.some Jvm.ClassFile.FieldType.int), 0, false, 1),
  (2, ⟨"ChainedChest$Smith", "linkTime", "()I"⟩, prog_4_method_10_code, 1, (Option.some Jvm.ClassFile.FieldType.int), 0, false, 1),
  (3, ⟨"ChainedChest$Tape", "size", "()I"⟩, prog_5_method_2_code, 1, (Option.some Jvm.ClassFile.FieldType.int), 0, false, 1),
  (3, ⟨"ChainedChest$Tape", "put", "(II)I"⟩, prog_5_method_3_code, 4, (Option.some Jvm.ClassFile.FieldType.int), 0, false, 3),
  (3, ⟨"ChainedChest$Tape", "clear", "()I"⟩, prog_5_method_4_code, 2, (Option.some Jvm.ClassFile.FieldType.int), 0, false, 1),
  (3, ⟨"ChainedChest$Tape", "read", "(LChainedChest$Chest;)I"⟩, prog_5_method_5_code, 3, (Option.some Jvm.ClassFile.FieldType.int), 7, false, 2),
  (3, ⟨"ChainedChest$Tape", "readItem", "(LChainedChest$Chest;)Z"⟩, prog_5_method_6_code, 3, (Option.some Jvm.ClassFile.FieldType.boolean), 6, false, 2),
  (3, ⟨"ChainedChest$Tape", "readLock", "(LChainedChest$Chest;I)Z"⟩, prog_5_method_7_code, 8, (Option.some Jvm.ClassFile.FieldType.boolean), 5, false, 3),
  (3, ⟨"ChainedChest$Tape", "readRule", "(LChainedChest$Chest;I)Z"⟩, prog_5_method_8_code, 3, (Option.some Jvm.ClassFile.FieldType.boolean), 3, false, 3),
  (3, ⟨"ChainedChest$Tape", "kindWord", "(I)Ljava/lang/String;"⟩, prog_5_method_9_code, 1, (Option.some (Jvm.ClassFile.FieldType.object "java/lang/String")), 0, true, 1),
  (3, ⟨"ChainedChest$Tape", "ruleWord", "(I)Ljava/lang/String;"⟩, prog_5_method_10_code, 1, (Option.some (Jvm.ClassFile.FieldType.object "java/lang/String")), 0, true, 1),
  (3, ⟨"ChainedChest$Tape", "optionWord", "(I)Ljava/lang/String;"⟩, prog_5_method_11_code, 1, (Option.some (Jvm.ClassFile.FieldType.object "java/lang/String")), 0, true, 1),
  (3, ⟨"ChainedChest$Tape", "optionTrait", "(I)I"⟩, prog_5_method_12_code, 1, (Option.some Jvm.ClassFile.FieldType.int), 0, true, 1),
  (3, ⟨"ChainedChest$Tape", "byteAt", "(I)I"⟩, prog_5_method_13_code, 2, (Option.some Jvm.ClassFile.FieldType.int), 0, false, 2),
  (3, ⟨"ChainedChest$Tape", "isLetter", "(I)Z"⟩, prog_5_method_14_code, 1, (Option.some Jvm.ClassFile.FieldType.boolean), 0, true, 1),
  (3, ⟨"ChainedChest$Tape", "isDigit", "(I)Z"⟩, prog_5_method_15_code, 1, (Option.some Jvm.ClassFile.FieldType.boolean), 0, true, 1),
  (3, ⟨"ChainedChest$Tape", "nextToken", "()V"⟩, prog_5_method_16_code, 1, (Option.none : Option Jvm.ClassFile.FieldType), 2, false, 1),
  (3, ⟨"ChainedChest$Tape", "readWord", "()V"⟩, prog_5_method_17_code, 1, (Option.none : Option Jvm.ClassFile.FieldType), 1, false, 1),
  (3, ⟨"ChainedChest$Tape", "readNumber", "()V"⟩, prog_5_method_18_code, 1, (Option.none : Option Jvm.ClassFile.FieldType), 1, false, 1),
  (3, ⟨"ChainedChest$Tape", "isWord", "(Ljava/lang/String;)Z"⟩, prog_5_method_19_code, 3, (Option.some Jvm.ClassFile.FieldType.boolean), 4, false, 2),
  (4, ⟨"ChainedChest$Ways", "explore", "(I)V"⟩, prog_6_method_2_code, 4, (Option.none : Option Jvm.ClassFile.FieldType), 3, false, 2),
  (4, ⟨"ChainedChest$Ways", "markFollowers", "(II)V"⟩, prog_6_method_3_code, 4, (Option.none : Option Jvm.ClassFile.FieldType), 0, false, 3),
  (4, ⟨"ChainedChest$Ways", "leastFrom", "(II)I"⟩, prog_6_method_4_code, 3, (Option.some Jvm.ClassFile.FieldType.int), 5, false, 3),
  (4, ⟨"ChainedChest$Ways", "settle", "(II)I"⟩, prog_6_method_5_code, 4, (Option.some Jvm.ClassFile.FieldType.int), 4, false, 3),
  (4, ⟨"ChainedChest$Ways", "settleLinked", "(III)I"⟩, prog_6_method_6_code, 7, (Option.some Jvm.ClassFile.FieldType.int), 4, false, 4)]
def mL_2 : List MI := [(4, ⟨"ChainedChest$Ways", "leastOn", "(III[I)I"⟩, prog_6_method_7_code, 10, (Option.some Jvm.ClassFile.FieldType.int), 3, false, 5),
  (4, ⟨"ChainedChest$Ways", "cost", "(IIII)I"⟩, prog_6_method_8_code, 5, (Option.some Jvm.ClassFile.FieldType.int), 2, false, 5),
  (4, ⟨"ChainedChest$Ways", "findRow", "(I)Z"⟩, prog_6_method_9_code, 5, (Option.some Jvm.ClassFile.FieldType.boolean), 6, false, 2),
  (4, ⟨"ChainedChest$Ways", "firstBest", "(I)I"⟩, prog_6_method_10_code, 5, (Option.some Jvm.ClassFile.FieldType.int), 3, false, 2),
  (4, ⟨"ChainedChest$Ways", "rowLength", "()I"⟩, prog_6_method_11_code, 1, (Option.some Jvm.ClassFile.FieldType.int), 0, false, 1),
  (4, ⟨"ChainedChest$Ways", "rowLock", "(I)I"⟩, prog_6_method_12_code, 2, (Option.some Jvm.ClassFile.FieldType.int), 0, false, 2),
  (4, ⟨"ChainedChest$Ways", "rowEnd", "()I"⟩, prog_6_method_13_code, 1, (Option.some Jvm.ClassFile.FieldType.int), 0, false, 1),
  (4, ⟨"ChainedChest$Ways", "rowHeard", "()I"⟩, prog_6_method_14_code, 5, (Option.some Jvm.ClassFile.FieldType.int), 3, false, 1),
  (4, ⟨"ChainedChest$Ways", "everOff", "()I"⟩, prog_6_method_15_code, 3, (Option.some Jvm.ClassFile.FieldType.int), 4, false, 1),
  (4, ⟨"ChainedChest$Ways", "reachedStates", "()I"⟩, prog_6_method_16_code, 3, (Option.some Jvm.ClassFile.FieldType.int), 4, false, 1),
  (4, ⟨"ChainedChest$Ways", "hasWayOut", "(I)Z"⟩, prog_6_method_17_code, 3, (Option.some Jvm.ClassFile.FieldType.boolean), 4, false, 2),
  (4, ⟨"ChainedChest$Ways", "waysOut", "()I"⟩, prog_6_method_18_code, 3, (Option.some Jvm.ClassFile.FieldType.int), 4, false, 1),
  (4, ⟨"ChainedChest$Ways", "handOn", "(II)V"⟩, prog_6_method_19_code, 4, (Option.none : Option Jvm.ClassFile.FieldType), 0, false, 3),
  (4, ⟨"ChainedChest$Ways", "surestTenths", "()J"⟩, prog_6_method_20_code, 4, (Option.some Jvm.ClassFile.FieldType.long), 4, false, 1),
  (4, ⟨"ChainedChest$Ways", "odds", "(I)J"⟩, prog_6_method_21_code, 5, (Option.some Jvm.ClassFile.FieldType.long), 2, false, 2),
  (4, ⟨"ChainedChest$Ways", "listen", "(LChainedChest$Sheet;)V"⟩, prog_6_method_22_code, 5, (Option.none : Option Jvm.ClassFile.FieldType), 4, false, 2),
  (4, ⟨"ChainedChest$Ways", "soundingOf", "(II)I"⟩, prog_6_method_23_code, 5, (Option.some Jvm.ClassFile.FieldType.int), 2, false, 3),
  (4, ⟨"ChainedChest$Ways", "fittingRows", "()I"⟩, prog_6_method_24_code, 1, (Option.some Jvm.ClassFile.FieldType.int), 0, false, 1),
  (4, ⟨"ChainedChest$Ways", "fittingAny", "()I"⟩, prog_6_method_25_code, 1, (Option.some Jvm.ClassFile.FieldType.int), 0, false, 1),
  (4, ⟨"ChainedChest$Ways", "fittingAll", "()I"⟩, prog_6_method_26_code, 1, (Option.some Jvm.ClassFile.FieldType.int), 0, false, 1),
  (5, ⟨"ChainedChest", "lock", "(I)I"⟩, prog_1_method_2_code, 2, (Option.some Jvm.ClassFile.FieldType.int), 1, false, 2),
  (5, ⟨"ChainedChest", "of", "(II)I"⟩, prog_1_method_3_code, 3, (Option.some Jvm.ClassFile.FieldType.int), 2, false, 3),
  (5, ⟨"ChainedChest", "change", "(III)I"⟩, prog_1_method_4_code, 4, (Option.some Jvm.ClassFile.FieldType.int), 2, false, 4),
  (5, ⟨"ChainedChest", "rule", "(II)I"⟩, prog_1_method_5_code, 3, (Option.some Jvm.ClassFile.FieldType.int), 2, false, 3),
  (5, ⟨"ChainedChest", "on", "(I)I"⟩, prog_1_method_6_code, 3, (Option.some Jvm.ClassFile.FieldType.int), 1, false, 2),
  (5, ⟨"ChainedChest", "shut", "()I"⟩, prog_1_method_7_code, 1, (Option.some Jvm.ClassFile.FieldType.int), 2, false, 1),
  (5, ⟨"ChainedChest", "may", "()I"⟩, prog_1_method_8_code, 1, (Option.some Jvm.ClassFile.FieldType.int), 4, false, 1),
  (5, ⟨"ChainedChest", "why", "(I)I"⟩, prog_1_method_9_code, 2, (Option.some Jvm.ClassFile.FieldType.int), 3, false, 2),
  (5, ⟨"ChainedChest", "off", "(I)I"⟩, prog_1_method_10_code, 3, (Option.some Jvm.ClassFile.FieldType.int), 3, false, 2),
  (5, ⟨"ChainedChest", "now", "(I)I"⟩, prog_1_method_11_code, 2, (Option.some Jvm.ClassFile.FieldType.int), 1, false, 2),
  (5, ⟨"ChainedChest", "soonest", "()I"⟩, prog_1_method_12_code, 1, (Option.some Jvm.ClassFile.FieldType.int), 6, false, 1),
  (5, ⟨"ChainedChest", "ith", "(I)I"⟩, prog_1_method_13_code, 2, (Option.some Jvm.ClassFile.FieldType.int), 7, false, 2),
  (5, ⟨"ChainedChest", "quietest", "()I"⟩, prog_1_method_14_code, 1, (Option.some Jvm.ClassFile.FieldType.int), 6, false, 1),
  (5, ⟨"ChainedChest", "fewest", "()I"⟩, prog_1_method_15_code, 1, (Option.some Jvm.ClassFile.FieldType.int), 6, false, 1),
  (5, ⟨"ChainedChest", "ahead", "(I)I"⟩, prog_1_method_16_code, 3, (Option.some Jvm.ClassFile.FieldType.int), 7, false, 2),
  (5, ⟨"ChainedChest", "ever", "()I"⟩, prog_1_method_17_code, 1, (Option.some Jvm.ClassFile.FieldType.int), 5, false, 1),
  (5, ⟨"ChainedChest", "states", "()I"⟩, prog_1_method_18_code, 1, (Option.some Jvm.ClassFile.FieldType.int), 5, false, 1),
  (5, ⟨"ChainedChest", "rows", "()I"⟩, prog_1_method_19_code, 1, (Option.some Jvm.ClassFile.FieldType.int), 5, false, 1),
  (5, ⟨"ChainedChest", "tools", "()I"⟩, prog_1_method_20_code, 1, (Option.some Jvm.ClassFile.FieldType.int), 6, false, 1),
  (5, ⟨"ChainedChest", "spare", "()I"⟩, prog_1_method_21_code, 1, (Option.some Jvm.ClassFile.FieldType.int), 6, false, 1)]
def mL_3 : List MI := [(5, ⟨"ChainedChest", "wire", "()I"⟩, prog_1_method_22_code, 1, (Option.some Jvm.ClassFile.FieldType.int), 7, false, 1),
  (5, ⟨"ChainedChest", "kindFor", "(I)I"⟩, prog_1_method_23_code, 2, (Option.some Jvm.ClassFile.FieldType.int), 6, false, 2),
  (5, ⟨"ChainedChest", "link", "()I"⟩, prog_1_method_24_code, 1, (Option.some Jvm.ClassFile.FieldType.int), 7, false, 1),
  (5, ⟨"ChainedChest", "linked", "()I"⟩, prog_1_method_25_code, 1, (Option.some Jvm.ClassFile.FieldType.int), 7, false, 1),
  (5, ⟨"ChainedChest", "spared", "()I"⟩, prog_1_method_26_code, 1, (Option.some Jvm.ClassFile.FieldType.int), 6, false, 1),
  (5, ⟨"ChainedChest", "surest", "(I)J"⟩, prog_1_method_27_code, 6, (Option.some Jvm.ClassFile.FieldType.long), 5, false, 2),
  (5, ⟨"ChainedChest", "fits", "(I)I"⟩, prog_1_method_28_code, 3, (Option.some Jvm.ClassFile.FieldType.int), 5, false, 2),
  (5, ⟨"ChainedChest", "maybe", "(I)I"⟩, prog_1_method_29_code, 3, (Option.some Jvm.ClassFile.FieldType.int), 5, false, 2),
  (5, ⟨"ChainedChest", "surely", "(I)I"⟩, prog_1_method_30_code, 3, (Option.some Jvm.ClassFile.FieldType.int), 5, false, 2),
  (5, ⟨"ChainedChest", "hear", "(I)I"⟩, prog_1_method_31_code, 4, (Option.some Jvm.ClassFile.FieldType.int), 4, false, 2),
  (5, ⟨"ChainedChest", "friday", "(I)I"⟩, prog_1_method_32_code, 2, (Option.some Jvm.ClassFile.FieldType.int), 5, false, 2),
  (5, ⟨"ChainedChest", "seed", "(I)I"⟩, prog_1_method_33_code, 3, (Option.some Jvm.ClassFile.FieldType.int), 0, false, 2),
  (5, ⟨"ChainedChest", "feed", "(II)I"⟩, prog_1_method_34_code, 3, (Option.some Jvm.ClassFile.FieldType.int), 1, false, 3),
  (5, ⟨"ChainedChest", "wipe", "()I"⟩, prog_1_method_35_code, 1, (Option.some Jvm.ClassFile.FieldType.int), 1, false, 1),
  (5, ⟨"ChainedChest", "text", "()I"⟩, prog_1_method_36_code, 2, (Option.some Jvm.ClassFile.FieldType.int), 8, false, 1),
  (5, ⟨"ChainedChest", "hold", "(II)I"⟩, prog_1_method_37_code, 3, (Option.some Jvm.ClassFile.FieldType.int), 2, false, 3),
  (5, ⟨"ChainedChest", "as", "(II)I"⟩, prog_1_method_38_code, 4, (Option.some Jvm.ClassFile.FieldType.int), 2, false, 3),
  (5, ⟨"ChainedChest", "sheet", "(III)I"⟩, prog_1_method_39_code, 4, (Option.some Jvm.ClassFile.FieldType.int), 2, false, 4),
  (5, ⟨"ChainedChest", "write", "(III)I"⟩, prog_1_method_40_code, 5, (Option.some Jvm.ClassFile.FieldType.int), 2, false, 4),
  (5, ⟨"ChainedChest", "copy", "(IIIII)I"⟩, prog_1_method_41_code, 6, (Option.some Jvm.ClassFile.FieldType.int), 2, false, 6),
  (5, ⟨"ChainedChest", "load", "(I)I"⟩, prog_1_method_42_code, 3, (Option.some Jvm.ClassFile.FieldType.int), 3, false, 2),
  (5, ⟨"ChainedChest", "judge", "(I)I"⟩, prog_1_method_43_code, 3, (Option.some Jvm.ClassFile.FieldType.int), 5, false, 2),
  (5, ⟨"ChainedChest", "image", "()I"⟩, prog_1_method_44_code, 1, (Option.some Jvm.ClassFile.FieldType.int), 2, false, 1),
  (5, ⟨"ChainedChest", "undo", "()I"⟩, prog_1_method_45_code, 1, (Option.some Jvm.ClassFile.FieldType.int), 2, false, 1),
  (5, ⟨"ChainedChest", "tear", "()I"⟩, prog_1_method_46_code, 2, (Option.some Jvm.ClassFile.FieldType.int), 0, false, 1),
  (5, ⟨"ChainedChest", "count", "(I)I"⟩, prog_1_method_47_code, 2, (Option.some Jvm.ClassFile.FieldType.int), 1, false, 2),
  (5, ⟨"ChainedChest", "status", "(I)I"⟩, prog_1_method_48_code, 4, (Option.some Jvm.ClassFile.FieldType.int), 1, false, 2),
  (5, ⟨"ChainedChest", "tell", "(I)I"⟩, prog_1_method_49_code, 3, (Option.some Jvm.ClassFile.FieldType.int), 0, false, 2),
  (5, ⟨"ChainedChest", "orNone", "(I)I"⟩, prog_1_method_50_code, 2, (Option.some Jvm.ClassFile.FieldType.int), 1, false, 2),
  (5, ⟨"ChainedChest", "isSheet", "(I)Z"⟩, prog_1_method_51_code, 2, (Option.some Jvm.ClassFile.FieldType.boolean), 0, false, 2),
  (5, ⟨"ChainedChest", "sheetFinding", "(I)I"⟩, prog_1_method_52_code, 2, (Option.some Jvm.ClassFile.FieldType.int), 1, false, 2),
  (5, ⟨"ChainedChest", "commonDivisor", "(JJ)J"⟩, prog_1_method_53_code, 11, (Option.some Jvm.ClassFile.FieldType.long), 0, true, 2),
  (6, ⟨"ChainedChestModel", "no", "(I)I"⟩, prog_8_method_2_code, 2, (Option.some Jvm.ClassFile.FieldType.int), 0, false, 2),
  (6, ⟨"ChainedChestModel", "in1", "(III)Z"⟩, prog_8_method_3_code, 3, (Option.some Jvm.ClassFile.FieldType.boolean), 0, true, 3),
  (6, ⟨"ChainedChestModel", "most", "(II)I"⟩, prog_8_method_4_code, 2, (Option.some Jvm.ClassFile.FieldType.int), 0, true, 2),
  (6, ⟨"ChainedChestModel", "bits", "(I)I"⟩, prog_8_method_5_code, 3, (Option.some Jvm.ClassFile.FieldType.int), 0, true, 1),
  (6, ⟨"ChainedChestModel", "isIn", "(II)Z"⟩, prog_8_method_6_code, 2, (Option.some Jvm.ClassFile.FieldType.boolean), 0, true, 2),
  (6, ⟨"ChainedChestModel", "isLock", "(I)Z"⟩, prog_8_method_7_code, 2, (Option.some Jvm.ClassFile.FieldType.boolean), 1, false, 2),
  (6, ⟨"ChainedChestModel", "get", "(II)I"⟩, prog_8_method_8_code, 3, (Option.some Jvm.ClassFile.FieldType.int), 0, false, 3),
  (6, ⟨"ChainedChestModel", "puts", "(III)V"⟩, prog_8_method_9_code, 4, (Option.none : Option Jvm.ClassFile.FieldType), 0, false, 4)]
def mL_4 : List MI := [(6, ⟨"ChainedChestModel", "allLocks", "()I"⟩, prog_8_method_10_code, 1, (Option.some Jvm.ClassFile.FieldType.int), 0, false, 1),
  (6, ⟨"ChainedChestModel", "slackBy", "(I)I"⟩, prog_8_method_11_code, 4, (Option.some Jvm.ClassFile.FieldType.int), 1, false, 2),
  (6, ⟨"ChainedChestModel", "freeBy", "(I)I"⟩, prog_8_method_12_code, 4, (Option.some Jvm.ClassFile.FieldType.int), 1, false, 2),
  (6, ⟨"ChainedChestModel", "whyBy", "(IIII)I"⟩, prog_8_method_13_code, 5, (Option.some Jvm.ClassFile.FieldType.int), 1, false, 5),
  (6, ⟨"ChainedChestModel", "takesBy", "(IIII)I"⟩, prog_8_method_14_code, 9, (Option.some Jvm.ClassFile.FieldType.int), 1, false, 5),
  (6, ⟨"ChainedChestModel", "soundsOf", "(I)I"⟩, prog_8_method_15_code, 3, (Option.some Jvm.ClassFile.FieldType.int), 1, false, 2),
  (6, ⟨"ChainedChestModel", "mayBy", "(I)I"⟩, prog_8_method_16_code, 6, (Option.some Jvm.ClassFile.FieldType.int), 2, false, 2),
  (6, ⟨"ChainedChestModel", "isOut", "(I)Z"⟩, prog_8_method_17_code, 2, (Option.some Jvm.ClassFile.FieldType.boolean), 0, false, 2),
  (6, ⟨"ChainedChestModel", "lock", "(I)I"⟩, prog_8_method_18_code, 2, (Option.some Jvm.ClassFile.FieldType.int), 2, false, 2),
  (6, ⟨"ChainedChestModel", "comes", "(I)V"⟩, prog_8_method_19_code, 4, (Option.none : Option Jvm.ClassFile.FieldType), 1, false, 2),
  (6, ⟨"ChainedChestModel", "of", "(II)I"⟩, prog_8_method_20_code, 4, (Option.some Jvm.ClassFile.FieldType.int), 2, false, 3),
  (6, ⟨"ChainedChestModel", "mostOf", "(I)I"⟩, prog_8_method_21_code, 2, (Option.some Jvm.ClassFile.FieldType.int), 1, false, 2),
  (6, ⟨"ChainedChestModel", "change", "(III)I"⟩, prog_8_method_22_code, 5, (Option.some Jvm.ClassFile.FieldType.int), 2, false, 4),
  (6, ⟨"ChainedChestModel", "rule", "(II)I"⟩, prog_8_method_23_code, 4, (Option.some Jvm.ClassFile.FieldType.int), 1, false, 3),
  (6, ⟨"ChainedChestModel", "on", "(I)I"⟩, prog_8_method_24_code, 3, (Option.some Jvm.ClassFile.FieldType.int), 2, false, 2),
  (6, ⟨"ChainedChestModel", "shut", "()I"⟩, prog_8_method_25_code, 2, (Option.some Jvm.ClassFile.FieldType.int), 1, false, 1),
  (6, ⟨"ChainedChestModel", "may", "()I"⟩, prog_8_method_26_code, 1, (Option.some Jvm.ClassFile.FieldType.int), 3, false, 1),
  (6, ⟨"ChainedChestModel", "why", "(I)I"⟩, prog_8_method_27_code, 2, (Option.some Jvm.ClassFile.FieldType.int), 2, false, 2),
  (6, ⟨"ChainedChestModel", "doesPlay", "(I)Z"⟩, prog_8_method_28_code, 3, (Option.some Jvm.ClassFile.FieldType.boolean), 0, false, 2),
  (6, ⟨"ChainedChestModel", "takesNow", "(I)I"⟩, prog_8_method_29_code, 2, (Option.some Jvm.ClassFile.FieldType.int), 2, false, 2),
  (6, ⟨"ChainedChestModel", "comesOff", "(I)V"⟩, prog_8_method_30_code, 3, (Option.none : Option Jvm.ClassFile.FieldType), 3, false, 2),
  (6, ⟨"ChainedChestModel", "off", "(I)I"⟩, prog_8_method_31_code, 3, (Option.some Jvm.ClassFile.FieldType.int), 4, false, 2),
  (6, ⟨"ChainedChestModel", "now", "(I)I"⟩, prog_8_method_32_code, 2, (Option.some Jvm.ClassFile.FieldType.int), 2, false, 2),
  (6, ⟨"ChainedChestModel", "costs", "(IIIII)I"⟩, prog_8_method_33_code, 6, (Option.some Jvm.ClassFile.FieldType.int), 2, false, 6),
  (6, ⟨"ChainedChestModel", "leastFrom", "(II)I"⟩, prog_8_method_34_code, 8, (Option.some Jvm.ClassFile.FieldType.int), 3, false, 3),
  (6, ⟨"ChainedChestModel", "told1", "(I)I"⟩, prog_8_method_35_code, 2, (Option.some Jvm.ClassFile.FieldType.int), 1, false, 2),
  (6, ⟨"ChainedChestModel", "soonest", "()I"⟩, prog_8_method_36_code, 1, (Option.some Jvm.ClassFile.FieldType.int), 4, false, 1),
  (6, ⟨"ChainedChestModel", "findsRow", "()Z"⟩, prog_8_method_37_code, 7, (Option.some Jvm.ClassFile.FieldType.boolean), 4, false, 1),
  (6, ⟨"ChainedChestModel", "ith", "(I)I"⟩, prog_8_method_38_code, 3, (Option.some Jvm.ClassFile.FieldType.int), 5, false, 2),
  (6, ⟨"ChainedChestModel", "quietest", "()I"⟩, prog_8_method_39_code, 1, (Option.some Jvm.ClassFile.FieldType.int), 4, false, 1),
  (6, ⟨"ChainedChestModel", "fewest", "()I"⟩, prog_8_method_40_code, 1, (Option.some Jvm.ClassFile.FieldType.int), 4, false, 1),
  (6, ⟨"ChainedChestModel", "setsAside", "()V"⟩, prog_8_method_41_code, 2, (Option.none : Option Jvm.ClassFile.FieldType), 0, false, 1),
  (6, ⟨"ChainedChestModel", "laysBack", "()V"⟩, prog_8_method_42_code, 2, (Option.none : Option Jvm.ClassFile.FieldType), 0, false, 1),
  (6, ⟨"ChainedChestModel", "ahead", "(I)I"⟩, prog_8_method_43_code, 4, (Option.some Jvm.ClassFile.FieldType.int), 5, false, 2),
  (6, ⟨"ChainedChestModel", "countsWays", "(Z)V"⟩, prog_8_method_44_code, 6, (Option.none : Option Jvm.ClassFile.FieldType), 3, false, 2),
  (6, ⟨"ChainedChestModel", "ever", "()I"⟩, prog_8_method_45_code, 3, (Option.some Jvm.ClassFile.FieldType.int), 4, false, 1),
  (6, ⟨"ChainedChestModel", "states", "()I"⟩, prog_8_method_46_code, 3, (Option.some Jvm.ClassFile.FieldType.int), 4, false, 1),
  (6, ⟨"ChainedChestModel", "rows", "()I"⟩, prog_8_method_47_code, 3, (Option.some Jvm.ClassFile.FieldType.int), 4, false, 1),
  (6, ⟨"ChainedChestModel", "tools", "()I"⟩, prog_8_method_48_code, 4, (Option.some Jvm.ClassFile.FieldType.int), 4, false, 1),
  (6, ⟨"ChainedChestModel", "spare", "()I"⟩, prog_8_method_49_code, 4, (Option.some Jvm.ClassFile.FieldType.int), 4, false, 1)]
def mL_5 : List MI := [(6, ⟨"ChainedChestModel", "wire", "()I"⟩, prog_8_method_50_code, 5, (Option.some Jvm.ClassFile.FieldType.int), 4, false, 1),
  (6, ⟨"ChainedChestModel", "kindFor", "(I)I"⟩, prog_8_method_51_code, 7, (Option.some Jvm.ClassFile.FieldType.int), 4, false, 2),
  (6, ⟨"ChainedChestModel", "bestLink", "()I"⟩, prog_8_method_52_code, 8, (Option.some Jvm.ClassFile.FieldType.int), 4, false, 1),
  (6, ⟨"ChainedChestModel", "link", "()I"⟩, prog_8_method_53_code, 2, (Option.some Jvm.ClassFile.FieldType.int), 5, false, 1),
  (6, ⟨"ChainedChestModel", "linked", "()I"⟩, prog_8_method_54_code, 2, (Option.some Jvm.ClassFile.FieldType.int), 5, false, 1),
  (6, ⟨"ChainedChestModel", "spared", "()I"⟩, prog_8_method_55_code, 6, (Option.some Jvm.ClassFile.FieldType.int), 4, false, 1),
  (6, ⟨"ChainedChestModel", "surest", "(I)J"⟩, prog_8_method_56_code, 12, (Option.some Jvm.ClassFile.FieldType.long), 4, false, 2),
  (6, ⟨"ChainedChestModel", "isSheet", "(I)Z"⟩, prog_8_method_57_code, 1, (Option.some Jvm.ClassFile.FieldType.boolean), 1, true, 1),
  (6, ⟨"ChainedChestModel", "heardLocks", "(II)I"⟩, prog_8_method_58_code, 6, (Option.some Jvm.ClassFile.FieldType.int), 3, false, 3),
  (6, ⟨"ChainedChestModel", "countsHeard", "(I)V"⟩, prog_8_method_59_code, 8, (Option.none : Option Jvm.ClassFile.FieldType), 4, false, 2),
  (6, ⟨"ChainedChestModel", "wrongSheet", "(I)I"⟩, prog_8_method_60_code, 2, (Option.some Jvm.ClassFile.FieldType.int), 2, false, 2),
  (6, ⟨"ChainedChestModel", "fits", "(I)I"⟩, prog_8_method_61_code, 5, (Option.some Jvm.ClassFile.FieldType.int), 5, false, 2),
  (6, ⟨"ChainedChestModel", "heardSet", "(IZ)I"⟩, prog_8_method_62_code, 7, (Option.some Jvm.ClassFile.FieldType.int), 5, false, 3),
  (6, ⟨"ChainedChestModel", "heardTold", "(IZ)I"⟩, prog_8_method_63_code, 5, (Option.some Jvm.ClassFile.FieldType.int), 6, false, 3),
  (6, ⟨"ChainedChestModel", "maybe", "(I)I"⟩, prog_8_method_64_code, 2, (Option.some Jvm.ClassFile.FieldType.int), 7, false, 2),
  (6, ⟨"ChainedChestModel", "surely", "(I)I"⟩, prog_8_method_65_code, 2, (Option.some Jvm.ClassFile.FieldType.int), 7, false, 2),
  (6, ⟨"ChainedChestModel", "hear", "(I)I"⟩, prog_8_method_66_code, 2, (Option.some Jvm.ClassFile.FieldType.int), 4, false, 2),
  (6, ⟨"ChainedChestModel", "draw", "()I"⟩, prog_8_method_67_code, 1, (Option.some Jvm.ClassFile.FieldType.int), 0, false, 1),
  (6, ⟨"ChainedChestModel", "nthOf", "(II)I"⟩, prog_8_method_68_code, 5, (Option.some Jvm.ClassFile.FieldType.int), 1, false, 3),
  (6, ⟨"ChainedChestModel", "friday", "(I)I"⟩, prog_8_method_69_code, 8, (Option.some Jvm.ClassFile.FieldType.int), 4, false, 2),
  (6, ⟨"ChainedChestModel", "seed", "(I)I"⟩, prog_8_method_70_code, 3, (Option.some Jvm.ClassFile.FieldType.int), 0, false, 2),
  (6, ⟨"ChainedChestModel", "feed", "(II)I"⟩, prog_8_method_71_code, 4, (Option.some Jvm.ClassFile.FieldType.int), 1, false, 3),
  (6, ⟨"ChainedChestModel", "wipe", "()I"⟩, prog_8_method_72_code, 2, (Option.some Jvm.ClassFile.FieldType.int), 0, false, 1),
  (6, ⟨"ChainedChestModel", "isLetter", "(I)Z"⟩, prog_8_method_73_code, 1, (Option.some Jvm.ClassFile.FieldType.boolean), 1, true, 1),
  (6, ⟨"ChainedChestModel", "isDigit", "(I)Z"⟩, prog_8_method_74_code, 1, (Option.some Jvm.ClassFile.FieldType.boolean), 1, true, 1),
  (6, ⟨"ChainedChestModel", "nextToken", "()V"⟩, prog_8_method_75_code, 1, (Option.none : Option Jvm.ClassFile.FieldType), 2, false, 1),
  (6, ⟨"ChainedChestModel", "wordOf", "([C)I"⟩, prog_8_method_76_code, 7, (Option.some Jvm.ClassFile.FieldType.int), 0, false, 2),
  (6, ⟨"ChainedChestModel", "takesNumber", "(II)I"⟩, prog_8_method_77_code, 4, (Option.some Jvm.ClassFile.FieldType.int), 3, false, 3),
  (6, ⟨"ChainedChestModel", "readsLock", "(I)Z"⟩, prog_8_method_78_code, 7, (Option.some Jvm.ClassFile.FieldType.boolean), 4, false, 2),
  (6, ⟨"ChainedChestModel", "readsItem", "()Z"⟩, prog_8_method_79_code, 4, (Option.some Jvm.ClassFile.FieldType.boolean), 5, false, 1),
  (6, ⟨"ChainedChestModel", "text", "()I"⟩, prog_8_method_80_code, 3, (Option.some Jvm.ClassFile.FieldType.int), 6, false, 1),
  (6, ⟨"ChainedChestModel", "isSpot", "(I)Z"⟩, prog_8_method_81_code, 1, (Option.some Jvm.ClassFile.FieldType.boolean), 1, true, 1),
  (6, ⟨"ChainedChestModel", "hold", "(II)I"⟩, prog_8_method_82_code, 3, (Option.some Jvm.ClassFile.FieldType.int), 2, false, 3),
  (6, ⟨"ChainedChestModel", "above", "(I)I"⟩, prog_8_method_83_code, 1, (Option.some Jvm.ClassFile.FieldType.int), 0, true, 1),
  (6, ⟨"ChainedChestModel", "as", "(II)I"⟩, prog_8_method_84_code, 5, (Option.some Jvm.ClassFile.FieldType.int), 2, false, 3),
  (6, ⟨"ChainedChestModel", "sheet", "(III)I"⟩, prog_8_method_85_code, 5, (Option.some Jvm.ClassFile.FieldType.int), 2, false, 4),
  (6, ⟨"ChainedChestModel", "write", "(III)I"⟩, prog_8_method_86_code, 5, (Option.some Jvm.ClassFile.FieldType.int), 3, false, 4),
  (6, ⟨"ChainedChestModel", "copy", "(IIIII)I"⟩, prog_8_method_87_code, 7, (Option.some Jvm.ClassFile.FieldType.int), 2, false, 6),
  (6, ⟨"ChainedChestModel", "load", "(I)I"⟩, prog_8_method_88_code, 4, (Option.some Jvm.ClassFile.FieldType.int), 3, false, 2),
  (6, ⟨"ChainedChestModel", "judge", "(I)I"⟩, prog_8_method_89_code, 5, (Option.some Jvm.ClassFile.FieldType.int), 3, false, 2)]
def mL_6 : List MI := [(6, ⟨"ChainedChestModel", "image", "()I"⟩, prog_8_method_90_code, 2, (Option.some Jvm.ClassFile.FieldType.int), 0, false, 1),
  (6, ⟨"ChainedChestModel", "undo", "()I"⟩, prog_8_method_91_code, 2, (Option.some Jvm.ClassFile.FieldType.int), 1, false, 1),
  (6, ⟨"ChainedChestModel", "tear", "()I"⟩, prog_8_method_92_code, 2, (Option.some Jvm.ClassFile.FieldType.int), 0, false, 1),
  (6, ⟨"ChainedChestModel", "count", "(I)I"⟩, prog_8_method_93_code, 4, (Option.some Jvm.ClassFile.FieldType.int), 1, false, 2),
  (6, ⟨"ChainedChestModel", "status", "(I)I"⟩, prog_8_method_94_code, 4, (Option.some Jvm.ClassFile.FieldType.int), 1, false, 2),
  (7, ⟨"java/lang/Integer", "bitCount", "(I)I"⟩, prog_9_method_49_code, 1, (Option.some Jvm.ClassFile.FieldType.int), 0, true, 1),
  (9, ⟨"java/lang/String", "charAt", "(I)C"⟩, prog_11_method_56_code, 2, (Option.some Jvm.ClassFile.FieldType.char), 3, false, 2),
  (9, ⟨"java/lang/String", "checkIndex", "(II)V"⟩, prog_11_method_155_code, 2, (Option.none : Option Jvm.ClassFile.FieldType), 1, true, 2),
  (9, ⟨"java/lang/String", "coder", "()B"⟩, prog_11_method_152_code, 1, (Option.some Jvm.ClassFile.FieldType.byte), 0, false, 1),
  (9, ⟨"java/lang/String", "isLatin1", "()Z"⟩, prog_11_method_154_code, 1, (Option.some Jvm.ClassFile.FieldType.boolean), 0, false, 1),
  (9, ⟨"java/lang/String", "length", "()I"⟩, prog_11_method_54_code, 1, (Option.some Jvm.ClassFile.FieldType.int), 1, false, 1),
  (10, ⟨"java/lang/StringLatin1", "charAt", "([BI)C"⟩, prog_12_method_2_code, 2, (Option.some Jvm.ClassFile.FieldType.char), 2, true, 2),
  (11, ⟨"java/util/Arrays", "fill", "([II)V"⟩, prog_15_method_103_code, 4, (Option.none : Option Jvm.ClassFile.FieldType), 0, true, 2),
  (12, ⟨"jdk/internal/util/Preconditions", "checkIndex", "(IILjava/util/function/BiFunction;)I"⟩, prog_16_method_11_code, 3, (Option.some Jvm.ClassFile.FieldType.int), 0, true, 3)]
def mLst : List MI := mL_0 ++ mL_1 ++ mL_2 ++ mL_3 ++ mL_4 ++ mL_5 ++ mL_6
def mD0 : MI := (0, ⟨"", "", ""⟩, ⟨#[]⟩, 0, none, 0, true, 0)
def mI (μ : Nat) : MI := mLst.getD μ mD0
def ftab : List (Nat × Nat × Nat × Nat × Nat) := [(0, 11, 0, 0, 99), (0, 14, 0, 1, 100), (0, 18, 0, 2, 101), (0, 21, 0, 3, 102), (0, 25, 0, 4, 106), (0, 28, 0, 5, 110), (0, 31, 0, 6, 113), (0, 34, 0, 7, 115), (1, 13, 1, 1, 228), (1, 17, 1, 2, 229), (1, 9, 1, 0, 227), (2, 19, 2, 0, 182), (2, 23, 2, 1, 183), (2, 39, 0, 4, 107), (2, 46, 0, 3, 104), (2, 10, 2, 2, 184), (2, 16, 2, 3, 185), (3, 13, 3, 1, 202), (3, 9, 3, 0, 201), (3, 20, 3, 3, 204), (3, 17, 3, 2, 203), (3, 23, 3, 4, 205), (3, 56, 0, 3, 105), (3, 26, 3, 5, 206), (4, 45, 4, 0, 141), (4, 13, 4, 1, 142), (4, 17, 4, 2, 143), (4, 20, 4, 3, 144), (4, 23, 4, 4, 145), (4, 26, 4, 5, 146), (4, 32, 4, 7, 148), (4, 29, 4, 6, 147), (4, 110, 0, 5, 112), (4, 113, 0, 4, 109), (4, 36, 4, 8, 149), (4, 39, 4, 9, 150), (4, 42, 4, 10, 151), (5, 12, 5, 0, 237), (5, 71, 0, 3, 103), (5, 109, 0, 4, 108), (5, 122, 0, 5, 111), (5, 131, 0, 6, 114), (5, 27, 5, 3, 240), (5, 36, 5, 4, 241), (5, 49, 5, 6, 243), (5, 230, 0, 7, 116), (5, 43, 5, 5, 242), (5, 19, 5, 2, 239), (5, 16, 5, 1, 238), (5, 57, 5, 8, 245), (5, 53, 5, 7, 244), (6, 19, 6, 4, 1023), (6, 9, 6, 0, 1019), (6, 22, 6, 5, 1024), (6, 144, 6, 7, 1026), (6, 25, 6, 6, 1025), (6, 16, 6, 2, 1021), (6, 28, 6, 8, 1027), (6, 162, 6, 9, 1028), (6, 50, 6, 21, 1040), (6, 53, 6, 22, 1041), (6, 47, 6, 20, 1039), (6, 199, 6, 11, 1030), (6, 31, 6, 10, 1029), (6, 202, 6, 14, 1033), (6, 205, 6, 13, 1032), (6, 208, 6, 15, 1034), (6, 212, 6, 12, 1031), (6, 38, 6, 17, 1036), (6, 44, 6, 19, 1038), (6, 34, 6, 16, 1035), (6, 41, 6, 18, 1037), (6, 56, 6, 23, 1042), (6, 13, 6, 1, 1020), (6, 253, 6, 3, 1022)]
def ctab : List (Nat × Nat × Int32 × Nat) := [(0, 116, 1103515245, 729), (2, 9, 2147483647, 181), (4, 85, 2147483647, 456), (5, 66, (-1000001), 272), (5, 75, (-1000002), 277), (5, 125, 99999, 407), (5, 126, (-1000005), 408), (5, 158, (-1000004), 473), (5, 259, (-1000006), 666), (5, 263, (-1000003), 919), (5, 270, (-1000007), 927), (5, 310, 2147483647, 472), (6, 59, (-1000001), 1104), (6, 126, 99999, 1198), (6, 133, 99999999, 1223), (6, 189, 1103515245, 1361), (7, 265, 1431655765, 311), (7, 266, 858993459, 312), (7, 267, 252645135, 313)]
def lctab : List (Nat × Nat × Nat × Nat) := [(4, 132, 10000000000, 640), (4, 134, 10, 641), (5, 205, 10000000000, 646), (6, 168, 10, 1312), (6, 218, 99999999999, 1389), (6, 220, 27, 1390), (6, 222, 96, 1391), (6, 227, 1023, 1395), (6, 229, 48, 1396)]
def ktab : List (Nat × Nat × Nat × Nat) := [(0, 52, 1, 916), (0, 62, 7, 327), (0, 65, 3, 322), (0, 68, 4, 338), (0, 78, 10, 358), (0, 84, 245, 308), (0, 90, 16, 300), (0, 93, 17, 304), (0, 96, 21, 387), (0, 100, 23, 391), (0, 104, 25, 314), (0, 107, 24, 413), (0, 110, 19, 414), (0, 113, 26, 418), (0, 117, 15, 722), (0, 120, 18, 723), (0, 123, 20, 724), (0, 126, 28, 725), (0, 129, 30, 730), (0, 133, 6, 733), (0, 136, 27, 734), (0, 140, 31, 904), (0, 143, 43, 972), (0, 146, 45, 973), (0, 149, 8, 974), (0, 153, 42, 983), (1, 29, 252, 936), (1, 35, 43, 682), (1, 39, 44, 962), (2, 29, 12, 552), (2, 33, 245, 553), (2, 42, 90, 554), (2, 49, 14, 574), (2, 52, 77, 575), (2, 55, 6, 584), (2, 58, 75, 585), (2, 62, 9, 586), (2, 66, 78, 587), (2, 69, 13, 624), (2, 73, 54, 596), (2, 77, 79, 600), (3, 29, 71, 771), (3, 32, 61, 794), (3, 38, 64, 798), (3, 42, 74, 808), (3, 46, 62, 860), (3, 50, 65, 880), (3, 53, 63, 886), (3, 59, 4, 864), (3, 63, 5, 865), (3, 67, 66, 866), (3, 70, 67, 875), (3, 73, 8, 878), (3, 77, 9, 879), (3, 81, 11, 890), (3, 84, 12, 891), (3, 120, 68, 775), (3, 123, 69, 779), (3, 127, 72, 782), (3, 130, 70, 786), (3, 133, 73, 789), (3, 141, 250, 812), (3, 146, 246, 822), (4, 49, 4, 442), (4, 53, 252, 443), (4, 59, 16, 444), (4, 63, 17, 445), (4, 66, 245, 446), (4, 69, 21, 447), (4, 73, 76, 448), (4, 77, 75, 438), (4, 81, 78, 452), (4, 86, 18, 457), (4, 90, 80, 458), (4, 94, 81, 462), (4, 98, 25, 466), (4, 101, 26, 467), (4, 104, 77, 482), (4, 107, 83, 483), (4, 116, 19, 515), (4, 119, 92, 540), (4, 122, 94, 636), (4, 136, 6, 642), (4, 139, 42, 671), (4, 147, 45, 678), (4, 150, 96, 686), (5, 62, 1, 269), (5, 67, 147, 273), (5, 76, 5, 278), (5, 79, 3, 288), (5, 82, 14, 292), (5, 85, 24, 296), (5, 88, 26, 318), (5, 91, 6, 323), (5, 95, 8, 334), (5, 99, 9, 346), (5, 103, 11, 354), (5, 106, 12, 363), (5, 112, 15, 375), (5, 116, 20, 383), (5, 119, 22, 399), (5, 127, 27, 409), (5, 134, 16, 423), (5, 137, 17, 424), (5, 140, 18, 425), (5, 143, 19, 429), (5, 146, 77, 434), (5, 149, 148, 468), (5, 152, 82, 478), (5, 155, 84, 487), (5, 159, 85, 491), (5, 162, 86, 507), (5, 165, 87, 511), (5, 168, 88, 520), (5, 171, 89, 528), (5, 174, 91, 536), (5, 177, 48, 548), (5, 180, 49, 562), (5, 183, 50, 570), (5, 186, 51, 580), (5, 189, 53, 592), (5, 192, 55, 604), (5, 195, 56, 612), (5, 198, 52, 620), (5, 201, 93, 632), (5, 207, 151, 647), (5, 211, 150, 654), (5, 214, 95, 667), (5, 218, 97, 690), (5, 221, 98, 698), (5, 224, 99, 706), (5, 227, 29, 718), (5, 233, 57, 743), (5, 236, 58, 747), (5, 239, 59, 755), (5, 242, 0, 763), (5, 245, 60, 767), (5, 249, 31, 897), (5, 252, 32, 900), (5, 256, 33, 909), (5, 260, 2, 913), (5, 264, 149, 658), (5, 267, 38, 924), (5, 271, 41, 928), (5, 274, 43, 941), (5, 275, 46, 942), (5, 277, 39, 662), (5, 281, 40, 950), (5, 285, 44, 954), (5, 288, 47, 958), (5, 292, 36, 968), (5, 296, 37, 979), (5, 299, 245, 1000), (5, 304, 35, 1001), (5, 307, 34, 1005), (6, 60, 153, 1097), (6, 64, 156, 1125), (6, 68, 158, 1121), (6, 72, 155, 1143), (6, 76, 154, 1140), (6, 79, 161, 1128), (6, 82, 162, 1132), (6, 85, 163, 1182), (6, 89, 152, 1100), (6, 92, 169, 1105), (6, 96, 159, 1109), (6, 100, 157, 1117), (6, 104, 164, 1136), (6, 107, 165, 1146), (6, 110, 160, 1158), (6, 114, 171, 1154), (6, 117, 166, 1178), (6, 120, 179, 1194), (6, 123, 178, 1203), (6, 127, 180, 1199), (6, 130, 167, 1211), (6, 134, 183, 1224), (6, 138, 184, 1219), (6, 141, 185, 1228), (6, 148, 187, 1236), (6, 152, 191, 1252), (6, 155, 192, 1256), (6, 158, 194, 1264), (6, 165, 202, 1296), (6, 170, 208, 1328), (6, 173, 207, 1321), (6, 176, 210, 1317), (6, 179, 209, 1324), (6, 182, 212, 1340), (6, 186, 213, 1336), (6, 190, 175, 1356), (6, 193, 217, 1357), (6, 196, 218, 1362), (6, 215, 223, 1386), (6, 224, 224, 1392), (6, 231, 225, 1382), (6, 234, 226, 1401), (6, 238, 227, 1409), (6, 241, 228, 1405), (6, 244, 229, 1397), (6, 247, 231, 1417), (6, 250, 233, 1424), (9, 492, 249, 826), (9, 495, 251, 830), (9, 1059, 253, 838), (9, 335, 248, 816), (10, 9, 247, 833)]
def satab : List (Nat × Nat × Nat × Nat) := [(0, 56, 205, 917), (0, 59, 202, 282), (0, 72, 201, 342), (0, 75, 200, 344), (0, 81, 203, 361)]
def sttab : List (Nat × Nat × Nat × Nat) := [(9, 9, 0, 1467), (9, 1053, 3, 836), (9, 38, 2, 820), (9, 15, 1, 1468)]
def ntab : List (Nat × Nat × Nat × Nat) := [(0, 40, 3, 93), (1, 20, 0, 932), (1, 26, 1, 933), (1, 43, 3, 963), (3, 136, 0, 793), (4, 126, 2, 643), (4, 144, 0, 675)]
def mwtab : List (Nat × Nat × Nat × Nat) := [(766, 764, 765, 61), (271, 270, 0, 61), (915, 914, 0, 61), (291, 289, 290, 61), (341, 339, 340, 61), (281, 279, 280, 61), (326, 324, 325, 61), (329, 328, 0, 61), (337, 335, 336, 61), (349, 347, 348, 61), (360, 359, 0, 61), (357, 355, 356, 61), (366, 364, 365, 61), (627, 625, 626, 61), (295, 293, 294, 61), (378, 376, 377, 61), (303, 301, 302, 61), (307, 305, 306, 61), (428, 426, 427, 61), (417, 415, 416, 61), (386, 384, 385, 61), (390, 388, 389, 61), (402, 400, 401, 61), (394, 393, 1, 61), (299, 297, 298, 61), (317, 315, 316, 61), (321, 319, 320, 61), (412, 410, 411, 61), (728, 727, 13, 61), (721, 719, 720, 61), (732, 731, 0, 61), (899, 898, 0, 61), (903, 901, 902, 61), (912, 910, 911, 61), (1008, 1006, 1007, 61), (1004, 1002, 1003, 61), (971, 969, 970, 61), (982, 980, 981, 61), (926, 925, 0, 67), (665, 663, 664, 67), (953, 951, 952, 67), (931, 929, 930, 67), (674, 672, 673, 67), (685, 683, 684, 67), (957, 955, 956, 67), (681, 679, 680, 67), (945, 943, 944, 67), (961, 959, 960, 67), (551, 549, 550, 65), (565, 563, 564, 65), (573, 571, 572, 65), (583, 581, 582, 65), (623, 621, 622, 65), (595, 593, 594, 65), (599, 598, 8, 65), (607, 605, 606, 65), (615, 613, 614, 65), (746, 744, 745, 66), (750, 748, 749, 66), (758, 756, 757, 66), (770, 768, 769, 66), (797, 796, 18, 66), (863, 862, 20, 66), (889, 888, 21, 66), (800, 799, 0, 66), (882, 881, 0, 66), (868, 867, 0, 66), (877, 876, 0, 66), (778, 777, 15, 66), (781, 780, 0, 66), (788, 787, 0, 66), (774, 773, 14, 66), (785, 784, 16, 66), (792, 791, 17, 66), (811, 810, 19, 66), (441, 439, 440, 64), (451, 450, 2, 64), (437, 435, 436, 64), (455, 453, 454, 64), (603, 601, 602, 64), (461, 460, 3, 64), (465, 464, 4, 64), (481, 479, 480, 64), (486, 485, 6, 64), (490, 488, 489, 64), (494, 492, 493, 64), (510, 508, 509, 64), (514, 512, 513, 64), (523, 521, 522, 64), (531, 529, 530, 64), (557, 555, 556, 64), (539, 537, 538, 64), (543, 542, 7, 64), (635, 633, 634, 64), (639, 638, 9, 64), (670, 668, 669, 64), (689, 688, 12, 64), (693, 691, 692, 64), (701, 699, 700, 64), (709, 707, 708, 64), (268, 266, 267, 60), (287, 285, 286, 60), (333, 331, 332, 60), (353, 351, 352, 60), (370, 368, 369, 60), (374, 372, 373, 60), (382, 380, 381, 60), (398, 396, 397, 60), (406, 404, 405, 60), (422, 420, 421, 60), (433, 431, 432, 60), (477, 475, 476, 60), (498, 496, 497, 60), (502, 500, 501, 60), (506, 504, 505, 60), (519, 517, 518, 60), (527, 525, 526, 60), (535, 533, 534, 60), (547, 545, 546, 60), (561, 559, 560, 60), (569, 567, 568, 60), (579, 577, 578, 60), (591, 589, 590, 60), (611, 609, 610, 60), (619, 617, 618, 60), (631, 629, 630, 60), (653, 651, 652, 60), (697, 695, 696, 60), (705, 703, 704, 60), (713, 711, 712, 60), (717, 715, 716, 60), (738, 736, 737, 60), (742, 740, 741, 60), (754, 752, 753, 60), (762, 760, 761, 60), (896, 894, 895, 60), (908, 906, 907, 60), (923, 921, 922, 60), (940, 938, 939, 60), (949, 947, 948, 60), (967, 965, 966, 60), (978, 976, 977, 60), (987, 985, 986, 60), (991, 989, 990, 60), (995, 993, 994, 60), (999, 997, 998, 60), (1012, 1010, 1011, 60), (276, 275, 0, 60), (471, 470, 5, 60), (661, 660, 11, 60), (657, 656, 10, 60), (649, 648, 0, 60), (1103, 1102, 22, 68), (1099, 1098, 0, 68), (1142, 1141, 0, 68), (1145, 1144, 0, 68), (1127, 1126, 0, 68), (1120, 1119, 25, 68), (1124, 1123, 26, 68), (1112, 1111, 24, 68), (1161, 1160, 32, 68), (1131, 1130, 27, 68), (1135, 1134, 28, 68), (1185, 1184, 34, 68), (1139, 1138, 29, 68), (1149, 1148, 30, 68), (1181, 1180, 33, 68), (1214, 1213, 38, 68), (1096, 1094, 1095, 68), (1108, 1107, 23, 68), (1116, 1114, 1115, 68), (1157, 1156, 31, 68), (1153, 1151, 1152, 68), (1165, 1163, 1164, 68), (1169, 1167, 1168, 68), (1173, 1171, 1172, 68), (1177, 1175, 1176, 68), (1189, 1187, 1188, 68), (1206, 1205, 37, 68), (1197, 1196, 35, 68), (1202, 1201, 36, 68), (1193, 1191, 1192, 68), (1210, 1208, 1209, 68), (1227, 1226, 40, 68), (1222, 1221, 39, 68), (1231, 1230, 41, 68), (1218, 1216, 1217, 68), (1239, 1238, 42, 68), (1235, 1233, 1234, 68), (1243, 1241, 1242, 68), (1247, 1245, 1246, 68), (1255, 1254, 43, 68), (1259, 1258, 44, 68), (1251, 1249, 1250, 68), (1267, 1266, 45, 68), (1263, 1261, 1262, 68), (1271, 1269, 1270, 68), (1275, 1273, 1274, 68), (1279, 1277, 1278, 68), (1283, 1281, 1282, 68), (1287, 1285, 1286, 68), (1291, 1289, 1290, 68), (1299, 1298, 46, 68), (1295, 1293, 1294, 68), (1303, 1301, 1302, 68), (1307, 1305, 1306, 68), (1311, 1309, 1310, 68), (1323, 1322, 0, 68), (1331, 1330, 49, 68), (1327, 1326, 48, 68), (1320, 1319, 47, 68), (1316, 1314, 1315, 68), (1343, 1342, 51, 68), (1339, 1338, 50, 68), (1335, 1333, 1334, 68), (1347, 1345, 1346, 68), (1351, 1349, 1350, 68), (1360, 1359, 52, 68), (1365, 1364, 53, 68), (1355, 1353, 1354, 68), (1369, 1367, 1368, 68), (1373, 1371, 1372, 68), (1377, 1375, 1376, 68), (1388, 1387, 0, 68), (1394, 1393, 0, 68), (1385, 1384, 54, 68), (1404, 1403, 56, 68), (1412, 1411, 58, 68), (1408, 1407, 57, 68), (1400, 1399, 55, 68), (1381, 1379, 1380, 68), (1419, 1418, 0, 68), (1416, 1414, 1415, 68), (1426, 1425, 0, 68), (1423, 1421, 1422, 68), (1430, 1428, 1429, 68), (1434, 1432, 1433, 68), (1438, 1436, 1437, 68), (1442, 1440, 1441, 68), (1446, 1444, 1445, 68), (1450, 1448, 1449, 68), (1454, 1452, 1453, 68), (1458, 1456, 1457, 68), (1462, 1460, 1461, 68), (1466, 1464, 1465, 68), (310, 309, 0, 69), (825, 823, 824, 71), (835, 834, 0, 71), (819, 817, 818, 71), (829, 827, 828, 71), (815, 813, 814, 71), (832, 831, 0, 72), (98, 97, 0, 63), (840, 839, 0, 73)]
/-- String constants: their places in Tape's pool, their texts -/
def strL : List (Nat × String) := [(88, "rope"), (90, "chain"), (92, "old"), (94, "rusted"), (96, "nail"), (98, "bolt"), (100, "lock"), (102, "tools"), (104, "spare"), (106, "goal"), (108, "time"), (110, "gives"), (112, "wants"), (114, "binds"), (116, "hands"), (118, "after")]
end
section
/-! the pure calculus: store, locals, instructions, weakest preconditions -/
abbrev RI : Type := Nat × Nat × Nat × Nat × Int32
abbrev BK : Type := Nat × List RI × RI × List (Int32 × Nat)
abbrev St2 : Type := (Nat → Nat → Int32) × (Nat → Nat → Int64)
abbrev KT : Type := List Value → List Value → St2 → Prop
abbrev PO : Type := Option Value → St2 → Prop
abbrev SPT : Type := Nat → List Value → St2 → PO → Prop
def upr {α : Type} (f : Nat → Nat → α) (k : Nat) (r : Nat → α) : Nat → Nat → α := fun k' => if k' = k then r else f k'
def updl (f : Nat → Int64) (k : Nat) (x : Int64) : Nat → Int64 := fun j => if j = k then x else f j
def si (σ : St2) (k j : Nat) (v : Int32) : St2 := (upr σ.1 k (upd (σ.1 k) j v), σ.2)
def sl (σ : St2) (k j : Nat) (v : Int64) : St2 := (σ.1, upr σ.2 k (updl (σ.2 k) j v))
def sr (σ : St2) (k : Nat) (r : Nat → Int32) : St2 := (upr σ.1 k r, σ.2)
abbrev Cst (k : Nat) (v : Int32) : RI := (0, k, 0, 0, v)
abbrev Ild (n : Nat) : RI := (1, n, 0, 0, 0)
abbrev Ald (n : Nat) : RI := (2, n, 0, 0, 0)
abbrev Lld (n : Nat) : RI := (3, n, 0, 0, 0)
abbrev Ist (n : Nat) : RI := (4, n, 0, 0, 0)
abbrev Ast (n : Nat) : RI := (5, n, 0, 0, 0)
abbrev Lst (n : Nat) : RI := (6, n, 0, 0, 0)
abbrev Inc (n : Nat) (v : Int32) : RI := (7, n, 0, 0, v)
abbrev Dup : RI := (8, 0, 0, 0, 0)
abbrev Pop : RI := (9, 0, 0, 0, 0)
abbrev Dup2 : RI := (10, 0, 0, 0, 0)
abbrev Iadd : RI := (11, 0, 0, 0, 0)
abbrev Isub : RI := (12, 0, 0, 0, 0)
abbrev Imul : RI := (13, 0, 0, 0, 0)
abbrev Idiv : RI := (14, 0, 0, 0, 0)
abbrev Irem : RI := (15, 0, 0, 0, 0)
abbrev Iand : RI := (16, 0, 0, 0, 0)
abbrev Ior : RI := (17, 0, 0, 0, 0)
abbrev Ixor : RI := (18, 0, 0, 0, 0)
abbrev Ishl : RI := (19, 0, 0, 0, 0)
abbrev Ishr : RI := (20, 0, 0, 0, 0)
abbrev Iushr : RI := (21, 0, 0, 0, 0)
abbrev Ladd : RI := (22, 0, 0, 0, 0)
abbrev Lsub : RI := (23, 0, 0, 0, 0)
abbrev Lmul : RI := (24, 0, 0, 0, 0)
abbrev Ldiv : RI := (25, 0, 0, 0, 0)
abbrev Lrem : RI := (26, 0, 0, 0, 0)
abbrev Lcmp : RI := (27, 0, 0, 0, 0)
abbrev I2l : RI := (28, 0, 0, 0, 0)
abbrev L2i : RI := (29, 0, 0, 0, 0)
abbrev I2b : RI := (30, 0, 0, 0, 0)
abbrev I2s : RI := (31, 0, 0, 0, 0)
abbrev I2c : RI := (32, 0, 0, 0, 0)
abbrev GfI (i c j : Nat) : RI := (33, i, c, j, 0)
abbrev GfL (i c j : Nat) : RI := (34, i, c, j, 0)
abbrev GfR (i c j : Nat) : RI := (35, i, c, j, 0)
abbrev PfI (i c j : Nat) : RI := (36, i, c, j, 0)
abbrev PfZ (i c j : Nat) : RI := (37, i, c, j, 0)
abbrev PfL (i c j : Nat) : RI := (38, i, c, j, 0)
abbrev Iald : RI := (39, 0, 0, 0, 0)
abbrev Iast : RI := (40, 0, 0, 0, 0)
abbrev Cald : RI := (41, 0, 0, 0, 0)
abbrev Aald : RI := (42, 0, 0, 0, 0)
abbrev Alen : RI := (43, 0, 0, 0, 0)
abbrev IaldS : RI := (44, 0, 0, 0, 0)
abbrev GsA (i k : Nat) : RI := (45, i, k, 0, 0)
abbrev GsI (i : Nat) : RI := (46, i, 0, 0, 0)
abbrev GsQ (i : Nat) : RI := (47, i, 0, 0, 0)
abbrev LdS (i k : Nat) : RI := (48, i, k, 0, 0)
abbrev GfS (i : Nat) : RI := (49, i, 0, 0, 0)
abbrev GfC (i : Nat) : RI := (50, i, 0, 0, 0)
abbrev BaldS : RI := (51, 0, 0, 0, 0)
abbrev AlenS : RI := (52, 0, 0, 0, 0)
abbrev LC (i v : Nat) : RI := (53, i, v, 0, 0)
abbrev CallV (i n y : Nat) : RI := (54, i, n, y, 0)
abbrev CallS (i n y : Nat) : RI := (55, i, n, y, 0)
abbrev Acopy (i : Nat) : RI := (56, i, 0, 0, 0)
abbrev Mmin (i : Nat) : RI := (57, i, 0, 0, 0)
abbrev Mmax (i : Nat) : RI := (58, i, 0, 0, 0)
abbrev MmaxL (i : Nat) : RI := (59, i, 0, 0, 0)
abbrev Tgoto (t : Nat) : RI := (70, t, 0, 0, 0)
abbrev Tfall (t : Nat) : RI := (71, t, 0, 0, 0)
abbrev Tif (k t n : Nat) : RI := (k, t, n, 0, 0)
abbrev Tsw (k d n : Nat) : RI := (k, d, n, 0, 0)
abbrev Tret (k : Nat) : RI := (k, 0, 0, 0, 0)
/-- the raw instruction that stands for one of ours, and its length -/
def rawI : RI → Option (Instr × Nat)
  | (0, k, _, _, v) => if k = 0 then some (.iconst v.toInt, 1) else if k = 1 then some (.bipush v.toInt, 2) else if k = 2 then some (.sipush v.toInt, 3) else if k % 2 = 1 then some (.ldc ((k - 3) / 2), 2) else some (.ldc_w ((k - 4) / 2), 3)
  | (1, n, _, _, _) => if h : n < 4 then some (.iload_n ⟨n, h⟩, 1) else some (.iload n, 2)
  | (2, n, _, _, _) => if h : n < 4 then some (.aload_n ⟨n, h⟩, 1) else some (.aload n, 2)
  | (3, n, _, _, _) => if h : n < 4 then some (.lload_n ⟨n, h⟩, 1) else some (.lload n, 2)
  | (4, n, _, _, _) => if h : n < 4 then some (.istore_n ⟨n, h⟩, 1) else some (.istore n, 2)
  | (5, n, _, _, _) => if h : n < 4 then some (.astore_n ⟨n, h⟩, 1) else some (.astore n, 2)
  | (6, n, _, _, _) => if h : n < 4 then some (.lstore_n ⟨n, h⟩, 1) else some (.lstore n, 2)
  | (7, n, _, _, v) => some (.iinc n v.toInt, 3)
  | (8, _) => some (.dup, 1)
  | (9, _) => some (.pop, 1)
  | (10, _) => some (.dup2, 1)
  | (11, _) => some (.iadd, 1)
  | (12, _) => some (.isub, 1)
  | (13, _) => some (.imul, 1)
  | (14, _) => some (.idiv, 1)
  | (15, _) => some (.irem, 1)
  | (16, _) => some (.iand, 1)
  | (17, _) => some (.ior, 1)
  | (18, _) => some (.ixor, 1)
  | (19, _) => some (.ishl, 1)
  | (20, _) => some (.ishr, 1)
  | (21, _) => some (.iushr, 1)
  | (22, _) => some (.ladd, 1)
  | (23, _) => some (.lsub, 1)
  | (24, _) => some (.lmul, 1)
  | (25, _) => some (.ldiv, 1)
  | (26, _) => some (.lrem, 1)
  | (27, _) => some (.lcmp, 1)
  | (28, _) => some (.i2l, 1)
  | (29, _) => some (.l2i, 1)
  | (30, _) => some (.i2b, 1)
  | (31, _) => some (.i2s, 1)
  | (32, _) => some (.i2c, 1)
  | (33, i, _) => some (.getfield i, 3)
  | (34, i, _) => some (.getfield i, 3)
  | (35, i, _) => some (.getfield i, 3)
  | (36, i, _) => some (.putfield i, 3)
  | (37, i, _) => some (.putfield i, 3)
  | (38, i, _) => some (.putfield i, 3)
  | (39, _) => some (.iaload, 1)
  | (40, _) => some (.iastore, 1)
  | (41, _) => some (.caload, 1)
  | (42, _) => some (.aaload, 1)
  | (43, _) => some (.arraylength, 1)
  | (44, _) => some (.iaload, 1)
  | (45, i, _) => some (.getstatic i, 3)
  | (46, i, _) => some (.getstatic i, 3)
  | (47, i, _) => some (.getstatic i, 3)
  | (48, i, _) => some (.ldc i, 2)
  | (49, i, _) => some (.getfield i, 3)
  | (50, i, _) => some (.getfield i, 3)
  | (51, _) => some (.baload, 1)
  | (52, _) => some (.arraylength, 1)
  | (53, i, v, _, _) => if i = 0 then (if h : v < 2 then some (.lconst ⟨v, h⟩, 1) else none) else some (.ldc2_w i, 3)
  | (54, i, _) => some (.invokevirtual i, 3)
  | (55, i, _) => some (.invokestatic i, 3)
  | (56, i, _) => some (.invokestatic i, 3)
  | (57, i, _) => some (.invokestatic i, 3)
  | (58, i, _) => some (.invokestatic i, 3)
  | (59, i, _) => some (.invokestatic i, 3)
  | _ => none
/-- the types of the fields: 0 int, 1 boolean, 2 long, 3 a reference -/
def fkL : List (List Nat) := [[3, 3, 3, 0, 0, 0, 0, 0], [3, 0, 0], [3, 3, 0, 0], [3, 0, 0, 0, 0, 0], [3, 3, 3, 3, 3, 3, 3, 0, 0, 0, 0], [3, 3, 3, 3, 3, 3, 3, 3, 1], [3, 3, 3, 1, 3, 3, 3, 0, 3, 0, 3, 0, 0, 0, 0, 2, 3, 3, 3, 3, 3, 3, 3, 3]]
def fkT (c j : Nat) : Nat := (fkL.getD c []).getD j 9
abbrev mC (μ : Nat) : Nat := (mI μ).1
abbrev mY (μ : Nat) : MethodName := (mI μ).2.1
abbrev mB (μ : Nat) : ByteArray := (mI μ).2.2.1
abbrev mX (μ : Nat) : Nat := (mI μ).2.2.2.1
abbrev mR (μ : Nat) : Option FieldType := (mI μ).2.2.2.2.1
abbrev mE (μ : Nat) : Nat := (mI μ).2.2.2.2.2.1
abbrev mS (μ : Nat) : Bool := (mI μ).2.2.2.2.2.2.1
abbrev mA (μ : Nat) : Nat := (mI μ).2.2.2.2.2.2.2
/-- what an instruction names is what the tables say -/
def resI (μ : Nat) : RI → Bool
  | (0, k, _, _, v) => if k < 3 then (if k = 0 then Int32.ofInt v.toInt == v else if k = 1 then (Int8.ofInt v.toInt).toInt32 == v else (Int16.ofInt v.toInt).toInt32 == v) else ctab.any (fun e => e.1 == mC μ && e.2.1 == (if k % 2 = 1 then (k - 3) / 2 else (k - 4) / 2) && e.2.2.1 == v)
  | (4, n, _, _, _) => decide (n < mX μ)
  | (5, n, _, _, _) => decide (n < mX μ)
  | (6, n, _, _, _) => decide (n + 1 < mX μ)
  | (7, n, _, _, v) => decide (n < mX μ) && Int32.ofInt v.toInt == v
  | (33, i, c, j, _) => ftab.any (fun e => e.1 == mC μ && e.2.1 == i && e.2.2.1 == c && e.2.2.2.1 == j) && decide (fkT c j < 2)
  | (34, i, c, j, _) => ftab.any (fun e => e.1 == mC μ && e.2.1 == i && e.2.2.1 == c && e.2.2.2.1 == j) && decide (fkT c j = 2)
  | (35, i, c, j, _) => ftab.any (fun e => e.1 == mC μ && e.2.1 == i && e.2.2.1 == c && e.2.2.2.1 == j) && decide (fkT c j = 3)
  | (36, i, c, j, _) => ftab.any (fun e => e.1 == mC μ && e.2.1 == i && e.2.2.1 == c && e.2.2.2.1 == j) && decide (fkT c j = 0)
  | (37, i, c, j, _) => ftab.any (fun e => e.1 == mC μ && e.2.1 == i && e.2.2.1 == c && e.2.2.2.1 == j) && decide (fkT c j = 1)
  | (38, i, c, j, _) => ftab.any (fun e => e.1 == mC μ && e.2.1 == i && e.2.2.1 == c && e.2.2.2.1 == j) && decide (fkT c j = 2)
  | (45, i, k, _, _) => satab.any (fun e => e.1 == mC μ && e.2.1 == i && e.2.2.1 == k)
  | (46, i, _) => sttab.any (fun e => e.1 == mC μ && e.2.1 == i && e.2.2.1 == 2)
  | (47, i, _) => sttab.any (fun e => e.1 == mC μ && e.2.1 == i && e.2.2.1 == 3)
  | (48, i, k, _, _) => mC μ == 3 && decide (300 ≤ k) && ((strL[k - 300]?).map (fun q => q.1)) == some i
  | (49, i, _) => sttab.any (fun e => e.1 == mC μ && e.2.1 == i && e.2.2.1 == 0)
  | (50, i, _) => sttab.any (fun e => e.1 == mC μ && e.2.1 == i && e.2.2.1 == 1)
  | (53, i, v, _, _) => i == 0 || lctab.any (fun e => e.1 == mC μ && e.2.1 == i && e.2.2.1 == v)
  | (54, i, n, y, _) => ktab.any (fun e => e.1 == mC μ && e.2.1 == i && e.2.2.1 == y) && !(mS y) && mA y == n && decide (mE y < mE μ)
  | (55, i, n, y, _) => ktab.any (fun e => e.1 == mC μ && e.2.1 == i && e.2.2.1 == y) && mS y && mA y == n && decide (mE y < mE μ)
  | (56, i, _) => ntab.any (fun e => e.1 == mC μ && e.2.1 == i && e.2.2.1 == 3) && decide (0 < mE μ)
  | (57, i, _) => ntab.any (fun e => e.1 == mC μ && e.2.1 == i && e.2.2.1 == 0) && decide (0 < mE μ)
  | (58, i, _) => ntab.any (fun e => e.1 == mC μ && e.2.1 == i && e.2.2.1 == 1) && decide (0 < mE μ)
  | (59, i, _) => ntab.any (fun e => e.1 == mC μ && e.2.1 == i && e.2.2.1 == 2) && decide (0 < mE μ)
  | _ => true
def decIs (cc : ByteArray) (pc : Nat) (q : Instr × Nat) : Bool := match decode cc pc with
  | .ok z => decide (z = q)
  | .error _ => false
def chkI (μ pc : Nat) (i : RI) : Option Nat := match rawI i with
  | some q => if decIs (mB μ) pc q && resI μ i then some (pc + q.2) else none
  | none => none
def chkL (μ : Nat) : Nat → List RI → Option Nat
  | pc, [] => some pc
  | pc, i :: L => match chkI μ pc i with
    | some q => chkL μ q L
    | none => none
def rawT (pc : Nat) : RI → List (Int32 × Nat) → Option (Instr × Nat)
  | (70, t, _), _ => some (.goto ((t : Int) - pc), 3)
  | (72, t, _), _ => some (.ifCond .eq ((t : Int) - pc), 3)
  | (73, t, _), _ => some (.ifCond .ne ((t : Int) - pc), 3)
  | (74, t, _), _ => some (.ifCond .lt ((t : Int) - pc), 3)
  | (75, t, _), _ => some (.ifCond .ge ((t : Int) - pc), 3)
  | (76, t, _), _ => some (.ifCond .gt ((t : Int) - pc), 3)
  | (77, t, _), _ => some (.ifCond .le ((t : Int) - pc), 3)
  | (78, t, _), _ => some (.if_icmp .eq ((t : Int) - pc), 3)
  | (79, t, _), _ => some (.if_icmp .ne ((t : Int) - pc), 3)
  | (80, t, _), _ => some (.if_icmp .lt ((t : Int) - pc), 3)
  | (81, t, _), _ => some (.if_icmp .ge ((t : Int) - pc), 3)
  | (82, t, _), _ => some (.if_icmp .gt ((t : Int) - pc), 3)
  | (83, t, _), _ => some (.if_icmp .le ((t : Int) - pc), 3)
  | (84, _), _ => some (.ireturn, 1)
  | (85, _), _ => some (.ireturn, 1)
  | (86, _), _ => some (.lreturn, 1)
  | (87, _), _ => some (.return_, 1)
  | (88, _), _ => some (.areturn, 1)
  | (89, _), _ => some (.ireturn, 1)
  | (92, _), _ => some (.ireturn, 1)
  | (90, d, n, _, _), l => match l with
    | [] => none
    | (k, _) :: _ => some (.tableswitch ((d : Int) - pc) k.toInt (k.toInt + l.length - 1) ((l.map (fun q => (q.2 : Int) - pc)).toArray), n - pc)
  | (91, d, n, _, _), l => some (.lookupswitch ((d : Int) - pc) ((l.map (fun q => (q.1.toInt, (q.2 : Int) - pc))).toArray), n - pc)
  | _, _ => none
def retIs (r : Option FieldType) : Nat → Bool
  | 84 => r == some .int
  | 85 => r == some .boolean
  | 86 => r == some .long
  | 87 => r == none
  | 88 => r == some (.object "java/lang/String")
  | 89 => r == some .char
  | 92 => r == some .byte
  | _ => false
/-- a table's keys are consecutive; a lookup's stand in order -/
def keysUp : Int32 → List (Int32 × Nat) → Bool
  | _, [] => true
  | k, q :: l => q.1 == k && keysUp (k + 1) l
def chkT (μ pc : Nat) (t : RI) (l : List (Int32 × Nat)) : Bool := match rawT pc t l with
  | some q => decIs (mB μ) pc q && (if t.1 < 84 then (t.1 < 72 || t.2.2.1 == pc + 3) else if t.1 = 90 then (keysUp ((l.getD 0 (0, 0)).1) l && decide (l.length < 100) && decide (0 ≤ ((l.getD 0 (0, 0)).1).toInt) && decide (((l.getD 0 (0, 0)).1).toInt < 100)) else if t.1 = 91 then ((l.map (fun q => (q.1.toInt, (q.2 : Int) - pc))).zip ((l.map (fun q => (q.1.toInt, (q.2 : Int) - pc))).drop 1)).all (fun (a, next) => a.1 < next.1) else retIs (mR μ) t.1)
  | none => t.1 == 71 && t.2.1 == pc
def chkB (μ : Nat) (b : BK) : Bool := match chkL μ b.1 b.2.1 with
  | some q => chkT μ q b.2.2.1 b.2.2.2
  | none => false
def chkM (μ : Nat) (l : List BK) : Bool := l.all (chkB μ)
end
section
def cfC_become : List BK := [(0, [Cst 0 0, Ist 2], Tfall 2, []),
  (2, [Ild 2, Cst 1 10], Tif 81 33 8, []),
  (8, [Ald 1, GfR 11 0 0, Ild 2, Aald, Cst 0 0, Ald 0, GfR 11 0 0, Ild 2, Aald, Cst 0 0, Cst 1 10, Acopy 40, Inc 2 1], Tgoto 2, []),
  (33, [Ald 1, GfR 14 0 1, Cst 0 0, Ald 0, GfR 14 0 1, Cst 0 0, Cst 0 5, Acopy 40, Ald 1, GfR 18 0 2, Cst 0 0, Ald 0, GfR 18 0 2, Cst 0 0, Cst 1 10, Acopy 40, Ald 0, Ald 1, GfI 21 0 3, PfI 21 0 3, Ald 0, Ald 1, GfI 25 0 4, PfI 25 0 4, Ald 0, Ald 1, GfI 28 0 5, PfI 28 0 5, Ald 0, Ald 1, GfI 31 0 6, PfI 31 0 6, Ald 0, Ald 1, GfI 34 0 7, PfI 34 0 7], Tret 87, [])]
theorem okC_become : chkM mC_become cfC_become = true := by decide +kernel
def cfC_isKind : List BK := [(0, [Ild 0], Tif 74 14 4, []),
  (4, [Ild 0, Cst 1 7], Tif 81 14 10, []),
  (10, [Cst 0 1], Tgoto 15, []),
  (14, [Cst 0 0], Tfall 15, []),
  (15, [], Tret 85, [])]
theorem okC_isKind : chkM mC_isKind cfC_isKind = true := by decide +kernel
def cfC_isUnder : List BK := [(0, [Ild 0, Ist 2, Cst 0 0, Ist 3], Tfall 4, []),
  (4, [Ild 3, Cst 1 7], Tif 81 36 10, []),
  (10, [Ild 2, CallS 52 1 mC_isKind], Tif 72 36 17, []),
  (17, [Ild 2, Ild 1], Tif 79 24 22, []),
  (22, [Cst 0 1], Tret 85, []),
  (24, [GsA 56 205, Ild 2, IaldS, Ist 2, Inc 3 1], Tgoto 4, []),
  (36, [Cst 0 0], Tret 85, [])]
theorem okC_isUnder : chkM mC_isUnder cfC_isUnder = true := by decide +kernel
def cfC_has : List BK := [(0, [Ild 1], Tif 74 22 4, []),
  (4, [Ild 1, Ald 0, GfI 21 0 3], Tif 81 22 12, []),
  (12, [Ild 1, Cst 1 10], Tif 81 22 18, []),
  (18, [Cst 0 1], Tgoto 23, []),
  (22, [Cst 0 0], Tfall 23, []),
  (23, [], Tret 85, [])]
theorem okC_has : chkM mC_has cfC_has = true := by decide +kernel
def cfC_allLocks : List BK := [(0, [Cst 0 1, Ald 0, GfI 21 0 3, Ishl, Cst 0 1, Isub], Tret 84, [])]
theorem okC_allLocks : chkM mC_allLocks cfC_allLocks = true := by decide +kernel
def cfC_add : List BK := [(0, [Ald 0, GfI 21 0 3, Ist 2, Ild 2], Tif 74 15 9, []),
  (9, [Ild 2, Cst 1 10], Tif 80 17 15, []),
  (15, [Cst 0 (-1)], Tret 84, []),
  (17, [Cst 0 0, Ist 3], Tfall 19, []),
  (19, [Ild 3, Cst 1 10], Tif 81 44 25, []),
  (25, [Ald 0, GfR 11 0 0, Ild 3, Aald, Ild 2, GsA 59 202, Ild 3, IaldS, Iast, Inc 3 1], Tgoto 19, []),
  (44, [Ald 0, GfR 11 0 0, Cst 0 0, Aald, Ild 2, Ild 1, Iast, Ald 0, Dup, GfI 21 0 3, Cst 0 1, Iadd, PfI 21 0 3, Ild 2], Tret 84, [])]
theorem okC_add : chkM mC_add cfC_add = true := by decide +kernel
def cfC_trait : List BK := [(0, [Ild 1, CallS 62 1 mC_isTrait], Tif 72 26 7, []),
  (7, [Ald 0, Ild 2, CallV 65 2 mC_has], Tif 72 26 15, []),
  (15, [Ald 0, GfR 11 0 0, Ild 1, Aald, Ild 2, Iald], Tgoto 27, []),
  (26, [Cst 0 0], Tfall 27, []),
  (27, [], Tret 84, [])]
theorem okC_trait : chkM mC_trait cfC_trait = true := by decide +kernel
def cfC_isTrait : List BK := [(0, [Ild 0], Tif 74 14 4, []),
  (4, [Ild 0, Cst 1 10], Tif 81 14 10, []),
  (10, [Cst 0 1], Tgoto 15, []),
  (14, [Cst 0 0], Tfall 15, []),
  (15, [], Tret 85, [])]
theorem okC_isTrait : chkM mC_isTrait cfC_isTrait = true := by decide +kernel
def cfC_allows : List BK := [(0, [Ild 1, CallS 62 1 mC_isTrait], Tif 73 9 7, []),
  (7, [Cst 0 0], Tret 85, []),
  (9, [Ild 1, Cst 1 8], Tif 78 21 15, []),
  (15, [Ild 1, Cst 1 9], Tif 79 28 21, []),
  (21, [Ald 0, CallV 68 1 mC_allLocks], Tgoto 33, []),
  (28, [GsA 72 201, Ild 1, IaldS], Tfall 33, []),
  (33, [Ist 3, Ild 2, GsA 75 200, Ild 1, IaldS], Tif 80 52 43, []),
  (43, [Ild 2, Ild 3], Tif 82 52 48, []),
  (48, [Cst 0 1], Tgoto 53, []),
  (52, [Cst 0 0], Tfall 53, []),
  (53, [], Tret 85, [])]
theorem okC_allows : chkM mC_allows cfC_allows = true := by decide +kernel
def cfC_putTrait : List BK := [(0, [Ild 1, CallS 62 1 mC_isTrait], Tif 72 15 7, []),
  (7, [Ald 0, Ild 2, CallV 65 2 mC_has], Tif 73 17 15, []),
  (15, [Cst 0 0], Tret 84, []),
  (17, [Ald 0, GfR 11 0 0, Ild 1, Aald, Ild 2, Iald, Ist 4, Ald 0, GfR 11 0 0, Ild 1, Aald, Ild 2, Ild 3, Iast, Ild 4], Tret 84, [])]
theorem okC_putTrait : chkM mC_putTrait cfC_putTrait = true := by decide +kernel
def cfC_isRule : List BK := [(0, [Ild 0], Tif 74 13 4, []),
  (4, [Ild 0, Cst 0 5], Tif 81 13 9, []),
  (9, [Cst 0 1], Tgoto 14, []),
  (13, [Cst 0 0], Tfall 14, []),
  (14, [], Tret 85, [])]
theorem okC_isRule : chkM mC_isRule cfC_isRule = true := by decide +kernel
def cfC_allowsRule : List BK := [(0, [Ild 1, CallS 78 1 mC_isRule], Tif 73 9 7, []),
  (7, [Cst 0 0], Tret 85, []),
  (9, [Ild 1, Cst 0 2], Tif 79 21 14, []),
  (14, [Ald 0, CallV 68 1 mC_allLocks], Tgoto 26, []),
  (21, [GsA 81 203, Ild 1, IaldS], Tfall 26, []),
  (26, [Ist 3, Ild 2], Tif 74 40 31, []),
  (31, [Ild 2, Ild 3], Tif 82 40 36, []),
  (36, [Cst 0 1], Tgoto 41, []),
  (40, [Cst 0 0], Tfall 41, []),
  (41, [], Tret 85, [])]
theorem okC_allowsRule : chkM mC_allowsRule cfC_allowsRule = true := by decide +kernel
def cfC_putRule : List BK := [(0, [Ild 1, CallS 78 1 mC_isRule], Tif 73 9 7, []),
  (7, [Cst 0 0], Tret 84, []),
  (9, [Ald 0, GfR 14 0 1, Ild 1, Iald, Ist 3, Ald 0, GfR 14 0 1, Ild 1, Ild 2, Iast, Ild 3], Tret 84, [])]
theorem okC_putRule : chkM mC_putRule cfC_putRule = true := by decide +kernel
def cfC_goal : List BK := [(0, [Ald 0, GfR 14 0 1, Cst 0 2, Iald], Tret 84, [])]
theorem okC_goal : chkM mC_goal cfC_goal = true := by decide +kernel
def cfC_isOff : List BK := [(0, [Ald 0, GfI 25 0 4, Ild 1, Ishr, Cst 0 1, Iand], Tif 72 15 11, []),
  (11, [Cst 0 1], Tgoto 16, []),
  (15, [Cst 0 0], Tfall 16, []),
  (16, [], Tret 85, [])]
theorem okC_isOff : chkM mC_isOff cfC_isOff = true := by decide +kernel
def cfC_shutAll : List BK := [(0, [Ald 0, GfI 25 0 4, CallS 84 1 mJI_bitCount, Ist 1, Ald 0, Cst 0 0, PfI 25 0 4, Ald 0, Cst 0 0, PfI 28 0 5, Ald 0, Cst 0 0, PfI 31 0 6, Ild 1], Tret 84, [])]
theorem okC_shutAll : chkM mC_shutAll cfC_shutAll = true := by decide +kernel
def cfC_slackAt : List BK := [(0, [Ald 0, GfR 14 0 1, Cst 0 1, Iald, Ist 2, Cst 0 0, Ist 3], Tfall 9, []),
  (9, [Ild 3, Ald 0, GfI 21 0 3], Tif 81 48 17, []),
  (17, [Ild 3, Cst 1 10], Tif 81 48 23, []),
  (23, [Ild 1, Ild 3, Ishr, Cst 0 1, Iand], Tif 72 42 31, []),
  (31, [Ild 2, Ald 0, GfR 11 0 0, Cst 0 2, Aald, Ild 3, Iald, Iadd, Ist 2], Tfall 42, []),
  (42, [Inc 3 1], Tgoto 9, []),
  (48, [Ild 2], Tret 84, [])]
theorem okC_slackAt : chkM mC_slackAt cfC_slackAt = true := by decide +kernel
def cfC_freeAt : List BK := [(0, [Cst 0 0, Ist 2, Cst 0 0, Ist 3], Tfall 4, []),
  (4, [Ild 3, Ald 0, GfI 21 0 3], Tif 81 43 12, []),
  (12, [Ild 3, Cst 1 10], Tif 81 43 18, []),
  (18, [Ild 1, Ild 3, Ishr, Cst 0 1, Iand], Tif 73 37 26, []),
  (26, [Ild 2, Ald 0, GfR 11 0 0, Cst 0 4, Aald, Ild 3, Iald, Ior, Ist 2], Tfall 37, []),
  (37, [Inc 3 1], Tgoto 4, []),
  (43, [Cst 0 3, Ild 2, Cst 0 (-1), Ixor, Iand], Tret 84, [])]
theorem okC_freeAt : chkM mC_freeAt cfC_freeAt = true := by decide +kernel
def cfC_isOutAt : List BK := [(0, [Ald 0, GfR 14 0 1, Cst 0 2, Iald, Ild 1, Cst 0 (-1), Ixor, Iand], Tif 73 17 13, []),
  (13, [Cst 0 1], Tgoto 18, []),
  (17, [Cst 0 0], Tfall 18, []),
  (18, [], Tret 85, [])]
theorem okC_isOutAt : chkM mC_isOutAt cfC_isOutAt = true := by decide +kernel
def cfC_playsAt : List BK := [(0, [Ald 0, GfR 14 0 1, Cst 0 3, Iald, Ald 0, GfR 14 0 1, Cst 0 4, Iald, Iadd, Ist 2, Ild 2], Tif 77 34 18, []),
  (18, [Ild 1, Ild 2, Irem, Ald 0, GfR 14 0 1, Cst 0 3, Iald], Tif 81 34 30, []),
  (30, [Cst 0 1], Tgoto 35, []),
  (34, [Cst 0 0], Tfall 35, []),
  (35, [], Tret 85, [])]
theorem okC_playsAt : chkM mC_playsAt cfC_playsAt = true := by decide +kernel
def cfC_mayAt : List BK := [(0, [Ald 0, Ild 1, Ald 0, Ild 1, CallV 90 2 mC_slackAt, Ald 0, Ild 1, CallV 93 2 mC_freeAt, CallS 84 1 mJI_bitCount, CallV 96 4 mC_mayWith], Tret 84, [])]
theorem okC_mayAt : chkM mC_mayAt cfC_mayAt = true := by decide +kernel
def cfC_mayWith : List BK := [(0, [Cst 0 0, Ist 4, Cst 0 0, Ist 5], Tfall 6, []),
  (6, [Ild 5, Ald 0, GfI 21 0 3], Tif 81 49 15, []),
  (15, [Ild 5, Cst 1 10], Tif 81 49 22, []),
  (22, [Ald 0, Ild 5, Ild 1, Ild 2, Ild 3, CallV 100 5 mC_reason], Tif 73 43 34, []),
  (34, [Ild 4, Cst 0 1, Ild 5, Ishl, Ior, Ist 4], Tfall 43, []),
  (43, [Inc 5 1], Tgoto 6, []),
  (49, [Ild 4], Tret 84, [])]
theorem okC_mayWith : chkM mC_mayWith cfC_mayWith = true := by decide +kernel
def cfC_reasonNow : List BK := [(0, [Ald 0, Ild 1, Ald 0, GfI 25 0 4, Ald 0, Ald 0, GfI 25 0 4, CallV 90 2 mC_slackAt, Ald 0, Ald 0, GfI 25 0 4, CallV 93 2 mC_freeAt, CallS 84 1 mJI_bitCount, CallV 100 5 mC_reason], Tret 84, [])]
theorem okC_reasonNow : chkM mC_reasonNow cfC_reasonNow = true := by decide +kernel
def cfC_reason : List BK := [(0, [Ald 0, Ild 1, CallV 65 2 mC_has], Tif 72 16 8, []),
  (8, [Ild 2, Ild 1, Ishr, Cst 0 1, Iand], Tif 72 18 16, []),
  (16, [Cst 0 1], Tret 84, []),
  (18, [Ild 3, Ald 0, GfR 11 0 0, Cst 0 3, Aald, Ild 1, Iald], Tif 81 32 30, []),
  (30, [Cst 0 2], Tret 84, []),
  (32, [Ild 4, Ald 0, GfR 11 0 0, Cst 0 5, Aald, Ild 1, Iald], Tif 81 47 45, []),
  (45, [Cst 0 3], Tret 84, []),
  (47, [Ald 0, GfR 11 0 0, Cst 1 6, Aald, Ild 1, Iald, Ist 5, Ild 5], Tif 77 81 63, []),
  (63, [Ald 0, GfR 14 0 1, Cst 0 0, Iald, Ild 5, Cst 0 1, Isub, Ishr, Cst 0 1, Iand], Tif 73 81 79, []),
  (79, [Cst 0 4], Tret 84, []),
  (81, [Ald 0, GfR 11 0 0, Cst 1 8, Aald, Ild 1, Iald, Ild 2, Cst 0 (-1), Ixor, Iand], Tif 72 99 97, []),
  (97, [Cst 0 5], Tret 84, []),
  (99, [Ald 0, GfR 11 0 0, Cst 1 9, Aald, Ild 1, Iald, Cst 0 1, Ild 1, Ishl, Cst 0 (-1), Ixor, Iand, Ild 2, Iand], Tif 72 124 119, []),
  (119, [Cst 1 6], Tgoto 125, []),
  (124, [Cst 0 0], Tfall 125, []),
  (125, [], Tret 84, [])]
theorem okC_reason : chkM mC_reason cfC_reason = true := by decide +kernel
def cfC_takesNow : List BK := [(0, [Ald 0, Ild 1, Ald 0, Ald 0, GfI 25 0 4, CallV 90 2 mC_slackAt, Ald 0, Ald 0, GfI 25 0 4, CallV 93 2 mC_freeAt, CallS 84 1 mJI_bitCount, Ald 0, GfI 25 0 4, CallS 84 1 mJI_bitCount, CallV 104 5 mC_takes], Tret 84, [])]
theorem okC_takesNow : chkM mC_takesNow cfC_takesNow = true := by decide +kernel
def cfC_takes : List BK := [(0, [Ild 1], Tif 74 10 4, []),
  (4, [Ild 1, Cst 1 10], Tif 80 12 10, []),
  (10, [Cst 0 0], Tret 84, []),
  (12, [Ald 0, GfR 11 0 0, Cst 0 1, Aald, Ild 1, Iald, Ist 5, Ild 5, Ild 2], Tif 83 35 28, []),
  (28, [Ild 5, Ild 2, Isub], Tgoto 36, []),
  (35, [Cst 0 1], Tfall 36, []),
  (36, [Ist 6, Ild 5, Cst 0 3, Ild 4, Imul, Iadd, Ist 7, Ild 7, Cst 0 1], Tif 83 60 53, []),
  (53, [Ild 7, Cst 0 2, Idiv], Tgoto 61, []),
  (60, [Cst 0 1], Tfall 61, []),
  (61, [Ist 8, Ald 0, GfR 11 0 0, Cst 0 0, Aald, Ild 1, Iald], Tsw 90 142 108, [(1, 108), (2, 116), (3, 119), (4, 122), (5, 111), (6, 127)]),
  (108, [Ild 6], Tret 84, []),
  (111, [Ild 6, Cst 0 2, Iadd], Tret 84, []),
  (116, [Ild 7], Tret 84, []),
  (119, [Ild 8], Tret 84, []),
  (122, [Ild 8, Cst 0 4, Iadd], Tret 84, []),
  (127, [Ild 3, Cst 0 2], Tif 81 139 132, []),
  (132, [Cst 0 2, Ild 5, Imul], Tgoto 141, []),
  (139, [Ild 5], Tfall 141, []),
  (141, [], Tret 84, []),
  (142, [Ild 5], Tret 84, [])]
theorem okC_takes : chkM mC_takes cfC_takes = true := by decide +kernel
def cfC_sounds : List BK := [(0, [Ald 0, Ild 1, CallV 65 2 mC_has], Tif 73 10 8, []),
  (8, [Cst 0 0], Tret 84, []),
  (10, [Ald 0, GfR 11 0 0, Cst 0 1, Aald, Ild 1, Iald, Cst 0 2, Idiv, Ist 2, Ald 0, GfR 11 0 0, Cst 0 0, Aald, Ild 1, Iald], Tsw 90 80 64, [(1, 64), (2, 68), (3, 70), (4, 74), (5, 66)]),
  (64, [Cst 0 0], Tret 84, []),
  (66, [Cst 0 4], Tret 84, []),
  (68, [Ild 2], Tret 84, []),
  (70, [Ild 2, Cst 0 1, Iadd], Tret 84, []),
  (74, [Cst 0 2, Ild 2, Cst 0 1, Iadd, Imul], Tret 84, []),
  (80, [Cst 0 2], Tret 84, [])]
theorem okC_sounds : chkM mC_sounds cfC_sounds = true := by decide +kernel
def cfC_step : List BK := [(0, [Ald 0, Ild 1, CallV 107 2 mC_takesNow, Ist 2, Ald 0, Ald 0, GfI 28 0 5, CallV 110 2 mC_playsAt], Tif 73 31 17, []),
  (17, [Ald 0, Dup, GfI 31 0 6, Ald 0, Ild 1, CallV 113 2 mC_sounds, Iadd, PfI 31 0 6], Tfall 31, []),
  (31, [Ald 0, Dup, GfI 28 0 5, Ild 2, Iadd, PfI 28 0 5, Ald 0, Dup, GfI 25 0 4, Cst 0 1, Ild 1, Ishl, Ior, PfI 25 0 4], Tret 87, [])]
theorem okC_step : chkM mC_step cfC_step = true := by decide +kernel
def cfC_draw : List BK := [(0, [Ald 0, Ald 0, GfI 34 0 7, Cst 235 1103515245, Imul, Cst 2 12345, Iadd, PfI 34 0 7, Ald 0, GfI 34 0 7, Cst 1 8, Iushr], Tret 84, [])]
theorem okC_draw : chkM mC_draw cfC_draw = true := by decide +kernel
def cfC_tryFriday : List BK := [(0, [Ald 0, CallV 117 1 mC_shutAll, Pop, Cst 0 0, Ist 2, Cst 0 0, Ist 3], Tfall 9, []),
  (9, [Ild 3, Ild 1], Tif 81 108 14, []),
  (14, [Ald 0, Ald 0, GfI 25 0 4, CallV 120 2 mC_isOutAt], Tif 73 108 25, []),
  (25, [Ald 0, Ald 0, GfI 25 0 4, CallV 123 2 mC_mayAt, Ist 4, Ild 4, CallS 84 1 mJI_bitCount, Ist 5, Ild 5], Tif 73 49 47, []),
  (47, [Ild 2], Tret 84, []),
  (49, [Ild 4, Ald 0, CallV 126 1 mC_draw, Ild 5, Irem, CallS 129 2 mC_nth, Ist 6, Ald 0, CallV 126 1 mC_draw, Cst 1 10, Irem, Ald 0, Cst 1 7, Ild 6, CallV 133 3 mC_trait], Tif 81 85 81, []),
  (81, [Cst 0 1], Tgoto 86, []),
  (85, [Cst 0 0], Tfall 86, []),
  (86, [Ist 7, Ild 7], Tif 73 102 93, []),
  (93, [Ald 0, Ild 6, CallV 136 2 mC_step, Inc 2 1], Tfall 102, []),
  (102, [Inc 3 1], Tgoto 9, []),
  (108, [Ild 2], Tret 84, [])]
theorem okC_tryFriday : chkM mC_tryFriday cfC_tryFriday = true := by decide +kernel
def cfC_nth : List BK := [(0, [Ild 1, Ist 2, Cst 0 0, Ist 3], Tfall 4, []),
  (4, [Ild 3, Cst 1 10], Tif 81 33 10, []),
  (10, [Ild 0, Ild 3, Ishr, Cst 0 1, Iand], Tif 72 27 18, []),
  (18, [Ild 2], Tif 73 24 22, []),
  (22, [Ild 3], Tret 84, []),
  (24, [Inc 2 (-1)], Tfall 27, []),
  (27, [Inc 3 1], Tgoto 4, []),
  (33, [Cst 0 0], Tret 84, [])]
theorem okC_nth : chkM mC_nth cfC_nth = true := by decide +kernel
def cfC_isSpot : List BK := [(0, [Ild 0], Tif 74 14 4, []),
  (4, [Ild 0, Cst 1 10], Tif 81 14 10, []),
  (10, [Cst 0 1], Tgoto 15, []),
  (14, [Cst 0 0], Tfall 15, []),
  (15, [], Tret 85, [])]
theorem okC_isSpot : chkM mC_isSpot cfC_isSpot = true := by decide +kernel
def cfC_putSpot : List BK := [(0, [Ild 1, CallS 140 1 mC_isSpot], Tif 72 14 7, []),
  (7, [Ald 0, GfR 18 0 2, Ild 1, Ild 2, Iast], Tfall 14, []),
  (14, [], Tret 87, [])]
theorem okC_putSpot : chkM mC_putSpot cfC_putSpot = true := by decide +kernel
def cfC_atSpot : List BK := [(0, [Ild 1, CallS 140 1 mC_isSpot], Tif 72 16 7, []),
  (7, [Ald 0, GfR 18 0 2, Ild 1, Iald], Tgoto 17, []),
  (16, [Cst 0 (-1)], Tfall 17, []),
  (17, [], Tret 84, [])]
theorem okC_atSpot : chkM mC_atSpot cfC_atSpot = true := by decide +kernel
def cfC_heldSpots : List BK := [(0, [Cst 0 0, Ist 1, Cst 0 0, Ist 2], Tfall 4, []),
  (4, [Ild 2, Cst 1 10], Tif 81 29 10, []),
  (10, [Ald 0, GfR 18 0 2, Ild 2, Iald, Cst 0 (-1)], Tif 78 23 20, []),
  (20, [Inc 1 1], Tfall 23, []),
  (23, [Inc 2 1], Tgoto 4, []),
  (29, [Ild 1], Tret 84, [])]
theorem okC_heldSpots : chkM mC_heldSpots cfC_heldSpots = true := by decide +kernel
def cfC_allTimes : List BK := [(0, [Cst 0 0, Ist 1, Cst 0 0, Ist 2], Tfall 4, []),
  (4, [Ild 2, Ald 0, GfI 21 0 3], Tif 81 35 12, []),
  (12, [Ild 2, Cst 1 10], Tif 81 35 18, []),
  (18, [Ild 1, Ald 0, GfR 11 0 0, Cst 0 1, Aald, Ild 2, Iald, Iadd, Ist 1, Inc 2 1], Tgoto 4, []),
  (35, [Ild 1], Tret 84, [])]
theorem okC_allTimes : chkM mC_allTimes cfC_allTimes = true := by decide +kernel
def cfC_loadTimes : List BK := [(0, [Cst 0 0, Ist 2, Cst 0 0, Ist 3], Tfall 4, []),
  (4, [Ild 3, Ald 0, GfI 21 0 3], Tif 81 63 12, []),
  (12, [Ild 3, Cst 1 10], Tif 81 63 18, []),
  (18, [Ald 1, Ild 3, CallV 143 2 mS_has], Tif 72 39 26, []),
  (26, [Ald 0, Cst 0 1, Ald 1, Ild 3, CallV 146 2 mS_number, CallV 149 3 mC_allows], Tif 73 41 39, []),
  (39, [Ild 2], Tret 84, []),
  (41, [Ald 0, GfR 11 0 0, Cst 0 1, Aald, Ild 3, Ald 1, Ild 3, CallV 146 2 mS_number, Iast, Inc 2 1, Inc 3 1], Tgoto 4, []),
  (63, [Ild 2], Tret 84, [])]
theorem okC_loadTimes : chkM mC_loadTimes cfC_loadTimes = true := by decide +kernel
def cfC_firstBarred : List BK := [(0, [Ald 0, GfI 25 0 4, Ist 2, Cst 0 0, Ist 3], Tfall 7, []),
  (7, [Ild 3, Ald 1, CallV 153 1 mS_length], Tif 81 61 15, []),
  (15, [Ald 1, Ild 3, CallV 146 2 mS_number, Ist 4, Ald 0, Ild 4, CallV 65 2 mC_has], Tif 72 44 31, []),
  (31, [Ald 0, Ild 2, CallV 123 2 mC_mayAt, Ild 4, Ishr, Cst 0 1, Iand], Tif 73 48 44, []),
  (44, [Cst 0 1, Ild 3, Iadd], Tret 84, []),
  (48, [Ild 2, Cst 0 1, Ild 4, Ishl, Ior, Ist 2, Inc 3 1], Tgoto 7, []),
  (61, [Cst 0 0], Tret 84, [])]
theorem okC_firstBarred : chkM mC_firstBarred cfC_firstBarred = true := by decide +kernel
def cfS_isWidth : List BK := [(0, [Ild 0], Tif 72 22 4, []),
  (4, [Ild 0, Cst 1 8], Tif 78 22 10, []),
  (10, [Ild 0, Cst 1 16], Tif 78 22 16, []),
  (16, [Ild 0, Cst 1 32], Tif 79 26 22, []),
  (22, [Cst 0 1], Tgoto 27, []),
  (26, [Cst 0 0], Tfall 27, []),
  (27, [], Tret 85, [])]
theorem okS_isWidth : chkM mS_isWidth cfS_isWidth = true := by decide +kernel
def cfS_isMissing : List BK := [(0, [Ald 0, GfI 13 1 1], Tif 73 11 7, []),
  (7, [Cst 0 1], Tgoto 12, []),
  (11, [Cst 0 0], Tfall 12, []),
  (12, [], Tret 85, [])]
theorem okS_isMissing : chkM mS_isMissing cfS_isMissing = true := by decide +kernel
def cfS_isLike : List BK := [(0, [Ald 0, GfI 13 1 1, Ald 1, GfI 13 1 1], Tif 79 15 11, []),
  (11, [Cst 0 1], Tgoto 16, []),
  (15, [Cst 0 0], Tfall 16, []),
  (16, [], Tret 85, [])]
theorem okS_isLike : chkM mS_isLike cfS_isLike = true := by decide +kernel
def cfS_begin : List BK := [(0, [Ald 0, Ild 1, PfI 13 1 1, Ald 0, Ild 1], Tif 73 14 10, []),
  (10, [Cst 0 0], Tgoto 24, []),
  (14, [Cst 0 0, Ild 2, Cst 1 40, Mmin 20, Mmax 26], Tfall 24, []),
  (24, [PfI 17 1 2, Ald 0, GfR 9 1 0, Cst 0 0, CallS 29 2 mJA_fill, Ald 0, GfI 17 1 2], Tret 84, [])]
theorem okS_begin : chkM mS_begin cfS_begin = true := by decide +kernel
def cfS_length : List BK := [(0, [Ald 0, GfI 17 1 2], Tret 84, [])]
theorem okS_length : chkM mS_length cfS_length = true := by decide +kernel
def cfS_has : List BK := [(0, [Ild 1], Tif 74 22 4, []),
  (4, [Ild 1, Ald 0, GfI 17 1 2], Tif 81 22 12, []),
  (12, [Ild 1, Cst 1 40], Tif 81 22 18, []),
  (18, [Cst 0 1], Tgoto 23, []),
  (22, [Cst 0 0], Tfall 23, []),
  (23, [], Tret 85, [])]
theorem okS_has : chkM mS_has cfS_has = true := by decide +kernel
def cfS_hasRun : List BK := [(0, [Ild 1], Tif 74 30 4, []),
  (4, [Ild 2], Tif 74 30 8, []),
  (8, [Ild 1, Ald 0, GfI 17 1 2], Tif 82 30 16, []),
  (16, [Ild 2, Ald 0, GfI 17 1 2, Ild 1, Isub], Tif 82 30 26, []),
  (26, [Cst 0 1], Tgoto 31, []),
  (30, [Cst 0 0], Tfall 31, []),
  (31, [], Tret 85, [])]
theorem okS_hasRun : chkM mS_hasRun cfS_hasRun = true := by decide +kernel
def cfS_number : List BK := [(0, [Ald 0, Ild 1, CallV 35 2 mS_has], Tif 72 17 8, []),
  (8, [Ald 0, GfR 9 1 0, Ild 1, Iald], Tgoto 18, []),
  (17, [Cst 0 0], Tfall 18, []),
  (18, [], Tret 84, [])]
theorem okS_number : chkM mS_number cfS_number = true := by decide +kernel
def cfS_put : List BK := [(0, [Ald 0, Ild 1, CallV 35 2 mS_has], Tif 72 43 8, []),
  (8, [Ald 0, GfR 9 1 0, Ild 1, Ald 0, GfI 13 1 1, Cst 1 8], Tif 79 27 22, []),
  (22, [Ild 2, I2b], Tgoto 42, []),
  (27, [Ald 0, GfI 13 1 1, Cst 1 16], Tif 79 41 36, []),
  (36, [Ild 2, I2s], Tgoto 42, []),
  (41, [Ild 2], Tfall 42, []),
  (42, [Iast], Tfall 43, []),
  (43, [], Tret 87, [])]
theorem okS_put : chkM mS_put cfS_put = true := by decide +kernel
def cfS_copyTo : List BK := [(0, [Ald 0, Ild 1, Ild 4, CallV 39 3 mS_hasRun], Tif 72 35 10, []),
  (10, [Ald 2, Ild 3, Ild 4, CallV 39 3 mS_hasRun], Tif 72 35 20, []),
  (20, [Ald 0, GfR 9 1 0, Ild 1, Ald 2, GfR 9 1 0, Ild 3, Ild 4, Acopy 43], Tfall 35, []),
  (35, [], Tret 87, [])]
theorem okS_copyTo : chkM mS_copyTo cfS_copyTo = true := by decide +kernel
def cfK_fewestTools : List BK := [(0, [Ald 0, GfR 19 2 0, Cst 0 0, Cst 0 0, CallV 29 3 mC_putRule, Ist 1, Cst 21 2147483647, Ist 2, Cst 0 0, Ist 3], Tfall 15, []),
  (15, [Ild 3, Cst 1 16], Tif 81 73 21, []),
  (21, [Ild 2, Cst 21 2147483647], Tif 78 38 27, []),
  (27, [Ild 3, CallS 33 1 mJI_bitCount, Ild 2, CallS 33 1 mJI_bitCount], Tif 81 67 38, []),
  (38, [Ald 0, GfR 19 2 0, Cst 0 0, Ild 3, CallV 29 3 mC_putRule, Pop, Ald 0, GfR 23 2 1, Ald 0, GfR 19 2 0, GfI 39 0 4, CallV 42 2 mW_hasWayOut], Tif 72 67 65, []),
  (65, [Ild 3, Ist 2], Tfall 67, []),
  (67, [Inc 3 1], Tgoto 15, []),
  (73, [Ald 0, GfR 19 2 0, Cst 0 0, Ild 1, CallV 29 3 mC_putRule, Pop, Ild 2], Tret 84, [])]
theorem okK_fewestTools : chkM mK_fewestTools cfK_fewestTools = true := by decide +kernel
def cfK_leastSpare : List BK := [(0, [Ald 0, GfR 19 2 0, Cst 0 1, Cst 0 0, CallV 29 3 mC_putRule, Ist 1, Cst 21 2147483647, Ist 2, Cst 0 0, Ist 3], Tfall 15, []),
  (15, [Ild 3, Cst 1 40], Tif 82 62 21, []),
  (21, [Ild 2, Cst 21 2147483647], Tif 79 62 27, []),
  (27, [Ald 0, GfR 19 2 0, Cst 0 1, Ild 3, CallV 29 3 mC_putRule, Pop, Ald 0, GfR 23 2 1, Ald 0, GfR 19 2 0, GfI 39 0 4, CallV 42 2 mW_hasWayOut], Tif 72 56 54, []),
  (54, [Ild 3, Ist 2], Tfall 56, []),
  (56, [Inc 3 1], Tgoto 15, []),
  (62, [Ald 0, GfR 19 2 0, Cst 0 1, Ild 1, CallV 29 3 mC_putRule, Pop, Ild 2], Tret 84, [])]
theorem okK_leastSpare : chkM mK_leastSpare cfK_leastSpare = true := by decide +kernel
def cfK_bestWire : List BK := [(0, [Cst 21 2147483647, Ist 1, Cst 21 2147483647, Ist 2, Cst 0 0, Ist 3], Tfall 8, []),
  (8, [Ild 3, Ald 0, GfR 19 2 0, GfI 46 0 3], Tif 81 68 19, []),
  (19, [Ald 0, GfR 19 2 0, Ild 3, CallV 49 2 mC_isOff], Tif 73 62 30, []),
  (30, [Ald 0, GfR 23 2 1, Ald 0, GfR 19 2 0, GfI 39 0 4, Cst 0 1, Ild 3, Ishl, Ior, Cst 0 0, CallV 52 3 mW_leastFrom, Ist 4, Ild 4, Ild 2], Tif 81 62 57, []),
  (57, [Ild 4, Ist 2, Ild 3, Ist 1], Tfall 62, []),
  (62, [Inc 3 1], Tgoto 8, []),
  (68, [Ild 1], Tret 84, [])]
theorem okK_bestWire : chkM mK_bestWire cfK_bestWire = true := by decide +kernel
def cfK_bestKind : List BK := [(0, [Ald 0, GfR 19 2 0, Cst 0 0, Ild 1, CallV 55 3 mC_trait, Ist 2, Cst 21 2147483647, Ist 3, Cst 21 2147483647, Ist 4, Ald 0, GfR 23 2 1, Ald 0, GfR 19 2 0, GfI 39 0 4, CallV 58 2 mW_explore, Cst 0 0, Ist 5], Tfall 34, []),
  (34, [Ild 5, Cst 1 7], Tif 81 90 41, []),
  (41, [Ald 0, GfR 19 2 0, Cst 0 0, Ild 1, Ild 5, CallV 62 4 mC_putTrait, Pop, Ald 0, GfR 23 2 1, Ald 0, GfR 19 2 0, GfI 39 0 4, Cst 0 0, CallV 66 3 mW_settle, Ist 6, Ild 6, Ild 4], Tif 81 84 77, []),
  (77, [Ild 6, Ist 4, Ild 5, Ist 3], Tfall 84, []),
  (84, [Inc 5 1], Tgoto 34, []),
  (90, [Ald 0, GfR 19 2 0, Cst 0 0, Ild 1, Ild 2, CallV 62 4 mC_putTrait, Pop, Ild 3], Tret 84, [])]
theorem okK_bestKind : chkM mK_bestKind cfK_bestKind = true := by decide +kernel
def cfK_bestSpared : List BK := [(0, [Ald 0, GfR 19 2 0, CallV 69 1 mC_goal, Ist 1, Cst 21 2147483647, Ist 2, Cst 21 2147483647, Ist 3, Ald 0, GfR 23 2 1, Ald 0, GfR 19 2 0, GfI 39 0 4, CallV 58 2 mW_explore, Cst 0 0, Ist 4], Tfall 31, []),
  (31, [Ild 4, Ald 0, GfR 19 2 0, GfI 46 0 3], Tif 81 104 43, []),
  (43, [Ild 1, Ild 4, Ishr, Cst 0 1, Iand], Tif 72 98 52, []),
  (52, [Ald 0, GfR 19 2 0, Cst 0 2, Ild 1, Cst 0 1, Ild 4, Ishl, Cst 0 (-1), Ixor, Iand, CallV 29 3 mC_putRule, Pop, Ald 0, GfR 23 2 1, Ald 0, GfR 19 2 0, GfI 39 0 4, Cst 0 0, CallV 66 3 mW_settle, Ist 5, Ild 5, Ild 3], Tif 81 98 92, []),
  (92, [Ild 5, Ist 3, Ild 4, Ist 2], Tfall 98, []),
  (98, [Inc 4 1], Tgoto 31, []),
  (104, [Ald 0, GfR 19 2 0, Cst 0 2, Ild 1, CallV 29 3 mC_putRule, Pop, Ild 2], Tret 84, [])]
theorem okK_bestSpared : chkM mK_bestSpared cfK_bestSpared = true := by decide +kernel
def cfK_findLink : List BK := [(0, [Ald 0, Cst 21 2147483647, PfI 10 2 2, Ald 0, Cst 21 2147483647, PfI 16 2 3, Ald 0, GfR 23 2 1, Ald 0, GfR 19 2 0, GfI 39 0 4, Cst 0 0, CallV 52 3 mW_leastFrom, Pop, Cst 0 0, Ist 1], Tfall 30, []),
  (30, [Ild 1, Ald 0, GfR 19 2 0, GfI 46 0 3], Tif 81 94 41, []),
  (41, [Cst 0 0, Ist 2], Tfall 43, []),
  (43, [Ild 2, Ald 0, GfR 19 2 0, GfI 46 0 3], Tif 81 88 54, []),
  (54, [Ild 1, Ild 2], Tif 78 82 59, []),
  (59, [Ald 0, GfR 19 2 0, Cst 1 8, Ild 1, CallV 55 3 mC_trait, Ild 2, Ishr, Cst 0 1, Iand], Tif 73 82 76, []),
  (76, [Ald 0, Ild 1, Ild 2, CallV 73 3 mK_tryLink], Tfall 82, []),
  (82, [Inc 2 1], Tgoto 43, []),
  (88, [Inc 1 1], Tgoto 30, []),
  (94, [], Tret 87, [])]
theorem okK_findLink : chkM mK_findLink cfK_findLink = true := by decide +kernel
def cfK_tryLink : List BK := [(0, [Ald 0, GfR 23 2 1, Ald 0, GfR 19 2 0, GfI 39 0 4, Ild 1, Ild 2, CallV 77 4 mW_settleLinked, Ist 3, Ild 3, Cst 21 2147483647], Tif 78 55 23, []),
  (23, [Ald 0, GfI 16 2 3, Cst 21 2147483647], Tif 78 40 32, []),
  (32, [Ild 3, Ald 0, GfI 16 2 3], Tif 83 55 40, []),
  (40, [Ald 0, Ild 3, PfI 16 2 3, Ald 0, Cst 1 10, Ild 1, Imul, Ild 2, Iadd, PfI 10 2 2], Tfall 55, []),
  (55, [], Tret 87, [])]
theorem okK_tryLink : chkM mK_tryLink cfK_tryLink = true := by decide +kernel
def cfK_linkPair : List BK := [(0, [Ald 0, GfI 10 2 2], Tret 84, [])]
theorem okK_linkPair : chkM mK_linkPair cfK_linkPair = true := by decide +kernel
def cfK_linkTime : List BK := [(0, [Ald 0, GfI 16 2 3], Tret 84, [])]
theorem okK_linkTime : chkM mK_linkTime cfK_linkTime = true := by decide +kernel
def cfT_size : List BK := [(0, [Ald 0, GfI 13 3 1], Tret 84, [])]
theorem okT_size : chkM mT_size cfT_size = true := by decide +kernel
def cfT_put : List BK := [(0, [Ild 2, Cst 0 1, Isub, Ist 3], Tfall 4, []),
  (4, [Ild 3], Tif 74 52 8, []),
  (8, [Ald 0, GfI 13 3 1, Cst 1 120], Tif 81 52 17, []),
  (17, [Ald 0, GfR 9 3 0, Ald 0, GfI 13 3 1, Ild 1, Cst 1 8, Ild 3, Imul, Ishr, Cst 2 255, Iand, Iast, Ald 0, Dup, GfI 13 3 1, Cst 0 1, Iadd, PfI 13 3 1, Inc 3 (-1)], Tgoto 4, []),
  (52, [Ald 0, GfI 13 3 1], Tret 84, [])]
theorem okT_put : chkM mT_put cfT_put = true := by decide +kernel
def cfT_clear : List BK := [(0, [Ald 0, GfI 13 3 1, Ist 1, Ald 0, Cst 0 0, PfI 13 3 1, Ild 1], Tret 84, [])]
theorem okT_clear : chkM mT_clear cfT_clear = true := by decide +kernel
def cfT_read : List BK := [(0, [Ald 0, Cst 0 0, PfI 20 3 3, Ald 0, CallV 29 1 mT_nextToken, Cst 0 1, Ist 2], Tfall 11, []),
  (11, [Ild 2, Cst 1 120], Tif 82 66 17, []),
  (17, [Ald 0, Ald 1, CallV 32 2 mT_readItem], Tif 73 32 25, []),
  (25, [Cst 0 (-1), Ald 0, GfI 17 3 2, Isub], Tret 84, []),
  (32, [Ald 0, GfI 23 3 4], Tif 73 41 39, []),
  (39, [Ild 2], Tret 84, []),
  (41, [Ald 0, GfI 23 3 4, Cst 0 3], Tif 78 56 49, []),
  (49, [Cst 0 (-1), Ald 0, GfI 17 3 2, Isub], Tret 84, []),
  (56, [Ald 0, CallV 29 1 mT_nextToken, Inc 2 1], Tgoto 11, []),
  (66, [Cst 0 (-1), Ald 0, GfI 17 3 2, Isub], Tret 84, [])]
theorem okT_read : chkM mT_read cfT_read = true := by decide +kernel
def cfT_readItem : List BK := [(0, [Cst 0 0, Ist 2], Tfall 2, []),
  (2, [Ild 2, Cst 1 7], Tif 81 32 8, []),
  (8, [Ald 0, Ild 2, CallS 38 1 mT_kindWord, CallV 42 2 mT_isWord], Tif 72 26 19, []),
  (19, [Ald 0, Ald 1, Ild 2, CallV 46 3 mT_readLock], Tret 85, []),
  (26, [Inc 2 1], Tgoto 2, []),
  (32, [Cst 0 0, Ist 2], Tfall 34, []),
  (34, [Ild 2, Cst 0 2], Tif 82 63 39, []),
  (39, [Ald 0, Ild 2, CallS 50 1 mT_ruleWord, CallV 42 2 mT_isWord], Tif 72 57 50, []),
  (50, [Ald 0, Ald 1, Ild 2, CallV 53 3 mT_readRule], Tret 85, []),
  (57, [Inc 2 1], Tgoto 34, []),
  (63, [Cst 0 0], Tret 85, [])]
theorem okT_readItem : chkM mT_readItem cfT_readItem = true := by decide +kernel
def cfT_readLock : List BK := [(0, [Ald 1, GfI 56 0 3, Cst 1 10], Tif 80 11 9, []),
  (9, [Cst 0 0], Tret 85, []),
  (11, [Ald 1, CallV 59 1 mC_allLocks, Ist 3, Ald 1, Ild 2, CallV 63 2 mC_add, Ist 4, Ald 0, CallV 29 1 mT_nextToken, Cst 0 0, Ist 5], Tfall 30, []),
  (30, [Ild 5, Cst 1 6], Tif 81 133 37, []),
  (37, [Ald 0, Ild 5, CallS 67 1 mT_optionWord, CallV 42 2 mT_isWord], Tif 72 127 49, []),
  (49, [Ild 5, CallS 70 1 mT_optionTrait, Ist 6, Ald 0, CallV 29 1 mT_nextToken, Ild 6, Cst 1 8], Tif 79 83 67, []),
  (67, [Ald 0, GfI 26 3 5, Ild 3], Tif 82 79 75, []),
  (75, [Cst 0 1], Tgoto 93, []),
  (79, [Cst 0 0], Tgoto 93, []),
  (83, [Ald 1, Ild 6, Ald 0, GfI 26 3 5, CallV 73 3 mC_allows], Tfall 93, []),
  (93, [Ist 7, Ald 0, GfI 23 3 4, Cst 0 2], Tif 79 108 103, []),
  (103, [Ild 7], Tif 73 110 108, []),
  (108, [Cst 0 0], Tret 85, []),
  (110, [Ald 1, Ild 6, Ild 4, Ald 0, GfI 26 3 5, CallV 77 4 mC_putTrait, Pop, Ald 0, CallV 29 1 mT_nextToken], Tfall 127, []),
  (127, [Inc 5 1], Tgoto 30, []),
  (133, [Cst 0 1], Tret 85, [])]
theorem okT_readLock : chkM mT_readLock cfT_readLock = true := by decide +kernel
def cfT_readRule : List BK := [(0, [Ald 0, CallV 29 1 mT_nextToken, Ald 0, GfI 23 3 4, Cst 0 2], Tif 79 24 12, []),
  (12, [Ald 1, Ild 2, Ald 0, GfI 26 3 5, CallV 81 3 mC_allowsRule], Tif 73 26 24, []),
  (24, [Cst 0 0], Tret 85, []),
  (26, [Ald 1, Ild 2, Ald 0, GfI 26 3 5, CallV 84 3 mC_putRule, Pop, Ald 0, CallV 29 1 mT_nextToken, Cst 0 1], Tret 85, [])]
theorem okT_readRule : chkM mT_readRule cfT_readRule = true := by decide +kernel
def cfT_kindWord : List BK := [(0, [Ild 0], Tsw 90 58 40, [(1, 40), (2, 43), (3, 46), (4, 49), (5, 52), (6, 55)]),
  (40, [LdS 88 300], Tret 88, []),
  (43, [LdS 90 301], Tret 88, []),
  (46, [LdS 92 302], Tret 88, []),
  (49, [LdS 94 303], Tret 88, []),
  (52, [LdS 96 304], Tret 88, []),
  (55, [LdS 98 305], Tret 88, []),
  (58, [LdS 100 306], Tret 88, [])]
theorem okT_kindWord : chkM mT_kindWord cfT_kindWord = true := by decide +kernel
def cfT_ruleWord : List BK := [(0, [Ild 0], Tsw 91 34 28, [(0, 28), (1, 31)]),
  (28, [LdS 102 307], Tret 88, []),
  (31, [LdS 104 308], Tret 88, []),
  (34, [LdS 106 309], Tret 88, [])]
theorem okT_ruleWord : chkM mT_ruleWord cfT_ruleWord = true := by decide +kernel
def cfT_optionWord : List BK := [(0, [Ild 0], Tsw 90 51 36, [(0, 36), (1, 39), (2, 42), (3, 45), (4, 48)]),
  (36, [LdS 108 310], Tret 88, []),
  (39, [LdS 110 311], Tret 88, []),
  (42, [LdS 112 312], Tret 88, []),
  (45, [LdS 114 313], Tret 88, []),
  (48, [LdS 116 314], Tret 88, []),
  (51, [LdS 118 315], Tret 88, [])]
theorem okT_optionWord : chkM mT_optionWord cfT_optionWord = true := by decide +kernel
def cfT_optionTrait : List BK := [(0, [Ild 0], Tsw 90 46 36, [(0, 36), (1, 38), (2, 40), (3, 42), (4, 44)]),
  (36, [Cst 0 1], Tret 84, []),
  (38, [Cst 0 2], Tret 84, []),
  (40, [Cst 0 3], Tret 84, []),
  (42, [Cst 0 4], Tret 84, []),
  (44, [Cst 0 5], Tret 84, []),
  (46, [Cst 1 8], Tret 84, [])]
theorem okT_optionTrait : chkM mT_optionTrait cfT_optionTrait = true := by decide +kernel
def cfT_byteAt : List BK := [(0, [Ild 1], Tif 74 27 4, []),
  (4, [Ild 1, Ald 0, GfI 13 3 1], Tif 81 27 12, []),
  (12, [Ild 1, Cst 1 120], Tif 81 27 18, []),
  (18, [Ald 0, GfR 9 3 0, Ild 1, Iald], Tgoto 28, []),
  (27, [Cst 0 (-1)], Tfall 28, []),
  (28, [], Tret 84, [])]
theorem okT_byteAt : chkM mT_byteAt cfT_byteAt = true := by decide +kernel
def cfT_isLetter : List BK := [(0, [Ild 0, Cst 1 97], Tif 80 16 6, []),
  (6, [Ild 0, Cst 1 122], Tif 82 16 12, []),
  (12, [Cst 0 1], Tgoto 17, []),
  (16, [Cst 0 0], Tfall 17, []),
  (17, [], Tret 85, [])]
theorem okT_isLetter : chkM mT_isLetter cfT_isLetter = true := by decide +kernel
def cfT_isDigit : List BK := [(0, [Ild 0, Cst 1 48], Tif 80 16 6, []),
  (6, [Ild 0, Cst 1 57], Tif 82 16 12, []),
  (12, [Cst 0 1], Tgoto 17, []),
  (16, [Cst 0 0], Tfall 17, []),
  (17, [], Tret 85, [])]
theorem okT_isDigit : chkM mT_isDigit cfT_isDigit = true := by decide +kernel
def cfT_nextToken : List BK := [(0, [Ald 0, Ald 0, GfI 20 3 3, PfI 17 3 2], Tfall 8, []),
  (8, [Ald 0, GfI 17 3 2, Ald 0, GfI 13 3 1], Tif 81 45 19, []),
  (19, [Ald 0, Ald 0, GfI 17 3 2, CallV 120 2 mT_byteAt, Cst 1 32], Tif 79 45 32, []),
  (32, [Ald 0, Dup, GfI 17 3 2, Cst 0 1, Iadd, PfI 17 3 2], Tgoto 8, []),
  (45, [Ald 0, Ald 0, GfI 17 3 2, PfI 20 3 3, Ald 0, GfI 17 3 2, Ald 0, GfI 13 3 1], Tif 80 72 64, []),
  (64, [Ald 0, Cst 0 0, PfI 23 3 4], Tgoto 146, []),
  (72, [Ald 0, Ald 0, GfI 17 3 2, CallV 120 2 mT_byteAt, CallS 123 1 mT_isLetter], Tif 72 93 86, []),
  (86, [Ald 0, CallV 127 1 mT_readWord], Tgoto 146, []),
  (93, [Ald 0, Ald 0, GfI 17 3 2, CallV 120 2 mT_byteAt, CallS 130 1 mT_isDigit], Tif 72 114 107, []),
  (107, [Ald 0, CallV 133 1 mT_readNumber], Tgoto 146, []),
  (114, [Ald 0, Ald 0, Ald 0, GfI 17 3 2, CallV 120 2 mT_byteAt, Cst 1 59], Tif 79 132 128, []),
  (128, [Cst 0 3], Tgoto 133, []),
  (132, [Cst 0 4], Tfall 133, []),
  (133, [PfI 23 3 4, Ald 0, Ald 0, GfI 17 3 2, Cst 0 1, Iadd, PfI 20 3 3], Tfall 146, []),
  (146, [], Tret 87, [])]
theorem okT_nextToken : chkM mT_nextToken cfT_nextToken = true := by decide +kernel
def cfT_readWord : List BK := [(0, [Ald 0, Cst 0 1, PfI 23 3 4], Tfall 5, []),
  (5, [Ald 0, GfI 20 3 3, Ald 0, GfI 13 3 1], Tif 81 43 16, []),
  (16, [Ald 0, Ald 0, GfI 20 3 3, CallV 120 2 mT_byteAt, CallS 123 1 mT_isLetter], Tif 72 43 30, []),
  (30, [Ald 0, Dup, GfI 20 3 3, Cst 0 1, Iadd, PfI 20 3 3], Tgoto 5, []),
  (43, [], Tret 87, [])]
theorem okT_readWord : chkM mT_readWord cfT_readWord = true := by decide +kernel
def cfT_readNumber : List BK := [(0, [Ald 0, Cst 0 2, PfI 23 3 4, Ald 0, Cst 0 0, PfI 26 3 5], Tfall 10, []),
  (10, [Ald 0, GfI 20 3 3, Ald 0, GfI 13 3 1], Tif 81 77 21, []),
  (21, [Ald 0, Ald 0, GfI 20 3 3, CallV 120 2 mT_byteAt, CallS 130 1 mT_isDigit], Tif 72 77 35, []),
  (35, [Ald 0, Cst 1 10, Ald 0, GfI 26 3 5, Imul, Ald 0, Ald 0, GfI 20 3 3, CallV 120 2 mT_byteAt, Iadd, Cst 1 48, Isub, Cst 2 1024, Mmin 136, PfI 26 3 5, Ald 0, Dup, GfI 20 3 3, Cst 0 1, Iadd, PfI 20 3 3], Tgoto 10, []),
  (77, [], Tret 87, [])]
theorem okT_readNumber : chkM mT_readNumber cfT_readNumber = true := by decide +kernel
def cfT_isWord : List BK := [(0, [Ald 0, GfI 23 3 4, Cst 0 1], Tif 79 24 8, []),
  (8, [Ald 0, GfI 20 3 3, Ald 0, GfI 17 3 2, Isub, Ald 1, CallV 141 1 mJS_length], Tif 78 26 24, []),
  (24, [Cst 0 0], Tret 85, []),
  (26, [Cst 0 0, Ist 2], Tfall 28, []),
  (28, [Ild 2, Ald 1, CallV 141 1 mJS_length], Tif 81 62 36, []),
  (36, [Ald 0, Ald 0, GfI 17 3 2, Ild 2, Iadd, CallV 120 2 mT_byteAt, Ald 1, Ild 2, CallV 146 2 mJS_charAt], Tif 78 56 54, []),
  (54, [Cst 0 0], Tret 85, []),
  (56, [Inc 2 1], Tgoto 28, []),
  (62, [Cst 0 1], Tret 85, [])]
theorem okT_isWord : chkM mT_isWord cfT_isWord = true := by decide +kernel
def cfW_explore : List BK := [(0, [Ald 0, GfR 45 4 0, CallV 49 1 mC_allLocks, Ist 2, Ald 0, GfR 13 4 1, Cst 0 (-1), CallS 53 2 mJA_fill, Ild 1], Tif 74 34 20, []),
  (20, [Ild 1, Cst 2 1024], Tif 81 34 27, []),
  (27, [Ild 2, Cst 2 1024], Tif 80 35 34, []),
  (34, [], Tret 87, []),
  (35, [Ald 0, GfR 13 4 1, Ild 1, Cst 0 0, Iast, Ild 1, Ist 3], Tfall 44, []),
  (44, [Ild 3, Ild 2], Tif 82 133 49, []),
  (49, [Ald 0, GfR 13 4 1, Ild 3, Iald, Cst 0 (-1)], Tif 78 127 59, []),
  (59, [Ald 0, GfR 17 4 2, Ild 3, Ald 0, GfR 45 4 0, Ild 3, CallV 59 2 mC_slackAt, Iast, Ald 0, GfR 20 4 3, Ild 3, Ald 0, GfR 45 4 0, Ild 3, CallV 63 2 mC_freeAt, CallS 66 1 mJI_bitCount, Iast, Ald 0, GfR 13 4 1, Ild 3, Ald 0, GfR 45 4 0, Ild 3, Ald 0, GfR 17 4 2, Ild 3, Iald, Ald 0, GfR 20 4 3, Ild 3, Iald, CallV 69 4 mC_mayWith, Iast, Ald 0, Ild 3, Ald 0, GfR 13 4 1, Ild 3, Iald, CallV 73 3 mW_markFollowers], Tfall 127, []),
  (127, [Inc 3 1], Tgoto 44, []),
  (133, [], Tret 87, [])]
theorem okW_explore : chkM mW_explore cfW_explore = true := by decide +kernel
def cfW_markFollowers : List BK := [(0, [Cst 0 0, Ist 3], Tfall 2, []),
  (2, [Ild 3, Cst 1 10], Tif 81 33 8, []),
  (8, [Ild 2, Ild 3, Ishr, Cst 0 1, Iand], Tif 72 27 16, []),
  (16, [Ald 0, GfR 13 4 1, Ild 1, Cst 0 1, Ild 3, Ishl, Ior, Cst 0 0, Iast], Tfall 27, []),
  (27, [Inc 3 1], Tgoto 2, []),
  (33, [], Tret 87, [])]
theorem okW_markFollowers : chkM mW_markFollowers cfW_markFollowers = true := by decide +kernel
def cfW_leastFrom : List BK := [(0, [Ald 0, Ild 1, CallV 77 2 mW_explore, Ald 0, Ild 1, Ild 2, CallV 81 3 mW_settle], Tret 84, [])]
theorem okW_leastFrom : chkM mW_leastFrom cfW_leastFrom = true := by decide +kernel
def cfW_settle : List BK := [(0, [Ild 1], Tif 74 11 4, []),
  (4, [Ild 1, Cst 2 1024], Tif 80 14 11, []),
  (11, [Cst 173 2147483647], Tret 84, []),
  (14, [Cst 2 1023, Ist 3], Tfall 18, []),
  (18, [Ild 3, Ild 1], Tif 80 76 23, []),
  (23, [Ald 0, GfR 13 4 1, Ild 3, Iald, Cst 0 (-1)], Tif 78 70 33, []),
  (33, [Ald 0, GfR 23 4 4, Ild 3, Ald 0, GfR 45 4 0, Ild 3, CallV 86 2 mC_isOutAt], Tif 72 53 49, []),
  (49, [Cst 0 0], Tgoto 69, []),
  (53, [Ald 0, Ild 3, Ald 0, GfR 13 4 1, Ild 3, Iald, Ild 2, Ald 0, GfR 23 4 4, CallV 90 5 mW_leastOn], Tfall 69, []),
  (69, [Iast], Tfall 70, []),
  (70, [Inc 3 (-1)], Tgoto 18, []),
  (76, [Ald 0, GfR 23 4 4, Ild 1, Iald], Tret 84, [])]
theorem okW_settle : chkM mW_settle cfW_settle = true := by decide +kernel
def cfW_settleLinked : List BK := [(0, [Ild 1], Tif 74 11 4, []),
  (4, [Ild 1, Cst 2 1024], Tif 80 14 11, []),
  (11, [Cst 173 2147483647], Tret 84, []),
  (14, [Cst 0 1, Ild 2, Ishl, Cst 0 1, Ild 3, Ishl, Ior, Ist 4, Cst 2 1023, Ist 5], Tfall 28, []),
  (28, [Ild 5, Ild 1], Tif 80 124 34, []),
  (34, [Ald 0, GfR 13 4 1, Ild 5, Iald, Cst 0 (-1)], Tif 78 118 45, []),
  (45, [Ild 5, Ild 4, Iand], Tif 73 69 53, []),
  (53, [Ald 0, GfR 45 4 0, Ild 5, CallV 86 2 mC_isOutAt], Tif 73 69 65, []),
  (65, [Cst 0 1], Tgoto 70, []),
  (69, [Cst 0 0], Tfall 70, []),
  (70, [Ist 6, Ald 0, GfR 26 4 5, Ild 5, Ild 6], Tif 72 110 83, []),
  (83, [Ald 0, Ild 5, Ald 0, GfR 13 4 1, Ild 5, Iald, Cst 0 1, Ild 2, Ishl, Cst 0 (-1), Ixor, Iand, Cst 0 0, Ald 0, GfR 26 4 5, CallV 90 5 mW_leastOn], Tgoto 117, []),
  (110, [Ald 0, GfR 23 4 4, Ild 5, Iald], Tfall 117, []),
  (117, [Iast], Tfall 118, []),
  (118, [Inc 5 (-1)], Tgoto 28, []),
  (124, [Ald 0, GfR 26 4 5, Ild 1, Iald], Tret 84, [])]
theorem okW_settleLinked : chkM mW_settleLinked cfW_settleLinked = true := by decide +kernel
def cfW_leastOn : List BK := [(0, [Cst 173 2147483647, Ist 5, Ild 1, CallS 66 1 mJI_bitCount, Ist 6, Cst 0 0, Ist 7], Tfall 13, []),
  (13, [Ild 7, Cst 1 10], Tif 81 95 20, []),
  (20, [Ild 1, Cst 0 1, Ild 7, Ishl, Ior, Ist 8, Ild 2, Ild 7, Ishr, Cst 0 1, Iand], Tif 72 89 37, []),
  (37, [Ild 8, Ald 4, Alen], Tif 81 89 45, []),
  (45, [Ald 4, Ild 8, Iald, Cst 173 2147483647], Tif 78 89 55, []),
  (55, [Ald 4, Ild 8, Iald, Ald 0, Ild 7, Ild 1, Ild 6, Ild 3, CallV 94 5 mW_cost, Iadd, Ist 9, Ild 9, Ild 5], Tif 81 85 80, []),
  (80, [Ild 9], Tgoto 87, []),
  (85, [Ild 5], Tfall 87, []),
  (87, [Ist 5], Tfall 89, []),
  (89, [Inc 7 1], Tgoto 13, []),
  (95, [Ild 5], Tret 84, [])]
theorem okW_leastOn : chkM mW_leastOn cfW_leastOn = true := by decide +kernel
def cfW_cost : List BK := [(0, [Ild 4], Tsw 91 59 28, [(0, 28), (1, 50)]),
  (28, [Ald 0, GfR 45 4 0, Ild 1, Ald 0, GfR 17 4 2, Ild 2, Iald, Ald 0, GfR 20 4 3, Ild 2, Iald, Ild 3, CallV 98 5 mC_takes], Tret 84, []),
  (50, [Ald 0, GfR 45 4 0, Ild 1, CallV 101 2 mC_sounds], Tret 84, []),
  (59, [Cst 0 1], Tret 84, [])]
theorem okW_cost : chkM mW_cost cfW_cost = true := by decide +kernel
def cfW_findRow : List BK := [(0, [Ald 0, Cst 0 0, PfI 32 4 7, Ald 0, Ild 1, Cst 0 0, CallV 104 3 mW_leastFrom, Cst 173 2147483647], Tif 79 18 16, []),
  (16, [Cst 0 0], Tret 85, []),
  (18, [Ild 1, Ist 2, Cst 0 0, Ist 3], Tfall 22, []),
  (22, [Ild 3, Cst 1 10], Tif 81 81 28, []),
  (28, [Ald 0, GfR 45 4 0, Ild 2, CallV 86 2 mC_isOutAt], Tif 73 81 39, []),
  (39, [Ald 0, Ild 2, CallV 107 2 mW_firstBest, Ist 4, Ild 4], Tif 75 53 51, []),
  (51, [Cst 0 0], Tret 85, []),
  (53, [Ald 0, GfR 29 4 6, Ild 3, Ild 4, Iast, Ald 0, Ild 3, Cst 0 1, Iadd, PfI 32 4 7, Ild 2, Cst 0 1, Ild 4, Ishl, Ior, Ist 2, Inc 3 1], Tgoto 22, []),
  (81, [Cst 0 1], Tret 85, [])]
theorem okW_findRow : chkM mW_findRow cfW_findRow = true := by decide +kernel
def cfW_firstBest : List BK := [(0, [Ild 1, CallS 66 1 mJI_bitCount, Ist 2, Cst 0 0, Ist 3], Tfall 7, []),
  (7, [Ild 3, Cst 1 10], Tif 81 73 13, []),
  (13, [Ald 0, GfR 13 4 1, Ild 1, Iald, Ild 3, Ishr, Cst 0 1, Iand], Tif 72 67 26, []),
  (26, [Ald 0, GfR 23 4 4, Ild 1, Cst 0 1, Ild 3, Ishl, Ior, Iald, Ist 4, Ild 4, Cst 173 2147483647], Tif 78 67 45, []),
  (45, [Ild 4, Ald 0, Ild 3, Ild 1, Ild 2, Cst 0 0, CallV 94 5 mW_cost, Iadd, Ald 0, GfR 23 4 4, Ild 1, Iald], Tif 79 67 65, []),
  (65, [Ild 3], Tret 84, []),
  (67, [Inc 3 1], Tgoto 7, []),
  (73, [Cst 0 (-1)], Tret 84, [])]
theorem okW_firstBest : chkM mW_firstBest cfW_firstBest = true := by decide +kernel
def cfW_rowLength : List BK := [(0, [Ald 0, GfI 32 4 7], Tret 84, [])]
theorem okW_rowLength : chkM mW_rowLength cfW_rowLength = true := by decide +kernel
def cfW_rowLock : List BK := [(0, [Ild 1], Tif 74 27 4, []),
  (4, [Ild 1, Ald 0, GfI 32 4 7], Tif 81 27 12, []),
  (12, [Ild 1, Cst 1 10], Tif 81 27 18, []),
  (18, [Ald 0, GfR 29 4 6, Ild 1, Iald], Tgoto 28, []),
  (27, [Cst 0 0], Tfall 28, []),
  (28, [], Tret 84, [])]
theorem okW_rowLock : chkM mW_rowLock cfW_rowLock = true := by decide +kernel
def cfW_rowEnd : List BK := [(0, [Ald 0, GfR 45 4 0, GfI 110 0 5, Ald 0, GfR 23 4 4, Ald 0, GfR 45 4 0, GfI 113 0 4, Iald, Iadd], Tret 84, [])]
theorem okW_rowEnd : chkM mW_rowEnd cfW_rowEnd = true := by decide +kernel
def cfW_rowHeard : List BK := [(0, [Ald 0, GfR 45 4 0, GfI 113 0 4, Ist 1, Ald 0, GfR 45 4 0, GfI 110 0 5, Ist 2, Cst 0 0, Ist 3, Cst 0 0, Ist 4], Tfall 21, []),
  (21, [Ild 4, Ald 0, GfI 32 4 7], Tif 81 96 30, []),
  (30, [Ald 0, GfR 45 4 0, Ild 2, CallV 116 2 mC_playsAt], Tif 73 58 41, []),
  (41, [Ild 3, Ald 0, GfR 45 4 0, Ald 0, GfR 29 4 6, Ild 4, Iald, CallV 101 2 mC_sounds, Iadd, Ist 3], Tfall 58, []),
  (58, [Ild 2, Ald 0, Ald 0, GfR 29 4 6, Ild 4, Iald, Ild 1, Ild 1, CallS 66 1 mJI_bitCount, Cst 0 0, CallV 94 5 mW_cost, Iadd, Ist 2, Ild 1, Cst 0 1, Ald 0, GfR 29 4 6, Ild 4, Iald, Ishl, Ior, Ist 1, Inc 4 1], Tgoto 21, []),
  (96, [Ild 3], Tret 84, [])]
theorem okW_rowHeard : chkM mW_rowHeard cfW_rowHeard = true := by decide +kernel
def cfW_everOff : List BK := [(0, [Ald 0, Ald 0, GfR 45 4 0, GfI 113 0 4, CallV 77 2 mW_explore, Cst 0 0, Ist 1, Cst 0 0, Ist 2], Tfall 15, []),
  (15, [Ild 2, Cst 2 1024], Tif 81 47 22, []),
  (22, [Ald 0, GfR 13 4 1, Ild 2, Iald, Cst 0 (-1)], Tif 78 41 32, []),
  (32, [Ild 1, Ald 0, GfR 13 4 1, Ild 2, Iald, Ior, Ist 1], Tfall 41, []),
  (41, [Inc 2 1], Tgoto 15, []),
  (47, [Ild 1], Tret 84, [])]
theorem okW_everOff : chkM mW_everOff cfW_everOff = true := by decide +kernel
def cfW_reachedStates : List BK := [(0, [Ald 0, Ald 0, GfR 45 4 0, GfI 113 0 4, CallV 77 2 mW_explore, Cst 0 0, Ist 1, Cst 0 0, Ist 2], Tfall 15, []),
  (15, [Ild 2, Cst 2 1024], Tif 81 41 22, []),
  (22, [Ald 0, GfR 13 4 1, Ild 2, Iald, Cst 0 (-1)], Tif 78 35 32, []),
  (32, [Inc 1 1], Tfall 35, []),
  (35, [Inc 2 1], Tgoto 15, []),
  (41, [Ild 1], Tret 84, [])]
theorem okW_reachedStates : chkM mW_reachedStates cfW_reachedStates = true := by decide +kernel
def cfW_hasWayOut : List BK := [(0, [Ald 0, Ild 1, CallV 77 2 mW_explore, Cst 0 0, Ist 2], Tfall 7, []),
  (7, [Ild 2, Cst 2 1024], Tif 81 43 14, []),
  (14, [Ald 0, GfR 13 4 1, Ild 2, Iald, Cst 0 (-1)], Tif 78 37 24, []),
  (24, [Ald 0, GfR 45 4 0, Ild 2, CallV 86 2 mC_isOutAt], Tif 72 37 35, []),
  (35, [Cst 0 1], Tret 85, []),
  (37, [Inc 2 1], Tgoto 7, []),
  (43, [Cst 0 0], Tret 85, [])]
theorem okW_hasWayOut : chkM mW_hasWayOut cfW_hasWayOut = true := by decide +kernel
def cfW_waysOut : List BK := [(0, [Ald 0, Ald 0, GfR 45 4 0, GfI 113 0 4, CallV 77 2 mW_explore, Ald 0, GfR 23 4 4, Cst 0 0, CallS 53 2 mJA_fill, Ald 0, GfR 23 4 4, Ald 0, GfR 45 4 0, GfI 113 0 4, Cst 0 1, Iast, Cst 0 0, Ist 1, Cst 0 0, Ist 2], Tfall 36, []),
  (36, [Ild 2, Cst 2 1024], Tif 81 101 43, []),
  (43, [Ald 0, GfR 23 4 4, Ild 2, Iald], Tif 72 75 52, []),
  (52, [Ald 0, GfR 45 4 0, Ild 2, CallV 86 2 mC_isOutAt], Tif 72 75 63, []),
  (63, [Ild 1, Ald 0, GfR 23 4 4, Ild 2, Iald, Iadd, Ist 1], Tgoto 95, []),
  (75, [Ald 0, GfR 23 4 4, Ild 2, Iald], Tif 72 95 84, []),
  (84, [Ald 0, Ild 2, Ald 0, GfR 13 4 1, Ild 2, Iald, CallV 119 3 mW_handOn], Tfall 95, []),
  (95, [Inc 2 1], Tgoto 36, []),
  (101, [Ild 1], Tret 84, [])]
theorem okW_waysOut : chkM mW_waysOut cfW_waysOut = true := by decide +kernel
def cfW_handOn : List BK := [(0, [Cst 0 0, Ist 3], Tfall 2, []),
  (2, [Ild 3, Cst 1 10], Tif 81 41 8, []),
  (8, [Ild 2, Ild 3, Ishr, Cst 0 1, Iand], Tif 72 35 16, []),
  (16, [Ald 0, GfR 23 4 4, Ild 1, Cst 0 1, Ild 3, Ishl, Ior, Dup2, Iald, Ald 0, GfR 23 4 4, Ild 1, Iald, Iadd, Iast], Tfall 35, []),
  (35, [Inc 3 1], Tgoto 2, []),
  (41, [], Tret 87, [])]
theorem okW_handOn : chkM mW_handOn cfW_handOn = true := by decide +kernel
def cfW_surestTenths : List BK := [(0, [Ald 0, Ald 0, GfR 45 4 0, GfI 113 0 4, CallV 77 2 mW_explore, LC 0 0, Lst 1, Cst 0 0, Ist 3], Tfall 15, []),
  (15, [Ild 3, Cst 2 1024], Tif 81 69 22, []),
  (22, [Ald 0, GfR 13 4 1, Ild 3, Iald, Cst 0 (-1)], Tif 78 63 32, []),
  (32, [Ald 0, GfR 45 4 0, Ild 3, CallV 86 2 mC_isOutAt], Tif 72 63 43, []),
  (43, [Lld 1, Ald 0, Ild 3, Ald 0, GfR 45 4 0, GfI 113 0 4, Cst 0 (-1), Ixor, Iand, CallV 122 2 mW_odds, MmaxL 126, Lst 1], Tfall 63, []),
  (63, [Inc 3 1], Tgoto 15, []),
  (69, [Lld 1], Tret 86, [])]
theorem okW_surestTenths : chkM mW_surestTenths cfW_surestTenths = true := by decide +kernel
def cfW_odds : List BK := [(0, [LC 132 10000000000, Lst 2, Cst 0 0, Ist 4], Tfall 7, []),
  (7, [Ild 4, Cst 1 10], Tif 81 51 14, []),
  (14, [Ild 1, Ild 4, Ishr, Cst 0 1, Iand], Tif 72 45 23, []),
  (23, [Lld 2, LC 134 10, Ldiv, Cst 1 10, Ald 0, GfR 45 4 0, Cst 1 7, Ild 4, CallV 136 3 mC_trait, Isub, I2l, Lmul, Lst 2], Tfall 45, []),
  (45, [Inc 4 1], Tgoto 7, []),
  (51, [Lld 2], Tret 86, [])]
theorem okW_odds : chkM mW_odds cfW_odds = true := by decide +kernel
def cfW_listen : List BK := [(0, [Ald 0, Ald 0, GfR 45 4 0, GfI 113 0 4, CallV 77 2 mW_explore, Ald 0, GfR 23 4 4, Cst 0 0, CallS 53 2 mJA_fill, Ald 0, GfR 23 4 4, Ald 0, GfR 45 4 0, GfI 113 0 4, Cst 0 1, Iast, Ald 0, Cst 0 0, PfI 36 4 8, Ald 0, Cst 0 0, PfI 39 4 9, Ald 0, Ald 0, GfR 45 4 0, CallV 49 1 mC_allLocks, PfI 42 4 10, Ald 1, CallV 139 1 mS_length, Cst 1 8, Mmin 144, Ist 2, Cst 0 0, Ist 3], Tfall 65, []),
  (65, [Ild 3, Cst 2 1024], Tif 81 178 72, []),
  (72, [Ild 3, CallS 66 1 mJI_bitCount, Ald 0, GfR 45 4 0, GfI 113 0 4, CallS 66 1 mJI_bitCount, Isub, Ist 4, Ald 0, GfR 23 4 4, Ild 3, Iald], Tif 72 142 98, []),
  (98, [Ild 4, Ild 2], Tif 79 142 104, []),
  (104, [Ald 0, Dup, GfI 36 4 8, Ald 0, GfR 23 4 4, Ild 3, Iald, Iadd, PfI 36 4 8, Ald 0, Dup, GfI 39 4 9, Ild 3, Ior, PfI 39 4 9, Ald 0, Dup, GfI 42 4 10, Ild 3, Iand, PfI 42 4 10], Tgoto 172, []),
  (142, [Ald 0, GfR 23 4 4, Ild 3, Iald], Tif 72 172 151, []),
  (151, [Ald 0, Ild 3, Ald 0, Ald 0, GfR 13 4 1, Ild 3, Iald, Ald 1, Ild 4, CallV 147 2 mS_number, CallV 150 3 mW_soundingOf, CallV 119 3 mW_handOn], Tfall 172, []),
  (172, [Inc 3 1], Tgoto 65, []),
  (178, [], Tret 87, [])]
theorem okW_listen : chkM mW_listen cfW_listen = true := by decide +kernel
def cfW_soundingOf : List BK := [(0, [Cst 0 0, Ist 3, Cst 0 0, Ist 4], Tfall 5, []),
  (5, [Ild 4, Cst 1 10], Tif 81 47 12, []),
  (12, [Ild 1, Ild 4, Ishr, Cst 0 1, Iand], Tif 72 41 21, []),
  (21, [Ald 0, GfR 45 4 0, Ild 4, CallV 101 2 mC_sounds, Ild 2], Tif 79 41 34, []),
  (34, [Ild 3, Cst 0 1, Ild 4, Ishl, Ior, Ist 3], Tfall 41, []),
  (41, [Inc 4 1], Tgoto 5, []),
  (47, [Ild 3], Tret 84, [])]
theorem okW_soundingOf : chkM mW_soundingOf cfW_soundingOf = true := by decide +kernel
def cfW_fittingRows : List BK := [(0, [Ald 0, GfI 36 4 8], Tret 84, [])]
theorem okW_fittingRows : chkM mW_fittingRows cfW_fittingRows = true := by decide +kernel
def cfW_fittingAny : List BK := [(0, [Ald 0, GfI 39 4 9], Tret 84, [])]
theorem okW_fittingAny : chkM mW_fittingAny cfW_fittingAny = true := by decide +kernel
def cfW_fittingAll : List BK := [(0, [Ald 0, GfI 42 4 10], Tret 84, [])]
theorem okW_fittingAll : chkM mW_fittingAll cfW_fittingAll = true := by decide +kernel
def cfX_lock : List BK := [(0, [Ild 1, CallS 62 1 mC_isKind], Tif 73 14 7, []),
  (7, [Ald 0, Cst 135 (-1000001), CallV 67 2 mX_tell], Tret 84, []),
  (14, [Ald 0, GfR 12 5 0, GfI 71 0 3, Cst 1 10], Tif 80 33 26, []),
  (26, [Ald 0, Cst 153 (-1000002), CallV 67 2 mX_tell], Tret 84, []),
  (33, [Ald 0, GfR 12 5 0, Ild 1, CallV 76 2 mC_add], Tret 84, [])]
theorem okX_lock : chkM mX_lock cfX_lock = true := by decide +kernel
def cfX_of : List BK := [(0, [Ald 0, GfR 12 5 0, Ild 1, CallV 79 2 mC_has], Tif 72 21 11, []),
  (11, [Ild 2], Tif 74 21 15, []),
  (15, [Ild 2, Cst 1 12], Tif 83 28 21, []),
  (21, [Ald 0, Cst 135 (-1000001), CallV 67 2 mX_tell], Tret 84, []),
  (28, [Ild 2, Cst 1 10], Tif 79 51 34, []),
  (34, [Ald 0, GfR 12 5 0, Ild 1, CallV 82 2 mC_isOff], Tif 72 49 45, []),
  (45, [Cst 0 0], Tgoto 50, []),
  (49, [Cst 0 1], Tfall 50, []),
  (50, [], Tret 84, []),
  (51, [Ild 2, Cst 1 11], Tif 79 66 57, []),
  (57, [Ald 0, GfR 12 5 0, Ild 1, CallV 85 2 mC_takesNow], Tret 84, []),
  (66, [Ild 2, Cst 1 12], Tif 79 83 72, []),
  (72, [Ald 0, GfR 12 5 0, Ild 1, CallV 88 2 mC_sounds], Tgoto 92, []),
  (83, [Ald 0, GfR 12 5 0, Ild 2, Ild 1, CallV 91 3 mC_trait], Tfall 92, []),
  (92, [], Tret 84, [])]
theorem okX_of : chkM mX_of cfX_of = true := by decide +kernel
def cfX_change : List BK := [(0, [Ald 0, GfR 12 5 0, Ild 1, CallV 79 2 mC_has], Tif 72 23 11, []),
  (11, [Ald 0, GfR 12 5 0, Ild 2, Ild 3, CallV 95 3 mC_allows], Tif 73 30 23, []),
  (23, [Ald 0, Cst 135 (-1000001), CallV 67 2 mX_tell], Tret 84, []),
  (30, [Ald 0, GfR 12 5 0, Ild 2, Ild 1, Ild 3, CallV 99 4 mC_putTrait], Tret 84, [])]
theorem okX_change : chkM mX_change cfX_change = true := by decide +kernel
def cfX_rule : List BK := [(0, [Ald 0, GfR 12 5 0, Ild 1, Ild 2, CallV 103 3 mC_allowsRule], Tif 73 19 12, []),
  (12, [Ald 0, Cst 135 (-1000001), CallV 67 2 mX_tell], Tret 84, []),
  (19, [Ald 0, GfR 12 5 0, Ild 1, Ild 2, CallV 106 3 mC_putRule], Tret 84, [])]
theorem okX_rule : chkM mX_rule cfX_rule = true := by decide +kernel
def cfX_on : List BK := [(0, [Ald 0, GfR 12 5 0, Ild 1, CallV 79 2 mC_has], Tif 73 18 11, []),
  (11, [Ald 0, Cst 135 (-1000001), CallV 67 2 mX_tell], Tret 84, []),
  (18, [Ald 0, GfR 12 5 0, Ild 1, CallV 82 2 mC_isOff], Tif 72 33 29, []),
  (29, [Cst 0 1], Tgoto 34, []),
  (33, [Cst 0 0], Tfall 34, []),
  (34, [Ist 2, Ald 0, GfR 12 5 0, Dup, GfI 109 0 4, Cst 0 1, Ild 1, Ishl, Cst 0 (-1), Ixor, Iand, PfI 109 0 4, Ild 2], Tret 84, [])]
theorem okX_on : chkM mX_on cfX_on = true := by decide +kernel
def cfX_shut : List BK := [(0, [Ald 0, GfR 12 5 0, CallV 112 1 mC_shutAll], Tret 84, [])]
theorem okX_shut : chkM mX_shut cfX_shut = true := by decide +kernel
def cfX_may : List BK := [(0, [Ald 0, GfR 12 5 0, Ald 0, GfR 12 5 0, GfI 109 0 4, CallV 116 2 mC_mayAt], Tret 84, [])]
theorem okX_may : chkM mX_may cfX_may = true := by decide +kernel
def cfX_why : List BK := [(0, [Ald 0, GfR 12 5 0, Ild 1, CallV 79 2 mC_has], Tif 73 18 11, []),
  (11, [Ald 0, Cst 135 (-1000001), CallV 67 2 mX_tell], Tret 84, []),
  (18, [Ald 0, GfR 12 5 0, Ild 1, CallV 119 2 mC_reasonNow], Tret 84, [])]
theorem okX_why : chkM mX_why cfX_why = true := by decide +kernel
def cfX_off : List BK := [(0, [Ald 0, GfR 12 5 0, Ild 1, CallV 79 2 mC_has], Tif 73 18 11, []),
  (11, [Ald 0, Cst 135 (-1000001), CallV 67 2 mX_tell], Tret 84, []),
  (18, [Ald 0, GfR 12 5 0, Ild 1, CallV 85 2 mC_takesNow, Ist 2, Ald 0, GfR 12 5 0, Ild 1, CallV 119 2 mC_reasonNow], Tif 73 52 38, []),
  (38, [Ald 0, GfR 12 5 0, GfI 122 0 5, Cst 253 99999, Ild 2, Isub], Tif 83 59 52, []),
  (52, [Ald 0, Cst 255 (-1000005), CallV 67 2 mX_tell], Tret 84, []),
  (59, [Ald 0, GfR 12 5 0, Ild 1, CallV 127 2 mC_step, Ild 2], Tret 84, [])]
theorem okX_off : chkM mX_off cfX_off = true := by decide +kernel
def cfX_now : List BK := [(0, [Ild 1], Tsw 90 144 44, [(0, 44), (1, 52), (2, 60), (3, 68), (4, 83), (5, 98), (6, 121)]),
  (44, [Ald 0, GfR 12 5 0, GfI 122 0 5], Tret 84, []),
  (52, [Ald 0, GfR 12 5 0, GfI 131 0 6], Tret 84, []),
  (60, [Ald 0, GfR 12 5 0, GfI 109 0 4], Tret 84, []),
  (68, [Ald 0, GfR 12 5 0, Ald 0, GfR 12 5 0, GfI 109 0 4, CallV 134 2 mC_slackAt], Tret 84, []),
  (83, [Ald 0, GfR 12 5 0, Ald 0, GfR 12 5 0, GfI 109 0 4, CallV 137 2 mC_freeAt], Tret 84, []),
  (98, [Ald 0, GfR 12 5 0, Ald 0, GfR 12 5 0, GfI 109 0 4, CallV 140 2 mC_isOutAt], Tif 72 119 115, []),
  (115, [Cst 0 1], Tgoto 120, []),
  (119, [Cst 0 0], Tfall 120, []),
  (120, [], Tret 84, []),
  (121, [Ald 0, GfR 12 5 0, Ald 0, GfR 12 5 0, GfI 122 0 5, CallV 143 2 mC_playsAt], Tif 72 142 138, []),
  (138, [Cst 0 1], Tgoto 143, []),
  (142, [Cst 0 0], Tfall 143, []),
  (143, [], Tret 84, []),
  (144, [Ald 0, Cst 135 (-1000001), CallV 67 2 mX_tell], Tret 84, [])]
theorem okX_now : chkM mX_now cfX_now = true := by decide +kernel
def cfX_soonest : List BK := [(0, [Ald 0, Ald 0, GfR 27 5 3, Ald 0, GfR 12 5 0, GfI 109 0 4, Cst 0 0, CallV 146 3 mW_leastFrom, CallV 149 2 mX_orNone], Tret 84, [])]
theorem okX_soonest : chkM mX_soonest cfX_soonest = true := by decide +kernel
def cfX_ith : List BK := [(0, [Ild 1], Tif 74 10 4, []),
  (4, [Ild 1, Cst 1 10], Tif 80 17 10, []),
  (10, [Ald 0, Cst 135 (-1000001), CallV 67 2 mX_tell], Tret 84, []),
  (17, [Ald 0, GfR 27 5 3, Ald 0, GfR 12 5 0, GfI 109 0 4, CallV 152 2 mW_findRow], Tif 72 45 34, []),
  (34, [Ild 1, Ald 0, GfR 27 5 3, CallV 155 1 mW_rowLength], Tif 80 52 45, []),
  (45, [Ald 0, Cst 319 (-1000004), CallV 67 2 mX_tell], Tret 84, []),
  (52, [Ald 0, GfR 27 5 3, Ild 1, CallV 159 2 mW_rowLock], Tret 84, [])]
theorem okX_ith : chkM mX_ith cfX_ith = true := by decide +kernel
def cfX_quietest : List BK := [(0, [Ald 0, Ald 0, GfR 27 5 3, Ald 0, GfR 12 5 0, GfI 109 0 4, Cst 0 1, CallV 146 3 mW_leastFrom, CallV 149 2 mX_orNone], Tret 84, [])]
theorem okX_quietest : chkM mX_quietest cfX_quietest = true := by decide +kernel
def cfX_fewest : List BK := [(0, [Ald 0, Ald 0, GfR 27 5 3, Ald 0, GfR 12 5 0, GfI 109 0 4, Cst 0 2, CallV 146 3 mW_leastFrom, CallV 149 2 mX_orNone], Tret 84, [])]
theorem okX_fewest : chkM mX_fewest cfX_fewest = true := by decide +kernel
def cfX_ahead : List BK := [(0, [Ild 1], Tif 74 9 4, []),
  (4, [Ild 1, Cst 0 1], Tif 83 16 9, []),
  (9, [Ald 0, Cst 135 (-1000001), CallV 67 2 mX_tell], Tret 84, []),
  (16, [Ald 0, GfR 27 5 3, Ald 0, GfR 12 5 0, GfI 109 0 4, CallV 152 2 mW_findRow], Tif 73 40 33, []),
  (33, [Ald 0, Cst 319 (-1000004), CallV 67 2 mX_tell], Tret 84, []),
  (40, [Ald 0, GfR 27 5 3, CallV 162 1 mW_rowEnd, Ist 2, Ild 2, Cst 253 99999], Tif 83 61 54, []),
  (54, [Ald 0, Cst 255 (-1000005), CallV 67 2 mX_tell], Tret 84, []),
  (61, [Ild 1], Tif 73 69 65, []),
  (65, [Ild 2], Tgoto 76, []),
  (69, [Ald 0, GfR 27 5 3, CallV 165 1 mW_rowHeard], Tfall 76, []),
  (76, [], Tret 84, [])]
theorem okX_ahead : chkM mX_ahead cfX_ahead = true := by decide +kernel
def cfX_ever : List BK := [(0, [Ald 0, GfR 27 5 3, CallV 168 1 mW_everOff], Tret 84, [])]
theorem okX_ever : chkM mX_ever cfX_ever = true := by decide +kernel
def cfX_states : List BK := [(0, [Ald 0, GfR 27 5 3, CallV 171 1 mW_reachedStates], Tret 84, [])]
theorem okX_states : chkM mX_states cfX_states = true := by decide +kernel
def cfX_rows : List BK := [(0, [Ald 0, GfR 27 5 3, CallV 174 1 mW_waysOut], Tret 84, [])]
theorem okX_rows : chkM mX_rows cfX_rows = true := by decide +kernel
def cfX_tools : List BK := [(0, [Ald 0, Ald 0, GfR 36 5 4, CallV 177 1 mK_fewestTools, CallV 149 2 mX_orNone], Tret 84, [])]
theorem okX_tools : chkM mX_tools cfX_tools = true := by decide +kernel
def cfX_spare : List BK := [(0, [Ald 0, Ald 0, GfR 36 5 4, CallV 180 1 mK_leastSpare, CallV 149 2 mX_orNone], Tret 84, [])]
theorem okX_spare : chkM mX_spare cfX_spare = true := by decide +kernel
def cfX_wire : List BK := [(0, [Ald 0, Ald 0, GfR 36 5 4, CallV 183 1 mK_bestWire, CallV 149 2 mX_orNone], Tret 84, [])]
theorem okX_wire : chkM mX_wire cfX_wire = true := by decide +kernel
def cfX_kindFor : List BK := [(0, [Ald 0, GfR 12 5 0, Ild 1, CallV 79 2 mC_has], Tif 73 18 11, []),
  (11, [Ald 0, Cst 135 (-1000001), CallV 67 2 mX_tell], Tret 84, []),
  (18, [Ald 0, Ald 0, GfR 36 5 4, Ild 1, CallV 186 2 mK_bestKind, CallV 149 2 mX_orNone], Tret 84, [])]
theorem okX_kindFor : chkM mX_kindFor cfX_kindFor = true := by decide +kernel
def cfX_link : List BK := [(0, [Ald 0, GfR 36 5 4, CallV 189 1 mK_findLink, Ald 0, Ald 0, GfR 36 5 4, CallV 192 1 mK_linkPair, CallV 149 2 mX_orNone], Tret 84, [])]
theorem okX_link : chkM mX_link cfX_link = true := by decide +kernel
def cfX_linked : List BK := [(0, [Ald 0, GfR 36 5 4, CallV 189 1 mK_findLink, Ald 0, Ald 0, GfR 36 5 4, CallV 195 1 mK_linkTime, CallV 149 2 mX_orNone], Tret 84, [])]
theorem okX_linked : chkM mX_linked cfX_linked = true := by decide +kernel
def cfX_spared : List BK := [(0, [Ald 0, Ald 0, GfR 36 5 4, CallV 198 1 mK_bestSpared, CallV 149 2 mX_orNone], Tret 84, [])]
theorem okX_spared : chkM mX_spared cfX_spared = true := by decide +kernel
def cfX_surest : List BK := [(0, [Ild 1], Tif 74 9 4, []),
  (4, [Ild 1, Cst 0 1], Tif 83 17 9, []),
  (9, [Ald 0, Cst 135 (-1000001), CallV 67 2 mX_tell, I2l], Tret 86, []),
  (17, [Ald 0, GfR 27 5 3, CallV 201 1 mW_surestTenths, Lst 2, Lld 2, LC 0 0, Lcmp], Tif 73 39 31, []),
  (31, [Ald 0, Cst 319 (-1000004), CallV 67 2 mX_tell, I2l], Tret 86, []),
  (39, [Lld 2, LC 205 10000000000, CallS 207 2 mX_commonDivisor, Lst 4, Lld 4, LC 0 0, Lcmp], Tif 73 63 55, []),
  (55, [Ald 0, Cst 319 (-1000004), CallV 67 2 mX_tell, I2l], Tret 86, []),
  (63, [Ild 1], Tif 73 74 67, []),
  (67, [Lld 2, Lld 4, Ldiv], Tgoto 80, []),
  (74, [LC 205 10000000000, Lld 4, Ldiv], Tfall 80, []),
  (80, [], Tret 86, [])]
theorem okX_surest : chkM mX_surest cfX_surest = true := by decide +kernel
def cfX_fits : List BK := [(0, [Ald 0, Ild 1, CallV 211 2 mX_sheetFinding, Ist 2, Ild 2], Tif 72 16 10, []),
  (10, [Ald 0, Ild 2, CallV 67 2 mX_tell], Tret 84, []),
  (16, [Ald 0, GfR 27 5 3, Ald 0, GfR 49 5 6, Ild 1, Aald, CallV 214 2 mW_listen, Ald 0, GfR 27 5 3, CallV 218 1 mW_fittingRows], Tret 84, [])]
theorem okX_fits : chkM mX_fits cfX_fits = true := by decide +kernel
def cfX_maybe : List BK := [(0, [Ald 0, Ild 1, CallV 211 2 mX_sheetFinding, Ist 2, Ild 2], Tif 72 16 10, []),
  (10, [Ald 0, Ild 2, CallV 67 2 mX_tell], Tret 84, []),
  (16, [Ald 0, GfR 27 5 3, Ald 0, GfR 49 5 6, Ild 1, Aald, CallV 214 2 mW_listen, Ald 0, GfR 27 5 3, CallV 218 1 mW_fittingRows], Tif 73 48 39, []),
  (39, [Ald 0, Cst 319 (-1000004), CallV 67 2 mX_tell], Tgoto 55, []),
  (48, [Ald 0, GfR 27 5 3, CallV 221 1 mW_fittingAny], Tfall 55, []),
  (55, [], Tret 84, [])]
theorem okX_maybe : chkM mX_maybe cfX_maybe = true := by decide +kernel
def cfX_surely : List BK := [(0, [Ald 0, Ild 1, CallV 211 2 mX_sheetFinding, Ist 2, Ild 2], Tif 72 16 10, []),
  (10, [Ald 0, Ild 2, CallV 67 2 mX_tell], Tret 84, []),
  (16, [Ald 0, GfR 27 5 3, Ald 0, GfR 49 5 6, Ild 1, Aald, CallV 214 2 mW_listen, Ald 0, GfR 27 5 3, CallV 218 1 mW_fittingRows], Tif 73 48 39, []),
  (39, [Ald 0, Cst 319 (-1000004), CallV 67 2 mX_tell], Tgoto 55, []),
  (48, [Ald 0, GfR 27 5 3, CallV 224 1 mW_fittingAll], Tfall 55, []),
  (55, [], Tret 84, [])]
theorem okX_surely : chkM mX_surely cfX_surely = true := by decide +kernel
def cfX_hear : List BK := [(0, [Ild 1], Tif 74 10 4, []),
  (4, [Ild 1, Cst 1 99], Tif 83 17 10, []),
  (10, [Ald 0, Cst 135 (-1000001), CallV 67 2 mX_tell], Tret 84, []),
  (17, [Ald 0, GfR 12 5 0, Ald 0, GfR 12 5 0, GfI 109 0 4, CallV 116 2 mC_mayAt, Ist 2, Cst 0 0, Ist 3], Tfall 34, []),
  (34, [Ild 3, Ald 0, GfR 12 5 0, GfI 71 0 3], Tif 81 71 45, []),
  (45, [Ald 0, GfR 12 5 0, Ild 3, CallV 88 2 mC_sounds, Ild 1], Tif 78 65 57, []),
  (57, [Ild 2, Cst 0 1, Ild 3, Ishl, Cst 0 (-1), Ixor, Iand, Ist 2], Tfall 65, []),
  (65, [Inc 3 1], Tgoto 34, []),
  (71, [Ild 2], Tret 84, [])]
theorem okX_hear : chkM mX_hear cfX_hear = true := by decide +kernel
def cfX_friday : List BK := [(0, [Ild 1, Cst 0 1], Tif 80 11 5, []),
  (5, [Ild 1, Cst 1 20], Tif 83 18 11, []),
  (11, [Ald 0, Cst 135 (-1000001), CallV 67 2 mX_tell], Tret 84, []),
  (18, [Ald 0, GfR 12 5 0, GfI 71 0 3], Tif 73 35 28, []),
  (28, [Ald 0, Cst 255 (-1000005), CallV 67 2 mX_tell], Tret 84, []),
  (35, [Ald 0, GfR 12 5 0, Ild 1, CallV 227 2 mC_tryFriday], Tret 84, [])]
theorem okX_friday : chkM mX_friday cfX_friday = true := by decide +kernel
def cfX_seed : List BK := [(0, [Ald 0, GfR 12 5 0, GfI 230 0 7, Ist 2, Ald 0, GfR 12 5 0, Ild 1, PfI 230 0 7, Ild 2], Tret 84, [])]
theorem okX_seed : chkM mX_seed cfX_seed = true := by decide +kernel
def cfX_feed : List BK := [(0, [Ild 2, Cst 0 1], Tif 80 10 5, []),
  (5, [Ild 2, Cst 0 4], Tif 83 17 10, []),
  (10, [Ald 0, Cst 135 (-1000001), CallV 67 2 mX_tell], Tret 84, []),
  (17, [Ild 2, Cst 1 120, Ald 0, GfR 43 5 5, CallV 233 1 mT_size, Isub], Tif 83 38 31, []),
  (31, [Ald 0, Cst 153 (-1000002), CallV 67 2 mX_tell], Tret 84, []),
  (38, [Ald 0, GfR 43 5 5, Ild 1, Ild 2, CallV 236 3 mT_put], Tret 84, [])]
theorem okX_feed : chkM mX_feed cfX_feed = true := by decide +kernel
def cfX_wipe : List BK := [(0, [Ald 0, GfR 43 5 5, CallV 239 1 mT_clear], Tret 84, [])]
theorem okX_wipe : chkM mX_wipe cfX_wipe = true := by decide +kernel
def cfX_text : List BK := [(0, [Ald 0, GfR 19 5 2, Ald 0, GfR 12 5 0, CallV 242 2 mC_become, Ald 0, GfR 43 5 5, Ald 0, GfR 19 5 2, CallV 245 2 mT_read, Ist 1, Ild 1], Tif 74 38 27, []),
  (27, [Ald 0, GfR 12 5 0, Ald 0, GfR 19 5 2, CallV 242 2 mC_become], Tfall 38, []),
  (38, [Ald 0, GfR 43 5 5, CallV 239 1 mT_clear, Pop, Ild 1], Tret 84, [])]
theorem okX_text : chkM mX_text cfX_text = true := by decide +kernel
def cfX_hold : List BK := [(0, [Ild 1, CallS 249 1 mC_isSpot], Tif 72 23 7, []),
  (7, [Ild 2, Cst 0 (-1)], Tif 78 30 12, []),
  (12, [Ald 0, GfR 12 5 0, Ild 2, CallV 79 2 mC_has], Tif 73 30 23, []),
  (23, [Ald 0, Cst 135 (-1000001), CallV 67 2 mX_tell], Tret 84, []),
  (30, [Ald 0, GfR 12 5 0, Ild 1, Ild 2, CallV 252 3 mC_putSpot, Cst 0 1], Tret 84, [])]
theorem okX_hold : chkM mX_hold cfX_hold = true := by decide +kernel
def cfX_as : List BK := [(0, [Ild 1, CallS 249 1 mC_isSpot], Tif 72 14 7, []),
  (7, [Ild 2, CallS 62 1 mC_isKind], Tif 73 21 14, []),
  (14, [Ald 0, Cst 135 (-1000001), CallV 67 2 mX_tell], Tret 84, []),
  (21, [Ald 0, GfR 12 5 0, Ild 1, CallV 256 2 mC_atSpot, Ist 3, Ild 3, Cst 0 (-1)], Tif 79 43 35, []),
  (35, [Ald 0, Cst 522 (-1000006), CallV 67 2 mX_tell], Tret 84, []),
  (43, [Ald 0, GfR 12 5 0, Cst 0 0, Ild 3, CallV 91 3 mC_trait, Ild 2, CallS 260 2 mC_isUnder], Tif 72 63 59, []),
  (59, [Ild 3], Tgoto 70, []),
  (63, [Ald 0, Cst 530 (-1000003), CallV 67 2 mX_tell], Tfall 70, []),
  (70, [], Tret 84, [])]
theorem okX_as : chkM mX_as cfX_as = true := by decide +kernel
def cfX_sheet : List BK := [(0, [Ald 0, Ild 1, CallV 264 2 mX_isSheet], Tif 72 15 8, []),
  (8, [Ild 2, CallS 267 1 mS_isWidth], Tif 73 22 15, []),
  (15, [Ald 0, Cst 135 (-1000001), CallV 67 2 mX_tell], Tret 84, []),
  (22, [Ild 3], Tif 75 34 26, []),
  (26, [Ald 0, Cst 544 (-1000007), CallV 67 2 mX_tell], Tret 84, []),
  (34, [Ild 3, Cst 1 40], Tif 83 47 40, []),
  (40, [Ald 0, Cst 135 (-1000001), CallV 67 2 mX_tell], Tret 84, []),
  (47, [Ald 0, GfR 49 5 6, Ild 1, Aald, Ild 2, Ild 3, CallV 271 3 mS_begin], Tret 84, [])]
theorem okX_sheet : chkM mX_sheet cfX_sheet = true := by decide +kernel
def cfX_write : List BK := [(0, [Ald 0, Ild 1, CallV 211 2 mX_sheetFinding, Ist 4, Ild 4], Tif 72 19 12, []),
  (12, [Ald 0, Ild 4, CallV 67 2 mX_tell], Tret 84, []),
  (19, [Ald 0, GfR 49 5 6, Ild 1, Aald, Ild 2, CallV 274 2 mS_has], Tif 73 39 32, []),
  (32, [Ald 0, Cst 135 (-1000001), CallV 67 2 mX_tell], Tret 84, []),
  (39, [Ald 0, GfR 49 5 6, Ild 1, Aald, Ild 2, Ild 3, CallV 275 3 mS_put, Cst 0 1], Tret 84, [])]
theorem okX_write : chkM mX_write cfX_write = true := by decide +kernel
def cfX_copy : List BK := [(0, [Ald 0, Ild 1, CallV 264 2 mX_isSheet], Tif 72 16 8, []),
  (8, [Ald 0, Ild 3, CallV 264 2 mX_isSheet], Tif 73 23 16, []),
  (16, [Ald 0, Cst 135 (-1000001), CallV 67 2 mX_tell], Tret 84, []),
  (23, [Ald 0, GfR 49 5 6, Ild 1, Aald, CallV 277 1 mS_isMissing], Tif 73 47 35, []),
  (35, [Ald 0, GfR 49 5 6, Ild 3, Aald, CallV 277 1 mS_isMissing], Tif 72 55 47, []),
  (47, [Ald 0, Cst 522 (-1000006), CallV 67 2 mX_tell], Tret 84, []),
  (55, [Ald 0, GfR 49 5 6, Ild 1, Aald, Ald 0, GfR 49 5 6, Ild 3, Aald, CallV 281 2 mS_isLike], Tif 73 81 73, []),
  (73, [Ald 0, Cst 530 (-1000003), CallV 67 2 mX_tell], Tret 84, []),
  (81, [Ald 0, GfR 49 5 6, Ild 1, Aald, Ild 2, Ild 5, CallV 285 3 mS_hasRun], Tif 72 112 96, []),
  (96, [Ald 0, GfR 49 5 6, Ild 3, Aald, Ild 4, Ild 5, CallV 285 3 mS_hasRun], Tif 73 119 112, []),
  (112, [Ald 0, Cst 135 (-1000001), CallV 67 2 mX_tell], Tret 84, []),
  (119, [Ald 0, GfR 49 5 6, Ild 1, Aald, Ild 2, Ald 0, GfR 49 5 6, Ild 3, Aald, Ild 4, Ild 5, CallV 288 5 mS_copyTo, Ild 5], Tret 84, [])]
theorem okX_copy : chkM mX_copy cfX_copy = true := by decide +kernel
def cfX_load : List BK := [(0, [Ald 0, Ild 1, CallV 211 2 mX_sheetFinding, Ist 2, Ild 2], Tif 72 16 10, []),
  (10, [Ald 0, Ild 2, CallV 67 2 mX_tell], Tret 84, []),
  (16, [Ald 0, GfR 12 5 0, Ald 0, GfR 49 5 6, Ild 1, Aald, CallV 292 2 mC_loadTimes], Tret 84, [])]
theorem okX_load : chkM mX_load cfX_load = true := by decide +kernel
def cfX_judge : List BK := [(0, [Ald 0, Ild 1, CallV 211 2 mX_sheetFinding, Ist 2, Ild 2], Tif 72 16 10, []),
  (10, [Ald 0, Ild 2, CallV 67 2 mX_tell], Tret 84, []),
  (16, [Ald 0, GfR 12 5 0, Ald 0, GfR 49 5 6, Ild 1, Aald, CallV 296 2 mC_firstBarred], Tret 84, [])]
theorem okX_judge : chkM mX_judge cfX_judge = true := by decide +kernel
def cfX_image : List BK := [(0, [Ald 0, GfR 16 5 1, Ald 0, GfR 12 5 0, CallV 242 2 mC_become, Ald 0, Cst 0 1, PfZ 57 5 8, Cst 0 1], Tret 84, [])]
theorem okX_image : chkM mX_image cfX_image = true := by decide +kernel
def cfX_undo : List BK := [(0, [Ald 0, GfI 57 5 8], Tif 73 14 7, []),
  (7, [Ald 0, Cst 319 (-1000004), CallV 67 2 mX_tell], Tret 84, []),
  (14, [Ald 0, GfR 12 5 0, Ald 0, GfR 16 5 1, CallV 242 2 mC_become, Ald 0, GfR 12 5 0, GfI 122 0 5], Tret 84, [])]
theorem okX_undo : chkM mX_undo cfX_undo = true := by decide +kernel
def cfX_tear : List BK := [(0, [Ald 0, GfI 57 5 8], Tif 72 11 7, []),
  (7, [Cst 0 1], Tgoto 12, []),
  (11, [Cst 0 0], Tfall 12, []),
  (12, [Ist 1, Ald 0, Cst 0 0, PfZ 57 5 8, Ild 1], Tret 84, [])]
theorem okX_tear : chkM mX_tear cfX_tear = true := by decide +kernel
def cfX_count : List BK := [(0, [Ild 1], Tsw 90 115 48, [(0, 48), (1, 56), (2, 64), (3, 75), (4, 83), (5, 91), (6, 99), (7, 107)]),
  (48, [Ald 0, GfR 12 5 0, GfI 122 0 5], Tret 84, []),
  (56, [Ald 0, GfR 12 5 0, GfI 71 0 3], Tret 84, []),
  (64, [Ald 0, GfR 12 5 0, GfI 109 0 4, CallS 299 1 mJI_bitCount], Tret 84, []),
  (75, [Ald 0, GfR 12 5 0, GfI 131 0 6], Tret 84, []),
  (83, [Ald 0, GfR 12 5 0, CallV 304 1 mC_allTimes], Tret 84, []),
  (91, [Ald 0, GfR 43 5 5, CallV 233 1 mT_size], Tret 84, []),
  (99, [Ald 0, GfR 12 5 0, GfI 230 0 7], Tret 84, []),
  (107, [Ald 0, GfR 12 5 0, CallV 307 1 mC_heldSpots], Tret 84, []),
  (115, [Ald 0, Cst 135 (-1000001), CallV 67 2 mX_tell], Tret 84, [])]
theorem okX_count : chkM mX_count cfX_count = true := by decide +kernel
def cfX_status : List BK := [(0, [Ild 1, Cst 0 (-1)], Tif 80 11 5, []),
  (5, [Ild 1, Cst 1 7], Tif 80 18 11, []),
  (11, [Ald 0, Cst 135 (-1000001), CallV 67 2 mX_tell], Tret 84, []),
  (18, [Ild 1], Tif 74 29 22, []),
  (22, [Ald 0, GfR 53 5 7, Ild 1, Iald], Tret 84, []),
  (29, [Cst 0 0, Ist 2, Cst 0 0, Ist 3], Tfall 33, []),
  (33, [Ild 3, Cst 1 7], Tif 81 54 39, []),
  (39, [Ild 2, Ald 0, GfR 53 5 7, Ild 3, Iald, Iadd, Ist 2, Inc 3 1], Tgoto 33, []),
  (54, [Ild 2], Tret 84, [])]
theorem okX_status : chkM mX_status cfX_status = true := by decide +kernel
def cfX_tell : List BK := [(0, [Cst 135 (-1000001), Ild 1, Isub, Ist 2, Ild 2], Tif 74 25 9, []),
  (9, [Ild 2, Cst 1 7], Tif 81 25 15, []),
  (15, [Ald 0, GfR 53 5 7, Ild 2, Dup2, Iald, Cst 0 1, Iadd, Iast], Tfall 25, []),
  (25, [Ild 1], Tret 84, [])]
theorem okX_tell : chkM mX_tell cfX_tell = true := by decide +kernel
def cfX_orNone : List BK := [(0, [Ild 1, Cst 624 2147483647], Tif 79 16 7, []),
  (7, [Ald 0, Cst 319 (-1000004), CallV 67 2 mX_tell], Tgoto 17, []),
  (16, [Ild 1], Tfall 17, []),
  (17, [], Tret 84, [])]
theorem okX_orNone : chkM mX_orNone cfX_orNone = true := by decide +kernel
def cfX_isSheet : List BK := [(0, [Ild 1], Tif 74 13 4, []),
  (4, [Ild 1, Cst 0 4], Tif 81 13 9, []),
  (9, [Cst 0 1], Tgoto 14, []),
  (13, [Cst 0 0], Tfall 14, []),
  (14, [], Tret 85, [])]
theorem okX_isSheet : chkM mX_isSheet cfX_isSheet = true := by decide +kernel
def cfX_sheetFinding : List BK := [(0, [Ald 0, Ild 1, CallV 264 2 mX_isSheet], Tif 73 11 8, []),
  (8, [Cst 135 (-1000001)], Tret 84, []),
  (11, [Ald 0, GfR 49 5 6, Ild 1, Aald, CallV 277 1 mS_isMissing], Tif 72 29 23, []),
  (23, [Cst 522 (-1000006)], Tgoto 30, []),
  (29, [Cst 0 0], Tfall 30, []),
  (30, [], Tret 84, [])]
theorem okX_sheetFinding : chkM mX_sheetFinding cfX_sheetFinding = true := by decide +kernel
def cfX_commonDivisor : List BK := [(0, [Lld 0, Lst 4, Lld 2, Lst 6, Cst 0 0, Ist 8], Tfall 9, []),
  (9, [Ild 8, Cst 2 200], Tif 81 45 17, []),
  (17, [Lld 6, LC 0 0, Lcmp], Tif 72 45 24, []),
  (24, [Lld 4, Lld 6, Lrem, Lst 9, Lld 6, Lst 4, Lld 9, Lst 6, Inc 8 1], Tgoto 9, []),
  (45, [Lld 4], Tret 86, [])]
theorem okX_commonDivisor : chkM mX_commonDivisor cfX_commonDivisor = true := by decide +kernel
def cfM_no : List BK := [(0, [Ald 0, GfR 19 6 4, Ild 1, Dup2, Iald, Cst 0 1, Iadd, Iast, Cst 121 (-1000001), Ild 1, Isub], Tret 84, [])]
theorem okM_no : chkM mM_no cfM_no = true := by decide +kernel
def cfM_in1 : List BK := [(0, [Ild 0, Ild 1], Tif 80 14 5, []),
  (5, [Ild 0, Ild 2], Tif 82 14 10, []),
  (10, [Cst 0 1], Tgoto 15, []),
  (14, [Cst 0 0], Tfall 15, []),
  (15, [], Tret 85, [])]
theorem okM_in1 : chkM mM_in1 cfM_in1 = true := by decide +kernel
def cfM_most : List BK := [(0, [Ild 0, Ild 1], Tif 83 9 5, []),
  (5, [Ild 0], Tgoto 10, []),
  (9, [Ild 1], Tfall 10, []),
  (10, [], Tret 84, [])]
theorem okM_most : chkM mM_most cfM_most = true := by decide +kernel
def cfM_bits : List BK := [(0, [Cst 0 0, Ist 1, Ild 0, Ist 2], Tfall 4, []),
  (4, [Ild 2], Tif 72 20 8, []),
  (8, [Inc 1 1, Ild 2, Ild 2, Cst 0 1, Isub, Iand, Ist 2], Tgoto 4, []),
  (20, [Ild 1], Tret 84, [])]
theorem okM_bits : chkM mM_bits cfM_bits = true := by decide +kernel
def cfM_isIn : List BK := [(0, [Ild 0, Ild 1, Ishr, Cst 0 1, Iand, Cst 0 1], Tif 79 13 9, []),
  (9, [Cst 0 1], Tgoto 14, []),
  (13, [Cst 0 0], Tfall 14, []),
  (14, [], Tret 85, [])]
theorem okM_isIn : chkM mM_isIn cfM_isIn = true := by decide +kernel
def cfM_isLock : List BK := [(0, [Ild 1, Cst 0 0, Ald 0, GfR 9 6 0, Cst 0 3, Iald, Cst 0 1, Isub, CallS 60 3 mM_in1], Tret 85, [])]
theorem okM_isLock : chkM mM_isLock cfM_isLock = true := by decide +kernel
def cfM_get : List BK := [(0, [Ald 0, GfR 9 6 0, Cst 1 10, Cst 1 10, Ild 1, Imul, Iadd, Ild 2, Iadd, Iald], Tret 84, [])]
theorem okM_get : chkM mM_get cfM_get = true := by decide +kernel
def cfM_puts : List BK := [(0, [Ald 0, GfR 9 6 0, Cst 1 10, Cst 1 10, Ild 1, Imul, Iadd, Ild 2, Iadd, Ild 3, Iast], Tret 87, [])]
theorem okM_puts : chkM mM_puts cfM_puts = true := by decide +kernel
def cfM_allLocks : List BK := [(0, [Cst 0 1, Ald 0, GfR 9 6 0, Cst 0 3, Iald, Ishl, Cst 0 1, Isub], Tret 84, [])]
theorem okM_allLocks : chkM mM_allLocks cfM_allLocks = true := by decide +kernel
def cfM_slackBy : List BK := [(0, [Ald 0, GfR 9 6 0, Cst 0 5, Iald, Ist 2, Cst 0 0, Ist 3], Tfall 9, []),
  (9, [Ild 3, Ald 0, GfR 9 6 0, Cst 0 3, Iald], Tif 81 46 19, []),
  (19, [Ild 2, Ild 1, Ild 3, CallS 64 2 mM_isIn], Tif 72 37 28, []),
  (28, [Ald 0, Ild 3, Cst 0 2, CallV 68 3 mM_get], Tgoto 38, []),
  (37, [Cst 0 0], Tfall 38, []),
  (38, [Iadd, Ist 2, Inc 3 1], Tgoto 9, []),
  (46, [Ild 2], Tret 84, [])]
theorem okM_slackBy : chkM mM_slackBy cfM_slackBy = true := by decide +kernel
def cfM_freeBy : List BK := [(0, [Cst 0 0, Ist 2, Cst 0 0, Ist 3], Tfall 4, []),
  (4, [Ild 3, Ald 0, GfR 9 6 0, Cst 0 3, Iald], Tif 81 41 14, []),
  (14, [Ild 2, Ild 1, Ild 3, CallS 64 2 mM_isIn], Tif 72 27 23, []),
  (23, [Cst 0 0], Tgoto 33, []),
  (27, [Ald 0, Ild 3, Cst 0 4, CallV 68 3 mM_get], Tfall 33, []),
  (33, [Ior, Ist 2, Inc 3 1], Tgoto 4, []),
  (41, [Cst 0 3, Ild 2, Cst 0 (-1), Ixor, Iand], Tret 84, [])]
theorem okM_freeBy : chkM mM_freeBy cfM_freeBy = true := by decide +kernel
def cfM_whyBy : List BK := [(0, [Ild 2, Ild 1, CallS 64 2 mM_isIn], Tif 72 10 8, []),
  (8, [Cst 0 1], Tret 84, []),
  (10, [Ild 3, Ald 0, Ild 1, Cst 0 3, CallV 68 3 mM_get], Tif 81 22 20, []),
  (20, [Cst 0 2], Tret 84, []),
  (22, [Ild 4, CallS 72 1 mM_bits, Ald 0, Ild 1, Cst 0 5, CallV 68 3 mM_get], Tif 81 38 36, []),
  (36, [Cst 0 3], Tret 84, []),
  (38, [Ald 0, Ild 1, Cst 1 6, CallV 68 3 mM_get], Tif 77 71 48, []),
  (48, [Ald 0, GfR 9 6 0, Cst 0 4, Iald, Ald 0, Ild 1, Cst 1 6, CallV 68 3 mM_get, Cst 0 1, Isub, CallS 64 2 mM_isIn], Tif 73 71 69, []),
  (69, [Cst 0 4], Tret 84, []),
  (71, [Ald 0, Ild 1, Cst 1 8, CallV 68 3 mM_get, Ild 2, Cst 0 (-1), Ixor, Iand], Tif 72 87 85, []),
  (85, [Cst 0 5], Tret 84, []),
  (87, [Ald 0, Ild 1, Cst 1 9, CallV 68 3 mM_get, Cst 0 1, Ild 1, Ishl, Cst 0 (-1), Ixor, Iand, Ild 2, Iand], Tif 72 110 105, []),
  (105, [Cst 1 6], Tgoto 111, []),
  (110, [Cst 0 0], Tfall 111, []),
  (111, [], Tret 84, [])]
theorem okM_whyBy : chkM mM_whyBy cfM_whyBy = true := by decide +kernel
def cfM_takesBy : List BK := [(0, [Ald 0, Ild 1, Cst 0 1, CallV 68 3 mM_get, Ist 5, Cst 0 1, Ild 5, Ild 3, Isub, CallS 76 2 mM_most, Ist 6, Ild 5, Cst 0 3, Ild 2, CallS 72 1 mM_bits, Imul, Iadd, Ist 7, Cst 0 1, Ild 7, Cst 0 2, Idiv, CallS 76 2 mM_most, Ist 8, Ald 0, Ild 1, Cst 0 0, CallV 68 3 mM_get], Tsw 90 122 84, [(1, 84), (2, 87), (3, 90), (4, 93), (5, 98), (6, 103)]),
  (84, [Ild 6], Tret 84, []),
  (87, [Ild 7], Tret 84, []),
  (90, [Ild 8], Tret 84, []),
  (93, [Ild 8, Cst 0 4, Iadd], Tret 84, []),
  (98, [Ild 6, Cst 0 2, Iadd], Tret 84, []),
  (103, [Ild 4, CallS 72 1 mM_bits, Cst 0 2], Tif 81 119 112, []),
  (112, [Cst 0 2, Ild 5, Imul], Tgoto 121, []),
  (119, [Ild 5], Tfall 121, []),
  (121, [], Tret 84, []),
  (122, [Ild 5], Tret 84, [])]
theorem okM_takesBy : chkM mM_takesBy cfM_takesBy = true := by decide +kernel
def cfM_soundsOf : List BK := [(0, [Ald 0, Ild 1, Cst 0 1, CallV 68 3 mM_get, Cst 0 2, Idiv, Ist 2, Ald 0, Ild 1, Cst 0 0, CallV 68 3 mM_get], Tsw 90 64 48, [(1, 48), (2, 50), (3, 52), (4, 56), (5, 62)]),
  (48, [Cst 0 0], Tret 84, []),
  (50, [Ild 2], Tret 84, []),
  (52, [Ild 2, Cst 0 1, Iadd], Tret 84, []),
  (56, [Cst 0 2, Ild 2, Cst 0 1, Iadd, Imul], Tret 84, []),
  (62, [Cst 0 4], Tret 84, []),
  (64, [Cst 0 2], Tret 84, [])]
theorem okM_soundsOf : chkM mM_soundsOf cfM_soundsOf = true := by decide +kernel
def cfM_mayBy : List BK := [(0, [Ald 0, Ild 1, CallV 79 2 mM_slackBy, Ist 2, Ald 0, Ild 1, CallV 82 2 mM_freeBy, Ist 3, Cst 0 0, Ist 4, Cst 0 0, Ist 5], Tfall 18, []),
  (18, [Ild 5, Ald 0, GfR 9 6 0, Cst 0 3, Iald], Tif 81 60 29, []),
  (29, [Ild 4, Ald 0, Ild 5, Ild 1, Ild 2, Ild 3, CallV 85 5 mM_whyBy], Tif 73 50 43, []),
  (43, [Cst 0 1, Ild 5, Ishl], Tgoto 51, []),
  (50, [Cst 0 0], Tfall 51, []),
  (51, [Ior, Ist 4, Inc 5 1], Tgoto 18, []),
  (60, [Ild 4], Tret 84, [])]
theorem okM_mayBy : chkM mM_mayBy cfM_mayBy = true := by decide +kernel
def cfM_isOut : List BK := [(0, [Ald 0, GfR 9 6 0, Cst 1 6, Iald, Ild 1, Cst 0 (-1), Ixor, Iand], Tif 73 18 14, []),
  (14, [Cst 0 1], Tgoto 19, []),
  (18, [Cst 0 0], Tfall 19, []),
  (19, [], Tret 85, [])]
theorem okM_isOut : chkM mM_isOut cfM_isOut = true := by decide +kernel
def cfM_lock : List BK := [(0, [Ild 1, Cst 0 0, Cst 1 6, CallS 60 3 mM_in1], Tif 73 16 10, []),
  (10, [Ald 0, Cst 0 0, CallV 89 2 mM_no], Tret 84, []),
  (16, [Ald 0, GfR 9 6 0, Cst 0 3, Iald, Cst 1 10], Tif 79 33 27, []),
  (27, [Ald 0, Cst 0 1, CallV 89 2 mM_no], Tret 84, []),
  (33, [Ald 0, Ild 1, CallV 92 2 mM_comes, Ald 0, GfR 9 6 0, Cst 0 3, Iald, Cst 0 1, Isub], Tret 84, [])]
theorem okM_lock : chkM mM_lock cfM_lock = true := by decide +kernel
def cfM_comes : List BK := [(0, [Ald 0, GfR 9 6 0, Cst 0 3, Iald, Ist 2, Cst 0 0, Ist 3], Tfall 9, []),
  (9, [Ild 3, Cst 1 10], Tif 81 28 15, []),
  (15, [Ald 0, Ild 2, Ild 3, Cst 0 0, CallV 96 4 mM_puts, Inc 3 1], Tgoto 9, []),
  (28, [Ald 0, Ild 2, Cst 0 0, Ild 1, CallV 96 4 mM_puts, Ald 0, Ild 2, Cst 0 1, Cst 1 10, CallV 96 4 mM_puts, Ald 0, Ild 2, Cst 0 5, Cst 0 1, CallV 96 4 mM_puts, Ald 0, GfR 9 6 0, Cst 0 2, Dup2, Iald, Cst 0 1, Ild 2, Ishl, Cst 0 (-1), Ixor, Iand, Iast, Ald 0, GfR 9 6 0, Cst 0 3, Dup2, Iald, Cst 0 1, Iadd, Iast], Tret 87, [])]
theorem okM_comes : chkM mM_comes cfM_comes = true := by decide +kernel
def cfM_of : List BK := [(0, [Ald 0, Ild 1, CallV 100 2 mM_isLock], Tif 72 18 8, []),
  (8, [Ild 2, Cst 0 0, Cst 1 12, CallS 60 3 mM_in1], Tif 73 24 18, []),
  (18, [Ald 0, Cst 0 0, CallV 89 2 mM_no], Tret 84, []),
  (24, [Ald 0, GfR 9 6 0, Cst 0 2, Iald, Ist 3, Ild 2, Cst 1 10], Tif 81 46 37, []),
  (37, [Ald 0, Ild 1, Ild 2, CallV 68 3 mM_get], Tgoto 98, []),
  (46, [Ild 2, Cst 1 10], Tif 79 68 52, []),
  (52, [Ild 3, Ild 1, CallS 64 2 mM_isIn], Tif 72 64 60, []),
  (60, [Cst 0 0], Tgoto 98, []),
  (64, [Cst 0 1], Tgoto 98, []),
  (68, [Ild 2, Cst 1 11], Tif 79 93 74, []),
  (74, [Ald 0, Ild 1, Ild 3, Ald 0, Ild 3, CallV 79 2 mM_slackBy, Ald 0, Ild 3, CallV 82 2 mM_freeBy, CallV 104 5 mM_takesBy], Tgoto 98, []),
  (93, [Ald 0, Ild 1, CallV 107 2 mM_soundsOf], Tfall 98, []),
  (98, [], Tret 84, [])]
theorem okM_of : chkM mM_of cfM_of = true := by decide +kernel
def cfM_mostOf : List BK := [(0, [Ild 1], Tsw 90 76 56, [(0, 56), (1, 59), (2, 76), (3, 62), (4, 65), (5, 67), (6, 69), (7, 76), (8, 71), (9, 71)]),
  (56, [Cst 1 6], Tret 84, []),
  (59, [Cst 1 60], Tret 84, []),
  (62, [Cst 1 40], Tret 84, []),
  (65, [Cst 0 3], Tret 84, []),
  (67, [Cst 0 2], Tret 84, []),
  (69, [Cst 0 4], Tret 84, []),
  (71, [Ald 0, CallV 110 1 mM_allLocks], Tret 84, []),
  (76, [Cst 1 9], Tret 84, [])]
theorem okM_mostOf : chkM mM_mostOf cfM_mostOf = true := by decide +kernel
def cfM_change : List BK := [(0, [Ald 0, Ild 1, CallV 100 2 mM_isLock], Tif 72 40 8, []),
  (8, [Ild 2, Cst 0 0, Cst 1 9, CallS 60 3 mM_in1], Tif 72 40 18, []),
  (18, [Ild 3, Ild 2, Cst 0 1], Tif 79 28 24, []),
  (24, [Cst 0 1], Tgoto 29, []),
  (28, [Cst 0 0], Tfall 29, []),
  (29, [Ald 0, Ild 2, CallV 114 2 mM_mostOf, CallS 60 3 mM_in1], Tif 73 46 40, []),
  (40, [Ald 0, Cst 0 0, CallV 89 2 mM_no], Tret 84, []),
  (46, [Ald 0, Ild 1, Ild 2, CallV 68 3 mM_get, Ist 4, Ald 0, Ild 1, Ild 2, Ild 3, CallV 96 4 mM_puts, Ild 4], Tret 84, [])]
theorem okM_change : chkM mM_change cfM_change = true := by decide +kernel
def cfM_rule : List BK := [(0, [Ild 1, Cst 0 0, Cst 0 4, CallS 60 3 mM_in1], Tif 73 15 9, []),
  (9, [Ald 0, Cst 0 0, CallV 89 2 mM_no], Tret 84, []),
  (15, [Ild 2, Cst 0 0, Ild 1], Tif 73 26 21, []),
  (21, [Cst 1 15], Tgoto 50, []),
  (26, [Ild 1, Cst 0 1], Tif 79 36 31, []),
  (31, [Cst 1 40], Tgoto 50, []),
  (36, [Ild 1, Cst 0 2], Tif 79 48 41, []),
  (41, [Ald 0, CallV 110 1 mM_allLocks], Tgoto 50, []),
  (48, [Cst 1 60], Tfall 50, []),
  (50, [CallS 60 3 mM_in1], Tif 73 62 56, []),
  (56, [Ald 0, Cst 0 0, CallV 89 2 mM_no], Tret 84, []),
  (62, [Ald 0, GfR 9 6 0, Cst 0 4, Ild 1, Iadd, Iald, Ist 3, Ald 0, GfR 9 6 0, Cst 0 4, Ild 1, Iadd, Ild 2, Iast, Ild 3], Tret 84, [])]
theorem okM_rule : chkM mM_rule cfM_rule = true := by decide +kernel
def cfM_on : List BK := [(0, [Ald 0, Ild 1, CallV 100 2 mM_isLock], Tif 73 14 8, []),
  (8, [Ald 0, Cst 0 0, CallV 89 2 mM_no], Tret 84, []),
  (14, [Ald 0, GfR 9 6 0, Cst 0 2, Iald, Ist 2, Ald 0, GfR 9 6 0, Cst 0 2, Dup2, Iald, Cst 0 1, Ild 1, Ishl, Cst 0 (-1), Ixor, Iand, Iast, Ild 2, Ald 0, GfR 9 6 0, Cst 0 2, Iald], Tif 79 49 45, []),
  (45, [Cst 0 0], Tgoto 50, []),
  (49, [Cst 0 1], Tfall 50, []),
  (50, [], Tret 84, [])]
theorem okM_on : chkM mM_on cfM_on = true := by decide +kernel
def cfM_shut : List BK := [(0, [Ald 0, GfR 9 6 0, Cst 0 2, Iald, CallS 72 1 mM_bits, Ist 1, Ald 0, GfR 9 6 0, Cst 0 2, Cst 0 0, Iast, Ald 0, GfR 9 6 0, Cst 0 0, Cst 0 0, Iast, Ald 0, GfR 9 6 0, Cst 0 1, Cst 0 0, Iast, Ild 1], Tret 84, [])]
theorem okM_shut : chkM mM_shut cfM_shut = true := by decide +kernel
def cfM_may : List BK := [(0, [Ald 0, Ald 0, GfR 9 6 0, Cst 0 2, Iald, CallV 117 2 mM_mayBy], Tret 84, [])]
theorem okM_may : chkM mM_may cfM_may = true := by decide +kernel
def cfM_why : List BK := [(0, [Ald 0, Ild 1, CallV 100 2 mM_isLock], Tif 72 42 8, []),
  (8, [Ald 0, Ild 1, Ald 0, GfR 9 6 0, Cst 0 2, Iald, Ald 0, Ald 0, GfR 9 6 0, Cst 0 2, Iald, CallV 79 2 mM_slackBy, Ald 0, Ald 0, GfR 9 6 0, Cst 0 2, Iald, CallV 82 2 mM_freeBy, CallV 85 5 mM_whyBy], Tgoto 47, []),
  (42, [Ald 0, Cst 0 0, CallV 89 2 mM_no], Tfall 47, []),
  (47, [], Tret 84, [])]
theorem okM_why : chkM mM_why cfM_why = true := by decide +kernel
def cfM_doesPlay : List BK := [(0, [Ald 0, GfR 9 6 0, Cst 1 7, Iald, Ald 0, GfR 9 6 0, Cst 1 8, Iald, Iadd, Ist 2, Ild 2], Tif 77 37 20, []),
  (20, [Ild 1, Ild 2, Irem, Ald 0, GfR 9 6 0, Cst 1 7, Iald], Tif 81 37 33, []),
  (33, [Cst 0 1], Tgoto 38, []),
  (37, [Cst 0 0], Tfall 38, []),
  (38, [], Tret 85, [])]
theorem okM_doesPlay : chkM mM_doesPlay cfM_doesPlay = true := by decide +kernel
def cfM_takesNow : List BK := [(0, [Ald 0, Ild 1, Ald 0, GfR 9 6 0, Cst 0 2, Iald, Ald 0, Ald 0, GfR 9 6 0, Cst 0 2, Iald, CallV 79 2 mM_slackBy, Ald 0, Ald 0, GfR 9 6 0, Cst 0 2, Iald, CallV 82 2 mM_freeBy, CallV 104 5 mM_takesBy], Tret 84, [])]
theorem okM_takesNow : chkM mM_takesNow cfM_takesNow = true := by decide +kernel
def cfM_comesOff : List BK := [(0, [Ald 0, Ild 1, CallV 120 2 mM_takesNow, Ist 2, Ald 0, GfR 9 6 0, Cst 0 1, Dup2, Iald, Ald 0, Ald 0, GfR 9 6 0, Cst 0 0, Iald, CallV 123 2 mM_doesPlay], Tif 72 30 26, []),
  (26, [Cst 0 0], Tgoto 35, []),
  (30, [Ald 0, Ild 1, CallV 107 2 mM_soundsOf], Tfall 35, []),
  (35, [Iadd, Iast, Ald 0, GfR 9 6 0, Cst 0 0, Dup2, Iald, Ild 2, Iadd, Iast, Ald 0, GfR 9 6 0, Cst 0 2, Dup2, Iald, Cst 0 1, Ild 1, Ishl, Ior, Iast], Tret 87, [])]
theorem okM_comesOff : chkM mM_comesOff cfM_comesOff = true := by decide +kernel
def cfM_off : List BK := [(0, [Ald 0, Ild 1, CallV 100 2 mM_isLock], Tif 73 14 8, []),
  (8, [Ald 0, Cst 0 0, CallV 89 2 mM_no], Tret 84, []),
  (14, [Ald 0, Ild 1, CallV 120 2 mM_takesNow, Ist 2, Ald 0, Ald 0, GfR 9 6 0, Cst 0 2, Iald, CallV 117 2 mM_mayBy, Ild 1, CallS 64 2 mM_isIn], Tif 72 50 37, []),
  (37, [Ald 0, GfR 9 6 0, Cst 0 0, Iald, Ild 2, Iadd, Cst 255 99999], Tif 83 56 50, []),
  (50, [Ald 0, Cst 0 4, CallV 89 2 mM_no], Tret 84, []),
  (56, [Ald 0, Ild 1, CallV 127 2 mM_comesOff, Ild 2], Tret 84, [])]
theorem okM_off : chkM mM_off cfM_off = true := by decide +kernel
def cfM_now : List BK := [(0, [Ild 1], Tsw 90 125 44, [(0, 44), (1, 51), (2, 58), (3, 65), (4, 76), (5, 87), (6, 106)]),
  (44, [Ald 0, GfR 9 6 0, Cst 0 0, Iald], Tret 84, []),
  (51, [Ald 0, GfR 9 6 0, Cst 0 1, Iald], Tret 84, []),
  (58, [Ald 0, GfR 9 6 0, Cst 0 2, Iald], Tret 84, []),
  (65, [Ald 0, Ald 0, GfR 9 6 0, Cst 0 2, Iald, CallV 79 2 mM_slackBy], Tret 84, []),
  (76, [Ald 0, Ald 0, GfR 9 6 0, Cst 0 2, Iald, CallV 82 2 mM_freeBy], Tret 84, []),
  (87, [Ald 0, Ald 0, GfR 9 6 0, Cst 0 2, Iald, CallV 130 2 mM_isOut], Tif 72 104 100, []),
  (100, [Cst 0 1], Tgoto 105, []),
  (104, [Cst 0 0], Tfall 105, []),
  (105, [], Tret 84, []),
  (106, [Ald 0, Ald 0, GfR 9 6 0, Cst 0 0, Iald, CallV 123 2 mM_doesPlay], Tif 72 123 119, []),
  (119, [Cst 0 1], Tgoto 124, []),
  (123, [Cst 0 0], Tfall 124, []),
  (124, [], Tret 84, []),
  (125, [Ald 0, Cst 0 0, CallV 89 2 mM_no], Tret 84, [])]
theorem okM_now : chkM mM_now cfM_now = true := by decide +kernel
def cfM_costs : List BK := [(0, [Ild 1], Tif 73 17 4, []),
  (4, [Ald 0, Ild 2, Ild 3, Ild 4, Ild 5, CallV 104 5 mM_takesBy], Tgoto 31, []),
  (17, [Ild 1, Cst 0 1], Tif 79 30 22, []),
  (22, [Ald 0, Ild 2, CallV 107 2 mM_soundsOf], Tgoto 31, []),
  (30, [Cst 0 1], Tfall 31, []),
  (31, [], Tret 84, [])]
theorem okM_costs : chkM mM_costs cfM_costs = true := by decide +kernel
def cfM_leastFrom : List BK := [(0, [Ald 0, CallV 110 1 mM_allLocks, Ist 3], Tfall 5, []),
  (5, [Ild 3, Ild 1], Tif 80 176 10, []),
  (10, [Ald 0, GfR 22 6 5, Ild 3, Cst 269 99999999, Iast, Ild 1, Ild 3, Cst 0 (-1), Ixor, Iand], Tif 73 44 26, []),
  (26, [Ald 0, Ild 3, CallV 130 2 mM_isOut], Tif 72 44 34, []),
  (34, [Ald 0, GfR 22 6 5, Ild 3, Cst 0 0, Iast], Tgoto 170, []),
  (44, [Ild 1, Ild 3, Cst 0 (-1), Ixor, Iand], Tif 73 170 52, []),
  (52, [Ald 0, Ild 3, CallV 79 2 mM_slackBy, Ist 4, Ald 0, Ild 3, CallV 82 2 mM_freeBy, Ist 5, Cst 0 0, Ist 6], Tfall 69, []),
  (69, [Ild 6, Ald 0, GfR 9 6 0, Cst 0 3, Iald], Tif 81 170 80, []),
  (80, [Ald 0, Ild 6, Ild 3, Ild 4, Ild 5, CallV 85 5 mM_whyBy], Tif 73 164 94, []),
  (94, [Ald 0, GfR 22 6 5, Ild 3, Cst 0 1, Ild 6, Ishl, Ior, Iald, Cst 269 99999999], Tif 81 164 110, []),
  (110, [Ald 0, Ild 2, Ild 6, Ild 3, Ild 4, Ild 5, CallV 134 6 mM_costs, Ald 0, GfR 22 6 5, Ild 3, Cst 0 1, Ild 6, Ishl, Ior, Iald, Iadd, Ist 7, Ald 0, GfR 22 6 5, Ild 3, Ild 7, Ald 0, GfR 22 6 5, Ild 3, Iald], Tif 81 157 152, []),
  (152, [Ild 7], Tgoto 163, []),
  (157, [Ald 0, GfR 22 6 5, Ild 3, Iald], Tfall 163, []),
  (163, [Iast], Tfall 164, []),
  (164, [Inc 6 1], Tgoto 69, []),
  (170, [Inc 3 (-1)], Tgoto 5, []),
  (176, [Ald 0, GfR 22 6 5, Ild 1, Iald], Tret 84, [])]
theorem okM_leastFrom : chkM mM_leastFrom cfM_leastFrom = true := by decide +kernel
def cfM_told1 : List BK := [(0, [Ild 1, Cst 269 99999999], Tif 81 10 6, []),
  (6, [Ild 1], Tgoto 15, []),
  (10, [Ald 0, Cst 0 3, CallV 89 2 mM_no], Tfall 15, []),
  (15, [], Tret 84, [])]
theorem okM_told1 : chkM mM_told1 cfM_told1 = true := by decide +kernel
def cfM_soonest : List BK := [(0, [Ald 0, Ald 0, Ald 0, GfR 9 6 0, Cst 0 2, Iald, Cst 0 0, CallV 138 3 mM_leastFrom, CallV 141 2 mM_told1], Tret 84, [])]
theorem okM_soonest : chkM mM_soonest cfM_soonest = true := by decide +kernel
def cfM_findsRow : List BK := [(0, [Ald 0, Cst 0 0, PfI 144 6 7, Ald 0, GfR 9 6 0, Cst 0 2, Iald, Ist 1, Ald 0, Ild 1, Cst 0 0, CallV 138 3 mM_leastFrom, Cst 269 99999999], Tif 79 25 23, []),
  (23, [Cst 0 0], Tret 85, []),
  (25, [Ald 0, GfR 22 6 5, Ild 1, Iald], Tif 77 180 34, []),
  (34, [Ald 0, Ild 1, CallV 79 2 mM_slackBy, Ist 2, Ald 0, Ild 1, CallV 82 2 mM_freeBy, Ist 3, Cst 0 (-1), Ist 4, Ald 0, GfR 9 6 0, Cst 0 3, Iald, Cst 0 1, Isub, Ist 5], Tfall 59, []),
  (59, [Ild 5], Tif 74 149 64, []),
  (64, [Ald 0, Ild 5, Ild 1, Ild 2, Ild 3, CallV 85 5 mM_whyBy], Tif 73 96 76, []),
  (76, [Ald 0, GfR 22 6 5, Ild 1, Cst 0 1, Ild 5, Ishl, Ior, Iald, Cst 269 99999999], Tif 81 96 92, []),
  (92, [Cst 0 1], Tgoto 97, []),
  (96, [Cst 0 0], Tfall 97, []),
  (97, [Ist 6, Ild 6], Tif 72 139 104, []),
  (104, [Ald 0, Ild 5, Ild 1, Ild 2, Ild 3, CallV 104 5 mM_takesBy, Ald 0, GfR 22 6 5, Ild 1, Cst 0 1, Ild 5, Ishl, Ior, Iald, Iadd, Ald 0, GfR 22 6 5, Ild 1, Iald], Tif 79 139 134, []),
  (134, [Ild 5], Tgoto 141, []),
  (139, [Ild 4], Tfall 141, []),
  (141, [Ist 4, Inc 5 (-1)], Tgoto 59, []),
  (149, [Ald 0, GfR 25 6 6, Ald 0, GfI 144 6 7, Ild 4, Iast, Ald 0, Dup, GfI 144 6 7, Cst 0 1, Iadd, PfI 144 6 7, Ild 1, Cst 0 1, Ild 4, Ishl, Ior, Ist 1], Tgoto 25, []),
  (180, [Cst 0 1], Tret 85, [])]
theorem okM_findsRow : chkM mM_findsRow cfM_findsRow = true := by decide +kernel
def cfM_ith : List BK := [(0, [Ild 1, Cst 0 0, Cst 1 9, CallS 60 3 mM_in1], Tif 73 16 10, []),
  (10, [Ald 0, Cst 0 0, CallV 89 2 mM_no], Tret 84, []),
  (16, [Ald 0, CallV 148 1 mM_findsRow, Ist 2, Ild 2], Tif 72 42 25, []),
  (25, [Ild 1, Ald 0, GfI 144 6 7], Tif 81 42 33, []),
  (33, [Ald 0, GfR 25 6 6, Ild 1, Iald], Tgoto 47, []),
  (42, [Ald 0, Cst 0 3, CallV 89 2 mM_no], Tfall 47, []),
  (47, [], Tret 84, [])]
theorem okM_ith : chkM mM_ith cfM_ith = true := by decide +kernel
def cfM_quietest : List BK := [(0, [Ald 0, Ald 0, Ald 0, GfR 9 6 0, Cst 0 2, Iald, Cst 0 1, CallV 138 3 mM_leastFrom, CallV 141 2 mM_told1], Tret 84, [])]
theorem okM_quietest : chkM mM_quietest cfM_quietest = true := by decide +kernel
def cfM_fewest : List BK := [(0, [Ald 0, Ald 0, Ald 0, GfR 9 6 0, Cst 0 2, Iald, Cst 0 2, CallV 138 3 mM_leastFrom, CallV 141 2 mM_told1], Tret 84, [])]
theorem okM_fewest : chkM mM_fewest cfM_fewest = true := by decide +kernel
def cfM_setsAside : List BK := [(0, [Cst 0 0, Ist 1], Tfall 2, []),
  (2, [Ild 1, Cst 1 120], Tif 81 26 8, []),
  (8, [Ald 0, GfR 16 6 2, Ild 1, Ald 0, GfR 9 6 0, Ild 1, Iald, Iast, Inc 1 1], Tgoto 2, []),
  (26, [], Tret 87, [])]
theorem okM_setsAside : chkM mM_setsAside cfM_setsAside = true := by decide +kernel
def cfM_laysBack : List BK := [(0, [Cst 0 0, Ist 1], Tfall 2, []),
  (2, [Ild 1, Cst 1 120], Tif 81 26 8, []),
  (8, [Ald 0, GfR 9 6 0, Ild 1, Ald 0, GfR 16 6 2, Ild 1, Iald, Iast, Inc 1 1], Tgoto 2, []),
  (26, [], Tret 87, [])]
theorem okM_laysBack : chkM mM_laysBack cfM_laysBack = true := by decide +kernel
def cfM_ahead : List BK := [(0, [Ild 1, Cst 0 0, Cst 0 1, CallS 60 3 mM_in1], Tif 73 15 9, []),
  (9, [Ald 0, Cst 0 0, CallV 89 2 mM_no], Tret 84, []),
  (15, [Ald 0, CallV 148 1 mM_findsRow], Tif 73 28 22, []),
  (22, [Ald 0, Cst 0 3, CallV 89 2 mM_no], Tret 84, []),
  (28, [Ald 0, CallV 152 1 mM_setsAside, Cst 0 0, Ist 2], Tfall 34, []),
  (34, [Ild 2, Ald 0, GfI 144 6 7], Tif 81 58 42, []),
  (42, [Ald 0, Ald 0, GfR 25 6 6, Ild 2, Iald, CallV 127 2 mM_comesOff, Inc 2 1], Tgoto 34, []),
  (58, [Ald 0, GfR 9 6 0, Cst 0 0, Iald, Ist 2, Ald 0, GfR 9 6 0, Cst 0 1, Iald, Ist 3, Ald 0, CallV 155 1 mM_laysBack, Ild 2, Cst 255 99999], Tif 83 88 82, []),
  (82, [Ald 0, Cst 0 4, CallV 89 2 mM_no], Tret 84, []),
  (88, [Ild 1], Tif 73 96 92, []),
  (92, [Ild 2], Tgoto 104, []),
  (96, [Ild 3, Ald 0, GfR 9 6 0, Cst 0 1, Iald, Isub], Tfall 104, []),
  (104, [], Tret 84, [])]
theorem okM_ahead : chkM mM_ahead cfM_ahead = true := by decide +kernel
def cfM_countsWays : List BK := [(0, [Ald 0, GfR 9 6 0, Cst 0 2, Iald, Ist 2, Cst 0 0, Ist 3], Tfall 9, []),
  (9, [Ild 3, Cst 2 1024], Tif 81 38 16, []),
  (16, [Ald 0, GfR 28 6 8, Ild 3, Ild 3, Ild 2], Tif 79 30 26, []),
  (26, [Cst 0 1], Tgoto 31, []),
  (30, [Cst 0 0], Tfall 31, []),
  (31, [Iast, Inc 3 1], Tgoto 9, []),
  (38, [Ild 2, Ist 3], Tfall 40, []),
  (40, [Ild 3, Ald 0, CallV 110 1 mM_allLocks], Tif 82 140 48, []),
  (48, [Ald 0, GfR 28 6 8, Ild 3, Iald], Tif 72 69 57, []),
  (57, [Ild 1], Tif 72 73 61, []),
  (61, [Ald 0, Ild 3, CallV 130 2 mM_isOut], Tif 72 73 69, []),
  (69, [Cst 0 0], Tgoto 78, []),
  (73, [Ald 0, Ild 3, CallV 117 2 mM_mayBy], Tfall 78, []),
  (78, [Ist 4, Cst 0 0, Ist 5], Tfall 83, []),
  (83, [Ild 5, Ald 0, GfR 9 6 0, Cst 0 3, Iald], Tif 81 134 94, []),
  (94, [Ald 0, GfR 28 6 8, Ild 3, Cst 0 1, Ild 5, Ishl, Ior, Dup2, Iald, Ild 4, Ild 5, CallS 64 2 mM_isIn], Tif 72 125 116, []),
  (116, [Ald 0, GfR 28 6 8, Ild 3, Iald], Tgoto 126, []),
  (125, [Cst 0 0], Tfall 126, []),
  (126, [Iadd, Iast, Inc 5 1], Tgoto 83, []),
  (134, [Inc 3 1], Tgoto 40, []),
  (140, [], Tret 87, [])]
theorem okM_countsWays : chkM mM_countsWays cfM_countsWays = true := by decide +kernel
def cfM_ever : List BK := [(0, [Ald 0, Cst 0 0, CallV 158 2 mM_countsWays, Cst 0 0, Ist 1, Cst 0 0, Ist 2], Tfall 9, []),
  (9, [Ild 2, Cst 2 1024], Tif 81 39 16, []),
  (16, [Ild 1, Ald 0, GfR 28 6 8, Ild 2, Iald], Tif 77 30 26, []),
  (26, [Ild 2], Tgoto 31, []),
  (30, [Cst 0 0], Tfall 31, []),
  (31, [Ior, Ist 1, Inc 2 1], Tgoto 9, []),
  (39, [Ild 1, Ald 0, GfR 9 6 0, Cst 0 2, Iald, Cst 0 (-1), Ixor, Iand], Tret 84, [])]
theorem okM_ever : chkM mM_ever cfM_ever = true := by decide +kernel
def cfM_states : List BK := [(0, [Ald 0, Cst 0 0, CallV 158 2 mM_countsWays, Cst 0 0, Ist 1, Cst 0 0, Ist 2], Tfall 9, []),
  (9, [Ild 2, Cst 2 1024], Tif 81 39 16, []),
  (16, [Ild 1, Ald 0, GfR 28 6 8, Ild 2, Iald], Tif 77 30 26, []),
  (26, [Cst 0 1], Tgoto 31, []),
  (30, [Cst 0 0], Tfall 31, []),
  (31, [Iadd, Ist 1, Inc 2 1], Tgoto 9, []),
  (39, [Ild 1], Tret 84, [])]
theorem okM_states : chkM mM_states cfM_states = true := by decide +kernel
def cfM_rows : List BK := [(0, [Ald 0, Cst 0 1, CallV 158 2 mM_countsWays, Cst 0 0, Ist 1, Cst 0 0, Ist 2], Tfall 9, []),
  (9, [Ild 2, Cst 2 1024], Tif 81 43 16, []),
  (16, [Ild 1, Ald 0, Ild 2, CallV 130 2 mM_isOut], Tif 72 34 25, []),
  (25, [Ald 0, GfR 28 6 8, Ild 2, Iald], Tgoto 35, []),
  (34, [Cst 0 0], Tfall 35, []),
  (35, [Iadd, Ist 1, Inc 2 1], Tgoto 9, []),
  (43, [Ild 1], Tret 84, [])]
theorem okM_rows : chkM mM_rows cfM_rows = true := by decide +kernel
def cfM_tools : List BK := [(0, [Ald 0, GfR 9 6 0, Cst 0 4, Iald, Ist 1, Cst 0 (-1), Ist 2, Cst 0 0, Ist 3], Tfall 11, []),
  (11, [Ild 3, Cst 1 16], Tif 81 67 17, []),
  (17, [Ild 2], Tif 74 32 21, []),
  (21, [Ild 3, CallS 72 1 mM_bits, Ild 2, CallS 72 1 mM_bits], Tif 81 61 32, []),
  (32, [Ald 0, GfR 9 6 0, Cst 0 4, Ild 3, Iast, Ald 0, Ald 0, GfR 9 6 0, Cst 0 2, Iald, Cst 0 2, CallV 138 3 mM_leastFrom, Cst 269 99999999], Tif 81 59 55, []),
  (55, [Ild 3], Tgoto 60, []),
  (59, [Ild 2], Tfall 60, []),
  (60, [Ist 2], Tfall 61, []),
  (61, [Inc 3 1], Tgoto 11, []),
  (67, [Ald 0, GfR 9 6 0, Cst 0 4, Ild 1, Iast, Ild 2], Tif 75 86 78, []),
  (78, [Ald 0, Cst 0 3, CallV 89 2 mM_no], Tgoto 87, []),
  (86, [Ild 2], Tfall 87, []),
  (87, [], Tret 84, [])]
theorem okM_tools : chkM mM_tools cfM_tools = true := by decide +kernel
def cfM_spare : List BK := [(0, [Ald 0, GfR 9 6 0, Cst 0 5, Iald, Ist 1, Cst 0 0, Ist 2, Cst 0 0, Ist 3], Tfall 11, []),
  (11, [Ild 2, Cst 1 40], Tif 82 65 17, []),
  (17, [Ild 3], Tif 73 65 21, []),
  (21, [Ald 0, GfR 9 6 0, Cst 0 5, Ild 2, Iast, Ald 0, Ald 0, GfR 9 6 0, Cst 0 2, Iald, Cst 0 2, CallV 138 3 mM_leastFrom, Cst 269 99999999], Tif 81 48 44, []),
  (44, [Cst 0 1], Tgoto 49, []),
  (48, [Cst 0 0], Tfall 49, []),
  (49, [Ist 3, Ild 2, Ild 3], Tif 72 59 55, []),
  (55, [Cst 0 0], Tgoto 60, []),
  (59, [Cst 0 1], Tfall 60, []),
  (60, [Iadd, Ist 2], Tgoto 11, []),
  (65, [Ald 0, GfR 9 6 0, Cst 0 5, Ild 1, Iast, Ild 3], Tif 72 80 76, []),
  (76, [Ild 2], Tgoto 85, []),
  (80, [Ald 0, Cst 0 3, CallV 89 2 mM_no], Tfall 85, []),
  (85, [], Tret 84, [])]
theorem okM_spare : chkM mM_spare cfM_spare = true := by decide +kernel
def cfM_wire : List BK := [(0, [Cst 0 (-1), Ist 1, Cst 269 99999999, Ist 2, Cst 0 0, Ist 3], Tfall 7, []),
  (7, [Ild 3, Ald 0, GfR 9 6 0, Cst 0 3, Iald], Tif 81 83 17, []),
  (17, [Ald 0, GfR 9 6 0, Cst 0 2, Iald, Ild 3, CallS 64 2 mM_isIn], Tif 72 35 30, []),
  (30, [Cst 269 99999999], Tgoto 50, []),
  (35, [Ald 0, Ald 0, GfR 9 6 0, Cst 0 2, Iald, Cst 0 1, Ild 3, Ishl, Ior, Cst 0 0, CallV 138 3 mM_leastFrom], Tfall 50, []),
  (50, [Ist 4, Ild 4, Ild 2], Tif 81 62 58, []),
  (58, [Ild 3], Tgoto 63, []),
  (62, [Ild 1], Tfall 63, []),
  (63, [Ist 1, Ild 4, Ild 2], Tif 81 75 70, []),
  (70, [Ild 4], Tgoto 76, []),
  (75, [Ild 2], Tfall 76, []),
  (76, [Ist 2, Inc 3 1], Tgoto 7, []),
  (83, [Ild 1], Tif 75 95 87, []),
  (87, [Ald 0, Cst 0 3, CallV 89 2 mM_no], Tgoto 96, []),
  (95, [Ild 1], Tfall 96, []),
  (96, [], Tret 84, [])]
theorem okM_wire : chkM mM_wire cfM_wire = true := by decide +kernel
def cfM_kindFor : List BK := [(0, [Ald 0, Ild 1, CallV 100 2 mM_isLock], Tif 73 14 8, []),
  (8, [Ald 0, Cst 0 0, CallV 89 2 mM_no], Tret 84, []),
  (14, [Ald 0, Ild 1, Cst 0 0, CallV 68 3 mM_get, Ist 2, Cst 0 (-1), Ist 3, Cst 269 99999999, Ist 4, Cst 0 0, Ist 5], Tfall 30, []),
  (30, [Ild 5, Cst 1 6], Tif 82 94 37, []),
  (37, [Ald 0, Ild 1, Cst 0 0, Ild 5, CallV 96 4 mM_puts, Ald 0, Ald 0, GfR 9 6 0, Cst 0 2, Iald, Cst 0 0, CallV 138 3 mM_leastFrom, Ist 6, Ild 6, Ild 4], Tif 81 70 65, []),
  (65, [Ild 5], Tgoto 71, []),
  (70, [Ild 3], Tfall 71, []),
  (71, [Ist 3, Ild 6, Ild 4], Tif 81 84 79, []),
  (79, [Ild 6], Tgoto 86, []),
  (84, [Ild 4], Tfall 86, []),
  (86, [Ist 4, Inc 5 1], Tgoto 30, []),
  (94, [Ald 0, Ild 1, Cst 0 0, Ild 2, CallV 96 4 mM_puts, Ild 3], Tif 75 113 105, []),
  (105, [Ald 0, Cst 0 3, CallV 89 2 mM_no], Tgoto 114, []),
  (113, [Ild 3], Tfall 114, []),
  (114, [], Tret 84, [])]
theorem okM_kindFor : chkM mM_kindFor cfM_kindFor = true := by decide +kernel
def cfM_bestLink : List BK := [(0, [Cst 0 (-1), Ist 1, Ald 0, Cst 0 (-1), PfI 162 6 9, Cst 0 0, Ist 2], Tfall 9, []),
  (9, [Ild 2, Cst 1 10, Ald 0, GfR 9 6 0, Cst 0 3, Iald, Imul], Tif 81 163 22, []),
  (22, [Ild 2, Cst 1 10, Idiv, Ist 3, Ild 2, Cst 1 10, Irem, Ist 4, Ald 0, Ild 3, Cst 1 8, CallV 68 3 mM_get, Ist 5, Ild 3, Ild 4], Tif 78 157 48, []),
  (48, [Ild 4, Ald 0, GfR 9 6 0, Cst 0 3, Iald], Tif 81 157 59, []),
  (59, [Ild 5, Ild 4, CallS 64 2 mM_isIn], Tif 73 157 69, []),
  (69, [Ald 0, Ild 3, Cst 1 8, Ild 5, Cst 0 1, Ild 4, Ishl, Ior, CallV 96 4 mM_puts, Ald 0, Ald 0, GfR 9 6 0, Cst 0 2, Iald, Cst 0 0, CallV 138 3 mM_leastFrom, Ist 6, Ald 0, Ild 3, Cst 1 8, Ild 5, CallV 96 4 mM_puts, Ild 6, Cst 269 99999999], Tif 81 125 112, []),
  (112, [Ild 6, Ald 0, GfI 162 6 9], Tif 83 125 121, []),
  (121, [Cst 0 1], Tgoto 126, []),
  (125, [Cst 0 0], Tfall 126, []),
  (126, [Ist 7, Ild 7], Tif 72 137 133, []),
  (133, [Ild 2], Tgoto 138, []),
  (137, [Ild 1], Tfall 138, []),
  (138, [Ist 1, Ald 0, Ild 7], Tif 72 150 145, []),
  (145, [Ild 6], Tgoto 154, []),
  (150, [Ald 0, GfI 162 6 9], Tfall 154, []),
  (154, [PfI 162 6 9], Tfall 157, []),
  (157, [Inc 2 1], Tgoto 9, []),
  (163, [Ild 1], Tret 84, [])]
theorem okM_bestLink : chkM mM_bestLink cfM_bestLink = true := by decide +kernel
def cfM_link : List BK := [(0, [Ald 0, CallV 165 1 mM_bestLink, Ist 1, Ild 1], Tif 75 17 9, []),
  (9, [Ald 0, Cst 0 3, CallV 89 2 mM_no], Tgoto 18, []),
  (17, [Ild 1], Tfall 18, []),
  (18, [], Tret 84, [])]
theorem okM_link : chkM mM_link cfM_link = true := by decide +kernel
def cfM_linked : List BK := [(0, [Ald 0, CallV 165 1 mM_bestLink, Ist 1, Ild 1], Tif 75 17 9, []),
  (9, [Ald 0, Cst 0 3, CallV 89 2 mM_no], Tgoto 21, []),
  (17, [Ald 0, GfI 162 6 9], Tfall 21, []),
  (21, [], Tret 84, [])]
theorem okM_linked : chkM mM_linked cfM_linked = true := by decide +kernel
def cfM_spared : List BK := [(0, [Ald 0, GfR 9 6 0, Cst 1 6, Iald, Ist 1, Cst 0 (-1), Ist 2, Cst 269 99999999, Ist 3, Cst 0 0, Ist 4], Tfall 16, []),
  (16, [Ild 4, Ald 0, GfR 9 6 0, Cst 0 3, Iald], Tif 81 96 27, []),
  (27, [Ild 1, Ild 4, CallS 64 2 mM_isIn], Tif 72 90 36, []),
  (36, [Ald 0, GfR 9 6 0, Cst 1 6, Ild 1, Cst 0 1, Ild 4, Ishl, Cst 0 (-1), Ixor, Iand, Iast, Ald 0, Ald 0, GfR 9 6 0, Cst 0 2, Iald, Cst 0 0, CallV 138 3 mM_leastFrom, Ist 5, Ild 5, Ild 3], Tif 81 75 70, []),
  (70, [Ild 4], Tgoto 76, []),
  (75, [Ild 2], Tfall 76, []),
  (76, [Ist 2, Ild 5, Ild 3], Tif 81 88 83, []),
  (83, [Ild 5], Tgoto 89, []),
  (88, [Ild 3], Tfall 89, []),
  (89, [Ist 3], Tfall 90, []),
  (90, [Inc 4 1], Tgoto 16, []),
  (96, [Ald 0, GfR 9 6 0, Cst 1 6, Ild 1, Iast, Ild 2], Tif 75 116 108, []),
  (108, [Ald 0, Cst 0 3, CallV 89 2 mM_no], Tgoto 117, []),
  (116, [Ild 2], Tfall 117, []),
  (117, [], Tret 84, [])]
theorem okM_spared : chkM mM_spared cfM_spared = true := by decide +kernel
def cfM_surest : List BK := [(0, [Ild 1, Cst 0 0, Cst 0 1, CallS 60 3 mM_in1], Tif 73 16 9, []),
  (9, [Ald 0, Cst 0 0, CallV 89 2 mM_no, I2l], Tret 86, []),
  (16, [Ald 0, Cst 0 0, CallV 158 2 mM_countsWays, LC 0 1, Lst 2, Cst 0 0, Ist 4], Tfall 26, []),
  (26, [Ild 4, Cst 1 10], Tif 81 45 33, []),
  (33, [Lld 2, LC 168 10, Lmul, Lst 2, Inc 4 1], Tgoto 26, []),
  (45, [LC 0 0, Lst 4, Cst 0 0, Ist 6], Tfall 51, []),
  (51, [Ild 6, Cst 2 1024], Tif 81 169 59, []),
  (59, [Lld 2, Lst 7, Cst 0 0, Ist 9], Tfall 65, []),
  (65, [Ild 9, Ald 0, GfR 9 6 0, Cst 0 3, Iald], Tif 81 127 76, []),
  (76, [Ild 6, Ald 0, GfR 9 6 0, Cst 0 2, Iald, Cst 0 (-1), Ixor, Iand, Ild 9, CallS 64 2 mM_isIn], Tif 72 117 95, []),
  (95, [Lld 7, LC 168 10, Ldiv, Cst 1 10, Ald 0, Ild 9, Cst 1 7, CallV 68 3 mM_get, Isub, I2l, Lmul], Tgoto 119, []),
  (117, [Lld 7], Tfall 119, []),
  (119, [Lst 7, Inc 9 1], Tgoto 65, []),
  (127, [Ald 0, GfR 28 6 8, Ild 6, Iald], Tif 77 159 137, []),
  (137, [Ald 0, Ild 6, CallV 130 2 mM_isOut], Tif 72 159 146, []),
  (146, [Lld 7, Lld 4, Lcmp], Tif 77 159 154, []),
  (154, [Lld 7], Tgoto 161, []),
  (159, [Lld 4], Tfall 161, []),
  (161, [Lst 4, Inc 6 1], Tgoto 51, []),
  (169, [Lld 4, LC 0 0, Lcmp], Tif 73 183 176, []),
  (176, [Ald 0, Cst 0 3, CallV 89 2 mM_no, I2l], Tret 86, []),
  (183, [Lld 4, Lst 6, Lld 2, Lst 8], Tfall 190, []),
  (190, [Lld 8, LC 0 0, Lcmp], Tif 72 215 197, []),
  (197, [Lld 6, Lld 8, Lrem, Lst 10, Lld 8, Lst 6, Lld 10, Lst 8], Tgoto 190, []),
  (215, [Ild 1], Tif 73 227 219, []),
  (219, [Lld 4, Lld 6, Ldiv], Tgoto 231, []),
  (227, [Lld 2, Lld 6, Ldiv], Tfall 231, []),
  (231, [], Tret 86, [])]
theorem okM_surest : chkM mM_surest cfM_surest = true := by decide +kernel
def cfM_isSheet : List BK := [(0, [Ild 0, Cst 0 0, Cst 0 3, CallS 60 3 mM_in1], Tret 85, [])]
theorem okM_isSheet : chkM mM_isSheet cfM_isSheet = true := by decide +kernel
def cfM_heardLocks : List BK := [(0, [Ald 0, Ild 2, CallV 117 2 mM_mayBy, Ist 3, Cst 0 0, Ist 4, Cst 0 0, Ist 5], Tfall 12, []),
  (12, [Ild 5, Ald 0, GfR 9 6 0, Cst 0 3, Iald], Tif 81 61 23, []),
  (23, [Ild 4, Ild 3, Ild 5, CallS 64 2 mM_isIn], Tif 72 51 34, []),
  (34, [Ald 0, Ild 5, CallV 107 2 mM_soundsOf, Ild 1], Tif 79 51 44, []),
  (44, [Cst 0 1, Ild 5, Ishl], Tgoto 52, []),
  (51, [Cst 0 0], Tfall 52, []),
  (52, [Ior, Ist 4, Inc 5 1], Tgoto 12, []),
  (61, [Ild 4], Tret 84, [])]
theorem okM_heardLocks : chkM mM_heardLocks cfM_heardLocks = true := by decide +kernel
def cfM_countsHeard : List BK := [(0, [Ald 0, GfR 50 6 21, Ild 1, Iald, Cst 1 8], Tif 81 20 11, []),
  (11, [Ald 0, GfR 50 6 21, Ild 1, Iald], Tgoto 22, []),
  (20, [Cst 1 8], Tfall 22, []),
  (22, [Ist 2, Cst 0 0, Ist 3], Tfall 25, []),
  (25, [Ild 3, Cst 2 1024], Tif 81 59 32, []),
  (32, [Ald 0, GfR 28 6 8, Ild 3, Ild 3, Ald 0, GfR 9 6 0, Cst 0 2, Iald], Tif 79 51 47, []),
  (47, [Cst 0 1], Tgoto 52, []),
  (51, [Cst 0 0], Tfall 52, []),
  (52, [Iast, Inc 3 1], Tgoto 25, []),
  (59, [Ald 0, GfR 9 6 0, Cst 0 2, Iald, CallS 72 1 mM_bits, Ist 3, Cst 0 0, Ist 4], Tfall 72, []),
  (72, [Ild 4, Ild 2], Tif 81 250 78, []),
  (78, [Ald 0, CallV 110 1 mM_allLocks, Ist 5], Tfall 84, []),
  (84, [Ild 5], Tif 74 197 89, []),
  (89, [Ald 0, GfR 28 6 8, Ild 5, Iald], Tif 72 111 99, []),
  (99, [Ild 5, CallS 72 1 mM_bits, Ild 3, Ild 4, Iadd], Tif 78 115 111, []),
  (111, [Cst 0 0], Tgoto 133, []),
  (115, [Ald 0, Ald 0, GfR 53 6 22, Cst 1 40, Ild 1, Imul, Ild 4, Iadd, Iald, Ild 5, CallV 170 3 mM_heardLocks], Tfall 133, []),
  (133, [Ist 6, Cst 0 0, Ist 7], Tfall 138, []),
  (138, [Ild 7, Ald 0, GfR 9 6 0, Cst 0 3, Iald], Tif 81 191 149, []),
  (149, [Ald 0, GfR 28 6 8, Ild 5, Cst 0 1, Ild 7, Ishl, Ior, Dup2, Iald, Ild 6, Ild 7, CallS 64 2 mM_isIn], Tif 72 182 172, []),
  (172, [Ald 0, GfR 28 6 8, Ild 5, Iald], Tgoto 183, []),
  (182, [Cst 0 0], Tfall 183, []),
  (183, [Iadd, Iast, Inc 7 1], Tgoto 138, []),
  (191, [Inc 5 (-1)], Tgoto 84, []),
  (197, [Cst 0 0, Ist 5], Tfall 200, []),
  (200, [Ild 5, Cst 2 1024], Tif 81 244 208, []),
  (208, [Ald 0, GfR 28 6 8, Ild 5, Ild 5, CallS 72 1 mM_bits, Ild 3, Ild 4, Iadd], Tif 79 230 226, []),
  (226, [Cst 0 0], Tgoto 237, []),
  (230, [Ald 0, GfR 28 6 8, Ild 5, Iald], Tfall 237, []),
  (237, [Iast, Inc 5 1], Tgoto 200, []),
  (244, [Inc 4 1], Tgoto 72, []),
  (250, [], Tret 87, [])]
theorem okM_countsHeard : chkM mM_countsHeard cfM_countsHeard = true := by decide +kernel
def cfM_wrongSheet : List BK := [(0, [Ild 1, CallS 173 1 mM_isSheet], Tif 73 11 7, []),
  (7, [Cst 0 0], Tgoto 25, []),
  (11, [Ald 0, GfR 47 6 20, Ild 1, Iald], Tif 73 24 20, []),
  (20, [Cst 0 5], Tgoto 25, []),
  (24, [Cst 0 (-1)], Tfall 25, []),
  (25, [], Tret 84, [])]
theorem okM_wrongSheet : chkM mM_wrongSheet cfM_wrongSheet = true := by decide +kernel
def cfM_fits : List BK := [(0, [Ald 0, Ild 1, CallV 176 2 mM_wrongSheet, Ist 2, Ild 2], Tif 74 16 10, []),
  (10, [Ald 0, Ild 2, CallV 89 2 mM_no], Tret 84, []),
  (16, [Ald 0, Ild 1, CallV 179 2 mM_countsHeard, Cst 0 0, Ist 3, Cst 0 0, Ist 4], Tfall 26, []),
  (26, [Ild 4, Cst 2 1024], Tif 81 50 34, []),
  (34, [Ild 3, Ald 0, GfR 28 6 8, Ild 4, Iald, Iadd, Ist 3, Inc 4 1], Tgoto 26, []),
  (50, [Ild 3], Tret 84, [])]
theorem okM_fits : chkM mM_fits cfM_fits = true := by decide +kernel
def cfM_heardSet : List BK := [(0, [Ald 0, Ild 1, CallV 179 2 mM_countsHeard, Cst 0 0, Ist 3, Cst 2 1023, Ist 4, Cst 0 0, Ist 5, Cst 0 0, Ist 6], Tfall 18, []),
  (18, [Ild 6, Cst 2 1024], Tif 81 95 26, []),
  (26, [Ild 3, Ald 0, GfR 28 6 8, Ild 6, Iald], Tif 77 42 37, []),
  (37, [Ild 6], Tgoto 43, []),
  (42, [Cst 0 0], Tfall 43, []),
  (43, [Ior, Ist 3, Ild 4, Ald 0, GfR 28 6 8, Ild 6, Iald], Tif 77 62 57, []),
  (57, [Ild 6], Tgoto 64, []),
  (62, [Ild 4], Tfall 64, []),
  (64, [Iand, Ist 4, Ild 5], Tif 73 82 72, []),
  (72, [Ald 0, GfR 28 6 8, Ild 6, Iald], Tif 77 86 82, []),
  (82, [Cst 0 1], Tgoto 87, []),
  (86, [Cst 0 0], Tfall 87, []),
  (87, [Ist 5, Inc 6 1], Tgoto 18, []),
  (95, [Ild 5], Tif 73 104 100, []),
  (100, [Cst 0 (-1)], Tgoto 114, []),
  (104, [Ild 2], Tif 72 113 108, []),
  (108, [Ild 4], Tgoto 114, []),
  (113, [Ild 3], Tfall 114, []),
  (114, [], Tret 84, [])]
theorem okM_heardSet : chkM mM_heardSet cfM_heardSet = true := by decide +kernel
def cfM_heardTold : List BK := [(0, [Ald 0, Ild 1, CallV 176 2 mM_wrongSheet, Ist 3, Ild 3], Tif 74 14 10, []),
  (10, [Cst 0 (-1)], Tgoto 20, []),
  (14, [Ald 0, Ild 1, Ild 2, CallV 182 3 mM_heardSet], Tfall 20, []),
  (20, [Ist 4, Ild 3], Tif 74 34 26, []),
  (26, [Ald 0, Ild 3, CallV 89 2 mM_no], Tgoto 49, []),
  (34, [Ild 4], Tif 75 47 39, []),
  (39, [Ald 0, Cst 0 3, CallV 89 2 mM_no], Tgoto 49, []),
  (47, [Ild 4], Tfall 49, []),
  (49, [], Tret 84, [])]
theorem okM_heardTold : chkM mM_heardTold cfM_heardTold = true := by decide +kernel
def cfM_maybe : List BK := [(0, [Ald 0, Ild 1, Cst 0 0, CallV 186 3 mM_heardTold], Tret 84, [])]
theorem okM_maybe : chkM mM_maybe cfM_maybe = true := by decide +kernel
def cfM_surely : List BK := [(0, [Ald 0, Ild 1, Cst 0 1, CallV 186 3 mM_heardTold], Tret 84, [])]
theorem okM_surely : chkM mM_surely cfM_surely = true := by decide +kernel
def cfM_hear : List BK := [(0, [Ild 1, Cst 0 0, Cst 1 99, CallS 60 3 mM_in1], Tif 72 24 10, []),
  (10, [Ald 0, Ild 1, Ald 0, GfR 9 6 0, Cst 0 2, Iald, CallV 170 3 mM_heardLocks], Tgoto 29, []),
  (24, [Ald 0, Cst 0 0, CallV 89 2 mM_no], Tfall 29, []),
  (29, [], Tret 84, [])]
theorem okM_hear : chkM mM_hear cfM_hear = true := by decide +kernel
def cfM_draw : List BK := [(0, [Ald 0, GfR 9 6 0, Cst 1 9, Ald 0, GfR 9 6 0, Cst 1 9, Iald, Cst 381 1103515245, Imul, Cst 2 12345, Iadd, Iast, Ald 0, GfR 9 6 0, Cst 1 9, Iald, Cst 1 8, Iushr], Tret 84, [])]
theorem okM_draw : chkM mM_draw cfM_draw = true := by decide +kernel
def cfM_nthOf : List BK := [(0, [Ild 1, Ist 3, Cst 0 0, Ist 4], Tfall 5, []),
  (5, [Ild 4, Ild 2], Tif 81 23 11, []),
  (11, [Ild 3, Ild 3, Cst 0 1, Isub, Iand, Ist 3, Inc 4 1], Tgoto 5, []),
  (23, [Cst 0 0, Ist 4], Tfall 26, []),
  (26, [Ild 3, Ild 4, CallS 64 2 mM_isIn], Tif 73 41 35, []),
  (35, [Inc 4 1], Tgoto 26, []),
  (41, [Ild 4], Tret 84, [])]
theorem okM_nthOf : chkM mM_nthOf cfM_nthOf = true := by decide +kernel
def cfM_friday : List BK := [(0, [Ild 1, Cst 0 1, Cst 1 20, CallS 60 3 mM_in1], Tif 73 16 10, []),
  (10, [Ald 0, Cst 0 0, CallV 89 2 mM_no], Tret 84, []),
  (16, [Ald 0, GfR 9 6 0, Cst 0 3, Iald], Tif 73 31 25, []),
  (25, [Ald 0, Cst 0 4, CallV 89 2 mM_no], Tret 84, []),
  (31, [Ald 0, CallV 190 1 mM_shut, Ist 2, Ild 2], Tif 75 44 40, []),
  (40, [Ild 2], Tgoto 45, []),
  (44, [Cst 0 0], Tfall 45, []),
  (45, [Ist 3, Ald 0, Cst 0 0, CallV 117 2 mM_mayBy, Ist 4, Cst 0 0, Ist 5], Tfall 56, []),
  (56, [Ild 5, Ild 1], Tif 81 155 62, []),
  (62, [Ild 4], Tif 72 155 67, []),
  (67, [Ald 0, Ald 0, GfR 9 6 0, Cst 0 2, Iald, CallV 130 2 mM_isOut], Tif 73 155 80, []),
  (80, [Ald 0, Ild 4, Ald 0, CallV 193 1 mM_draw, Ild 4, CallS 72 1 mM_bits, Irem, CallV 196 3 mM_nthOf, Ist 6, Ald 0, CallV 193 1 mM_draw, Cst 1 10, Irem, Ald 0, Ild 6, Cst 1 7, CallV 68 3 mM_get], Tif 81 120 116, []),
  (116, [Cst 0 1], Tgoto 121, []),
  (120, [Cst 0 0], Tfall 121, []),
  (121, [Ist 7, Ild 7], Tif 73 137 128, []),
  (128, [Ald 0, Ild 6, CallV 127 2 mM_comesOff, Inc 3 1], Tfall 137, []),
  (137, [Ald 0, Ald 0, GfR 9 6 0, Cst 0 2, Iald, CallV 117 2 mM_mayBy, Ist 4, Inc 5 1], Tgoto 56, []),
  (155, [Ild 3], Tret 84, [])]
theorem okM_friday : chkM mM_friday cfM_friday = true := by decide +kernel
def cfM_seed : List BK := [(0, [Ald 0, GfR 9 6 0, Cst 1 9, Iald, Ist 2, Ald 0, GfR 9 6 0, Cst 1 9, Ild 1, Iast, Ild 2], Tret 84, [])]
theorem okM_seed : chkM mM_seed cfM_seed = true := by decide +kernel
def cfM_feed : List BK := [(0, [Ild 2, Cst 0 1, Cst 0 4, CallS 60 3 mM_in1], Tif 73 15 9, []),
  (9, [Ald 0, Cst 0 0, CallV 89 2 mM_no], Tret 84, []),
  (15, [Ald 0, GfI 199 6 11, Ild 2, Iadd, Cst 1 120], Tif 83 32 26, []),
  (26, [Ald 0, Cst 0 1, CallV 89 2 mM_no], Tret 84, []),
  (32, [Ild 2, Cst 0 1, Isub, Ist 3], Tfall 36, []),
  (36, [Ild 3], Tif 74 75 40, []),
  (40, [Ald 0, GfR 31 6 10, Ald 0, GfI 199 6 11, Ild 1, Cst 1 8, Ild 3, Imul, Ishr, Cst 2 255, Iand, Iast, Ald 0, Dup, GfI 199 6 11, Cst 0 1, Iadd, PfI 199 6 11, Inc 3 (-1)], Tgoto 36, []),
  (75, [Ald 0, GfI 199 6 11], Tret 84, [])]
theorem okM_feed : chkM mM_feed cfM_feed = true := by decide +kernel
def cfM_wipe : List BK := [(0, [Ald 0, GfI 199 6 11, Ist 1, Ald 0, Cst 0 0, PfI 199 6 11, Ild 1], Tret 84, [])]
theorem okM_wipe : chkM mM_wipe cfM_wipe = true := by decide +kernel
def cfM_isLetter : List BK := [(0, [Ild 0, Cst 1 97, Cst 1 122, CallS 60 3 mM_in1], Tret 85, [])]
theorem okM_isLetter : chkM mM_isLetter cfM_isLetter = true := by decide +kernel
def cfM_isDigit : List BK := [(0, [Ild 0, Cst 1 48, Cst 1 57, CallS 60 3 mM_in1], Tret 85, [])]
theorem okM_isDigit : chkM mM_isDigit cfM_isDigit = true := by decide +kernel
def cfM_nextToken : List BK := [(0, [Ald 0, Ald 0, GfI 202 6 14, PfI 205 6 13], Tfall 8, []),
  (8, [Ald 0, GfI 205 6 13, Ald 0, GfI 199 6 11], Tif 81 46 19, []),
  (19, [Ald 0, GfR 31 6 10, Ald 0, GfI 205 6 13, Iald, Cst 1 32], Tif 79 46 33, []),
  (33, [Ald 0, Dup, GfI 205 6 13, Cst 0 1, Iadd, PfI 205 6 13], Tgoto 8, []),
  (46, [Ald 0, Ald 0, GfI 205 6 13, PfI 202 6 14, Ald 0, LC 0 0, PfL 208 6 15, Ald 0, GfI 205 6 13, Ald 0, GfI 199 6 11], Tif 79 78 70, []),
  (70, [Ald 0, Cst 0 0, PfI 212 6 12], Tgoto 337, []),
  (78, [Ald 0, GfR 31 6 10, Ald 0, GfI 205 6 13, Iald, CallS 215 1 mM_isLetter], Tif 72 182 93, []),
  (93, [Ald 0, Cst 0 1, PfI 212 6 12], Tfall 98, []),
  (98, [Ald 0, GfI 202 6 14, Ald 0, GfI 199 6 11], Tif 81 337 109, []),
  (109, [Ald 0, GfR 31 6 10, Ald 0, GfI 202 6 14, Iald, CallS 215 1 mM_isLetter], Tif 72 337 124, []),
  (124, [Ald 0, Ald 0, GfL 208 6 15, LC 218 99999999999, Lcmp], Tif 77 143 136, []),
  (136, [Ald 0, GfL 208 6 15], Tgoto 166, []),
  (143, [Ald 0, GfL 208 6 15, LC 220 27, Lmul, Ald 0, GfR 31 6 10, Ald 0, GfI 202 6 14, Iald, I2l, Ladd, LC 222 96, Lsub], Tfall 166, []),
  (166, [PfL 208 6 15, Ald 0, Dup, GfI 202 6 14, Cst 0 1, Iadd, PfI 202 6 14], Tgoto 98, []),
  (182, [Ald 0, GfR 31 6 10, Ald 0, GfI 205 6 13, Iald, CallS 224 1 mM_isDigit], Tif 72 304 197, []),
  (197, [Ald 0, GfI 202 6 14, Ald 0, GfI 199 6 11], Tif 81 281 208, []),
  (208, [Ald 0, GfR 31 6 10, Ald 0, GfI 202 6 14, Iald, CallS 224 1 mM_isDigit], Tif 72 281 223, []),
  (223, [Ald 0, Ald 0, GfL 208 6 15, LC 227 1023, Lcmp], Tif 77 242 235, []),
  (235, [Ald 0, GfL 208 6 15], Tgoto 265, []),
  (242, [Ald 0, GfL 208 6 15, LC 168 10, Lmul, Ald 0, GfR 31 6 10, Ald 0, GfI 202 6 14, Iald, I2l, Ladd, LC 229 48, Lsub], Tfall 265, []),
  (265, [PfL 208 6 15, Ald 0, Dup, GfI 202 6 14, Cst 0 1, Iadd, PfI 202 6 14], Tgoto 197, []),
  (281, [Ald 0, Ald 0, GfL 208 6 15, LC 227 1023, Lcmp], Tif 77 297 293, []),
  (293, [Cst 0 4], Tgoto 298, []),
  (297, [Cst 0 2], Tfall 298, []),
  (298, [PfI 212 6 12], Tgoto 337, []),
  (304, [Ald 0, Ald 0, GfR 31 6 10, Ald 0, GfI 205 6 13, Iald, Cst 1 59], Tif 79 323 319, []),
  (319, [Cst 0 3], Tgoto 324, []),
  (323, [Cst 0 4], Tfall 324, []),
  (324, [PfI 212 6 12, Ald 0, Dup, GfI 202 6 14, Cst 0 1, Iadd, PfI 202 6 14], Tfall 337, []),
  (337, [], Tret 87, [])]
theorem okM_nextToken : chkM mM_nextToken cfM_nextToken = true := by decide +kernel
def cfM_wordOf : List BK := [(0, [Cst 0 (-1), Ist 2, Cst 0 0, Ist 3], Tfall 4, []),
  (4, [Ild 3, Ald 1, Alen, Cst 1 6, Idiv], Tif 81 104 13, []),
  (13, [Ald 0, GfI 212 6 12, Cst 0 1], Tif 79 104 21, []),
  (21, [LC 0 0, Lst 4, Cst 0 0, Ist 6], Tfall 27, []),
  (27, [Ild 6, Cst 1 6], Tif 81 82 34, []),
  (34, [Ald 1, Cst 1 6, Ild 3, Imul, Ild 6, Iadd, Cald, Cst 1 32], Tif 79 53 48, []),
  (48, [Lld 4], Tgoto 74, []),
  (53, [Lld 4, LC 220 27, Lmul, Ald 1, Cst 1 6, Ild 3, Imul, Ild 6, Iadd, Cald, I2l, Ladd, LC 222 96, Lsub], Tfall 74, []),
  (74, [Lst 4, Inc 6 1], Tgoto 27, []),
  (82, [Lld 4, Ald 0, GfL 208 6 15, Lcmp], Tif 73 96 92, []),
  (92, [Ild 3], Tgoto 97, []),
  (96, [Ild 2], Tfall 97, []),
  (97, [Ist 2, Inc 3 1], Tgoto 4, []),
  (104, [Ild 2], Tret 84, [])]
theorem okM_wordOf : chkM mM_wordOf cfM_wordOf = true := by decide +kernel
def cfM_takesNumber : List BK := [(0, [Ald 0, GfI 212 6 12, Cst 0 2], Tif 79 29 8, []),
  (8, [Ald 0, GfL 208 6 15, L2i, Ild 1, Ild 2, CallS 60 3 mM_in1], Tif 72 29 21, []),
  (21, [Ald 0, GfL 208 6 15, L2i], Tgoto 30, []),
  (29, [Cst 0 (-1)], Tfall 30, []),
  (30, [Ist 3, Ild 3], Tif 74 39 35, []),
  (35, [Ald 0, CallV 231 1 mM_nextToken], Tfall 39, []),
  (39, [Ild 3], Tret 84, [])]
theorem okM_takesNumber : chkM mM_takesNumber cfM_takesNumber = true := by decide +kernel
def cfM_readsLock : List BK := [(0, [Ald 0, GfR 9 6 0, Cst 0 3, Iald, Cst 1 10], Tif 79 13 11, []),
  (11, [Cst 0 0], Tret 85, []),
  (13, [Ald 0, CallV 110 1 mM_allLocks, Ist 2, Ald 0, GfR 9 6 0, Cst 0 3, Iald, Ist 3, Ald 0, Ild 1, CallV 92 2 mM_comes, Ald 0, CallV 231 1 mM_nextToken, Cst 0 0, Ist 4], Tfall 37, []),
  (37, [Ild 4, Cst 1 6], Tif 81 126 44, []),
  (44, [Ald 0, Ald 0, GfR 38 6 17, CallV 234 2 mM_wordOf, Ild 4], Tif 79 120 57, []),
  (57, [Ald 0, CallV 231 1 mM_nextToken, Ald 0, GfR 44 6 19, Ild 4, Iald, Ist 5, Ald 0, Ild 5, Cst 0 1], Tif 79 81 77, []),
  (77, [Cst 0 1], Tgoto 82, []),
  (81, [Cst 0 0], Tfall 82, []),
  (82, [Ild 5, Cst 1 8], Tif 79 93 89, []),
  (89, [Ild 2], Tgoto 99, []),
  (93, [Ald 0, Ild 5, CallV 114 2 mM_mostOf], Tfall 99, []),
  (99, [CallV 238 3 mM_takesNumber, Ist 6, Ild 6], Tif 75 111 109, []),
  (109, [Cst 0 0], Tret 85, []),
  (111, [Ald 0, Ild 3, Ild 5, Ild 6, CallV 96 4 mM_puts], Tfall 120, []),
  (120, [Inc 4 1], Tgoto 37, []),
  (126, [Cst 0 1], Tret 85, [])]
theorem okM_readsLock : chkM mM_readsLock cfM_readsLock = true := by decide +kernel
def cfM_readsItem : List BK := [(0, [Ald 0, Ald 0, GfR 34 6 16, CallV 234 2 mM_wordOf, Ist 1, Ild 1], Tif 74 19 13, []),
  (13, [Ald 0, Ild 1, CallV 241 2 mM_readsLock], Tret 85, []),
  (19, [Ald 0, Ald 0, GfR 41 6 18, CallV 234 2 mM_wordOf, Ist 2, Ild 2], Tif 75 34 32, []),
  (32, [Cst 0 0], Tret 85, []),
  (34, [Ald 0, CallV 231 1 mM_nextToken, Ald 0, Cst 0 0, Ild 2], Tif 73 49 44, []),
  (44, [Cst 1 15], Tgoto 63, []),
  (49, [Ild 2, Cst 0 1], Tif 79 59 54, []),
  (54, [Cst 1 40], Tgoto 63, []),
  (59, [Ald 0, CallV 110 1 mM_allLocks], Tfall 63, []),
  (63, [CallV 238 3 mM_takesNumber, Ist 3, Ald 0, GfR 9 6 0, Cst 0 4, Ild 2, Iadd, Ild 3], Tif 75 89 78, []),
  (78, [Ald 0, GfR 9 6 0, Cst 0 4, Ild 2, Iadd, Iald], Tgoto 90, []),
  (89, [Ild 3], Tfall 90, []),
  (90, [Iast, Ild 3], Tif 74 99 95, []),
  (95, [Cst 0 1], Tgoto 100, []),
  (99, [Cst 0 0], Tfall 100, []),
  (100, [], Tret 85, [])]
theorem okM_readsItem : chkM mM_readsItem cfM_readsItem = true := by decide +kernel
def cfM_text : List BK := [(0, [Ald 0, CallV 152 1 mM_setsAside, Ald 0, Cst 0 0, PfI 202 6 14, Ald 0, CallV 231 1 mM_nextToken, Cst 0 1, Ist 1, Ald 0, CallV 244 1 mM_readsItem, Ist 2], Tfall 20, []),
  (20, [Ild 2], Tif 72 47 24, []),
  (24, [Ald 0, GfI 212 6 12, Cst 0 3], Tif 79 47 32, []),
  (32, [Ald 0, CallV 231 1 mM_nextToken, Ald 0, CallV 244 1 mM_readsItem, Ist 2, Inc 1 1], Tgoto 20, []),
  (47, [Ild 2], Tif 72 62 51, []),
  (51, [Ald 0, GfI 212 6 12], Tif 73 62 58, []),
  (58, [Cst 0 1], Tgoto 63, []),
  (62, [Cst 0 0], Tfall 63, []),
  (63, [Ist 2, Ald 0, Cst 0 0, PfI 199 6 11, Ild 2], Tif 73 84 73, []),
  (73, [Ald 0, CallV 155 1 mM_laysBack, Cst 0 (-1), Ald 0, GfI 205 6 13, Isub], Tret 84, []),
  (84, [Ild 1], Tret 84, [])]
theorem okM_text : chkM mM_text cfM_text = true := by decide +kernel
def cfM_isSpot : List BK := [(0, [Ild 0, Cst 0 0, Cst 1 9, CallS 60 3 mM_in1], Tret 85, [])]
theorem okM_isSpot : chkM mM_isSpot cfM_isSpot = true := by decide +kernel
def cfM_hold : List BK := [(0, [Ild 1, CallS 247 1 mM_isSpot], Tif 72 20 7, []),
  (7, [Ild 2, Cst 0 (-1)], Tif 78 26 12, []),
  (12, [Ald 0, Ild 2, CallV 100 2 mM_isLock], Tif 73 26 20, []),
  (20, [Ald 0, Cst 0 0, CallV 89 2 mM_no], Tret 84, []),
  (26, [Ald 0, GfR 9 6 0, Cst 1 110, Ild 1, Iadd, Ild 2, Iast, Cst 0 1], Tret 84, [])]
theorem okM_hold : chkM mM_hold cfM_hold = true := by decide +kernel
def cfM_above : List BK := [(0, [Ild 0, Cst 0 5], Tif 79 9 5, []),
  (5, [Cst 0 1], Tgoto 28, []),
  (9, [Ild 0, Cst 0 4], Tif 79 18 14, []),
  (14, [Cst 0 3], Tgoto 28, []),
  (18, [Ild 0, Cst 0 3], Tif 79 27 23, []),
  (23, [Cst 0 2], Tgoto 28, []),
  (27, [Cst 0 0], Tfall 28, []),
  (28, [], Tret 84, [])]
theorem okM_above : chkM mM_above cfM_above = true := by decide +kernel
def cfM_as : List BK := [(0, [Ild 1, CallS 247 1 mM_isSpot], Tif 72 17 7, []),
  (7, [Ild 2, Cst 0 0, Cst 1 6, CallS 60 3 mM_in1], Tif 73 23 17, []),
  (17, [Ald 0, Cst 0 0, CallV 89 2 mM_no], Tret 84, []),
  (23, [Ald 0, GfR 9 6 0, Cst 1 110, Ild 1, Iadd, Iald, Ist 3, Ild 3], Tif 75 43 37, []),
  (37, [Ald 0, Cst 0 5, CallV 89 2 mM_no], Tret 84, []),
  (43, [Ald 0, Ild 3, Cst 0 0, CallV 68 3 mM_get, Ist 4], Tfall 51, []),
  (51, [Ild 4, Ild 2], Tif 78 72 57, []),
  (57, [Ild 4], Tif 72 72 62, []),
  (62, [Ild 4, CallS 250 1 mM_above, Ist 4], Tgoto 51, []),
  (72, [Ild 4, Ild 2], Tif 79 82 78, []),
  (78, [Ild 3], Tgoto 87, []),
  (82, [Ald 0, Cst 0 2, CallV 89 2 mM_no], Tfall 87, []),
  (87, [], Tret 84, [])]
theorem okM_as : chkM mM_as cfM_as = true := by decide +kernel
def cfM_sheet : List BK := [(0, [Ild 1, CallS 173 1 mM_isSheet], Tif 72 29 7, []),
  (7, [Ild 2], Tif 72 35 11, []),
  (11, [Ild 2, Cst 1 8], Tif 78 35 17, []),
  (17, [Ild 2, Cst 1 16], Tif 78 35 23, []),
  (23, [Ild 2, Cst 1 32], Tif 78 35 29, []),
  (29, [Ald 0, Cst 0 0, CallV 89 2 mM_no], Tret 84, []),
  (35, [Ild 3], Tif 75 46 39, []),
  (39, [Ald 0, Cst 1 6, CallV 89 2 mM_no], Tret 84, []),
  (46, [Ild 3, Cst 1 40], Tif 83 58 52, []),
  (52, [Ald 0, Cst 0 0, CallV 89 2 mM_no], Tret 84, []),
  (58, [Ald 0, GfR 47 6 20, Ild 1, Ild 2, Iast, Ald 0, GfR 50 6 21, Ild 1, Ild 2], Tif 73 78 74, []),
  (74, [Cst 0 0], Tgoto 79, []),
  (78, [Ild 3], Tfall 79, []),
  (79, [Iast, Cst 0 0, Ist 4], Tfall 83, []),
  (83, [Ild 4, Cst 1 40], Tif 81 109 90, []),
  (90, [Ald 0, GfR 53 6 22, Cst 1 40, Ild 1, Imul, Ild 4, Iadd, Cst 0 0, Iast, Inc 4 1], Tgoto 83, []),
  (109, [Ald 0, GfR 50 6 21, Ild 1, Iald], Tret 84, [])]
theorem okM_sheet : chkM mM_sheet cfM_sheet = true := by decide +kernel
def cfM_write : List BK := [(0, [Ald 0, Ild 1, CallV 176 2 mM_wrongSheet, Ist 4, Ild 4], Tif 75 31 12, []),
  (12, [Ild 2, Cst 0 0, Ald 0, GfR 50 6 21, Ild 1, Iald, Cst 0 1, Isub, CallS 60 3 mM_in1], Tif 73 31 28, []),
  (28, [Cst 0 0, Ist 4], Tfall 31, []),
  (31, [Ild 4], Tif 74 43 36, []),
  (36, [Ald 0, Ild 4, CallV 89 2 mM_no], Tret 84, []),
  (43, [Ald 0, GfR 53 6 22, Cst 1 40, Ild 1, Imul, Ild 2, Iadd, Ald 0, GfR 47 6 20, Ild 1, Iald, Cst 1 8], Tif 79 69 64, []),
  (64, [Ild 3, I2b], Tgoto 86, []),
  (69, [Ald 0, GfR 47 6 20, Ild 1, Iald, Cst 1 16], Tif 79 85 80, []),
  (80, [Ild 3, I2s], Tgoto 86, []),
  (85, [Ild 3], Tfall 86, []),
  (86, [Iast, Cst 0 1], Tret 84, [])]
theorem okM_write : chkM mM_write cfM_write = true := by decide +kernel
def cfM_copy : List BK := [(0, [Ild 1, CallS 173 1 mM_isSheet], Tif 72 14 7, []),
  (7, [Ild 3, CallS 173 1 mM_isSheet], Tif 73 20 14, []),
  (14, [Ald 0, Cst 0 0, CallV 89 2 mM_no], Tret 84, []),
  (20, [Ald 0, GfR 47 6 20, Ild 1, Iald], Tif 72 38 29, []),
  (29, [Ald 0, GfR 47 6 20, Ild 3, Iald], Tif 73 44 38, []),
  (38, [Ald 0, Cst 0 5, CallV 89 2 mM_no], Tret 84, []),
  (44, [Ald 0, GfR 47 6 20, Ild 1, Iald, Ald 0, GfR 47 6 20, Ild 3, Iald], Tif 78 65 59, []),
  (59, [Ald 0, Cst 0 2, CallV 89 2 mM_no], Tret 84, []),
  (65, [Ild 5], Tif 74 106 70, []),
  (70, [Ild 2], Tif 74 106 74, []),
  (74, [Ild 4], Tif 74 106 79, []),
  (79, [Ild 2, Ald 0, GfR 50 6 21, Ild 1, Iald, Ild 5, Isub], Tif 82 106 92, []),
  (92, [Ild 4, Ald 0, GfR 50 6 21, Ild 3, Iald, Ild 5, Isub], Tif 83 112 106, []),
  (106, [Ald 0, Cst 0 0, CallV 89 2 mM_no], Tret 84, []),
  (112, [Cst 0 0, Ist 6], Tfall 115, []),
  (115, [Ild 6, Ild 5], Tif 81 149 122, []),
  (122, [Ald 0, GfR 56 6 23, Ild 6, Ald 0, GfR 53 6 22, Cst 1 40, Ild 1, Imul, Ild 2, Iadd, Ild 6, Iadd, Iald, Iast, Inc 6 1], Tgoto 115, []),
  (149, [Cst 0 0, Ist 6], Tfall 152, []),
  (152, [Ild 6, Ild 5], Tif 81 187 159, []),
  (159, [Ald 0, GfR 53 6 22, Cst 1 40, Ild 3, Imul, Ild 4, Iadd, Ild 6, Iadd, Ald 0, GfR 56 6 23, Ild 6, Iald, Iast, Inc 6 1], Tgoto 152, []),
  (187, [Ild 5], Tret 84, [])]
theorem okM_copy : chkM mM_copy cfM_copy = true := by decide +kernel
def cfM_load : List BK := [(0, [Ald 0, Ild 1, CallV 176 2 mM_wrongSheet, Ist 2, Ild 2], Tif 74 16 10, []),
  (10, [Ald 0, Ild 2, CallV 89 2 mM_no], Tret 84, []),
  (16, [Cst 0 0, Ist 3], Tfall 18, []),
  (18, [Ild 3, Ald 0, GfR 50 6 21, Ild 1, Iald], Tif 81 79 28, []),
  (28, [Ald 0, Ild 3, CallV 100 2 mM_isLock], Tif 72 79 36, []),
  (36, [Ald 0, GfR 53 6 22, Cst 1 40, Ild 1, Imul, Ild 3, Iadd, Iald, Cst 0 1, Cst 1 60, CallS 60 3 mM_in1], Tif 72 79 56, []),
  (56, [Ald 0, Ild 3, Cst 0 1, Ald 0, GfR 53 6 22, Cst 1 40, Ild 1, Imul, Ild 3, Iadd, Iald, CallV 96 4 mM_puts, Inc 3 1], Tgoto 18, []),
  (79, [Ild 3], Tret 84, [])]
theorem okM_load : chkM mM_load cfM_load = true := by decide +kernel
def cfM_judge : List BK := [(0, [Ald 0, Ild 1, CallV 176 2 mM_wrongSheet, Ist 2, Ild 2], Tif 74 16 10, []),
  (10, [Ald 0, Ild 2, CallV 89 2 mM_no], Tret 84, []),
  (16, [Ald 0, GfR 9 6 0, Cst 0 2, Iald, Ist 3, Cst 0 0, Ist 4], Tfall 26, []),
  (26, [Ild 4, Ald 0, GfR 50 6 21, Ild 1, Iald], Tif 81 102 37, []),
  (37, [Ald 0, Ald 0, GfR 53 6 22, Cst 1 40, Ild 1, Imul, Ild 4, Iadd, Iald, CallV 100 2 mM_isLock], Tif 72 102 56, []),
  (56, [Ald 0, Ild 3, CallV 117 2 mM_mayBy, Ald 0, GfR 53 6 22, Cst 1 40, Ild 1, Imul, Ild 4, Iadd, Iald, CallS 64 2 mM_isIn], Tif 72 102 79, []),
  (79, [Ild 3, Cst 0 1, Ald 0, GfR 53 6 22, Cst 1 40, Ild 1, Imul, Ild 4, Iadd, Iald, Ishl, Ior, Ist 3, Inc 4 1], Tgoto 26, []),
  (102, [Ild 4, Ald 0, GfR 50 6 21, Ild 1, Iald], Tif 79 117 113, []),
  (113, [Cst 0 0], Tgoto 121, []),
  (117, [Cst 0 1, Ild 4, Iadd], Tfall 121, []),
  (121, [], Tret 84, [])]
theorem okM_judge : chkM mM_judge cfM_judge = true := by decide +kernel
def cfM_image : List BK := [(0, [Cst 0 0, Ist 1], Tfall 2, []),
  (2, [Ild 1, Cst 1 120], Tif 81 26 8, []),
  (8, [Ald 0, GfR 13 6 1, Ild 1, Ald 0, GfR 9 6 0, Ild 1, Iald, Iast, Inc 1 1], Tgoto 2, []),
  (26, [Ald 0, Cst 0 1, PfZ 253 6 3, Cst 0 1], Tret 84, [])]
theorem okM_image : chkM mM_image cfM_image = true := by decide +kernel
def cfM_undo : List BK := [(0, [Ald 0, GfI 253 6 3], Tif 73 13 7, []),
  (7, [Ald 0, Cst 0 3, CallV 89 2 mM_no], Tret 84, []),
  (13, [Cst 0 0, Ist 1], Tfall 15, []),
  (15, [Ild 1, Cst 1 120], Tif 81 39 21, []),
  (21, [Ald 0, GfR 9 6 0, Ild 1, Ald 0, GfR 13 6 1, Ild 1, Iald, Iast, Inc 1 1], Tgoto 15, []),
  (39, [Ald 0, GfR 9 6 0, Cst 0 0, Iald], Tret 84, [])]
theorem okM_undo : chkM mM_undo cfM_undo = true := by decide +kernel
def cfM_tear : List BK := [(0, [Ald 0, GfI 253 6 3], Tif 72 11 7, []),
  (7, [Cst 0 1], Tgoto 12, []),
  (11, [Cst 0 0], Tfall 12, []),
  (12, [Ist 1, Ald 0, Cst 0 0, PfZ 253 6 3, Ild 1], Tret 84, [])]
theorem okM_tear : chkM mM_tear cfM_tear = true := by decide +kernel
def cfM_count : List BK := [(0, [Cst 0 0, Ist 2, Ild 1], Tsw 90 157 48, [(0, 48), (1, 55), (2, 62), (3, 72), (4, 79), (5, 108), (6, 113), (7, 121)]),
  (48, [Ald 0, GfR 9 6 0, Cst 0 0, Iald], Tret 84, []),
  (55, [Ald 0, GfR 9 6 0, Cst 0 3, Iald], Tret 84, []),
  (62, [Ald 0, GfR 9 6 0, Cst 0 2, Iald, CallS 72 1 mM_bits], Tret 84, []),
  (72, [Ald 0, GfR 9 6 0, Cst 0 1, Iald], Tret 84, []),
  (79, [Cst 0 0, Ist 3], Tfall 81, []),
  (81, [Ild 3, Ald 0, GfR 9 6 0, Cst 0 3, Iald], Tif 81 106 91, []),
  (91, [Ild 2, Ald 0, Ild 3, Cst 0 1, CallV 68 3 mM_get, Iadd, Ist 2, Inc 3 1], Tgoto 81, []),
  (106, [Ild 2], Tret 84, []),
  (108, [Ald 0, GfI 199 6 11], Tret 84, []),
  (113, [Ald 0, GfR 9 6 0, Cst 1 9, Iald], Tret 84, []),
  (121, [Cst 0 0, Ist 3], Tfall 123, []),
  (123, [Ild 3, Cst 1 10], Tif 81 155 129, []),
  (129, [Ild 2, Ald 0, GfR 9 6 0, Cst 1 110, Ild 3, Iadd, Iald], Tif 74 146 142, []),
  (142, [Cst 0 1], Tgoto 147, []),
  (146, [Cst 0 0], Tfall 147, []),
  (147, [Iadd, Ist 2, Inc 3 1], Tgoto 123, []),
  (155, [Ild 2], Tret 84, []),
  (157, [Ald 0, Cst 0 0, CallV 89 2 mM_no], Tret 84, [])]
theorem okM_count : chkM mM_count cfM_count = true := by decide +kernel
def cfM_status : List BK := [(0, [Ild 1, Cst 0 (-1), Cst 1 6, CallS 60 3 mM_in1], Tif 73 16 10, []),
  (10, [Ald 0, Cst 0 0, CallV 89 2 mM_no], Tret 84, []),
  (16, [Cst 0 0, Ist 2, Cst 0 0, Ist 3], Tfall 20, []),
  (20, [Ild 3, Cst 1 7], Tif 81 55 26, []),
  (26, [Ild 2, Ild 1, Cst 0 (-1)], Tif 78 37 32, []),
  (32, [Ild 1, Ild 3], Tif 79 46 37, []),
  (37, [Ald 0, GfR 19 6 4, Ild 3, Iald], Tgoto 47, []),
  (46, [Cst 0 0], Tfall 47, []),
  (47, [Iadd, Ist 2, Inc 3 1], Tgoto 20, []),
  (55, [Ild 2], Tret 84, [])]
theorem okM_status : chkM mM_status cfM_status = true := by decide +kernel
def cfJI_bitCount : List BK := [(0, [Ild 0, Ild 0, Cst 0 1, Iushr, Cst 534 1431655765, Iand, Isub, Ist 0, Ild 0, Cst 536 858993459, Iand, Ild 0, Cst 0 2, Iushr, Cst 536 858993459, Iand, Iadd, Ist 0, Ild 0, Ild 0, Cst 0 4, Iushr, Iadd, Cst 538 252645135, Iand, Ist 0, Ild 0, Ild 0, Cst 1 8, Iushr, Iadd, Ist 0, Ild 0, Ild 0, Cst 1 16, Iushr, Iadd, Ist 0, Ild 0, Cst 1 63, Iand], Tret 84, [])]
theorem okJI_bitCount : chkM mJI_bitCount cfJI_bitCount = true := by decide +kernel
def cfJS_charAt : List BK := [(0, [Ald 0, CallV 492 1 mJS_isLatin1], Tif 72 16 7, []),
  (7, [Ald 0, GfS 9, Ild 1, CallS 495 2 mJL_charAt], Tret 89, [])]
theorem okJS_charAt : chkM mJS_charAt cfJS_charAt = true := by decide +kernel
def cfJS_checkIndex : List BK := [(0, [Ild 0, Ild 1, GsQ 1053, CallS 1059 3 mJP_checkIndex, Pop], Tret 87, [])]
theorem okJS_checkIndex : chkM mJS_checkIndex cfJS_checkIndex = true := by decide +kernel
def cfJS_coder : List BK := [(0, [GsI 38], Tif 72 13 6, []),
  (6, [Ald 0, GfC 15], Tgoto 14, []),
  (13, [Cst 0 1], Tfall 14, []),
  (14, [], Tret 92, [])]
theorem okJS_coder : chkM mJS_coder cfJS_coder = true := by decide +kernel
def cfJS_isLatin1 : List BK := [(0, [GsI 38], Tif 72 17 6, []),
  (6, [Ald 0, GfC 15], Tif 73 17 13, []),
  (13, [Cst 0 1], Tgoto 18, []),
  (17, [Cst 0 0], Tfall 18, []),
  (18, [], Tret 85, [])]
theorem okJS_isLatin1 : chkM mJS_isLatin1 cfJS_isLatin1 = true := by decide +kernel
def cfJS_length : List BK := [(0, [Ald 0, GfS 9, AlenS, Ald 0, CallV 335 1 mJS_coder, Ishr], Tret 84, [])]
theorem okJS_length : chkM mJS_length cfJS_length = true := by decide +kernel
def cfJL_charAt : List BK := [(0, [Ild 1, Ald 0, AlenS, CallS 9 2 mJS_checkIndex, Ald 0, Ild 1, BaldS, Cst 2 255, Iand, I2c], Tret 89, [])]
theorem okJL_charAt : chkM mJL_charAt cfJL_charAt = true := by decide +kernel
def cfJA_fill : List BK := [(0, [Cst 0 0, Ist 2, Ald 0, Alen, Ist 3], Tfall 5, []),
  (5, [Ild 2, Ild 3], Tif 81 20 10, []),
  (10, [Ald 0, Ild 2, Ild 1, Iast, Inc 2 1], Tgoto 5, []),
  (20, [], Tret 87, [])]
theorem okJA_fill : chkM mJA_fill cfJA_fill = true := by decide +kernel
def cfJP_checkIndex : List BK := [(0, [Ild 0], Tif 74 9 4, []),
  (4, [Ild 0, Ild 1], Tif 80 16 9, []),
  (16, [Ild 0], Tret 84, [])]
theorem okJP_checkIndex : chkM mJP_checkIndex cfJP_checkIndex = true := by decide +kernel
end
section
/-! what the instructions do to locals, stack and store -/
def lvGet : List Value → Nat → Option Value
  | [], _ => none
  | v :: _, 0 => some v
  | .long _ :: _, 1 => none
  | .long _ :: l, n + 2 => lvGet l n
  | .double _ :: _, 1 => none
  | .double _ :: l, n + 2 => lvGet l n
  | _ :: l, n + 1 => lvGet l n
def sameCat : Value → Value → Bool
  | .long _, .long _ => true
  | .long _, _ => false
  | _, .long _ => false
  | .double _, _ => false
  | _, .double _ => false
  | _, _ => true
def lvSet : List Value → Nat → Value → Option (List Value)
  | [], 0, v => some [v]
  | [], _ + 1, _ => none
  | w :: l, 0, v => if sameCat w v then some (v :: l) else some [v]
  | .long _ :: _, 1, _ => none
  | .long x :: l, n + 2, v => (lvSet l n v).map (.long x :: ·)
  | .double _ :: _, 1, _ => none
  | .double x :: l, n + 2, v => (lvSet l n v).map (.double x :: ·)
  | w :: l, n + 1, v => (lvSet l n v).map (w :: ·)
/-- cells by number: what each is, and its length: below 10 an object of that class; 100 int[], 101 char[], 102 int[][], 103 Sheet[]; 104 a table of ints, 105 the bytes of a text, 106 a text -/
def shX : List (Nat × Nat) := [(5, 9)] ++ ([(0, 8), (102, 10)] ++ List.replicate 10 (100, 10) ++ [(100, 5), (100, 10)]) ++ ([(0, 8), (102, 10)] ++ List.replicate 10 (100, 10) ++ [(100, 5), (100, 10)]) ++ ([(0, 8), (102, 10)] ++ List.replicate 10 (100, 10) ++ [(100, 5), (100, 10)])
  ++ [(4, 11), (100, 1024), (100, 1024), (100, 1024), (100, 1024), (100, 1024), (100, 10), (2, 4), (3, 6), (100, 120), (103, 4), (1, 3), (100, 40), (1, 3), (100, 40), (1, 3), (100, 40), (1, 3), (100, 40), (100, 7)]
def shM : List (Nat × Nat) := [(6, 24), (100, 120), (100, 120), (100, 120), (100, 7), (100, 1024), (100, 10), (100, 1024), (100, 120), (101, 42), (101, 36), (101, 18), (100, 6), (100, 4), (100, 4), (100, 160), (100, 40)]
def tabLen : List Nat := [10, 10, 10, 5, 5, 7]
def tabV : List (List Int32) := [[0, 1, 0, 0, 0, 0, 0, 0, 0, 0], [6, 60, 9, 40, 3, 2, 4, 9, 1023, 1023], [0, 10, 0, 0, 0, 1, 0, 0, 0, 0], [15, 40, 1023, 60, 60], [0, 0, 0, 5, 5], [-1, 0, 0, 2, 3, 1, 0]]
def strB : List (List Int32) := strL.map (fun q => q.2.toList.map (fun c => Int32.ofNat c.toNat))
def nC (g : Nat) : Nat := if g = 0 then 63 else 17
def shp (g k : Nat) : Nat × Nat := if g = 0 then (if k < 200 then shX.getD k (999, 0) else if k < 300 then (104, tabLen.getD (k - 200) 0) else if k < 400 then (106, 0) else (105, (strB.getD (k - 400) []).length)) else shM.getD k (999, 0)
def rfC (c : Nat) : List (List Nat) := [[c + 1, c + 12, c + 13], [c + 2, c + 3, c + 4, c + 5, c + 6, c + 7, c + 8, c + 9, c + 10, c + 11]] ++ List.replicate 12 []
def rfX : List (List Nat) := [[1, 15, 29, 43, 50, 51, 53, 62]] ++ rfC 1 ++ rfC 15 ++ rfC 29 ++ [[1, 44, 45, 46, 47, 48, 49], [], [], [], [], [], [], [1, 43], [52], [], [54, 56, 58, 60], [55], [], [57], [], [59], [], [61], [], []]
def rfM : List Nat := [1, 2, 3, 0, 4, 5, 6, 0, 7, 0, 8, 0, 0, 0, 0, 0, 9, 10, 11, 12, 13, 14, 15, 16]
def rfs (g k j : Nat) : Nat := if g = 0 then (if k < 300 then (rfX.getD k []).getD j 0 else k + 100) else (if k = 0 then rfM.getD j 0 else 0)
def cst (k j : Nat) : Int32 := if k < 300 then (tabV.getD (k - 200) []).getD j 0 else (strB.getD (k - 400) []).getD j 0
/-- behind a call: at most four values lie below -/
def le4 (st : List Value) (P : Prop) : Prop := match st with
  | _ :: _ :: _ :: _ :: _ :: _ => False
  | _ => P
def wpI (g : Nat) (Sp : SPT) : RI → List Value → List Value → St2 → KT → Prop
  | (0, _, _, _, v), ls, st, σ, K => K ls (.int v :: st) σ
  | (1, n, _), ls, st, σ, K => match lvGet ls n with | some (.int x) => K ls (.int x :: st) σ | _ => False
  | (2, n, _), ls, st, σ, K => match lvGet ls n with | some (.ref x) => K ls (.ref x :: st) σ | _ => False
  | (3, n, _), ls, st, σ, K => match lvGet ls n with | some (.long x) => K ls (.long x :: st) σ | _ => False
  | (4, n, _), ls, st, σ, K => match st with | .int x :: st => (match lvSet ls n (.int x) with | some ls => K ls st σ | none => False) | _ => False
  | (5, n, _), ls, st, σ, K => match st with | .ref x :: st => (match lvSet ls n (.ref x) with | some ls => K ls st σ | none => False) | _ => False
  | (6, n, _), ls, st, σ, K => match st with | .long x :: st => (match lvSet ls n (.long x) with | some ls => K ls st σ | none => False) | _ => False
  | (7, n, _, _, v), ls, st, σ, K => match lvGet ls n with | some (.int x) => (match lvSet ls n (.int (x + v)) with | some ls => K ls st σ | none => False) | _ => False
  | (8, _), ls, st, σ, K => match st with | .int x :: st => K ls (.int x :: .int x :: st) σ | .ref x :: st => K ls (.ref x :: .ref x :: st) σ | _ => False
  | (9, _), ls, st, σ, K => match st with | .int _ :: st => K ls st σ | .ref _ :: st => K ls st σ | _ => False
  | (10, _), ls, st, σ, K => match st with | .int y :: .ref x :: st => K ls (.int y :: .ref x :: .int y :: .ref x :: st) σ | .int y :: .int x :: st => K ls (.int y :: .int x :: .int y :: .int x :: st) σ | _ => False
  | (11, _), ls, st, σ, K => match st with | .int y :: .int x :: st => K ls (.int (x + y) :: st) σ | _ => False
  | (12, _), ls, st, σ, K => match st with | .int y :: .int x :: st => K ls (.int (x - y) :: st) σ | _ => False
  | (13, _), ls, st, σ, K => match st with | .int y :: .int x :: st => K ls (.int (x * y) :: st) σ | _ => False
  | (14, _), ls, st, σ, K => match st with | .int y :: .int x :: st => (¬ y = 0) ∧ K ls (.int (x / y) :: st) σ | _ => False
  | (15, _), ls, st, σ, K => match st with | .int y :: .int x :: st => (¬ y = 0) ∧ K ls (.int (x - x / y * y) :: st) σ | _ => False
  | (16, _), ls, st, σ, K => match st with | .int y :: .int x :: st => K ls (.int (x &&& y) :: st) σ | _ => False
  | (17, _), ls, st, σ, K => match st with | .int y :: .int x :: st => K ls (.int (x ||| y) :: st) σ | _ => False
  | (18, _), ls, st, σ, K => match st with | .int y :: .int x :: st => K ls (.int (x ^^^ y) :: st) σ | _ => False
  | (19, _), ls, st, σ, K => match st with | .int y :: .int x :: st => K ls (.int (x <<< (y &&& 31)) :: st) σ | _ => False
  | (20, _), ls, st, σ, K => match st with | .int y :: .int x :: st => K ls (.int (x >>> (y &&& 31)) :: st) σ | _ => False
  | (21, _), ls, st, σ, K => match st with | .int y :: .int x :: st => K ls (.int (x.toUInt32 >>> (y.toUInt32 &&& Int32.toUInt32 31)).toInt32 :: st) σ | _ => False
  | (22, _), ls, st, σ, K => match st with | .long y :: .long x :: st => K ls (.long (x + y) :: st) σ | _ => False
  | (23, _), ls, st, σ, K => match st with | .long y :: .long x :: st => K ls (.long (x - y) :: st) σ | _ => False
  | (24, _), ls, st, σ, K => match st with | .long y :: .long x :: st => K ls (.long (x * y) :: st) σ | _ => False
  | (25, _), ls, st, σ, K => match st with | .long y :: .long x :: st => (¬ y = 0) ∧ K ls (.long (x / y) :: st) σ | _ => False
  | (26, _), ls, st, σ, K => match st with | .long y :: .long x :: st => (¬ y = 0) ∧ K ls (.long (x - x / y * y) :: st) σ | _ => False
  | (27, _), ls, st, σ, K => match st with | .long y :: .long x :: st => K ls (.int (lg_cmp x y) :: st) σ | _ => False
  | (28, _), ls, st, σ, K => match st with | .int x :: st => K ls (.long x.toInt64 :: st) σ | _ => False
  | (29, _), ls, st, σ, K => match st with | .long x :: st => K ls (.int x.toInt32 :: st) σ | _ => False
  | (30, _), ls, st, σ, K => match st with | .int x :: st => K ls (.int x.toInt8.toInt32 :: st) σ | _ => False
  | (31, _), ls, st, σ, K => match st with | .int x :: st => K ls (.int x.toInt16.toInt32 :: st) σ | _ => False
  | (32, _), ls, st, σ, K => match st with | .int x :: st => K ls (.int (x.toUInt32 % 65536).toInt32 :: st) σ | _ => False
  | (33, _, c, j, _), ls, st, σ, K => match st with | .ref k :: st => (k < nC g ∧ (shp g k).1 = c) ∧ K ls (.int (σ.1 k j) :: st) σ | _ => False
  | (34, _, c, j, _), ls, st, σ, K => match st with | .ref k :: st => (k < nC g ∧ (shp g k).1 = c) ∧ K ls (.long (σ.2 k j) :: st) σ | _ => False
  | (35, _, c, j, _), ls, st, σ, K => match st with | .ref k :: st => (k < nC g ∧ (shp g k).1 = c) ∧ K ls (.ref (rfs g k j) :: st) σ | _ => False
  | (36, _, c, j, _), ls, st, σ, K => match st with | .int v :: .ref k :: st => (k < nC g ∧ (shp g k).1 = c) ∧ K ls st (si σ k j v) | _ => False
  | (37, _, c, j, _), ls, st, σ, K => match st with | .int v :: .ref k :: st => (k < nC g ∧ (shp g k).1 = c) ∧ (v = 0 ∨ v = 1) ∧ K ls st (si σ k j v) | _ => False
  | (38, _, c, j, _), ls, st, σ, K => match st with | .long v :: .ref k :: st => (k < nC g ∧ (shp g k).1 = c) ∧ K ls st (sl σ k j v) | _ => False
  | (39, _), ls, st, σ, K => match st with | .int i :: .ref k :: st => (k < nC g ∧ (shp g k).1 = 100) ∧ vp_in i (shp g k).2 ∧ K ls (.int (σ.1 k i.toNatClampNeg) :: st) σ | _ => False
  | (40, _), ls, st, σ, K => match st with | .int v :: .int i :: .ref k :: st => (k < nC g ∧ (shp g k).1 = 100) ∧ vp_in i (shp g k).2 ∧ K ls st (si σ k i.toNatClampNeg v) | _ => False
  | (41, _), ls, st, σ, K => match st with | .int i :: .ref k :: st => (k < nC g ∧ (shp g k).1 = 101) ∧ vp_in i (shp g k).2 ∧ K ls (.int (σ.1 k i.toNatClampNeg) :: st) σ | _ => False
  | (42, _), ls, st, σ, K => match st with | .int i :: .ref k :: st => (k < nC g ∧ ((shp g k).1 = 102 ∨ (shp g k).1 = 103)) ∧ vp_in i (shp g k).2 ∧ K ls (.ref (rfs g k i.toNatClampNeg) :: st) σ | _ => False
  | (43, _), ls, st, σ, K => match st with | .ref k :: st => (k < nC g ∧ ((shp g k).1 = 100 ∨ (shp g k).1 = 101)) ∧ K ls (.int (nI (shp g k).2) :: st) σ | _ => False
  | (44, _), ls, st, σ, K => match st with | .int i :: .ref k :: st => (g = 0 ∧ 200 ≤ k ∧ k < 206) ∧ vp_in i (shp g k).2 ∧ K ls (.int (cst k i.toNatClampNeg) :: st) σ | _ => False
  | (45, _, k, _), ls, st, σ, K => g = 0 ∧ K ls (.ref k :: st) σ
  | (46, _), ls, st, σ, K => g = 0 ∧ K ls (.int 1 :: st) σ
  | (47, _), ls, st, σ, K => g = 0 ∧ K ls (.null :: st) σ ∧ K ls (.ref 999 :: st) σ
  | (48, _, k, _), ls, st, σ, K => g = 0 ∧ K ls (.ref k :: st) σ
  | (49, _), ls, st, σ, K => match st with | .ref k :: st => (g = 0 ∧ 300 ≤ k ∧ k < 316) ∧ K ls (.ref (k + 100) :: st) σ | _ => False
  | (50, _), ls, st, σ, K => match st with | .ref k :: st => (g = 0 ∧ 300 ≤ k ∧ k < 316) ∧ K ls (.int 0 :: st) σ | _ => False
  | (51, _), ls, st, σ, K => match st with | .int i :: .ref k :: st => (g = 0 ∧ 400 ≤ k ∧ k < 416) ∧ vp_in i (shp g k).2 ∧ K ls (.int (cst k i.toNatClampNeg) :: st) σ | _ => False
  | (52, _), ls, st, σ, K => match st with | .ref k :: st => (g = 0 ∧ 400 ≤ k ∧ k < 416) ∧ K ls (.int (nI (shp g k).2) :: st) σ | _ => False
  | (53, _, v, _), ls, st, σ, K => K ls (.long (lN v) :: st) σ
  | (54, _, n, y, _), ls, st, σ, K => le4 (st.drop n) (n ≤ st.length ∧ Sp y (st.take n).reverse σ (fun r σ => K ls (r.toList ++ st.drop n) σ))
  | (55, _, n, y, _), ls, st, σ, K => le4 (st.drop n) (n ≤ st.length ∧ Sp y (st.take n).reverse σ (fun r σ => K ls (r.toList ++ st.drop n) σ))
  | (56, _), ls, st, σ, K => match st with | .int n :: .int dp :: .ref k :: .int sp :: .ref k0 :: st => (k < nC g ∧ (shp g k).1 = 100) ∧ (k0 < nC g ∧ (shp g k0).1 = 100) ∧ (¬ sp < 0 ∧ ¬ dp < 0 ∧ ¬ n < 0) ∧ (sp.toNatClampNeg + n.toNatClampNeg ≤ (shp g k0).2 ∧ dp.toNatClampNeg + n.toNatClampNeg ≤ (shp g k).2) ∧ le4 st (K ls st (sr σ k (va_cpy (σ.1 k0) (σ.1 k) sp.toNatClampNeg dp.toNatClampNeg n.toNatClampNeg))) | _ => False
  | (57, _), ls, st, σ, K => match st with | .int y :: .int x :: st => le4 st (K ls (.int (if y < x then y else x) :: st) σ) | _ => False
  | (58, _), ls, st, σ, K => match st with | .int y :: .int x :: st => le4 st (K ls (.int (if x < y then y else x) :: st) σ) | _ => False
  | (59, _), ls, st, σ, K => match st with | .long y :: .long x :: st => le4 st (K ls (.long (if y < x then x else y) :: st) σ) | _ => False
  | _, _, _, _, _ => False
def wpL (g : Nat) (Sp : SPT) : List RI → List Value → List Value → St2 → KT → Prop
  | [], ls, st, σ, K => K ls st σ
  | i :: L, ls, st, σ, K => wpI g Sp i ls st σ (fun ls st σ => wpL g Sp L ls st σ K)
def swP (P : Nat → KT) (x : Int32) (d : Nat) (ls st : List Value) (σ : St2) : List (Int32 × Nat) → Prop
  | [] => P d ls st σ
  | q :: l => (x = q.1 → P q.2 ls st σ) ∧ (¬ x = q.1 → swP P x d ls st σ l)
def wpT (P : Nat → KT) (Post : PO) : RI → List (Int32 × Nat) → KT
  | (70, t, _), _ => fun ls st σ => P t ls st σ
  | (71, t, _), _ => fun ls st σ => P t ls st σ
  | (72, t, n, _), _ => fun ls st σ => match st with | .int x :: st => (x = 0 → P t ls st σ) ∧ (¬ x = 0 → P n ls st σ) | _ => False
  | (73, t, n, _), _ => fun ls st σ => match st with | .int x :: st => (¬ x = 0 → P t ls st σ) ∧ (x = 0 → P n ls st σ) | _ => False
  | (74, t, n, _), _ => fun ls st σ => match st with | .int x :: st => (x < 0 → P t ls st σ) ∧ (¬ x < 0 → P n ls st σ) | _ => False
  | (75, t, n, _), _ => fun ls st σ => match st with | .int x :: st => (¬ x < 0 → P t ls st σ) ∧ (x < 0 → P n ls st σ) | _ => False
  | (76, t, n, _), _ => fun ls st σ => match st with | .int x :: st => (0 < x → P t ls st σ) ∧ (¬ 0 < x → P n ls st σ) | _ => False
  | (77, t, n, _), _ => fun ls st σ => match st with | .int x :: st => (¬ 0 < x → P t ls st σ) ∧ (0 < x → P n ls st σ) | _ => False
  | (78, t, n, _), _ => fun ls st σ => match st with | .int y :: .int x :: st => (x = y → P t ls st σ) ∧ (¬ x = y → P n ls st σ) | _ => False
  | (79, t, n, _), _ => fun ls st σ => match st with | .int y :: .int x :: st => (¬ x = y → P t ls st σ) ∧ (x = y → P n ls st σ) | _ => False
  | (80, t, n, _), _ => fun ls st σ => match st with | .int y :: .int x :: st => (x < y → P t ls st σ) ∧ (¬ x < y → P n ls st σ) | _ => False
  | (81, t, n, _), _ => fun ls st σ => match st with | .int y :: .int x :: st => (¬ x < y → P t ls st σ) ∧ (x < y → P n ls st σ) | _ => False
  | (82, t, n, _), _ => fun ls st σ => match st with | .int y :: .int x :: st => (y < x → P t ls st σ) ∧ (¬ y < x → P n ls st σ) | _ => False
  | (83, t, n, _), _ => fun ls st σ => match st with | .int y :: .int x :: st => (¬ y < x → P t ls st σ) ∧ (y < x → P n ls st σ) | _ => False
  | (84, _), _ => fun _ st σ => match st with | [.int x] => Post (some (.int x)) σ | _ => False
  | (85, _), _ => fun _ st σ => match st with | [.int x] => (x = 0 ∨ x = 1) ∧ Post (some (.int x)) σ | _ => False
  | (86, _), _ => fun _ st σ => match st with | [.long x] => Post (some (.long x)) σ | _ => False
  | (87, _), _ => fun _ st σ => match st with | [] => Post none σ | _ => False
  | (88, _), _ => fun _ st σ => match st with | [.ref x] => Post (some (.ref x)) σ | _ => False
  | (89, _), _ => fun _ st σ => match st with | [.int x] => narrow .char (.int x) = .int x ∧ Post (some (.int x)) σ | _ => False
  | (92, _), _ => fun _ st σ => match st with | [.int x] => narrow .byte (.int x) = .int x ∧ Post (some (.int x)) σ | _ => False
  | (90, d, _), l => fun ls st σ => match st with | .int x :: st => swP P x d ls st σ l | _ => False
  | (91, d, _), l => fun ls st σ => match st with | .int x :: st => swP P x d ls st σ l | _ => False
  | _, _ => fun _ _ _ => False
end
section
/-! worlds, contracts, and what holds while a method runs -/
abbrev EV : Type := (Nat → Nat) × va_G × (Nat → ClassId)
def mv (ev : EV) : Value → Value
  | .ref k => .ref (ev.1 k)
  | v => v
def fvl (ev : EV) (g : Nat) (σ : St2) (c k j : Nat) : Value := match fkT c j with
  | 0 => .int (σ.1 k j)
  | 1 => .int (σ.1 k j)
  | 2 => .long (σ.2 k j)
  | _ => .ref (ev.1 (rfs g k j))
def cN (c : Nat) : Nat := (fkL.getD c []).length
def ent (ev : EV) (g : Nat) (σ : St2) (k : Nat) : va_E :=
  if (shp g k).1 < 10 then .inr ((shp g k).1, (List.range (cN (shp g k).1)).map (fvl ev g σ (shp g k).1 k))
  else if (shp g k).1 < 102 then .inl (ev.2.2 (shp g k).1, (shp g k).2, .inl (σ.1 k))
  else .inl (ev.2.2 (shp g k).1, (shp g k).2, .inr (.inr (.inr (.inr (fun j => some (ev.1 (rfs g k j)))))))
def wld (ev : EV) (g : Nat) (σ : St2) : va_W := (List.range (nC g)).map (fun k => (ev.1 k, ent ev g σ k))
abbrev Hld (g : Nat) (ev : EV) (σ : St2) (H : Heap) : Prop := va_P ev.2.1 cls7 (wld ev g σ) H
def tysG (ev : EV) : List (ClassId × FieldType) := [(ev.2.2 100, .int), (ev.2.2 101, .char), (ev.2.2 102, .array .int), (ev.2.2 103, .object "ChainedChest$Sheet")]
abbrev Kno (ev : EV) (U : State) : Prop := va_K ev.2.1 cls7 (tysG ev) U
def Af (g : Nat) (ev : EV) : Nat → Prop := fun q => ∃ k, k < nC g ∧ q = ev.1 k
def Inj (g : Nat) (ev : EV) : Prop := ∀ i j, i < nC g → j < nC g → ev.1 i = ev.1 j → i = j
def stN (k : Nat) : String := ["LEAST_TRAIT", "MOST_TRAIT", "FIRST_TRAIT", "MOST_RULE", "FIRST_RULE", "PARENT"].getD (k - 200) ""
def sioD : String := "Ljava/util/function/BiFunction;"
def ExA (ev : EV) (A : Nat → Prop) (U : State) (H : Heap) : Prop := ∀ k, 200 ≤ k → k < 206 → va_Z RX0 (stN k) "[I" (.ref (ev.1 k)) A U H ∧ va_T .int (ev.1 k) (shp 0 k).2 (fun j => .int (cst k j)) A U H
def ExS (ev : EV) (A : Nat → Prop) (U : State) (H : Heap) : Prop := ∀ k, 300 ≤ k → k < 316 → ∀ q, strL[k - 300]? = some q → vk_R RX3 q.1 q.2 (ev.1 k) U ∧ va_O "java/lang/String" (ev.1 k) A U H ∧ va_OF "java/lang/String" "coder" "B" (.int 0) (ev.1 k) A U H ∧ va_OF "java/lang/String" "value" "[B" (.ref (ev.1 (k + 100))) (ev.1 k) A U H ∧ va_T .byte (ev.1 (k + 100)) (shp 0 (k + 100)).2 (fun j => .int (cst (k + 100) j)) A U H
def ExC (A : Nat → Prop) (U : State) (H : Heap) : Prop := va_Z "java/lang/String" "COMPACT_STRINGS" "Z" (.int 1) A U H
def ExQ (ev : EV) (A : Nat → Prop) (U : State) (H : Heap) : Prop := va_Z "jdk/internal/util/Preconditions" "SIOOBE_FORMATTER" sioD .null A U H ∨ va_Z "jdk/internal/util/Preconditions" "SIOOBE_FORMATTER" sioD (.ref (ev.1 999)) A U H
def Ex (g : Nat) (ev : EV) (U : State) (H : Heap) : Prop := g = 0 → ExA ev (Af g ev) U H ∧ ExS ev (Af g ev) U H ∧ ExC (Af g ev) U H ∧ ExQ ev (Af g ev) U H
theorem Ex.warm {g : Nat} {ev : EV} {s U : State} {H : Heap} (hW : s.WarmedH U.vm) (h : Ex g ev s H) : Ex g ev U H := fun h0 =>
  ⟨fun k h1 h2 => ⟨va_Z.moved hW.alike ((h h0).1 k h1 h2).1, va_T.moved hW.alike ((h h0).1 k h1 h2).2⟩,
   fun k h1 h2 q hq => ⟨vk_R.warm hW ((h h0).2.1 k h1 h2 q hq).1, va_O.moved hW.alike ((h h0).2.1 k h1 h2 q hq).2.1, va_OF.moved hW.alike ((h h0).2.1 k h1 h2 q hq).2.2.1, va_OF.moved hW.alike ((h h0).2.1 k h1 h2 q hq).2.2.2.1, va_T.moved hW.alike ((h h0).2.1 k h1 h2 q hq).2.2.2.2⟩,
   va_Z.moved hW.alike (h h0).2.2.1, (h h0).2.2.2.elim (fun z => Or.inl (va_Z.moved hW.alike z)) (fun z => Or.inr (va_Z.moved hW.alike z))⟩
theorem Ex.kept {g : Nat} {ev : EV} {U : State} {H H1 : Heap} (h : Ex g ev U H) (hq : ∀ a : Nat, a < H.size → ¬ Af g ev a → H1[a]? = H[a]?) : Ex g ev U H1 := fun h0 =>
  ⟨fun k h1 h2 => ⟨((h h0).1 k h1 h2).1.kept hq, ((h h0).1 k h1 h2).2.kept hq⟩,
   fun k h1 h2 q hs => ⟨((h h0).2.1 k h1 h2 q hs).1, ((h h0).2.1 k h1 h2 q hs).2.1.kept hq, ((h h0).2.1 k h1 h2 q hs).2.2.1.kept hq, ((h h0).2.1 k h1 h2 q hs).2.2.2.1.kept hq, ((h h0).2.1 k h1 h2 q hs).2.2.2.2.kept hq⟩,
   (h h0).2.2.1.kept hq, (h h0).2.2.2.elim (fun z => Or.inl (z.kept hq)) (fun z => Or.inr (z.kept hq))⟩
def Wrd (g : Nat) (ev : EV) (σ : St2) (U : State) : Prop := Hld g ev σ U.heap ∧ Inj g ev ∧ Kno ev U ∧ Ex g ev U U.heap
def lwG : List Cond := lw_tbl.filter goodWord
def wsM (μ : Nat) : List Cond := .code (mY μ) (mB μ) (mX μ) (mR μ) :: lwG
def rmM (μ : Nat) : Room := { frames := mE μ, cells := 0, slots := 0, locals := 40 * mE μ }
def QcO (g : Nat) (ev : EV) (Post : PO) : Array Value → State → Outcome → State → Prop := fun _ st o t => (∃ (r : Option Value) (σ : St2), o = .returned (r.map (mv ev)) ∧ Post r σ ∧ Wrd g ev σ t) ∧ va_F (Af g ev) st t
def rcv (g c k : Nat) : Prop := (k < nC g ∧ (shp g k).1 = c ∧ c < 7) ∨ (c = 9 ∧ g = 0 ∧ 300 ≤ k ∧ k < 316)
def Rn (g : Nat) (ev : EV) (μ : Nat) (as : List Value) (σ : St2) (K : PO) : Prop := (mS μ = false → ∃ (k : Nat) (as' : List Value), as = .ref k :: as' ∧ rcv g (mC μ) k) ∧ as.length = mA μ ∧
  ∀ l : Launch, Met l (mY μ) (wsM μ) (rmM μ) (va_Pc (as.map (mv ev)) (Wrd g ev σ)) (QcO g ev K) 0 0 (Af g ev)
def Cx (g : Nat) (ev : EV) (μ : Nat) (p : Program) (s : State) (m : MethodId) (args : Array Value) (meth : Method) (c : Code) : Prop :=
  p.tables.exec = Jvm.exec ∧ c.code = mB μ ∧ meth.sig.returnType = mR μ ∧ c.maxLocals = mX μ ∧ s.vm.findClass (ocN (mC μ)) = some m.cls ∧ (∀ w ∈ wsM μ, w.before args s = true) ∧ meth.locks = false ∧ Inj g ev ∧ Kno ev s ∧ Ex g ev s s.heap
def PW (g : Nat) (ev : EV) (μ pc : Nat) (ls st : List Value) (σ : St2) (Post : PO) : Prop :=
  ∀ (p : Program) (l : Launch) (e : Env) (s : State) (m : MethodId) (args : Array Value) (below : List Frame) (meth : Method) (c : Code) (H : Heap) (locs : List Loc) (ms : Array Slot),
    Cx g ev μ p s m args meth c → Hld g ev σ H → va_S (Af g ev) s.heap H locs → lv_has ms (mX μ) (lv_args 0 (ls.map (mv ev))) →
    W p l e (rmM μ) s m args below meth c H locs 0 0 (MQ below (QcO g ev Post) args s 0 0 (Af g ev)) (F0 m pc ms (st.map (mv ev)))
/-! the tables' facts -/
theorem fkT_c : ∀ c, c < 7 → ∀ j, j < cN c → ((cls7.getD c default).2.2 = cN c) := by decide +kernel
end
section
/-! locals -/
theorem mv_cat (ev : EV) (v : Value) : (mv ev v).category = v.category := by cases v <;> rfl
theorem la_ge (l : List Value) : ∀ (b : Nat) (q : Nat × Value), q ∈ lv_args b l → b ≤ q.1 := by
  induction l with
  | nil => intro b q h; cases h
  | cons v l ih =>
    intro b q h
    rcases List.mem_cons.mp h with rfl | h
    · exact Nat.le_refl _
    · have := ih _ q h
      split at this <;> omega
theorem la_cons (b : Nat) (v : Value) (l : List Value) : lv_args b (v :: l) = (b, v) :: lv_args (b + v.category) l := by
  show (b, v) :: lv_args (if v.category = 2 then b + 2 else b + 1) l = _
  rcases lv_cat v with h | h <;> rw [h] <;> rfl
theorem lvGet_mem (ev : EV) : ∀ (ls : List Value) (n b : Nat) (v : Value), lvGet ls n = some v → (b + n, mv ev v) ∈ lv_args b (ls.map (mv ev)) := by
  intro ls n
  induction ls, n using lvGet.induct with
  | case1 n => intro b v h; simp [lvGet] at h
  | case2 w l => intro b v h; simp [lvGet] at h; subst h; rw [List.map_cons, la_cons]; exact List.mem_cons_self
  | case3 x l => intro b v h; simp [lvGet] at h
  | case4 x l n ih => intro b v h; rw [lvGet] at h; rw [List.map_cons, la_cons]; have := ih (b + 2) v h; rw [show b + 2 + n = b + (n + 2) by omega] at this; exact List.mem_cons_of_mem _ this
  | case5 x l => intro b v h; simp [lvGet] at h
  | case6 x l n ih => intro b v h; rw [lvGet] at h; rw [List.map_cons, la_cons]; have := ih (b + 2) v h; rw [show b + 2 + n = b + (n + 2) by omega] at this; exact List.mem_cons_of_mem _ this
  | case7 w l n h1 h2 h3 h4 ih =>
    intro b v h
    have hw : w.category = 1 := by
      cases w <;> first | rfl | skip
      · cases n with
        | zero => exact absurd rfl (h1 _ rfl)
        | succ n => exact absurd rfl (h2 _ _ rfl)
      · cases n with
        | zero => exact absurd rfl (h3 _ rfl)
        | succ n => exact absurd rfl (h4 _ _ rfl)
    have e : lvGet (w :: l) (n + 1) = lvGet l n := by cases w <;> first | (cases n <;> rfl) | (simp [Value.category] at hw)
    rw [e] at h
    rw [List.map_cons, la_cons, mv_cat, hw]
    have := ih (b + 1) v h
    rw [show b + 1 + n = b + (n + 1) by omega] at this
    exact List.mem_cons_of_mem _ this
theorem lvGet_ok {ev : EV} {ms : Array Slot} {nL : Nat} {ls : List Value} {n : Nat} {v : Value} (h : lv_has ms nL (lv_args 0 (ls.map (mv ev)))) (hg : lvGet ls n = some v) : ms[n]? = some (.val (mv ev v)) := by
  have := h.2.2 _ (lvGet_mem ev ls n 0 v hg)
  simpa using this
theorem sameCat_eq {w v : Value} (h : sameCat w v = true) : w.category = v.category := by
  cases w <;> cases v <;> first | rfl | (simp [sameCat] at h)
theorem lvSet_mem (ev : EV) : ∀ (ls : List Value) (n : Nat) (v : Value) (b : Nat) (ls' : List Value), lvSet ls n v = some ls' → ∀ q ∈ lv_args b (ls'.map (mv ev)), q = (b + n, mv ev v) ∨ (q ∈ lv_args b (ls.map (mv ev)) ∧ q.1 ≠ b + n ∧ ¬ (q.1 + 1 = b + n ∧ q.2.category = 2) ∧ (v.category = 2 → q.1 ≠ b + n + 1)) := by
  intro ls
  induction hL : ls.length generalizing ls with
  | zero =>
    intro n v b ls' h q hq
    have : ls = [] := List.eq_nil_of_length_eq_zero hL
    subst this
    cases n with
    | zero => simp [lvSet] at h; subst h; rw [List.map_cons, la_cons] at hq; rcases List.mem_cons.mp hq with rfl | h; exact Or.inl rfl; cases h
    | succ n => simp [lvSet] at h
  | succ N ih =>
    intro n v b ls' h q hq
    obtain ⟨w, l, rfl⟩ : ∃ w l, ls = w :: l := by cases ls with
      | nil => simp at hL
      | cons w l => exact ⟨w, l, rfl⟩
    have hl : l.length = N := by simpa using hL
    cases n with
    | zero =>
      have e : lvSet (w :: l) 0 v = if sameCat w v then some (v :: l) else some [v] := by cases w <;> rfl
      rw [e] at h
      split at h
      next hs =>
        cases h
        rw [List.map_cons, la_cons] at hq
        rcases List.mem_cons.mp hq with rfl | h
        · exact Or.inl rfl
        · have hg := la_ge _ _ _ h
          rw [mv_cat] at hg h
          have hc := sameCat_eq hs
          refine Or.inr ⟨?_, ?_, ?_, ?_⟩
          · rw [List.map_cons, la_cons, mv_cat, hc]; exact List.mem_cons_of_mem _ h
          · rcases lv_cat v with z | z <;> omega
          · rcases lv_cat v with z | z <;> omega
          · intro z; omega
      next =>
        cases h
        rw [List.map_cons, la_cons] at hq
        rcases List.mem_cons.mp hq with rfl | h
        · exact Or.inl rfl
        · cases h
    | succ n =>
      have key : ∀ (k n' : Nat) (l' : List Value), k = w.category → n + 1 = n' + k → lvSet l n' v = some l' → ls' = w :: l' → (q = (b + (n + 1), mv ev v) ∨ (q ∈ lv_args b ((w :: l).map (mv ev)) ∧ q.1 ≠ b + (n + 1) ∧ ¬ (q.1 + 1 = b + (n + 1) ∧ q.2.category = 2) ∧ (v.category = 2 → q.1 ≠ b + (n + 1) + 1))) := by
        intro k n' l' hk hn hs he
        subst he
        rw [List.map_cons, la_cons] at hq
        rcases List.mem_cons.mp hq with rfl | h1
        · refine Or.inr ⟨by rw [List.map_cons, la_cons]; exact List.mem_cons_self, by simp only; omega, ?_, fun _ => by simp only; omega⟩
          simp only [mv_cat]
          rintro ⟨h2, h3⟩
          omega
        · rw [mv_cat, ← hk] at h1
          rcases ih l hl n' v (b + k) l' hs q h1 with h2 | ⟨h2, h3, h4, h5⟩
          · left; rw [h2]; congr 1; omega
          · refine Or.inr ⟨?_, by omega, ?_, fun z => by have := h5 z; omega⟩
            · rw [List.map_cons, la_cons, mv_cat, ← hk]; exact List.mem_cons_of_mem _ h2
            · rw [show b + (n + 1) = b + k + n' by omega]; exact h4
      have step1 : ∀ (_ : w.category = 1) (_ : lvSet (w :: l) (n + 1) v = (lvSet l n v).map (w :: ·)), (q = (b + (n + 1), mv ev v) ∨ (q ∈ lv_args b ((w :: l).map (mv ev)) ∧ q.1 ≠ b + (n + 1) ∧ ¬ (q.1 + 1 = b + (n + 1) ∧ q.2.category = 2) ∧ (v.category = 2 → q.1 ≠ b + (n + 1) + 1))) := by
        intro hw e
        rw [e] at h
        cases hs : lvSet l n v with
        | none => rw [hs] at h; cases h
        | some l' => rw [hs] at h; cases h; exact key 1 n l' hw.symm rfl hs rfl
      cases w with
      | long x =>
        cases n with
        | zero => simp [lvSet] at h
        | succ n =>
          rw [lvSet] at h
          cases hs : lvSet l n v with
          | none => rw [hs] at h; cases h
          | some l' => rw [hs] at h; cases h; exact key 2 n l' rfl rfl hs rfl
      | double x =>
        cases n with
        | zero => simp [lvSet] at h
        | succ n =>
          rw [lvSet] at h
          cases hs : lvSet l n v with
          | none => rw [hs] at h; cases h
          | some l' => rw [hs] at h; cases h; exact key 2 n l' rfl rfl hs rfl
      | int x => exact step1 rfl (by cases n <;> rfl)
      | float x => exact step1 rfl (by cases n <;> rfl)
      | null => exact step1 rfl (by cases n <;> rfl)
      | ref x => exact step1 rfl (by cases n <;> rfl)
      | retAddr x => exact step1 rfl (by cases n <;> rfl)
theorem lvSet_1 {ev : EV} {ms : Array Slot} {nL n : Nat} {ls ls' : List Value} {v : Value} (hs : lvSet ls n v = some ls') (h : lv_has ms nL ((n, mv ev v) :: (lv_args 0 (ls.map (mv ev))).filter (fun q => !(q.1 == n) && !(q.1 + 1 == n && q.2.category == 2)))) : lv_has ms nL (lv_args 0 (ls'.map (mv ev))) := by
  refine ⟨h.1, h.2.1, fun q hq => h.2.2 q ?_⟩
  rcases lvSet_mem ev ls n v 0 ls' hs q hq with h1 | ⟨h1, h2, h3, -⟩
  · rw [h1, Nat.zero_add]; exact List.mem_cons_self
  · refine List.mem_cons_of_mem _ (List.mem_filter.mpr ⟨h1, ?_⟩)
    rw [Nat.zero_add] at h2 h3
    simp only [Bool.and_eq_true, Bool.not_eq_true', beq_eq_false_iff_ne, ne_eq, Bool.and_eq_false_iff]
    refine ⟨h2, ?_⟩
    by_cases z : q.1 + 1 = n
    · exact Or.inr (fun y => h3 ⟨z, y⟩)
    · exact Or.inl z
theorem lvSet_2 {ev : EV} {ms : Array Slot} {nL n : Nat} {ls ls' : List Value} {v : Value} (hc : v.category = 2) (hs : lvSet ls n v = some ls') (h : lv_has ms nL ((n, mv ev v) :: (lv_args 0 (ls.map (mv ev))).filter (fun q => !(q.1 == n) && (!(q.1 == n + 1) && !(q.1 + 1 == n && q.2.category == 2))))) : lv_has ms nL (lv_args 0 (ls'.map (mv ev))) := by
  refine ⟨h.1, h.2.1, fun q hq => h.2.2 q ?_⟩
  rcases lvSet_mem ev ls n v 0 ls' hs q hq with h1 | ⟨h1, h2, h3, h4⟩
  · rw [h1, Nat.zero_add]; exact List.mem_cons_self
  · refine List.mem_cons_of_mem _ (List.mem_filter.mpr ⟨h1, ?_⟩)
    rw [Nat.zero_add] at h2 h3 h4
    simp only [Bool.and_eq_true, Bool.not_eq_true', beq_eq_false_iff_ne, ne_eq, Bool.and_eq_false_iff]
    refine ⟨h2, h4 hc, ?_⟩
    by_cases z : q.1 + 1 = n
    · exact Or.inr (fun y => h3 ⟨z, y⟩)
    · exact Or.inl z
/-! cells -/
theorem wld_get {ev : EV} {g : Nat} {σ : St2} {k : Nat} (h : k < nC g) : (wld ev g σ)[k]? = some (ev.1 k, ent ev g σ k) := by
  simp [wld, h]
theorem wld_len (ev : EV) (g : Nat) (σ : St2) : (wld ev g σ).length = nC g := by simp [wld]
theorem wld_D {ev : EV} {g : Nat} {σ : St2} (h : Inj g ev) : va_D (Af g ev) (wld ev g σ) := by
  have key : ∀ (i : Nat) (p : Nat × va_E), (wld ev g σ)[i]? = some p → i < nC g ∧ p = (ev.1 i, ent ev g σ i) := by
    intro i p hp
    have hi : i < nC g := by rw [← wld_len ev g σ]; exact (List.getElem?_eq_some_iff.mp hp).1
    rw [wld_get hi] at hp
    exact ⟨hi, (Option.some.inj hp).symm⟩
  refine ⟨fun i j p q hi hj e => ?_, fun k q hk => ?_⟩
  · obtain ⟨h1, rfl⟩ := key i p hi
    obtain ⟨h2, rfl⟩ := key j q hj
    exact h i j h1 h2 e
  · obtain ⟨h1, rfl⟩ := key k q hk
    exact ⟨k, h1, rfl⟩
theorem wld_set {ev : EV} {g : Nat} {σ τ : St2} {k : Nat} (h1 : ∀ i, i ≠ k → τ.1 i = σ.1 i) (h2 : ∀ i, i ≠ k → τ.2 i = σ.2 i) : (wld ev g σ).set k (ev.1 k, ent ev g τ k) = wld ev g τ := by
  apply List.ext_getElem?
  intro i
  by_cases hi : i < nC g
  · by_cases hk : i = k
    · subst hk
      rw [List.getElem?_set_self (by rw [wld_len]; exact hi), wld_get hi]
    · rw [List.getElem?_set_ne (Ne.symm hk), wld_get hi, wld_get hi]
      have : ent ev g τ i = ent ev g σ i := by
        unfold ent
        rw [h1 i hk]
        have : fvl ev g τ (shp g i).1 i = fvl ev g σ (shp g i).1 i := by
          funext j
          unfold fvl
          rw [h1 i hk, h2 i hk]
        rw [this]
      rw [this]
  · rw [List.getElem?_eq_none (by rw [List.length_set, wld_len]; omega), List.getElem?_eq_none (by rw [wld_len]; omega)]
theorem ent_o {ev : EV} {g : Nat} {σ : St2} {k c : Nat} (h : (shp g k).1 = c) (hc : c < 7) : ent ev g σ k = .inr (c, (List.range (cN c)).map (fvl ev g σ c k)) := by
  unfold ent
  rw [h, if_pos (by omega)]
theorem ent_i {ev : EV} {g : Nat} {σ : St2} {k c : Nat} (h : (shp g k).1 = c) (hc : c = 100 ∨ c = 101) : ent ev g σ k = .inl (ev.2.2 c, (shp g k).2, .inl (σ.1 k)) := by
  unfold ent
  rw [h, if_neg (by omega), if_pos (by omega)]
theorem ent_r {ev : EV} {g : Nat} {σ : St2} {k c : Nat} (h : (shp g k).1 = c) (hc : c = 102 ∨ c = 103) : ent ev g σ k = .inl (ev.2.2 c, (shp g k).2, .inr (.inr (.inr (.inr (fun j => some (ev.1 (rfs g k j))))))) := by
  unfold ent
  rw [h, if_neg (by omega), if_neg (by omega)]
end
section
/-! the tables' words that the calculus leans on -/
def tyG (c : Nat) : Nat → FieldType := match c with
  | 0 => tyX0 | 1 => tyX1 | 2 => tyX2 | 3 => tyX3 | 4 => tyX4 | 5 => tyX5 | _ => tyX6
def clG (c : Nat) : vw_C := match c with
  | 0 => (RX0, TX0, 8) | 1 => (RX1, TX1, 3) | 2 => (RX2, TX2, 4) | 3 => (RX3, TX3, 6) | 4 => (RX4, TX4, 11) | 5 => (RX5, TX5, 9) | _ => (RX6, TX6, 24)
theorem c7 {P : Nat → Prop} (h0 : P 0) (h1 : P 1) (h2 : P 2) (h3 : P 3) (h4 : P 4) (h5 : P 5) (h6 : P 6) : ∀ c, c < 7 → P c := by
  intro c hc
  match c, hc with
  | 0, _ => exact h0
  | 1, _ => exact h1
  | 2, _ => exact h2
  | 3, _ => exact h3
  | 4, _ => exact h4
  | 5, _ => exact h5
  | 6, _ => exact h6
  | n + 7, h => omega
theorem clG_at : ∀ c, c < 7 → cls7[c]? = some (clG c) ∧ (clG c).2.2 = cN c ∧ (clG c).1 = ocN c := c7 ⟨rfl, rfl, rfl⟩ ⟨rfl, rfl, rfl⟩ ⟨rfl, rfl, rfl⟩ ⟨rfl, rfl, rfl⟩ ⟨rfl, rfl, rfl⟩ ⟨rfl, rfl, rfl⟩ ⟨rfl, rfl, rfl⟩
theorem tyG_ok : ∀ c, c < 7 → ∀ k, k < (clG c).2.2 → parseFieldDescriptor ((clG c).2.1 k).2.2.1 = some (tyG c k) := c7 tyX0_ok tyX1_ok tyX2_ok tyX3_ok tyX4_ok tyX5_ok tyX6_ok
theorem nmG : ∀ c, c < 7 → ∀ a, a < (clG c).2.2 → ∀ b, b < (clG c).2.2 → a ≠ b → ((clG c).2.1 a).2.1 ≠ ((clG c).2.1 b).2.1 := c7 nmX0 nmX1 nmX2 nmX3 nmX4 nmX5 nmX6
theorem fkG : ∀ c, c < 7 → ∀ j, j < cN c → ((fkT c j = 0 → tyG c j = .int ∧ ((clG c).2.1 j).2.2.2 = false) ∧ (fkT c j = 1 → tyG c j = .boolean ∧ ((clG c).2.1 j).2.2.2 = false) ∧ (fkT c j = 2 → tyG c j = .long ∧ ((clG c).2.1 j).2.2.2 = false) ∧ ((clG c).2.1 j).1 = (clG c).1) := by decide +kernel
theorem inG0 : ([0, 1, 2, 3, 4, 5, 6].all (fun c => (u_ws (clG c).1 (clG c).2.1 (clG c).2.2).all (fun w => decide (w ∈ lw_tbl) && goodWord w))) = true := by decide +kernel
theorem lwG_in {w : Cond} (h1 : w ∈ lw_tbl) (h2 : goodWord w = true) : w ∈ lwG := List.mem_filter.mpr ⟨h1, h2⟩
theorem lwG_at {w : Cond} (i : Nat) (h : (lw_tbl[i]? == some w && goodWord w) = true) : w ∈ lwG := by
  simp only [Bool.and_eq_true, beq_iff_eq] at h
  exact lwG_in (List.mem_of_getElem? h.1) h.2
theorem lwG_good : ∀ w ∈ lwG, (w.onTables && w.keeps) = true ∨ ∃ ty, w = .arrayClass ty := fun _ h => good_of_word (List.mem_filter.mp h).2
theorem inG : ∀ c, c < 7 → ∀ w ∈ u_ws (clG c).1 (clG c).2.1 (clG c).2.2, w ∈ lwG := by
  intro c hc w hw
  have hm : c ∈ [0, 1, 2, 3, 4, 5, 6] := by
    have : c = 0 ∨ c = 1 ∨ c = 2 ∨ c = 3 ∨ c = 4 ∨ c = 5 ∨ c = 6 := by omega
    simpa using this
  have h := List.all_eq_true.mp inG0 c hm
  have h2 := List.all_eq_true.mp h w hw
  simp only [Bool.and_eq_true, decide_eq_true_eq] at h2
  exact lwG_in h2.1 h2.2
theorem ftab_all : (ftab.all (fun e => decide (e.2.2.1 < 7) && decide (e.2.2.2.1 < cN e.2.2.1) && (lw_tbl[e.2.2.2.2]? == some (.fieldLink (ocN e.1) e.2.1 ((clG e.2.2.1).2.1 e.2.2.2.1).1 ((clG e.2.2.1).2.1 e.2.2.2.1).2.1 ((clG e.2.2.1).2.1 e.2.2.2.1).2.2.1) && goodWord (.fieldLink (ocN e.1) e.2.1 ((clG e.2.2.1).2.1 e.2.2.2.1).1 ((clG e.2.2.1).2.1 e.2.2.2.1).2.1 ((clG e.2.2.1).2.1 e.2.2.2.1).2.2.1)))) = true := by decide +kernel
theorem ftab_use {μ i c j : Nat} (h : ftab.any (fun e => e.1 == mC μ && e.2.1 == i && e.2.2.1 == c && e.2.2.2.1 == j) = true) : c < 7 ∧ j < cN c ∧ Cond.fieldLink (ocN (mC μ)) i ((clG c).2.1 j).1 ((clG c).2.1 j).2.1 ((clG c).2.1 j).2.2.1 ∈ lwG := by
  obtain ⟨e, he, h1⟩ := List.any_eq_true.mp h
  have h2 := List.all_eq_true.mp ftab_all e he
  simp only [Bool.and_eq_true, beq_iff_eq, decide_eq_true_eq] at h1 h2
  obtain ⟨⟨⟨e1, e2⟩, e3⟩, e4⟩ := h1
  subst e2; subst e3; subst e4
  rw [← e1]
  exact ⟨h2.1.1, h2.1.2, lwG_in (List.mem_of_getElem? h2.2.1) h2.2.2⟩
theorem ctab_all : (ctab.all (fun e => lw_tbl[e.2.2.2]? == some (.constant (ocN e.1) e.2.1 e.2.2.1) && goodWord (.constant (ocN e.1) e.2.1 e.2.2.1))) = true := by decide +kernel
theorem ctab_use {μ i : Nat} {v : Int32} (h : ctab.any (fun e => e.1 == mC μ && e.2.1 == i && e.2.2.1 == v) = true) : Cond.constant (ocN (mC μ)) i v ∈ lwG := by
  obtain ⟨e, he, h1⟩ := List.any_eq_true.mp h
  have h2 := List.all_eq_true.mp ctab_all e he
  simp only [Bool.and_eq_true, beq_iff_eq] at h1 h2
  obtain ⟨⟨e1, e2⟩, e3⟩ := h1
  subst e2; subst e3
  rw [← e1]
  exact lwG_in (List.mem_of_getElem? h2.1) h2.2
theorem lctab_all : (lctab.all (fun e => lw_tbl[e.2.2.2]? == some (.constantLong (ocN e.1) e.2.1 (lN e.2.2.1)) && goodWord (.constantLong (ocN e.1) e.2.1 (lN e.2.2.1)))) = true := by decide +kernel
theorem lctab_use {μ i v : Nat} (h : lctab.any (fun e => e.1 == mC μ && e.2.1 == i && e.2.2.1 == v) = true) : Cond.constantLong (ocN (mC μ)) i (lN v) ∈ lwG := by
  obtain ⟨e, he, h1⟩ := List.any_eq_true.mp h
  have h2 := List.all_eq_true.mp lctab_all e he
  simp only [Bool.and_eq_true, beq_iff_eq] at h1 h2
  obtain ⟨⟨e1, e2⟩, e3⟩ := h1
  subst e2; subst e3
  rw [← e1]
  exact lwG_in (List.mem_of_getElem? h2.1) h2.2
theorem satab_all : (satab.all (fun e => decide (200 ≤ e.2.2.1) && decide (e.2.2.1 < 206) && (lw_tbl[e.2.2.2]? == some (.fieldLink (ocN e.1) e.2.1 RX0 (stN e.2.2.1) "[I") && goodWord (.fieldLink (ocN e.1) e.2.1 RX0 (stN e.2.2.1) "[I")))) = true := by decide +kernel
theorem satab_use {μ i k : Nat} (h : satab.any (fun e => e.1 == mC μ && e.2.1 == i && e.2.2.1 == k) = true) : 200 ≤ k ∧ k < 206 ∧ Cond.fieldLink (ocN (mC μ)) i RX0 (stN k) "[I" ∈ lwG := by
  obtain ⟨e, he, h1⟩ := List.any_eq_true.mp h
  have h2 := List.all_eq_true.mp satab_all e he
  simp only [Bool.and_eq_true, beq_iff_eq, decide_eq_true_eq] at h1 h2
  obtain ⟨⟨e1, e2⟩, e3⟩ := h1
  subst e2; subst e3
  rw [← e1]
  exact ⟨h2.1.1, h2.1.2, lwG_in (List.mem_of_getElem? h2.2.1) h2.2.2⟩
/-- JDK fields: 0 String.value, 1 String.coder, 2 COMPACT_STRINGS, 3 SIOOBE_FORMATTER -/
def stF (k : Nat) : String × String × String := if k = 0 then ("java/lang/String", "value", "[B") else if k = 1 then ("java/lang/String", "coder", "B") else if k = 2 then ("java/lang/String", "COMPACT_STRINGS", "Z") else ("jdk/internal/util/Preconditions", "SIOOBE_FORMATTER", sioD)
theorem sttab_all : (sttab.all (fun e => lw_tbl[e.2.2.2]? == some (.fieldLink (ocN e.1) e.2.1 (stF e.2.2.1).1 (stF e.2.2.1).2.1 (stF e.2.2.1).2.2) && goodWord (.fieldLink (ocN e.1) e.2.1 (stF e.2.2.1).1 (stF e.2.2.1).2.1 (stF e.2.2.1).2.2))) = true := by decide +kernel
theorem sttab_use {μ i k : Nat} (h : sttab.any (fun e => e.1 == mC μ && e.2.1 == i && e.2.2.1 == k) = true) : Cond.fieldLink (ocN (mC μ)) i (stF k).1 (stF k).2.1 (stF k).2.2 ∈ lwG := by
  obtain ⟨e, he, h1⟩ := List.any_eq_true.mp h
  have h2 := List.all_eq_true.mp sttab_all e he
  simp only [Bool.and_eq_true, beq_iff_eq] at h1 h2
  obtain ⟨⟨e1, e2⟩, e3⟩ := h1
  subst e2; subst e3
  rw [← e1]
  exact lwG_in (List.mem_of_getElem? h2.1) h2.2
def ntN (k : Nat) : MethodName := if k = 0 then Lib.Math.min.name else if k = 1 then Lib.Math.max.name else if k = 2 then Lib.MathLoose.max_long.x else arraycopyName
theorem ntab_all : (ntab.all (fun e => lw_tbl[e.2.2.2]? == some (.methodLink (ocN e.1) e.2.1 (ntN e.2.2.1)) && goodWord (.methodLink (ocN e.1) e.2.1 (ntN e.2.2.1)))) = true := by decide +kernel
theorem ntab_use {μ i k : Nat} (h : ntab.any (fun e => e.1 == mC μ && e.2.1 == i && e.2.2.1 == k) = true) : Cond.methodLink (ocN (mC μ)) i (ntN k) ∈ lwG := by
  obtain ⟨e, he, h1⟩ := List.any_eq_true.mp h
  have h2 := List.all_eq_true.mp ntab_all e he
  simp only [Bool.and_eq_true, beq_iff_eq] at h1 h2
  obtain ⟨⟨e1, e2⟩, e3⟩ := h1
  subst e2; subst e3
  rw [← e1]
  exact lwG_in (List.mem_of_getElem? h2.1) h2.2
theorem nat_words : (([.static Lib.Math.min.name, .static Lib.Math.max.name, .static Lib.MathLoose.max_long.x, .static arraycopyName, .native arraycopyName, .initialized "java/lang/Math", .initialized "java/lang/System", .code Lib.Math.min.name Lib.Math.min.code 2 (some .int), .code Lib.Math.max.name Lib.Math.max.code 2 (some .int), .code Lib.MathLoose.max_long.x Lib.MathLoose.max_long.code 4 (some .long)] : List Cond).all (fun w => decide (w ∈ lw_tbl) && goodWord w)) = true := by decide +kernel
theorem nat_in (w : Cond) (h : w ∈ ([.static Lib.Math.min.name, .static Lib.Math.max.name, .static Lib.MathLoose.max_long.x, .static arraycopyName, .native arraycopyName, .initialized "java/lang/Math", .initialized "java/lang/System", .code Lib.Math.min.name Lib.Math.min.code 2 (some .int), .code Lib.Math.max.name Lib.Math.max.code 2 (some .int), .code Lib.MathLoose.max_long.x Lib.MathLoose.max_long.code 4 (some .long)] : List Cond)) : w ∈ lwG := by
  have h2 := List.all_eq_true.mp nat_words w h
  simp only [Bool.and_eq_true, decide_eq_true_eq] at h2
  exact lwG_in h2.1 h2.2
theorem ktab_all : (ktab.all (fun e => decide (e.2.2.1 < 254) && (lw_tbl[e.2.2.2]? == some (.methodLink (ocN e.1) e.2.1 (mY e.2.2.1)) && goodWord (.methodLink (ocN e.1) e.2.1 (mY e.2.2.1))))) = true := by decide +kernel
theorem ktab_use {μ i y : Nat} (h : ktab.any (fun e => e.1 == mC μ && e.2.1 == i && e.2.2.1 == y) = true) : y < 254 ∧ Cond.methodLink (ocN (mC μ)) i (mY y) ∈ lwG := by
  obtain ⟨e, he, h1⟩ := List.any_eq_true.mp h
  have h2 := List.all_eq_true.mp ktab_all e he
  simp only [Bool.and_eq_true, beq_iff_eq, decide_eq_true_eq] at h1 h2
  obtain ⟨⟨e1, e2⟩, e3⟩ := h1
  subst e2; subst e3
  rw [← e1]
  exact ⟨h2.1, lwG_in (List.mem_of_getElem? h2.2.1) h2.2.2⟩
/-- what each method's row says: its class, how many locals, its parameters, and where its words stand -/
theorem meth_a : ((List.range 254).all (fun y => (mY y).cls == ocN (mC y) && decide (mX y ≤ 21) && ((parseMethodDescriptor (mY y).desc).map (fun d => d.parameters.length) == some (if mS y then mA y else mA y - 1)) && plainName (mY y).cls && decide ((mY y).cls ≠ "java/lang/invoke/MethodHandle") && decide ((mY y).cls ≠ "java/lang/invoke/VarHandle") && decide (mS y = true ∨ 0 < mA y))) = true := by decide +kernel
def meth_bP (y : Nat) : Bool := (fun (q : Nat × Nat × Nat × Nat) => lw_tbl[q.1]? == some (.code (mY y) (mB y) (mX y) (mR y)) && goodWord (.code (mY y) (mB y) (mX y) (mR y)) && lw_tbl[q.2.2.2]? == some (.initialized (mY y).cls) && goodWord (.initialized (mY y).cls) && (if mS y then lw_tbl[q.2.1]? == some (.static (mY y)) && goodWord (.static (mY y)) else (lw_tbl[q.2.1]? == some (.instanceMethod (mY y)) && goodWord (.instanceMethod (mY y)) && lw_tbl[q.2.2.1]? == some (.selects (mY y).cls (mY y) (mY y)) && goodWord (.selects (mY y).cls (mY y) (mY y))))) (mwtab.getD y (0, 0, 0, 0))
theorem meth_b0 : ((List.range 16).all (fun i => meth_bP (0 + i) || decide (254 ≤ 0 + i))) = true := by decide +kernel
theorem meth_b1 : ((List.range 16).all (fun i => meth_bP (16 + i) || decide (254 ≤ 16 + i))) = true := by decide +kernel
theorem meth_b2 : ((List.range 16).all (fun i => meth_bP (32 + i) || decide (254 ≤ 32 + i))) = true := by decide +kernel
theorem meth_b3 : ((List.range 16).all (fun i => meth_bP (48 + i) || decide (254 ≤ 48 + i))) = true := by decide +kernel
theorem meth_b4 : ((List.range 16).all (fun i => meth_bP (64 + i) || decide (254 ≤ 64 + i))) = true := by decide +kernel
theorem meth_b5 : ((List.range 16).all (fun i => meth_bP (80 + i) || decide (254 ≤ 80 + i))) = true := by decide +kernel
theorem meth_b6 : ((List.range 16).all (fun i => meth_bP (96 + i) || decide (254 ≤ 96 + i))) = true := by decide +kernel
theorem meth_b7 : ((List.range 16).all (fun i => meth_bP (112 + i) || decide (254 ≤ 112 + i))) = true := by decide +kernel
theorem meth_b8 : ((List.range 16).all (fun i => meth_bP (128 + i) || decide (254 ≤ 128 + i))) = true := by decide +kernel
theorem meth_b9 : ((List.range 16).all (fun i => meth_bP (144 + i) || decide (254 ≤ 144 + i))) = true := by decide +kernel
theorem meth_b10 : ((List.range 16).all (fun i => meth_bP (160 + i) || decide (254 ≤ 160 + i))) = true := by decide +kernel
theorem meth_b11 : ((List.range 16).all (fun i => meth_bP (176 + i) || decide (254 ≤ 176 + i))) = true := by decide +kernel
theorem meth_b12 : ((List.range 16).all (fun i => meth_bP (192 + i) || decide (254 ≤ 192 + i))) = true := by decide +kernel
theorem meth_b13 : ((List.range 16).all (fun i => meth_bP (208 + i) || decide (254 ≤ 208 + i))) = true := by decide +kernel
theorem meth_b14 : ((List.range 16).all (fun i => meth_bP (224 + i) || decide (254 ≤ 224 + i))) = true := by decide +kernel
theorem meth_b15 : ((List.range 16).all (fun i => meth_bP (240 + i) || decide (254 ≤ 240 + i))) = true := by decide +kernel
theorem meth_b {y : Nat} (h : y < 254) : meth_bP y = true := by
  have key : ∀ (k : Nat), ((List.range 16).all (fun i => meth_bP (16 * k + i) || decide (254 ≤ 16 * k + i))) = true → y / 16 = k → meth_bP y = true := by
    intro k hk e
    have h2 := List.all_eq_true.mp hk (y % 16) (List.mem_range.mpr (Nat.mod_lt _ (by decide)))
    rw [show 16 * k + y % 16 = y by omega] at h2
    simp only [Bool.or_eq_true, decide_eq_true_eq] at h2
    rcases h2 with h2 | h2
    · exact h2
    · omega
  have : y / 16 < 16 := by omega
  have hc : y / 16 = 0 ∨ y / 16 = 1 ∨ y / 16 = 2 ∨ y / 16 = 3 ∨ y / 16 = 4 ∨ y / 16 = 5 ∨ y / 16 = 6 ∨ y / 16 = 7 ∨ y / 16 = 8 ∨ y / 16 = 9 ∨ y / 16 = 10 ∨ y / 16 = 11 ∨ y / 16 = 12 ∨ y / 16 = 13 ∨ y / 16 = 14 ∨ y / 16 = 15 := by omega
  rcases hc with h | h | h | h | h | h | h | h | h | h | h | h | h | h | h | h
  · exact key 0 meth_b0 h
  · exact key 1 meth_b1 h
  · exact key 2 meth_b2 h
  · exact key 3 meth_b3 h
  · exact key 4 meth_b4 h
  · exact key 5 meth_b5 h
  · exact key 6 meth_b6 h
  · exact key 7 meth_b7 h
  · exact key 8 meth_b8 h
  · exact key 9 meth_b9 h
  · exact key 10 meth_b10 h
  · exact key 11 meth_b11 h
  · exact key 12 meth_b12 h
  · exact key 13 meth_b13 h
  · exact key 14 meth_b14 h
  · exact key 15 meth_b15 h
theorem meth_a_use {y : Nat} (h : y < 254) : (mY y).cls = ocN (mC y) ∧ mX y ≤ 21 ∧ (∀ sig, parseMethodDescriptor (mY y).desc = some sig → (if mS y then mA y else mA y - 1) = sig.parameters.length) ∧ plainName (mY y).cls = true ∧ ((mY y).cls ≠ "java/lang/invoke/MethodHandle" ∧ (mY y).cls ≠ "java/lang/invoke/VarHandle") ∧ (mS y = true ∨ 0 < mA y) := by
  have h2 := List.all_eq_true.mp meth_a y (List.mem_range.mpr h)
  simp only [Bool.and_eq_true, beq_iff_eq, decide_eq_true_eq] at h2
  obtain ⟨⟨⟨⟨⟨⟨a1, a2⟩, a3⟩, a4⟩, a5⟩, a6⟩, a7⟩ := h2
  refine ⟨a1, a2, fun sig hs => ?_, a4, ⟨a5, a6⟩, a7⟩
  rw [hs] at a3
  exact (Option.some.inj a3).symm
theorem meth_b_use {y : Nat} (h : y < 254) : Cond.code (mY y) (mB y) (mX y) (mR y) ∈ lwG ∧ Cond.initialized (mY y).cls ∈ lwG ∧ (mS y = true → Cond.static (mY y) ∈ lwG) ∧ (mS y = false → Cond.instanceMethod (mY y) ∈ lwG ∧ Cond.selects (mY y).cls (mY y) (mY y) ∈ lwG) := by
  have h2 := meth_b h
  unfold meth_bP at h2
  simp only [Bool.and_eq_true, beq_iff_eq] at h2
  obtain ⟨⟨⟨⟨b1, b2⟩, b3⟩, b4⟩, b5⟩ := h2
  refine ⟨lwG_in (List.mem_of_getElem? b1) b2, lwG_in (List.mem_of_getElem? b3) b4, fun hs => ?_, fun hs => ?_⟩
  · rw [if_pos hs] at b5
    simp only [Bool.and_eq_true, beq_iff_eq] at b5
    exact lwG_in (List.mem_of_getElem? b5.1) b5.2
  · rw [if_neg (by rw [hs]; decide)] at b5
    simp only [Bool.and_eq_true, beq_iff_eq] at b5
    obtain ⟨⟨⟨c1, c2⟩, c3⟩, c4⟩ := b5
    exact ⟨lwG_in (List.mem_of_getElem? c1) c2, lwG_in (List.mem_of_getElem? c3) c4⟩
end
section
/-! each instruction: from the state behind it to the state ahead of it -/
theorem chk_out {μ pc : Nat} {i : RI} {pc' : Nat} (h : chkI μ pc i = some pc') : ∃ q, rawI i = some q ∧ decode (mB μ) pc = .ok q ∧ resI μ i = true ∧ pc' = pc + q.2 := by
  unfold chkI at h
  split at h
  next q hq =>
    split at h
    next hc =>
      simp only [Bool.and_eq_true] at hc
      refine ⟨q, hq, ?_, hc.2, (Option.some.inj h).symm⟩
      have h1 := hc.1
      unfold decIs at h1
      split at h1
      next z hz => rw [hz]; rw [of_decide_eq_true h1]
      next => cases h1
    next => cases h
  next => cases h
theorem dec_out {cc : ByteArray} {pc : Nat} {q : Instr × Nat} (h : decIs cc pc q = true) : decode cc pc = .ok q := by
  unfold decIs at h
  split at h
  next z hz => rw [hz]; rw [of_decide_eq_true h]
  next => cases h
section NI
variable {g : Nat} {ev : EV} {μ pc : Nat} {ls st : List Value} {σ : St2} {Post : PO}
theorem n_iconst {v : Int32} {n : Int} (hd : decode (mB μ) pc = .ok (.iconst n, 1)) (hv : Int32.ofInt n = v) (k : PW g ev μ (pc + 1) ls (.int v :: st) σ Post) : PW g ev μ pc ls st σ Post := fun p l e s m args below meth c H locs ms C hH hS hl => lv_iconst C.1 C.2.1 hd hv (k p l e s m args below meth c H locs ms C hH hS hl)
theorem n_bipush {v : Int32} {n : Int} (hd : decode (mB μ) pc = .ok (.bipush n, 2)) (hv : (Int8.ofInt n).toInt32 = v) (k : PW g ev μ (pc + 2) ls (.int v :: st) σ Post) : PW g ev μ pc ls st σ Post := fun p l e s m args below meth c H locs ms C hH hS hl => lv_bipush C.1 C.2.1 hd hv (k p l e s m args below meth c H locs ms C hH hS hl)
theorem n_sipush {v : Int32} {n : Int} (hd : decode (mB μ) pc = .ok (.sipush n, 3)) (hv : (Int16.ofInt n).toInt32 = v) (k : PW g ev μ (pc + 3) ls (.int v :: st) σ Post) : PW g ev μ pc ls st σ Post := fun p l e s m args below meth c H locs ms C hH hS hl => lv_sipush C.1 C.2.1 hd hv (k p l e s m args below meth c H locs ms C hH hS hl)
theorem cx_in {p : Program} {s : State} {m : MethodId} {args : Array Value} {meth : Method} {c : Code} (C : Cx g ev μ p s m args meth c) {w : Cond} (h : w ∈ lwG) : w.before args s = true := C.2.2.2.2.2.1 w (List.mem_cons_of_mem _ h)
theorem n_ldc {v : Int32} {i : Nat} (hd : decode (mB μ) pc = .ok (.ldc i, 2)) (hw : Cond.constant (ocN (mC μ)) i v ∈ lwG) (k : PW g ev μ (pc + 2) ls (.int v :: st) σ Post) : PW g ev μ pc ls st σ Post := fun p l e s m args below meth c H locs ms C hH hS hl => lv_ldc C.1 C.2.1 C.2.2.2.2.1 (cx_in C hw) hd (k p l e s m args below meth c H locs ms C hH hS hl)
theorem n_ldcw {v : Int32} {i : Nat} (hd : decode (mB μ) pc = .ok (.ldc_w i, 3)) (hw : Cond.constant (ocN (mC μ)) i v ∈ lwG) (k : PW g ev μ (pc + 3) ls (.int v :: st) σ Post) : PW g ev μ pc ls st σ Post := fun p l e s m args below meth c H locs ms C hH hS hl => lv_ldcw C.1 C.2.1 C.2.2.2.2.1 (cx_in C hw) hd (k p l e s m args below meth c H locs ms C hH hS hl)
theorem n_lconst {v : Int64} {n : Fin 2} (hd : decode (mB μ) pc = .ok (.lconst n, 1)) (hv : Int64.ofNat (n : Nat) = v) (k : PW g ev μ (pc + 1) ls (.long v :: st) σ Post) : PW g ev μ pc ls st σ Post := fun p l e s m args below meth c H locs ms C hH hS hl => lv_lconst C.1 C.2.1 hd hv (k p l e s m args below meth c H locs ms C hH hS hl)
theorem n_ldc2 {v : Int64} {i : Nat} (hd : decode (mB μ) pc = .ok (.ldc2_w i, 3)) (hw : Cond.constantLong (ocN (mC μ)) i v ∈ lwG) (k : PW g ev μ (pc + 3) ls (.long v :: st) σ Post) : PW g ev μ pc ls st σ Post := fun p l e s m args below meth c H locs ms C hH hS hl => lv_ldc2 C.1 C.2.1 C.2.2.2.2.1 (cx_in C hw) hd (k p l e s m args below meth c H locs ms C hH hS hl)
theorem n_iload_n {x : Int32} {n : Fin 4} (hd : decode (mB μ) pc = .ok (.iload_n n, 1)) (hg : lvGet ls n = some (.int x)) (k : PW g ev μ (pc + 1) ls (.int x :: st) σ Post) : PW g ev μ pc ls st σ Post := fun p l e s m args below meth c H locs ms C hH hS hl => lv_iload_n C.1 C.2.1 hd rfl (lvGet_ok hl hg) (k p l e s m args below meth c H locs ms C hH hS hl)
theorem n_iload {x : Int32} {n : Nat} (hd : decode (mB μ) pc = .ok (.iload n, 2)) (hg : lvGet ls n = some (.int x)) (k : PW g ev μ (pc + 2) ls (.int x :: st) σ Post) : PW g ev μ pc ls st σ Post := fun p l e s m args below meth c H locs ms C hH hS hl => lv_iload C.1 C.2.1 hd (lvGet_ok hl hg) (k p l e s m args below meth c H locs ms C hH hS hl)
theorem n_lload_n {x : Int64} {n : Fin 4} (hd : decode (mB μ) pc = .ok (.lload_n n, 1)) (hg : lvGet ls n = some (.long x)) (k : PW g ev μ (pc + 1) ls (.long x :: st) σ Post) : PW g ev μ pc ls st σ Post := fun p l e s m args below meth c H locs ms C hH hS hl => lv_lload_n C.1 C.2.1 hd rfl (lvGet_ok hl hg) (k p l e s m args below meth c H locs ms C hH hS hl)
theorem n_lload {x : Int64} {n : Nat} (hd : decode (mB μ) pc = .ok (.lload n, 2)) (hg : lvGet ls n = some (.long x)) (k : PW g ev μ (pc + 2) ls (.long x :: st) σ Post) : PW g ev μ pc ls st σ Post := fun p l e s m args below meth c H locs ms C hH hS hl => lv_lload C.1 C.2.1 hd (lvGet_ok hl hg) (k p l e s m args below meth c H locs ms C hH hS hl)
theorem n_aload_n {x : Nat} {n : Fin 4} (hd : decode (mB μ) pc = .ok (.aload_n n, 1)) (hg : lvGet ls n = some (.ref x)) (k : PW g ev μ (pc + 1) ls (.ref x :: st) σ Post) : PW g ev μ pc ls st σ Post := fun p l e s m args below meth c H locs ms C hH hS hl => lv_aload_n C.1 C.2.1 hd rfl (lvGet_ok hl hg) (k p l e s m args below meth c H locs ms C hH hS hl)
theorem n_aload {x n : Nat} (hd : decode (mB μ) pc = .ok (.aload n, 2)) (hg : lvGet ls n = some (.ref x)) (k : PW g ev μ (pc + 2) ls (.ref x :: st) σ Post) : PW g ev μ pc ls st σ Post := fun p l e s m args below meth c H locs ms C hH hS hl => lv_aload C.1 C.2.1 hd (lvGet_ok hl hg) (k p l e s m args below meth c H locs ms C hH hS hl)
theorem n_istore_n {x : Int32} {n : Fin 4} {ls' : List Value} (hd : decode (mB μ) pc = .ok (.istore_n n, 1)) (hn : (n : Nat) < mX μ) (hg : lvSet ls n (.int x) = some ls') (k : PW g ev μ (pc + 1) ls' st σ Post) : PW g ev μ pc ls (.int x :: st) σ Post := fun p l e s m args below meth c H locs ms C hH hS hl => lv_istore_n C.1 C.2.1 hd rfl hl hn rfl (fun ms' hl' => k p l e s m args below meth c H locs ms' C hH hS (lvSet_1 hg hl'))
theorem n_istore {x : Int32} {n : Nat} {ls' : List Value} (hd : decode (mB μ) pc = .ok (.istore n, 2)) (hn : n < mX μ) (hg : lvSet ls n (.int x) = some ls') (k : PW g ev μ (pc + 2) ls' st σ Post) : PW g ev μ pc ls (.int x :: st) σ Post := fun p l e s m args below meth c H locs ms C hH hS hl => lv_istore C.1 C.2.1 hd hl hn rfl (fun ms' hl' => k p l e s m args below meth c H locs ms' C hH hS (lvSet_1 hg hl'))
theorem n_astore_n {x : Nat} {n : Fin 4} {ls' : List Value} (hd : decode (mB μ) pc = .ok (.astore_n n, 1)) (hn : (n : Nat) < mX μ) (hg : lvSet ls n (.ref x) = some ls') (k : PW g ev μ (pc + 1) ls' st σ Post) : PW g ev μ pc ls (.ref x :: st) σ Post := fun p l e s m args below meth c H locs ms C hH hS hl => lv_astore_n C.1 C.2.1 hd rfl hl hn rfl (fun ms' hl' => k p l e s m args below meth c H locs ms' C hH hS (lvSet_1 hg hl'))
theorem n_astore {x n : Nat} {ls' : List Value} (hd : decode (mB μ) pc = .ok (.astore n, 2)) (hn : n < mX μ) (hg : lvSet ls n (.ref x) = some ls') (k : PW g ev μ (pc + 2) ls' st σ Post) : PW g ev μ pc ls (.ref x :: st) σ Post := fun p l e s m args below meth c H locs ms C hH hS hl => lv_astore C.1 C.2.1 hd hl hn rfl (fun ms' hl' => k p l e s m args below meth c H locs ms' C hH hS (lvSet_1 hg hl'))
theorem n_lstore_n {x : Int64} {n : Fin 4} {ls' : List Value} (hd : decode (mB μ) pc = .ok (.lstore_n n, 1)) (hn : (n : Nat) + 1 < mX μ) (hg : lvSet ls n (.long x) = some ls') (k : PW g ev μ (pc + 1) ls' st σ Post) : PW g ev μ pc ls (.long x :: st) σ Post := fun p l e s m args below meth c H locs ms C hH hS hl => lv_lstore_n C.1 C.2.1 hd rfl hl hn rfl (fun ms' hl' => k p l e s m args below meth c H locs ms' C hH hS (lvSet_2 rfl hg hl'))
theorem n_lstore {x : Int64} {n : Nat} {ls' : List Value} (hd : decode (mB μ) pc = .ok (.lstore n, 2)) (hn : n + 1 < mX μ) (hg : lvSet ls n (.long x) = some ls') (k : PW g ev μ (pc + 2) ls' st σ Post) : PW g ev μ pc ls (.long x :: st) σ Post := fun p l e s m args below meth c H locs ms C hH hS hl => lv_lstore C.1 C.2.1 hd hl hn rfl (fun ms' hl' => k p l e s m args below meth c H locs ms' C hH hS (lvSet_2 rfl hg hl'))
theorem n_iinc {x v : Int32} {n : Nat} {ls' : List Value} (hd : decode (mB μ) pc = .ok (.iinc n v.toInt, 3)) (hn : n < mX μ) (hv : Int32.ofInt v.toInt = v) (hx : lvGet ls n = some (.int x)) (hg : lvSet ls n (.int (x + v)) = some ls') (k : PW g ev μ (pc + 3) ls' st σ Post) : PW g ev μ pc ls st σ Post := fun p l e s m args below meth c H locs ms C hH hS hl => by
  obtain ⟨q, hq⟩ := List.getElem?_of_mem (lvGet_mem ev ls n 0 _ hx)
  rw [Nat.zero_add] at hq
  exact lv_iinc C.1 C.2.1 hd hl (k := q) hq (by rw [hv]) hn rfl (fun ms' hl' => k p l e s m args below meth c H locs ms' C hH hS (lvSet_1 hg hl'))
theorem n_iadd {x y : Int32} (hd : decode (mB μ) pc = .ok (.iadd, 1)) (k : PW g ev μ (pc + 1) ls (.int (x + y) :: st) σ Post) : PW g ev μ pc ls (.int y :: .int x :: st) σ Post := fun p l e s m args below meth c H locs ms C hH hS hl => lv_iadd C.1 C.2.1 hd (k p l e s m args below meth c H locs ms C hH hS hl)
theorem n_isub {x y : Int32} (hd : decode (mB μ) pc = .ok (.isub, 1)) (k : PW g ev μ (pc + 1) ls (.int (x - y) :: st) σ Post) : PW g ev μ pc ls (.int y :: .int x :: st) σ Post := fun p l e s m args below meth c H locs ms C hH hS hl => lv_isub C.1 C.2.1 hd (k p l e s m args below meth c H locs ms C hH hS hl)
theorem n_imul {x y : Int32} (hd : decode (mB μ) pc = .ok (.imul, 1)) (k : PW g ev μ (pc + 1) ls (.int (x * y) :: st) σ Post) : PW g ev μ pc ls (.int y :: .int x :: st) σ Post := fun p l e s m args below meth c H locs ms C hH hS hl => lv_imul C.1 C.2.1 hd (k p l e s m args below meth c H locs ms C hH hS hl)
theorem n_iand {x y : Int32} (hd : decode (mB μ) pc = .ok (.iand, 1)) (k : PW g ev μ (pc + 1) ls (.int (x &&& y) :: st) σ Post) : PW g ev μ pc ls (.int y :: .int x :: st) σ Post := fun p l e s m args below meth c H locs ms C hH hS hl => lv_iand C.1 C.2.1 hd (k p l e s m args below meth c H locs ms C hH hS hl)
theorem n_ior {x y : Int32} (hd : decode (mB μ) pc = .ok (.ior, 1)) (k : PW g ev μ (pc + 1) ls (.int (x ||| y) :: st) σ Post) : PW g ev μ pc ls (.int y :: .int x :: st) σ Post := fun p l e s m args below meth c H locs ms C hH hS hl => lv_ior C.1 C.2.1 hd (k p l e s m args below meth c H locs ms C hH hS hl)
theorem n_ixor {x y : Int32} (hd : decode (mB μ) pc = .ok (.ixor, 1)) (k : PW g ev μ (pc + 1) ls (.int (x ^^^ y) :: st) σ Post) : PW g ev μ pc ls (.int y :: .int x :: st) σ Post := fun p l e s m args below meth c H locs ms C hH hS hl => lv_ixor C.1 C.2.1 hd (k p l e s m args below meth c H locs ms C hH hS hl)
theorem n_ishl {x y : Int32} (hd : decode (mB μ) pc = .ok (.ishl, 1)) (k : PW g ev μ (pc + 1) ls (.int (x <<< (y &&& 31)) :: st) σ Post) : PW g ev μ pc ls (.int y :: .int x :: st) σ Post := fun p l e s m args below meth c H locs ms C hH hS hl => lv_ishl C.1 C.2.1 hd (k p l e s m args below meth c H locs ms C hH hS hl)
theorem n_ishr {x y : Int32} (hd : decode (mB μ) pc = .ok (.ishr, 1)) (k : PW g ev μ (pc + 1) ls (.int (x >>> (y &&& 31)) :: st) σ Post) : PW g ev μ pc ls (.int y :: .int x :: st) σ Post := fun p l e s m args below meth c H locs ms C hH hS hl => lv_ishr C.1 C.2.1 hd (k p l e s m args below meth c H locs ms C hH hS hl)
theorem n_iushr {x y : Int32} (hd : decode (mB μ) pc = .ok (.iushr, 1)) (k : PW g ev μ (pc + 1) ls (.int (x.toUInt32 >>> (y.toUInt32 &&& Int32.toUInt32 31)).toInt32 :: st) σ Post) : PW g ev μ pc ls (.int y :: .int x :: st) σ Post := fun p l e s m args below meth c H locs ms C hH hS hl => lv_iushr C.1 C.2.1 hd rfl (k p l e s m args below meth c H locs ms C hH hS hl)
theorem n_idiv {x y : Int32} (hd : decode (mB μ) pc = .ok (.idiv, 1)) (hne : ¬ y = 0) (k : PW g ev μ (pc + 1) ls (.int (x / y) :: st) σ Post) : PW g ev μ pc ls (.int y :: .int x :: st) σ Post := fun p l e s m args below meth c H locs ms C hH hS hl => lv_idiv C.1 C.2.1 hd hne (k p l e s m args below meth c H locs ms C hH hS hl)
theorem n_irem {x y : Int32} (hd : decode (mB μ) pc = .ok (.irem, 1)) (hne : ¬ y = 0) (k : PW g ev μ (pc + 1) ls (.int (x - x / y * y) :: st) σ Post) : PW g ev μ pc ls (.int y :: .int x :: st) σ Post := fun p l e s m args below meth c H locs ms C hH hS hl => lv_irem C.1 C.2.1 hd hne (k p l e s m args below meth c H locs ms C hH hS hl)
theorem n_ladd {x y : Int64} (hd : decode (mB μ) pc = .ok (.ladd, 1)) (k : PW g ev μ (pc + 1) ls (.long (x + y) :: st) σ Post) : PW g ev μ pc ls (.long y :: .long x :: st) σ Post := fun p l e s m args below meth c H locs ms C hH hS hl => lv_ladd C.1 C.2.1 hd (k p l e s m args below meth c H locs ms C hH hS hl)
theorem n_lsub {x y : Int64} (hd : decode (mB μ) pc = .ok (.lsub, 1)) (k : PW g ev μ (pc + 1) ls (.long (x - y) :: st) σ Post) : PW g ev μ pc ls (.long y :: .long x :: st) σ Post := fun p l e s m args below meth c H locs ms C hH hS hl => lv_lsub C.1 C.2.1 hd (k p l e s m args below meth c H locs ms C hH hS hl)
theorem n_lmul {x y : Int64} (hd : decode (mB μ) pc = .ok (.lmul, 1)) (k : PW g ev μ (pc + 1) ls (.long (x * y) :: st) σ Post) : PW g ev μ pc ls (.long y :: .long x :: st) σ Post := fun p l e s m args below meth c H locs ms C hH hS hl => lv_lmul C.1 C.2.1 hd (k p l e s m args below meth c H locs ms C hH hS hl)
theorem n_ldiv {x y : Int64} (hd : decode (mB μ) pc = .ok (.ldiv, 1)) (hne : ¬ y = 0) (k : PW g ev μ (pc + 1) ls (.long (x / y) :: st) σ Post) : PW g ev μ pc ls (.long y :: .long x :: st) σ Post := fun p l e s m args below meth c H locs ms C hH hS hl => lv_ldiv C.1 C.2.1 hd hne (k p l e s m args below meth c H locs ms C hH hS hl)
theorem n_lrem {x y : Int64} (hd : decode (mB μ) pc = .ok (.lrem, 1)) (hne : ¬ y = 0) (k : PW g ev μ (pc + 1) ls (.long (x - x / y * y) :: st) σ Post) : PW g ev μ pc ls (.long y :: .long x :: st) σ Post := fun p l e s m args below meth c H locs ms C hH hS hl => lv_lrem C.1 C.2.1 hd hne (k p l e s m args below meth c H locs ms C hH hS hl)
theorem n_lcmp {x y : Int64} (hd : decode (mB μ) pc = .ok (.lcmp, 1)) (k : PW g ev μ (pc + 1) ls (.int (lg_cmp x y) :: st) σ Post) : PW g ev μ pc ls (.long y :: .long x :: st) σ Post := fun p l e s m args below meth c H locs ms C hH hS hl => W.lcmp C.1 C.2.1 hd (k p l e s m args below meth c H locs ms C hH hS hl)
theorem n_i2l {x : Int32} (hd : decode (mB μ) pc = .ok (.i2l, 1)) (k : PW g ev μ (pc + 1) ls (.long x.toInt64 :: st) σ Post) : PW g ev μ pc ls (.int x :: st) σ Post := fun p l e s m args below meth c H locs ms C hH hS hl => lv_i2l C.1 C.2.1 hd rfl (k p l e s m args below meth c H locs ms C hH hS hl)
theorem n_l2i {x : Int64} (hd : decode (mB μ) pc = .ok (.l2i, 1)) (k : PW g ev μ (pc + 1) ls (.int x.toInt32 :: st) σ Post) : PW g ev μ pc ls (.long x :: st) σ Post := fun p l e s m args below meth c H locs ms C hH hS hl => lv_l2i C.1 C.2.1 hd rfl (k p l e s m args below meth c H locs ms C hH hS hl)
theorem n_i2b {x : Int32} (hd : decode (mB μ) pc = .ok (.i2b, 1)) (k : PW g ev μ (pc + 1) ls (.int x.toInt8.toInt32 :: st) σ Post) : PW g ev μ pc ls (.int x :: st) σ Post := fun p l e s m args below meth c H locs ms C hH hS hl => lv_i2b C.1 C.2.1 hd rfl (k p l e s m args below meth c H locs ms C hH hS hl)
theorem n_i2s {x : Int32} (hd : decode (mB μ) pc = .ok (.i2s, 1)) (k : PW g ev μ (pc + 1) ls (.int x.toInt16.toInt32 :: st) σ Post) : PW g ev μ pc ls (.int x :: st) σ Post := fun p l e s m args below meth c H locs ms C hH hS hl => lv_i2s C.1 C.2.1 hd rfl (k p l e s m args below meth c H locs ms C hH hS hl)
theorem n_i2c {x : Int32} (hd : decode (mB μ) pc = .ok (.i2c, 1)) (k : PW g ev μ (pc + 1) ls (.int (x.toUInt32 % 65536).toInt32 :: st) σ Post) : PW g ev μ pc ls (.int x :: st) σ Post := fun p l e s m args below meth c H locs ms C hH hS hl => lv_i2c C.1 C.2.1 hd rfl (k p l e s m args below meth c H locs ms C hH hS hl)
theorem n_dup {v : Value} (hd : decode (mB μ) pc = .ok (.dup, 1)) (hc : v.category = 1) (k : PW g ev μ (pc + 1) ls (v :: v :: st) σ Post) : PW g ev μ pc ls (v :: st) σ Post := fun p l e s m args below meth c H locs ms C hH hS hl => lv_dup C.1 C.2.1 hd ((mv_cat ev v).trans hc) (k p l e s m args below meth c H locs ms C hH hS hl)
theorem n_pop {v : Value} (hd : decode (mB μ) pc = .ok (.pop, 1)) (hc : v.category = 1) (k : PW g ev μ (pc + 1) ls st σ Post) : PW g ev μ pc ls (v :: st) σ Post := fun p l e s m args below meth c H locs ms C hH hS hl => lv_pop C.1 C.2.1 hd ((mv_cat ev v).trans hc) (k p l e s m args below meth c H locs ms C hH hS hl)
theorem n_dup2 {v w : Value} (hd : decode (mB μ) pc = .ok (.dup2, 1)) (hc : v.category = 1) (hc2 : w.category = 1) (k : PW g ev μ (pc + 1) ls (v :: w :: v :: w :: st) σ Post) : PW g ev μ pc ls (v :: w :: st) σ Post := fun p l e s m args below meth c H locs ms C hH hS hl => lv_dup2_11 C.1 C.2.1 hd ((mv_cat ev v).trans hc) ((mv_cat ev w).trans hc2) (k p l e s m args below meth c H locs ms C hH hS hl)
theorem n_if_eq {x : Int32} {t n : Nat} (hd : decode (mB μ) pc = .ok (.ifCond .eq ((t : Int) - pc), 3)) (hn : n = pc + 3) (kt : x = 0 → PW g ev μ t ls st σ Post) (kf : ¬ x = 0 → PW g ev μ n ls st σ Post) : PW g ev μ pc ls (.int x :: st) σ Post := by
  subst hn
  exact fun p l e s m args below meth c H locs ms C hH hS hl => lv_if_eq C.1 C.2.1 hd (by omega) (fun h => kt (h) p l e s m args below meth c H locs ms C hH hS hl) (fun h => kf (h) p l e s m args below meth c H locs ms C hH hS hl)
theorem n_if_ne {x : Int32} {t n : Nat} (hd : decode (mB μ) pc = .ok (.ifCond .ne ((t : Int) - pc), 3)) (hn : n = pc + 3) (kt : ¬ x = 0 → PW g ev μ t ls st σ Post) (kf : x = 0 → PW g ev μ n ls st σ Post) : PW g ev μ pc ls (.int x :: st) σ Post := by
  subst hn
  exact fun p l e s m args below meth c H locs ms C hH hS hl => lv_if_ne C.1 C.2.1 hd (by omega) (fun h => kt (h) p l e s m args below meth c H locs ms C hH hS hl) (fun h => kf (h) p l e s m args below meth c H locs ms C hH hS hl)
theorem n_if_lt {x : Int32} {t n : Nat} (hd : decode (mB μ) pc = .ok (.ifCond .lt ((t : Int) - pc), 3)) (hn : n = pc + 3) (kt : x < 0 → PW g ev μ t ls st σ Post) (kf : ¬ x < 0 → PW g ev μ n ls st σ Post) : PW g ev μ pc ls (.int x :: st) σ Post := by
  subst hn
  exact fun p l e s m args below meth c H locs ms C hH hS hl => lv_if_lt C.1 C.2.1 hd (by omega) (fun h => kt (h) p l e s m args below meth c H locs ms C hH hS hl) (fun h => kf (h) p l e s m args below meth c H locs ms C hH hS hl)
theorem n_if_ge {x : Int32} {t n : Nat} (hd : decode (mB μ) pc = .ok (.ifCond .ge ((t : Int) - pc), 3)) (hn : n = pc + 3) (kt : ¬ x < 0 → PW g ev μ t ls st σ Post) (kf : x < 0 → PW g ev μ n ls st σ Post) : PW g ev μ pc ls (.int x :: st) σ Post := by
  subst hn
  exact fun p l e s m args below meth c H locs ms C hH hS hl => lv_if_ge C.1 C.2.1 hd (by omega) (fun h => kt (Int32.not_lt.mpr h) p l e s m args below meth c H locs ms C hH hS hl) (fun h => kf (Int32.not_le.mp h) p l e s m args below meth c H locs ms C hH hS hl)
theorem n_if_gt {x : Int32} {t n : Nat} (hd : decode (mB μ) pc = .ok (.ifCond .gt ((t : Int) - pc), 3)) (hn : n = pc + 3) (kt : 0 < x → PW g ev μ t ls st σ Post) (kf : ¬ 0 < x → PW g ev μ n ls st σ Post) : PW g ev μ pc ls (.int x :: st) σ Post := by
  subst hn
  exact fun p l e s m args below meth c H locs ms C hH hS hl => lv_if_gt C.1 C.2.1 hd (by omega) (fun h => kt (h) p l e s m args below meth c H locs ms C hH hS hl) (fun h => kf (h) p l e s m args below meth c H locs ms C hH hS hl)
theorem n_if_le {x : Int32} {t n : Nat} (hd : decode (mB μ) pc = .ok (.ifCond .le ((t : Int) - pc), 3)) (hn : n = pc + 3) (kt : ¬ 0 < x → PW g ev μ t ls st σ Post) (kf : 0 < x → PW g ev μ n ls st σ Post) : PW g ev μ pc ls (.int x :: st) σ Post := by
  subst hn
  exact fun p l e s m args below meth c H locs ms C hH hS hl => lv_if_le C.1 C.2.1 hd (by omega) (fun h => kt (Int32.not_lt.mpr h) p l e s m args below meth c H locs ms C hH hS hl) (fun h => kf (Int32.not_le.mp h) p l e s m args below meth c H locs ms C hH hS hl)
theorem n_icmp_eq {x y : Int32} {t n : Nat} (hd : decode (mB μ) pc = .ok (.if_icmp .eq ((t : Int) - pc), 3)) (hn : n = pc + 3) (kt : x = y → PW g ev μ t ls st σ Post) (kf : ¬ x = y → PW g ev μ n ls st σ Post) : PW g ev μ pc ls (.int y :: .int x :: st) σ Post := by
  subst hn
  exact fun p l e s m args below meth c H locs ms C hH hS hl => lv_icmp_eq C.1 C.2.1 hd (by omega) (fun h => kt (h) p l e s m args below meth c H locs ms C hH hS hl) (fun h => kf (h) p l e s m args below meth c H locs ms C hH hS hl)
theorem n_icmp_ne {x y : Int32} {t n : Nat} (hd : decode (mB μ) pc = .ok (.if_icmp .ne ((t : Int) - pc), 3)) (hn : n = pc + 3) (kt : ¬ x = y → PW g ev μ t ls st σ Post) (kf : x = y → PW g ev μ n ls st σ Post) : PW g ev μ pc ls (.int y :: .int x :: st) σ Post := by
  subst hn
  exact fun p l e s m args below meth c H locs ms C hH hS hl => lv_icmp_ne C.1 C.2.1 hd (by omega) (fun h => kt (h) p l e s m args below meth c H locs ms C hH hS hl) (fun h => kf (h) p l e s m args below meth c H locs ms C hH hS hl)
theorem n_icmp_lt {x y : Int32} {t n : Nat} (hd : decode (mB μ) pc = .ok (.if_icmp .lt ((t : Int) - pc), 3)) (hn : n = pc + 3) (kt : x < y → PW g ev μ t ls st σ Post) (kf : ¬ x < y → PW g ev μ n ls st σ Post) : PW g ev μ pc ls (.int y :: .int x :: st) σ Post := by
  subst hn
  exact fun p l e s m args below meth c H locs ms C hH hS hl => lv_icmp_lt C.1 C.2.1 hd (by omega) (fun h => kt (h) p l e s m args below meth c H locs ms C hH hS hl) (fun h => kf (h) p l e s m args below meth c H locs ms C hH hS hl)
theorem n_icmp_ge {x y : Int32} {t n : Nat} (hd : decode (mB μ) pc = .ok (.if_icmp .ge ((t : Int) - pc), 3)) (hn : n = pc + 3) (kt : ¬ x < y → PW g ev μ t ls st σ Post) (kf : x < y → PW g ev μ n ls st σ Post) : PW g ev μ pc ls (.int y :: .int x :: st) σ Post := by
  subst hn
  exact fun p l e s m args below meth c H locs ms C hH hS hl => lv_icmp_ge C.1 C.2.1 hd (by omega) (fun h => kt (Int32.not_lt.mpr h) p l e s m args below meth c H locs ms C hH hS hl) (fun h => kf (Int32.not_le.mp h) p l e s m args below meth c H locs ms C hH hS hl)
theorem n_icmp_gt {x y : Int32} {t n : Nat} (hd : decode (mB μ) pc = .ok (.if_icmp .gt ((t : Int) - pc), 3)) (hn : n = pc + 3) (kt : y < x → PW g ev μ t ls st σ Post) (kf : ¬ y < x → PW g ev μ n ls st σ Post) : PW g ev μ pc ls (.int y :: .int x :: st) σ Post := by
  subst hn
  exact fun p l e s m args below meth c H locs ms C hH hS hl => lv_icmp_gt C.1 C.2.1 hd (by omega) (fun h => kt (h) p l e s m args below meth c H locs ms C hH hS hl) (fun h => kf (h) p l e s m args below meth c H locs ms C hH hS hl)
theorem n_icmp_le {x y : Int32} {t n : Nat} (hd : decode (mB μ) pc = .ok (.if_icmp .le ((t : Int) - pc), 3)) (hn : n = pc + 3) (kt : ¬ y < x → PW g ev μ t ls st σ Post) (kf : y < x → PW g ev μ n ls st σ Post) : PW g ev μ pc ls (.int y :: .int x :: st) σ Post := by
  subst hn
  exact fun p l e s m args below meth c H locs ms C hH hS hl => lv_icmp_le C.1 C.2.1 hd (by omega) (fun h => kt (Int32.not_lt.mpr h) p l e s m args below meth c H locs ms C hH hS hl) (fun h => kf (Int32.not_le.mp h) p l e s m args below meth c H locs ms C hH hS hl)
theorem n_goto {t : Nat} (hd : decode (mB μ) pc = .ok (.goto ((t : Int) - pc), 3)) (k : PW g ev μ t ls st σ Post) : PW g ev μ pc ls st σ Post := fun p l e s m args below meth c H locs ms C hH hS hl => lv_goto C.1 C.2.1 hd (by omega) (k p l e s m args below meth c H locs ms C hH hS hl)
end NI
end
section
/-! instructions that touch the heap -/
theorem rng_get {N j : Nat} {f : Nat → Value} (h : j < N) : ((List.range N).map f)[j]? = some (f j) := by simp [h]
theorem rng_set {N j : Nat} {f f' : Nat → Value} (h : ∀ i, i ≠ j → f' i = f i) : ((List.range N).map f).set j (f' j) = (List.range N).map f' := by
  apply List.ext_getElem?
  intro i
  by_cases hi : i < N
  · by_cases hk : i = j
    · subst hk
      rw [List.getElem?_set_self (by simp [hi])]
      simp [hi]
    · rw [List.getElem?_set_ne (Ne.symm hk)]
      simp [hi, h i hk]
  · rw [List.getElem?_eq_none (by simp; omega), List.getElem?_eq_none (by simp; omega)]
theorem upr_ne {α : Type} {f : Nat → Nat → α} {k i : Nat} {r : Nat → α} (h : i ≠ k) : upr f k r i = f i := if_neg h
theorem upr_eq {α : Type} {f : Nat → Nat → α} {k : Nat} {r : Nat → α} : upr f k r k = r := if_pos rfl
theorem fvl_si {ev : EV} {g : Nat} {σ : St2} {c k j : Nat} {v : Int32} (i : Nat) (h : i ≠ j) : fvl ev g (si σ k j v) c k i = fvl ev g σ c k i := by
  unfold fvl si
  simp only [upr_eq]
  rw [show upd (σ.1 k) j v i = σ.1 k i from if_neg h]
theorem fvl_sl {ev : EV} {g : Nat} {σ : St2} {c k j : Nat} {v : Int64} (i : Nat) (h : i ≠ j) : fvl ev g (sl σ k j v) c k i = fvl ev g σ c k i := by
  unfold fvl sl
  simp only [upr_eq]
  rw [show updl (σ.2 k) j v i = σ.2 k i from if_neg h]
theorem fvl_0 {ev : EV} {g : Nat} {σ : St2} {c k j : Nat} (h : fkT c j < 2) : fvl ev g σ c k j = .int (σ.1 k j) := by
  unfold fvl
  rcases (show fkT c j = 0 ∨ fkT c j = 1 by omega) with z | z <;> (rw [z]) <;> rfl
theorem fvl_2 {ev : EV} {g : Nat} {σ : St2} {c k j : Nat} (h : fkT c j = 2) : fvl ev g σ c k j = .long (σ.2 k j) := by unfold fvl; rw [h]; rfl
theorem fvl_3 {ev : EV} {g : Nat} {σ : St2} {c k j : Nat} (h : fkT c j = 3) : fvl ev g σ c k j = .ref (ev.1 (rfs g k j)) := by unfold fvl; rw [h]; rfl
section NH
variable {g : Nat} {ev : EV} {μ pc : Nat} {ls st : List Value} {σ : St2} {Post : PO}
theorem n_getf {i c j k : Nat} {v : Value} (hd : decode (mB μ) pc = .ok (.getfield i, 3)) (hf : c < 7 ∧ j < cN c ∧ Cond.fieldLink (ocN (mC μ)) i ((clG c).2.1 j).1 ((clG c).2.1 j).2.1 ((clG c).2.1 j).2.2.1 ∈ lwG) (hk : k < nC g ∧ (shp g k).1 = c) (hv : fvl ev g σ c k j = mv ev v) (kk : PW g ev μ (pc + 3) ls (v :: st) σ Post) : PW g ev μ pc ls (.ref k :: st) σ Post := fun p l e s m args below meth cd H locs ms C hH hS hl => by
  obtain ⟨h1, h2, h3⟩ := hf
  obtain ⟨q1, q2, q3⟩ := clG_at c h1
  exact va_get (D := ev.2.1) (cl := cls7) (tys := tysG ev) (ws := wld ev g σ) (C := (clG c).1) (T := (clG c).2.1) (N := (clG c).2.2) (ci := c) (ref := ((clG c).2.1 j).1) (Ts := wsM μ) (v := mv ev v) C.1 C.2.1 C.2.2.2.2.2.1 (fun w hw => List.mem_cons_of_mem _ (inG c h1 w hw)) C.2.2.2.2.1 C.2.2.2.2.2.2.2.2.1 hH k ((wld_get hk.1).trans (by rw [ent_o hk.2 h1])) q1 j (by rw [q2]; exact h2) (cx_in C h3) (fun _ h => h) (by rw [← hv]; exact rng_get h2) hd (kk p l e s m args below meth cd H locs ms C hH hS hl)
theorem n_putf {i c j k : Nat} {v : Value} {ty : FieldType} {τ : St2} (hd : decode (mB μ) pc = .ok (.putfield i, 3)) (hf : c < 7 ∧ j < cN c ∧ Cond.fieldLink (ocN (mC μ)) i ((clG c).2.1 j).1 ((clG c).2.1 j).2.1 ((clG c).2.1 j).2.2.1 ∈ lwG) (hk : k < nC g ∧ (shp g k).1 = c) (hty : tyG c j = ty ∧ ((clG c).2.1 j).2.2.2 = false) (hn : narrow ty (mv ev v) = mv ev v) (hfit : fits ty (mv ev v) = true) (hv : fvl ev g τ c k j = mv ev v) (hj : ∀ i, i ≠ j → fvl ev g τ c k i = fvl ev g σ c k i) (h1' : ∀ i, i ≠ k → τ.1 i = σ.1 i) (h2' : ∀ i, i ≠ k → τ.2 i = σ.2 i) (kk : PW g ev μ (pc + 3) ls st τ Post) : PW g ev μ pc ls (v :: .ref k :: st) σ Post := fun p l e s m args below meth cd H locs ms C hH hS hl => by
  obtain ⟨h1, h2, h3⟩ := hf
  obtain ⟨q1, q2, q3⟩ := clG_at c h1
  have hI : Inj g ev := C.2.2.2.2.2.2.2.1
  refine va_put (D := ev.2.1) (cl := cls7) (tys := tysG ev) (ws := wld ev g σ) (C := (clG c).1) (T := (clG c).2.1) (N := (clG c).2.2) (ci := c) (ref := ((clG c).2.1 j).1) (Ts := wsM μ) (ty := ty) (v := mv ev v) C.1 C.2.1 C.2.2.2.2.2.1 (fun w hw => List.mem_cons_of_mem _ (inG c h1 w hw)) (tyG c) (tyG_ok c h1) (nmG c h1) C.2.2.2.2.1 C.2.2.2.2.2.2.2.2.1 hH (wld_D hI) hS k ((wld_get hk.1).trans (by rw [ent_o hk.2 h1])) q1 j (by rw [q2]; exact h2) (cx_in C h3) (fun _ h => h) hty.2 (by rw [tyG_ok c h1 j (by rw [q2]; exact h2), hty.1]) hn hfit (by simp [h2]) hd (fun H1 locs1 hP1 hD1 hS1 => ?_)
  have eW : (wld ev g σ).set k (ev.1 k, .inr (c, ((List.range (cN c)).map (fvl ev g σ c k)).set j (mv ev v))) = wld ev g τ := by
    rw [← wld_set (ev := ev) (g := g) (σ := σ) (τ := τ) (k := k) h1' h2', ent_o hk.2 h1, ← hv, rng_set hj]
  rw [eW] at hP1
  exact kk p l e s m args below meth cd H1 locs1 ms C hP1 hS1 hl
theorem ix_lt {i : Int32} {n : Nat} (h : vp_in i n) : i.toNatClampNeg < n := Nat.not_le.mp fun q => h (Or.inr q)
theorem n_iald {k : Nat} {i : Int32} (hd : decode (mB μ) pc = .ok (.iaload, 1)) (hk : k < nC g ∧ (shp g k).1 = 100) (hi : vp_in i (shp g k).2) (kk : PW g ev μ (pc + 1) ls (.int (σ.1 k i.toNatClampNeg) :: st) σ Post) : PW g ev μ pc ls (.int i :: .ref k :: st) σ Post := fun p l e s m args below meth cd H locs ms C hH hS hl =>
  va_iald (D := ev.2.1) (cl := cls7) (tys := tysG ev) (ws := wld ev g σ) C.1 C.2.1 C.2.2.2.2.2.2.2.2.1 hH k 0 ((wld_get hk.1).trans (by rw [ent_i hk.2 (Or.inl rfl)])) rfl hi hd (kk p l e s m args below meth cd H locs ms C hH hS hl)
theorem n_cald {k : Nat} {i : Int32} (hd : decode (mB μ) pc = .ok (.caload, 1)) (hk : k < nC g ∧ (shp g k).1 = 101) (hi : vp_in i (shp g k).2) (kk : PW g ev μ (pc + 1) ls (.int (σ.1 k i.toNatClampNeg) :: st) σ Post) : PW g ev μ pc ls (.int i :: .ref k :: st) σ Post := fun p l e s m args below meth cd H locs ms C hH hS hl =>
  va_cald (D := ev.2.1) (cl := cls7) (tys := tysG ev) (ws := wld ev g σ) C.1 C.2.1 C.2.2.2.2.2.2.2.2.1 hH k 1 ((wld_get hk.1).trans (by rw [ent_i hk.2 (Or.inr rfl)])) rfl hi hd (kk p l e s m args below meth cd H locs ms C hH hS hl)
theorem n_iast {k : Nat} {i v : Int32} (hd : decode (mB μ) pc = .ok (.iastore, 1)) (hk : k < nC g ∧ (shp g k).1 = 100) (hi : vp_in i (shp g k).2) (kk : PW g ev μ (pc + 1) ls st (si σ k i.toNatClampNeg v) Post) : PW g ev μ pc ls (.int v :: .int i :: .ref k :: st) σ Post := fun p l e s m args below meth cd H locs ms C hH hS hl => by
  refine va_iast (D := ev.2.1) (cl := cls7) (tys := tysG ev) (ws := wld ev g σ) C.1 C.2.1 C.2.2.2.2.2.2.2.2.1 hH (wld_D C.2.2.2.2.2.2.2.1) hS k 0 ((wld_get hk.1).trans (by rw [ent_i hk.2 (Or.inl rfl)])) rfl hi hd (fun H1 locs1 hP1 hD1 hS1 => ?_)
  have eW : (wld ev g σ).set k (ev.1 k, .inl (ev.2.2 100, (shp g k).2, .inl (upd (σ.1 k) i.toNatClampNeg v))) = wld ev g (si σ k i.toNatClampNeg v) := by
    rw [← wld_set (ev := ev) (g := g) (σ := σ) (τ := si σ k i.toNatClampNeg v) (k := k) (fun _ h => upr_ne h) (fun _ _ => rfl), ent_i hk.2 (Or.inl rfl)]
    congr 6
    exact upr_eq.symm
  rw [eW] at hP1
  exact kk p l e s m args below meth cd H1 locs1 ms C hP1 hS1 hl
theorem n_aald {k : Nat} {i : Int32} (hd : decode (mB μ) pc = .ok (.aaload, 1)) (hk : k < nC g ∧ ((shp g k).1 = 102 ∨ (shp g k).1 = 103)) (hi : vp_in i (shp g k).2) (kk : PW g ev μ (pc + 1) ls (.ref (rfs g k i.toNatClampNeg) :: st) σ Post) : PW g ev μ pc ls (.int i :: .ref k :: st) σ Post := fun p l e s m args below meth cd H locs ms C hH hS hl => by
  have hlt := ix_lt hi
  have hK : Kno ev s := C.2.2.2.2.2.2.2.2.1
  have hc := hH k _ (wld_get hk.1)
  have key : ∀ (t0 : Nat) (ty : FieldType) (c : Nat), (tysG ev)[t0]? = some (ev.2.2 c, ty) → ty.isReference = true → ent ev g σ k = .inl (ev.2.2 c, (shp g k).2, .inr (.inr (.inr (.inr (fun j => some (ev.1 (rfs g k j))))))) → W p l e (rmM μ) s m args below meth cd H locs 0 0 (MQ below (QcO g ev Post) args s 0 0 (Af g ev)) (F0 m pc ms (.int i :: .ref (ev.1 k) :: st.map (mv ev))) := by
    intro t0 ty c ht hr he
    rw [he] at hc
    exact W.aald (v := .ref (ev.1 (rfs g k i.toNatClampNeg))) (ty := ty) C.1 C.2.1 hc ((hK.2 t0 _ ht).1 (shp g k).2 (fun j => va_rf (some (ev.1 (rfs g k j))))) hr (fun q => by cases q) (by show ¬ (i < 0 ∨ (arrV _ _ _).slots.size ≤ _); rw [arrV_size]; exact hi) (by show (arrV _ _ _).slots[_]? = _; rw [arrV_read _ _ hlt]; rfl) rfl rfl hd (kk p l e s m args below meth cd H locs ms C hH hS hl)
  rcases hk.2 with h | h
  · exact key 2 (.array .int) 102 rfl rfl (ent_r h (Or.inl rfl))
  · exact key 3 (.object "ChainedChest$Sheet") 103 rfl rfl (ent_r h (Or.inr rfl))
theorem n_alen {k : Nat} (hd : decode (mB μ) pc = .ok (.arraylength, 1)) (hk : k < nC g ∧ ((shp g k).1 = 100 ∨ (shp g k).1 = 101)) (kk : PW g ev μ (pc + 1) ls (.int (nI (shp g k).2) :: st) σ Post) : PW g ev μ pc ls (.ref k :: st) σ Post := fun p l e s m args below meth cd H locs ms C hH hS hl => by
  rcases hk.2 with h | h
  · exact va_alen (x := ((shp g k).2, .inl (σ.1 k))) (D := ev.2.1) (cl := cls7) (tys := tysG ev) (ws := wld ev g σ) C.1 C.2.1 C.2.2.2.2.2.2.2.2.1 hH k 0 ((wld_get hk.1).trans (by rw [ent_i h (Or.inl rfl)])) rfl rfl hd (kk p l e s m args below meth cd H locs ms C hH hS hl)
  · exact va_alen (x := ((shp g k).2, .inl (σ.1 k))) (D := ev.2.1) (cl := cls7) (tys := tysG ev) (ws := wld ev g σ) C.1 C.2.1 C.2.2.2.2.2.2.2.2.1 hH k 1 ((wld_get hk.1).trans (by rw [ent_i h (Or.inr rfl)])) rfl rfl hd (kk p l e s m args below meth cd H locs ms C hH hS hl)
theorem n_ialdS {k : Nat} {i : Int32} (hd : decode (mB μ) pc = .ok (.iaload, 1)) (hk : g = 0 ∧ 200 ≤ k ∧ k < 206) (hi : vp_in i (shp g k).2) (kk : PW g ev μ (pc + 1) ls (.int (cst k i.toNatClampNeg) :: st) σ Post) : PW g ev μ pc ls (.int i :: .ref k :: st) σ Post := fun p l e s m args below meth cd H locs ms C hH hS hl => by
  obtain ⟨rfl, h1, h2⟩ := hk
  exact va_ti C.1 C.2.1 ((C.2.2.2.2.2.2.2.2.2 rfl).1 k h1 h2).2 hS hi rfl hd (kk p l e s m args below meth cd H locs ms C hH hS hl)
theorem n_gsA {i k : Nat} (hd : decode (mB μ) pc = .ok (.getstatic i, 3)) (hg : g = 0) (hf : 200 ≤ k ∧ k < 206 ∧ Cond.fieldLink (ocN (mC μ)) i RX0 (stN k) "[I" ∈ lwG) (kk : PW g ev μ (pc + 3) ls (.ref k :: st) σ Post) : PW g ev μ pc ls st σ Post := fun p l e s m args below meth cd H locs ms C hH hS hl => by
  obtain ⟨h1, h2, h3⟩ := hf
  exact va_gets C.1 C.2.1 ((C.2.2.2.2.2.2.2.2.2 hg).1 k h1 h2).1 hS C.2.2.2.2.1 (cx_in C h3) (fun _ h => h) hd (kk p l e s m args below meth cd H locs ms C hH hS hl)
theorem n_gsI {i : Nat} (hd : decode (mB μ) pc = .ok (.getstatic i, 3)) (hg : g = 0) (hf : Cond.fieldLink (ocN (mC μ)) i (stF 2).1 (stF 2).2.1 (stF 2).2.2 ∈ lwG) (kk : PW g ev μ (pc + 3) ls (.int 1 :: st) σ Post) : PW g ev μ pc ls st σ Post := fun p l e s m args below meth cd H locs ms C hH hS hl =>
  va_gets C.1 C.2.1 (C.2.2.2.2.2.2.2.2.2 hg).2.2.1 hS C.2.2.2.2.1 (cx_in C hf) (fun _ h => h) hd (kk p l e s m args below meth cd H locs ms C hH hS hl)
theorem n_gsQ {i : Nat} (hd : decode (mB μ) pc = .ok (.getstatic i, 3)) (hg : g = 0) (hf : Cond.fieldLink (ocN (mC μ)) i (stF 3).1 (stF 3).2.1 (stF 3).2.2 ∈ lwG) (k1 : PW g ev μ (pc + 3) ls (.null :: st) σ Post) (k2 : PW g ev μ (pc + 3) ls (.ref 999 :: st) σ Post) : PW g ev μ pc ls st σ Post := fun p l e s m args below meth cd H locs ms C hH hS hl => by
  rcases (C.2.2.2.2.2.2.2.2.2 hg).2.2.2 with hZ | hZ
  · exact va_gets C.1 C.2.1 hZ hS C.2.2.2.2.1 (cx_in C hf) (fun _ h => h) hd (k1 p l e s m args below meth cd H locs ms C hH hS hl)
  · exact va_gets C.1 C.2.1 hZ hS C.2.2.2.2.1 (cx_in C hf) (fun _ h => h) hd (k2 p l e s m args below meth cd H locs ms C hH hS hl)
theorem str_at {k : Nat} (h1 : 300 ≤ k) (h2 : k < 316) : ∃ q, strL[k - 300]? = some q := by
  have : k - 300 < strL.length := by show k - 300 < 16; omega
  exact ⟨_, List.getElem?_eq_getElem this⟩
theorem n_ldS {i k : Nat} (hd : decode (mB μ) pc = .ok (.ldc i, 2)) (hg : g = 0) (hm : mC μ = 3) (h1 : 300 ≤ k) (hq : ∃ tx, strL[k - 300]? = some (i, tx)) (kk : PW g ev μ (pc + 2) ls (.ref k :: st) σ Post) : PW g ev μ pc ls st σ Post := fun p l e s m args below meth cd H locs ms C hH hS hl => by
  obtain ⟨tx, hq⟩ := hq
  have h2 : k < 316 := by
    have h3 := (List.getElem?_eq_some_iff.mp hq).1
    have h4 : k - 300 < 16 := h3
    omega
  have hown := C.2.2.2.2.1
  rw [hm] at hown
  exact va_ldcS C.1 C.2.1 (own := RX3) hown ((C.2.2.2.2.2.2.2.2.2 hg).2.1 k h1 h2 _ hq).1 hd (kk p l e s m args below meth cd H locs ms C hH hS hl)
theorem n_gfS {i k : Nat} (hd : decode (mB μ) pc = .ok (.getfield i, 3)) (hf : Cond.fieldLink (ocN (mC μ)) i (stF 0).1 (stF 0).2.1 (stF 0).2.2 ∈ lwG) (hk : g = 0 ∧ 300 ≤ k ∧ k < 316) (kk : PW g ev μ (pc + 3) ls (.ref (k + 100) :: st) σ Post) : PW g ev μ pc ls (.ref k :: st) σ Post := fun p l e s m args below meth cd H locs ms C hH hS hl => by
  obtain ⟨h0, h1, h2⟩ := hk
  obtain ⟨q, hq⟩ := str_at h1 h2
  exact vk_getf C.1 C.2.1 ((C.2.2.2.2.2.2.2.2.2 h0).2.1 k h1 h2 _ hq).2.2.2.1 hS C.2.2.2.2.1 (cx_in C hf) (fun _ h => h) hd (kk p l e s m args below meth cd H locs ms C hH hS hl)
theorem n_gfC {i k : Nat} (hd : decode (mB μ) pc = .ok (.getfield i, 3)) (hf : Cond.fieldLink (ocN (mC μ)) i (stF 1).1 (stF 1).2.1 (stF 1).2.2 ∈ lwG) (hk : g = 0 ∧ 300 ≤ k ∧ k < 316) (kk : PW g ev μ (pc + 3) ls (.int 0 :: st) σ Post) : PW g ev μ pc ls (.ref k :: st) σ Post := fun p l e s m args below meth cd H locs ms C hH hS hl => by
  obtain ⟨h0, h1, h2⟩ := hk
  obtain ⟨q, hq⟩ := str_at h1 h2
  exact vk_getf C.1 C.2.1 ((C.2.2.2.2.2.2.2.2.2 h0).2.1 k h1 h2 _ hq).2.2.1 hS C.2.2.2.2.1 (cx_in C hf) (fun _ h => h) hd (kk p l e s m args below meth cd H locs ms C hH hS hl)
theorem n_baldS {k : Nat} {i : Int32} (hd : decode (mB μ) pc = .ok (.baload, 1)) (hk : g = 0 ∧ 400 ≤ k ∧ k < 416) (hi : vp_in i (shp g k).2) (kk : PW g ev μ (pc + 1) ls (.int (cst k i.toNatClampNeg) :: st) σ Post) : PW g ev μ pc ls (.int i :: .ref k :: st) σ Post := fun p l e s m args below meth cd H locs ms C hH hS hl => by
  obtain ⟨rfl, h1, h2⟩ := hk
  obtain ⟨k', rfl⟩ : ∃ k', k = k' + 100 := ⟨k - 100, by omega⟩
  obtain ⟨q, hq⟩ := str_at (k := k') (by omega) (by omega)
  exact va_tb C.1 C.2.1 ((C.2.2.2.2.2.2.2.2.2 rfl).2.1 k' (by omega) (by omega) _ hq).2.2.2.2 hS hi rfl hd (kk p l e s m args below meth cd H locs ms C hH hS hl)
theorem n_alenS {k : Nat} (hd : decode (mB μ) pc = .ok (.arraylength, 1)) (hk : g = 0 ∧ 400 ≤ k ∧ k < 416) (kk : PW g ev μ (pc + 1) ls (.int (nI (shp g k).2) :: st) σ Post) : PW g ev μ pc ls (.ref k :: st) σ Post := fun p l e s m args below meth cd H locs ms C hH hS hl => by
  obtain ⟨rfl, h1, h2⟩ := hk
  obtain ⟨k', rfl⟩ : ∃ k', k = k' + 100 := ⟨k - 100, by omega⟩
  obtain ⟨q, hq⟩ := str_at (k := k') (by omega) (by omega)
  exact va_tlen C.1 C.2.1 ((C.2.2.2.2.2.2.2.2.2 rfl).2.1 k' (by omega) (by omega) _ hq).2.2.2.2 hS rfl hd (kk p l e s m args below meth cd H locs ms C hH hS hl)
theorem le4_use {st : List Value} {P : Prop} (h : le4 st P) : st.length ≤ 4 ∧ P := by
  unfold le4 at h
  split at h
  next => exact h.elim
  next hn =>
    refine ⟨?_, h⟩
    rcases st with _ | ⟨a, _ | ⟨b, _ | ⟨c, _ | ⟨d, _ | ⟨e, r⟩⟩⟩⟩⟩
    · simp
    · simp
    · simp
    · simp
    · simp
    · exact absurd rfl (hn a b c d e r)
theorem cat_sum (ev : EV) : ∀ (st : List Value) (n : Nat), st.length ≤ n → ((st.map (mv ev)).map fun v => v.category).sum ≤ 2 * n := by
  intro st
  induction st with
  | nil => intro n _; simp
  | cons v st ih =>
    intro n h
    cases n with
    | zero => simp at h
    | succ n =>
      have h1 := ih n (by simpa using h)
      have h2 := lv_cat (mv ev v)
      simp only [List.map_cons, List.sum_cons]
      omega
theorem n_mmin {i : Nat} {x y : Int32} (hd : decode (mB μ) pc = .ok (.invokestatic i, 3)) (hf : Cond.methodLink (ocN (mC μ)) i (ntN 0) ∈ lwG) (he : 0 < mE μ) (h4 : st.length ≤ 4) (kk : PW g ev μ (pc + 3) ls (.int (if y < x then y else x) :: st) σ Post) : PW g ev μ pc ls (.int y :: .int x :: st) σ Post := fun p l e s m args below meth cd H locs ms C hH hS hl =>
  va_mmin (R := rmM μ) C.1 C.2.1 (by rw [C.2.2.2.1, hl.1]) C.2.2.2.2.1 (cx_in C hf) (cx_in C (nat_in _ (by simp))) (cx_in C (nat_in _ (by simp))) (cx_in C (nat_in _ (by simp))) he (by have := cat_sum ev st 4 h4; show _ + 13 ≤ 40 * mE μ; omega) (Nat.zero_le _) (Nat.zero_le _) hd (kk p l e s m args below meth cd H locs ms C hH hS hl)
theorem n_mmax {i : Nat} {x y : Int32} (hd : decode (mB μ) pc = .ok (.invokestatic i, 3)) (hf : Cond.methodLink (ocN (mC μ)) i (ntN 1) ∈ lwG) (he : 0 < mE μ) (h4 : st.length ≤ 4) (kk : PW g ev μ (pc + 3) ls (.int (if x < y then y else x) :: st) σ Post) : PW g ev μ pc ls (.int y :: .int x :: st) σ Post := fun p l e s m args below meth cd H locs ms C hH hS hl =>
  va_mmax (R := rmM μ) C.1 C.2.1 (by rw [C.2.2.2.1, hl.1]) C.2.2.2.2.1 (cx_in C hf) (cx_in C (nat_in _ (by simp))) (cx_in C (nat_in _ (by simp))) (cx_in C (nat_in _ (by simp))) he (by have := cat_sum ev st 4 h4; show _ + 13 ≤ 40 * mE μ; omega) (Nat.zero_le _) (Nat.zero_le _) hd (kk p l e s m args below meth cd H locs ms C hH hS hl)
theorem n_mmaxL {i : Nat} {x y : Int64} (hd : decode (mB μ) pc = .ok (.invokestatic i, 3)) (hf : Cond.methodLink (ocN (mC μ)) i (ntN 2) ∈ lwG) (he : 0 < mE μ) (h4 : st.length ≤ 4) (kk : PW g ev μ (pc + 3) ls (.long (if y < x then x else y) :: st) σ Post) : PW g ev μ pc ls (.long y :: .long x :: st) σ Post := fun p l e s m args below meth cd H locs ms C hH hS hl =>
  va_mmax_long (R := rmM μ) C.1 C.2.1 (by rw [C.2.2.2.1, hl.1]) C.2.2.2.2.1 (cx_in C hf) (cx_in C (nat_in _ (by simp))) (cx_in C (nat_in _ (by simp))) (cx_in C (nat_in _ (by simp))) he (by have := cat_sum ev st 4 h4; show _ + 15 ≤ 40 * mE μ; omega) (Nat.zero_le _) (Nat.zero_le _) hd (kk p l e s m args below meth cd H locs ms C hH hS hl)
theorem n_acopy {i k k0 : Nat} {sp dp n : Int32} (hd : decode (mB μ) pc = .ok (.invokestatic i, 3)) (hf : Cond.methodLink (ocN (mC μ)) i (ntN 3) ∈ lwG) (he : 0 < mE μ) (h4 : st.length ≤ 4) (hk : k < nC g ∧ (shp g k).1 = 100) (hk0 : k0 < nC g ∧ (shp g k0).1 = 100) (h3 : ¬ sp < 0 ∧ ¬ dp < 0 ∧ ¬ n < 0) (h5 : sp.toNatClampNeg + n.toNatClampNeg ≤ (shp g k0).2 ∧ dp.toNatClampNeg + n.toNatClampNeg ≤ (shp g k).2) (kk : PW g ev μ (pc + 3) ls st (sr σ k (va_cpy (σ.1 k0) (σ.1 k) sp.toNatClampNeg dp.toNatClampNeg n.toNatClampNeg)) Post) : PW g ev μ pc ls (.int n :: .int dp :: .ref k :: .int sp :: .ref k0 :: st) σ Post := fun p l e s m args below meth cd H locs ms C hH hS hl => by
  have hloc : ((st.map (mv ev)).map fun v => v.category).sum + (nativeFrameWords "java/lang/System" "arraycopy" 5 + 11) ≤ (rmM μ).locals := by
    have h1 := cat_sum ev st 4 h4
    have e1 : nativeFrameWords "java/lang/System" "arraycopy" 5 = 7 := by decide +kernel
    rw [e1]
    show _ + (7 + 11) ≤ 40 * mE μ
    omega
  refine va_copyi (R := rmM μ) (D := ev.2.1) (cl := cls7) (tys := tysG ev) (ws := wld ev g σ) (ty := .int) C.1 C.2.1 (by rw [C.2.2.2.1, hl.1]) C.2.2.2.2.1 (cx_in C hf) (cx_in C (nat_in _ (by simp))) (cx_in C (nat_in _ (by simp))) (cx_in C (nat_in _ (by simp))) C.2.2.2.2.2.2.2.2.1 hH (wld_D C.2.2.2.2.2.2.2.1) hS k0 k 0 0 ((wld_get hk0.1).trans (by rw [ent_i hk0.2 (Or.inl rfl)])) ((wld_get hk.1).trans (by rw [ent_i hk.2 (Or.inl rfl)])) rfl rfl rfl h3.1 h3.2.1 h3.2.2 h5.1 h5.2 (fun _ _ => rfl) he hloc hd (fun H1 locs1 hP1 hD1 hS1 => ?_)
  have eW : (wld ev g σ).set k (ev.1 k, .inl (ev.2.2 100, (shp g k).2, .inl (va_cpy (σ.1 k0) (σ.1 k) sp.toNatClampNeg dp.toNatClampNeg n.toNatClampNeg))) = wld ev g (sr σ k (va_cpy (σ.1 k0) (σ.1 k) sp.toNatClampNeg dp.toNatClampNeg n.toNatClampNeg)) := by
    rw [← wld_set (ev := ev) (g := g) (σ := σ) (τ := sr σ k (va_cpy (σ.1 k0) (σ.1 k) sp.toNatClampNeg dp.toNatClampNeg n.toNatClampNeg)) (k := k) (fun _ h => upr_ne h) (fun _ _ => rfl), ent_i hk.2 (Or.inl rfl)]
    congr 6
    exact upr_eq.symm
  rw [eW] at hP1
  exact kk p l e s m args below meth cd H1 locs1 ms C hP1 hS1 hl
end NH
end
section
/-! calls, ends, switches, and the whole: a block's weakest precondition holds of the machine -/
theorem wrd_blind {g : Nat} {ev : EV} {σ : St2} {as : List Value} : FrameBlind (va_Pc as (Wrd g ev σ)) := fun a U gg mk h =>
  ⟨h.1, h.2.1, h.2.2.1, va_K.moved (u := U) (U := U.calling gg mk a) (Vm.Alike.refl U.vm) h.2.2.2.1, Ex.warm (s := U) (U := U.calling gg mk a) (State.WarmedH.refl U) h.2.2.2.2⟩
theorem cx_wrd {g : Nat} {ev : EV} {μ : Nat} {p : Program} {s : State} {m : MethodId} {args : Array Value} {meth : Method} {c : Code} {σ : St2} {H : Heap} {locs : List Loc} (C : Cx g ev μ p s m args meth c) (hH : Hld g ev σ H) (hS : va_S (Af g ev) s.heap H locs) {U : State} (hU : U.heap = H) (hW : s.WarmedH U.vm) : Wrd g ev σ U :=
  ⟨by rw [hU]; exact hH, C.2.2.2.2.2.2.2.1, va_K.moved hW.alike C.2.2.2.2.2.2.2.2.1, by rw [hU]; exact Ex.warm hW (C.2.2.2.2.2.2.2.2.2.kept hS.2.1)⟩
section NC
variable {g : Nat} {ev : EV} {μ pc : Nat} {ls st : List Value} {σ : St2} {Post : PO}
theorem w_call {p : Program} {l : Launch} {e : Env} {R : Room} {s : State} {m : MethodId} {args : Array Value} {below : List Frame} {meth : Method} {c : Code} {H : Heap} {locs : List Loc} {Q : State → Prop} {ms : Array Slot} {stk rest : List Value} {a : Array Value} {K : PO} {A0 : Nat → Prop} {cells slots : Nat}
    (hr : va_Run p l e R s m args below meth c H locs cells slots 0 0 (F0 m pc ms stk) rest (QcO g ev K a) (Af g ev)) (hS : va_S A0 s.heap H locs) (hA : ∀ q, Af g ev q → A0 q)
    (kk : ∀ (r : Option Value) (σ : St2) (t : State) (H1 : Heap) (locs1 : List Loc), t.heap = H1 → s.vm.Alike t.vm → K r σ → Wrd g ev σ t → (∀ q : Nat, q < H.size → ¬ Af g ev q → H1[q]? = H[q]?) → H.size ≤ H1.size → va_S A0 s.heap H1 locs1 → W p l e R s m args below meth c H1 locs1 cells slots Q (F0 m (pc + 3) ms ((r.map (mv ev)).toList ++ rest))) : W p l e R s m args below meth c H locs cells slots Q (F0 m pc ms stk) := by
  intro T hT X
  obtain ⟨v, st₀, t, T', L, h0, X', hL, e1, e2, ⟨⟨r, τ, hv, hp, hb⟩, hz, hk⟩, stp⟩ := hr T hT X
  cases hv
  rw [h0] at hz hk
  obtain ⟨t2, a1, b1⟩ := kk r τ t T'.heap (locs ++ L) e1.symm (by rw [← e2]; exact X'.warmed.alike) hp hb (fun q h1 h2 => by rw [e1]; exact hk q h1 h2) (by rw [e1]; exact hz)
    ⟨Nat.le_trans hS.1 (by rw [e1]; exact hz), fun q h1 h2 => by rw [e1, hk q (Nat.lt_of_lt_of_le h1 hS.1) (fun z => h2 (hA q z))]; exact hS.2.1 q h1 h2, fun q hq => by
      rcases List.mem_append.mp hq with h | h
      · exact hS.2.2 q h
      · exact hA _ (hL q h)⟩ T' rfl X'
  exact ⟨t2, stp t2 a1, b1⟩
theorem callB_m {R : Room} {s : State} {args : Array Value} {own : String} {i y : Nat} (hts : ∀ w ∈ lwG, w.before args s = true) (hy : y < 254) (hfr : mE y + 1 ≤ R.frames) (hlo : 40 * (mE y + 1) ≤ R.locals) (hl : Cond.methodLink own i (mY y) ∈ lwG) : CallB R s args own i (mY y) (mB y) (mX y) (mR y) (wsM y) (rmM y) 0 0 (if mS y then mA y else mA y - 1) := by
  obtain ⟨a1, a2, a3, a4, a5, a6⟩ := meth_a_use hy
  obtain ⟨b1, b2, b3, b4⟩ := meth_b_use hy
  refine ⟨rfl, rfl, hfr, by show 8 + (mX y + 11) + 40 * mE y ≤ R.locals; omega, ?_, List.mem_cons_self, hts _ b1, hts _ b2, a5, a3, hts _ hl⟩
  intro w hw a' U hW
  rcases List.mem_cons.mp hw with rfl | hw
  · exact word_at hW (lwG_good _ b1) (hts _ b1)
  · exact word_at hW (lwG_good _ hw) (hts _ hw)
/-- a receiver -/
theorem rcv_at {s : State} {H : Heap} {locs : List Loc} {c k : Nat} (hr : rcv g c k) (hH : Hld g ev σ H) (hK : Kno ev s) (hE : Ex g ev s s.heap) (hS : va_S (Af g ev) s.heap H locs) : ∃ cellB : Cell, H[ev.1 k]? = some cellB ∧ cellB.vm.isStatics = false ∧ s.vm.findClass (ocN c) = some cellB.cls := by
  rcases hr with ⟨h1, h2, h3⟩ | ⟨rfl, h0, h1, h2⟩
  · obtain ⟨q1, -, q3⟩ := clG_at c h3
    rw [← q3]
    exact va_recv hK hH q1 ((wld_get h1).trans (by rw [ent_o h2 h3]))
  · obtain ⟨q, hq⟩ := str_at h1 h2
    obtain ⟨cell, z1, z2, z3, -⟩ := ((hE h0).2.1 k h1 h2 q hq).2.1.kept hS.2.1
    exact ⟨cell, z1, z2, z3⟩
theorem n_callV {i n y : Nat} (hd : decode (mB μ) pc = .ok (.invokevirtual i, 3)) (hy : y < 254 ∧ Cond.methodLink (ocN (mC μ)) i (mY y) ∈ lwG) (hst : mS y = false) (hn : mA y = n) (he : mE y < mE μ) (h4 : (st.drop n).length ≤ 4) (hlen : n ≤ st.length) {K : PO} (hR : Rn g ev y (st.take n).reverse σ K) (kk : ∀ r σ, K r σ → PW g ev μ (pc + 3) ls (r.toList ++ st.drop n) σ Post) : PW g ev μ pc ls st σ Post := fun p l e s m args below meth cd H locs ms C hH hS hl => by
  obtain ⟨hr, hA, hM⟩ := hR
  obtain ⟨k, as', ea, hrc⟩ := hr hst
  obtain ⟨b1, b2, b3, b4⟩ := meth_b_use hy.1
  obtain ⟨a1, a2, a3, a4, a5, a6⟩ := meth_a_use hy.1
  have hts : ∀ w ∈ lwG, w.before args s = true := fun w hw => cx_in C hw
  have est : st = as'.reverse ++ .ref k :: st.drop n := by
    have h1 : (st.take n) = (.ref k :: as').reverse := by rw [← ea, List.reverse_reverse]
    calc st = st.take n ++ st.drop n := (List.take_append_drop n st).symm
      _ = _ := by rw [h1]; simp
  have hla : as'.length = n - 1 := by
    have h1 : ((st.take n).reverse).length = n := by simp; omega
    rw [ea] at h1
    simp at h1
    omega
  have hpos : 0 < n := by
    rcases a6 with h | h
    · rw [hst] at h; cases h
    · omega
  obtain ⟨cB, hcB⟩ := rcv_at hrc hH C.2.2.2.2.2.2.2.2.1 C.2.2.2.2.2.2.2.2.2 hS
  have hstk : st.map (mv ev) = (as'.map (mv ev)).reverse ++ .ref (ev.1 k) :: (st.drop n).map (mv ev) := by
    rw [← List.map_reverse]
    conv => lhs; rw [est]
    rw [List.map_append]
    rfl
  have hrun := va_runV (p := p) (l := l) (e := e) (R := rmM μ) (m := m) (below := below) (meth := meth) (locs := locs) (cells := 0) (slots := 0) (As := as'.map (mv ev)) (rest := (st.drop n).map (mv ev)) (b := ev.1 k) (g := F0 m pc ms (st.map (mv ev))) (H := H) ⟨C.1, C.2.1, C.2.2.2.1, C.2.2.2.2.1, hts⟩ (hM l) (C := (mY y).cls) ⟨callB_m (own := ocN (mC μ)) (i := i) hts hy.1 he (by show _ ≤ 40 * mE μ; omega) hy.2, hts _ (b4 hst).1, hts _ (b4 hst).2⟩
    ⟨wrd_blind, ⟨cB, hcB.1, hcB.2.1, by rw [a1]; exact hcB.2.2⟩, fun U hU hW => ⟨by rw [ea]; rfl, cx_wrd C hH hS hU hW⟩⟩ rfl (by rw [List.length_map, hla, hst, hn]; rfl) hl.1 hstk (by have := cat_sum ev (st.drop n) 4 h4; show 2 * 0 + _ ≤ 8; omega) hd ⟨Nat.zero_le _, Nat.zero_le _⟩
  refine w_call hrun hS (fun _ h => h) (fun r τ t H1 locs1 ht hvm hK hW hfr hsz hS1 => ?_)
  have h2 := kk r τ hK p l e s m args below meth cd H1 locs1 ms C (by rw [← ht]; exact hW.1) hS1 hl
  rw [List.map_append] at h2
  have e3 : r.toList.map (mv ev) = (r.map (mv ev)).toList := by cases r <;> rfl
  rw [e3] at h2
  exact h2
theorem n_callS {i n y : Nat} (hd : decode (mB μ) pc = .ok (.invokestatic i, 3)) (hy : y < 254 ∧ Cond.methodLink (ocN (mC μ)) i (mY y) ∈ lwG) (hst : mS y = true) (hn : mA y = n) (he : mE y < mE μ) (h4 : (st.drop n).length ≤ 4) (hlen : n ≤ st.length) {K : PO} (hR : Rn g ev y (st.take n).reverse σ K) (kk : ∀ r σ, K r σ → PW g ev μ (pc + 3) ls (r.toList ++ st.drop n) σ Post) : PW g ev μ pc ls st σ Post := fun p l e s m args below meth cd H locs ms C hH hS hl => by
  obtain ⟨hr, hA, hM⟩ := hR
  obtain ⟨b1, b2, b3, b4⟩ := meth_b_use hy.1
  obtain ⟨a1, a2, a3, a4, a5, a6⟩ := meth_a_use hy.1
  have hts : ∀ w ∈ lwG, w.before args s = true := fun w hw => cx_in C hw
  have hstk : st.map (mv ev) = ((st.take n).reverse.map (mv ev)).reverse ++ (st.drop n).map (mv ev) := by
    rw [← List.map_reverse, List.reverse_reverse, ← List.map_append, List.take_append_drop]
  have hrun := va_runS (p := p) (l := l) (e := e) (R := rmM μ) (m := m) (below := below) (meth := meth) (locs := locs) (cells := 0) (slots := 0) (As := (st.take n).reverse.map (mv ev)) (rest := (st.drop n).map (mv ev)) (g := F0 m pc ms (st.map (mv ev))) (H := H) ⟨C.1, C.2.1, C.2.2.2.1, C.2.2.2.2.1, hts⟩ (hM l) ⟨callB_m (own := ocN (mC μ)) (i := i) hts hy.1 he (by show _ ≤ 40 * mE μ; omega) hy.2, hts _ (b3 hst)⟩
    ⟨wrd_blind, fun U hU hW => ⟨rfl, cx_wrd C hH hS hU hW⟩⟩ rfl (by rw [hst, hn]; simp; omega) hl.1 hstk (by have := cat_sum ev (st.drop n) 4 h4; show 2 * 0 + _ ≤ 8; omega) hd ⟨Nat.zero_le _, Nat.zero_le _⟩
  refine w_call hrun hS (fun _ h => h) (fun r τ t H1 locs1 ht hvm hK hW hfr hsz hS1 => ?_)
  have h2 := kk r τ hK p l e s m args below meth cd H1 locs1 ms C (by rw [← ht]; exact hW.1) hS1 hl
  rw [List.map_append] at h2
  have e3 : r.toList.map (mv ev) = (r.map (mv ev)).toList := by cases r <;> rfl
  rw [e3] at h2
  exact h2
theorem n_iret {x : Int32} {ty : FieldType} (hd : decode (mB μ) pc = .ok (.ireturn, 1)) (hr : mR μ = some ty) (hn : narrow ty (.int x) = .int x) (hP : Post (some (.int x)) σ) : PW g ev μ pc ls [.int x] σ Post := fun p l e s m args below meth cd H locs ms C hH hS hl =>
  W.zret C.1 C.2.1 (C.2.2.1.trans hr) hn (fun t ht hW => ⟨⟨some (.int x), σ, rfl, hP, cx_wrd C hH hS ht hW⟩, hS.F ht⟩) hS.2.2 hd C.2.2.2.2.2.2.1
theorem n_lret {x : Int64} (hd : decode (mB μ) pc = .ok (.lreturn, 1)) (hr : mR μ = some .long) (hP : Post (some (.long x)) σ) : PW g ev μ pc ls [.long x] σ Post := fun p l e s m args below meth cd H locs ms C hH hS hl =>
  W.lret C.1 C.2.1 (C.2.2.1.trans hr) (fun t ht hW => ⟨⟨some (.long x), σ, rfl, hP, cx_wrd C hH hS ht hW⟩, hS.F ht⟩) hS.2.2 hd C.2.2.2.2.2.2.1
theorem n_vret (hd : decode (mB μ) pc = .ok (.return_, 1)) (hr : mR μ = none) (hP : Post none σ) : PW g ev μ pc ls [] σ Post := fun p l e s m args below meth cd H locs ms C hH hS hl =>
  W.vret C.1 C.2.1 (C.2.2.1.trans hr) (fun t ht hW => ⟨⟨none, σ, rfl, hP, cx_wrd C hH hS ht hW⟩, hS.F ht⟩) hS.2.2 hd C.2.2.2.2.2.2.1
theorem n_aret {x : Nat} {nm : String} (hd : decode (mB μ) pc = .ok (.areturn, 1)) (hr : mR μ = some (.object nm)) (hP : Post (some (.ref x)) σ) : PW g ev μ pc ls [.ref x] σ Post := fun p l e s m args below meth cd H locs ms C hH hS hl =>
  W.aret C.1 C.2.1 (C.2.2.1.trans hr) (Or.inl ⟨nm, rfl⟩) (Or.inr ⟨_, rfl⟩) (fun t ht hW => ⟨⟨some (.ref x), σ, rfl, hP, cx_wrd C hH hS ht hW⟩, hS.F ht⟩) hS.2.2 hd C.2.2.2.2.2.2.1
theorem n_tsw {x : Int32} {t : Nat} {dflt lo hi : Int} {offs : Array Int} {len : Nat} (hd : decode (mB μ) pc = .ok (.tableswitch dflt lo hi offs, len)) (h : ((x.toInt < lo ∨ hi < x.toInt) ∧ (pc : Int) + dflt = (t : Int)) ∨ (¬ x.toInt < lo ∧ ¬ hi < x.toInt ∧ ∃ off, offs[(x.toInt - lo).toNat]? = some off ∧ (pc : Int) + off = (t : Int))) (k : PW g ev μ t ls st σ Post) : PW g ev μ pc ls (.int x :: st) σ Post := fun p l e s m args below meth cd H locs ms C hH hS hl => by
  rcases h with ⟨h1, h2⟩ | ⟨h1, h2, off, h3, h4⟩
  · exact lv_tableOut C.1 C.2.1 hd h1 h2 (k p l e s m args below meth cd H locs ms C hH hS hl)
  · exact lv_tableIn C.1 C.2.1 hd h1 h2 h3 h4 (k p l e s m args below meth cd H locs ms C hH hS hl)
theorem n_lsw {x : Int32} {t : Nat} {dflt : Int} {ps : Array (Int × Int)} {len : Nat} {off : Int} (hd : decode (mB μ) pc = .ok (.lookupswitch dflt ps, len)) (hp : (ps.toList.zip (ps.toList.drop 1)).all (fun (a, next) => a.1 < next.1) = true) (ho : Op.lookupswitch.offset ps.toList dflt x.toInt = off) (ht : (pc : Int) + off = (t : Int)) (k : PW g ev μ t ls st σ Post) : PW g ev μ pc ls (.int x :: st) σ Post := fun p l e s m args below meth cd H locs ms C hH hS hl =>
  lv_lookup C.1 C.2.1 hd hp ho ht (k p l e s m args below meth cd H locs ms C hH hS hl)
end NC
end
section
/-! a block: its weakest precondition holds of the machine -/
section NB
variable {g : Nat} {ev : EV} {μ pc : Nat} {ls st : List Value} {σ : St2} {Post : PO} {Sp : SPT} {K : KT} {a b c : Nat} {v : Int32} {q : Instr × Nat}
theorem sI_0 (hSp : ∀ y as σ K, Sp y as σ K → Rn g ev y as σ K) (hq : rawI (0, a, b, c, v) = some q) (hd : decode (mB μ) pc = .ok q) (hres : resI μ (0, a, b, c, v) = true) (hw : wpI g Sp (0, a, b, c, v) ls st σ K) (hk : ∀ ls st σ, K ls st σ → PW g ev μ (pc + q.2) ls st σ Post) : PW g ev μ pc ls st σ Post := by
  unfold rawI at hq
  simp only at hq
  have hres' : (if a < 3 then (if a = 0 then Int32.ofInt v.toInt == v else if a = 1 then (Int8.ofInt v.toInt).toInt32 == v else (Int16.ofInt v.toInt).toInt32 == v) else ctab.any (fun e => e.1 == mC μ && e.2.1 == (if a % 2 = 1 then (a - 3) / 2 else (a - 4) / 2) && e.2.2.1 == v)) = true := hres
  have hw' : K ls (.int v :: st) σ := hw
  by_cases h0 : a = 0
  · rw [if_pos h0] at hq
    cases hq
    rw [if_pos (by omega), if_pos h0] at hres'
    exact n_iconst hd (beq_iff_eq.mp hres') (hk _ _ _ hw')
  rw [if_neg h0] at hq
  by_cases h1 : a = 1
  · rw [if_pos h1] at hq
    cases hq
    rw [if_pos (by omega), if_neg h0, if_pos h1] at hres'
    exact n_bipush hd (beq_iff_eq.mp hres') (hk _ _ _ hw')
  rw [if_neg h1] at hq
  by_cases h2 : a = 2
  · rw [if_pos h2] at hq
    cases hq
    rw [if_pos (by omega), if_neg h0, if_neg h1] at hres'
    exact n_sipush hd (beq_iff_eq.mp hres') (hk _ _ _ hw')
  rw [if_neg h2] at hq
  rw [if_neg (by omega)] at hres'
  have hw2 := ctab_use hres'
  by_cases h3 : a % 2 = 1
  · rw [if_pos h3] at hq hw2
    cases hq
    exact n_ldc hd hw2 (hk _ _ _ hw')
  · rw [if_neg h3] at hq hw2
    cases hq
    exact n_ldcw hd hw2 (hk _ _ _ hw')
theorem sI_1 (hSp : ∀ y as σ K, Sp y as σ K → Rn g ev y as σ K) (hq : rawI (1, a, b, c, v) = some q) (hd : decode (mB μ) pc = .ok q) (hres : resI μ (1, a, b, c, v) = true) (hw : wpI g Sp (1, a, b, c, v) ls st σ K) (hk : ∀ ls st σ, K ls st σ → PW g ev μ (pc + q.2) ls st σ Post) : PW g ev μ pc ls st σ Post := by
  have hw' : (match lvGet ls a with | some (.int x) => K ls (.int x :: st) σ | _ => False) := hw
  split at hw'
  next x hx =>
    have hq' : (if h : a < 4 then some (Instr.iload_n ⟨a, h⟩, 1) else some (Instr.iload a, 2)) = some q := hq
    by_cases h : a < 4
    · rw [dif_pos h] at hq'
      cases hq'
      exact n_iload_n hd hx (hk _ _ _ hw')
    · rw [dif_neg h] at hq'
      cases hq'
      exact n_iload hd hx (hk _ _ _ hw')
  next => exact hw'.elim
theorem sI_2 (hSp : ∀ y as σ K, Sp y as σ K → Rn g ev y as σ K) (hq : rawI (2, a, b, c, v) = some q) (hd : decode (mB μ) pc = .ok q) (hres : resI μ (2, a, b, c, v) = true) (hw : wpI g Sp (2, a, b, c, v) ls st σ K) (hk : ∀ ls st σ, K ls st σ → PW g ev μ (pc + q.2) ls st σ Post) : PW g ev μ pc ls st σ Post := by
  have hw' : (match lvGet ls a with | some (.ref x) => K ls (.ref x :: st) σ | _ => False) := hw
  split at hw'
  next x hx =>
    have hq' : (if h : a < 4 then some (Instr.aload_n ⟨a, h⟩, 1) else some (Instr.aload a, 2)) = some q := hq
    by_cases h : a < 4
    · rw [dif_pos h] at hq'
      cases hq'
      exact n_aload_n hd hx (hk _ _ _ hw')
    · rw [dif_neg h] at hq'
      cases hq'
      exact n_aload hd hx (hk _ _ _ hw')
  next => exact hw'.elim
theorem sI_3 (hSp : ∀ y as σ K, Sp y as σ K → Rn g ev y as σ K) (hq : rawI (3, a, b, c, v) = some q) (hd : decode (mB μ) pc = .ok q) (hres : resI μ (3, a, b, c, v) = true) (hw : wpI g Sp (3, a, b, c, v) ls st σ K) (hk : ∀ ls st σ, K ls st σ → PW g ev μ (pc + q.2) ls st σ Post) : PW g ev μ pc ls st σ Post := by
  have hw' : (match lvGet ls a with | some (.long x) => K ls (.long x :: st) σ | _ => False) := hw
  split at hw'
  next x hx =>
    have hq' : (if h : a < 4 then some (Instr.lload_n ⟨a, h⟩, 1) else some (Instr.lload a, 2)) = some q := hq
    by_cases h : a < 4
    · rw [dif_pos h] at hq'
      cases hq'
      exact n_lload_n hd hx (hk _ _ _ hw')
    · rw [dif_neg h] at hq'
      cases hq'
      exact n_lload hd hx (hk _ _ _ hw')
  next => exact hw'.elim
theorem sI_4 (hSp : ∀ y as σ K, Sp y as σ K → Rn g ev y as σ K) (hq : rawI (4, a, b, c, v) = some q) (hd : decode (mB μ) pc = .ok q) (hres : resI μ (4, a, b, c, v) = true) (hw : wpI g Sp (4, a, b, c, v) ls st σ K) (hk : ∀ ls st σ, K ls st σ → PW g ev μ (pc + q.2) ls st σ Post) : PW g ev μ pc ls st σ Post := by
  rcases st with _ | ⟨w, st⟩
  · exact False.elim hw
  cases w <;> first | exact False.elim hw | skip
  rename_i x
  have hw' : (match lvSet ls a (.int x) with | some ls => K ls st σ | none => False) := hw
  have hlim : a < mX μ := of_decide_eq_true hres
  split at hw'
  next ls' hx =>
    have hq' : (if h : a < 4 then some (Instr.istore_n ⟨a, h⟩, 1) else some (Instr.istore a, 2)) = some q := hq
    by_cases h : a < 4
    · rw [dif_pos h] at hq'
      cases hq'
      exact n_istore_n hd hlim hx (hk _ _ _ hw')
    · rw [dif_neg h] at hq'
      cases hq'
      exact n_istore hd hlim hx (hk _ _ _ hw')
  next => exact hw'.elim
theorem sI_5 (hSp : ∀ y as σ K, Sp y as σ K → Rn g ev y as σ K) (hq : rawI (5, a, b, c, v) = some q) (hd : decode (mB μ) pc = .ok q) (hres : resI μ (5, a, b, c, v) = true) (hw : wpI g Sp (5, a, b, c, v) ls st σ K) (hk : ∀ ls st σ, K ls st σ → PW g ev μ (pc + q.2) ls st σ Post) : PW g ev μ pc ls st σ Post := by
  rcases st with _ | ⟨w, st⟩
  · exact False.elim hw
  cases w <;> first | exact False.elim hw | skip
  rename_i x
  have hw' : (match lvSet ls a (.ref x) with | some ls => K ls st σ | none => False) := hw
  have hlim : a < mX μ := of_decide_eq_true hres
  split at hw'
  next ls' hx =>
    have hq' : (if h : a < 4 then some (Instr.astore_n ⟨a, h⟩, 1) else some (Instr.astore a, 2)) = some q := hq
    by_cases h : a < 4
    · rw [dif_pos h] at hq'
      cases hq'
      exact n_astore_n hd hlim hx (hk _ _ _ hw')
    · rw [dif_neg h] at hq'
      cases hq'
      exact n_astore hd hlim hx (hk _ _ _ hw')
  next => exact hw'.elim
theorem sI_6 (hSp : ∀ y as σ K, Sp y as σ K → Rn g ev y as σ K) (hq : rawI (6, a, b, c, v) = some q) (hd : decode (mB μ) pc = .ok q) (hres : resI μ (6, a, b, c, v) = true) (hw : wpI g Sp (6, a, b, c, v) ls st σ K) (hk : ∀ ls st σ, K ls st σ → PW g ev μ (pc + q.2) ls st σ Post) : PW g ev μ pc ls st σ Post := by
  rcases st with _ | ⟨w, st⟩
  · exact False.elim hw
  cases w <;> first | exact False.elim hw | skip
  rename_i x
  have hw' : (match lvSet ls a (.long x) with | some ls => K ls st σ | none => False) := hw
  have hlim : a + 1 < mX μ := of_decide_eq_true hres
  split at hw'
  next ls' hx =>
    have hq' : (if h : a < 4 then some (Instr.lstore_n ⟨a, h⟩, 1) else some (Instr.lstore a, 2)) = some q := hq
    by_cases h : a < 4
    · rw [dif_pos h] at hq'
      cases hq'
      exact n_lstore_n hd hlim hx (hk _ _ _ hw')
    · rw [dif_neg h] at hq'
      cases hq'
      exact n_lstore hd hlim hx (hk _ _ _ hw')
  next => exact hw'.elim
theorem sI_7 (hSp : ∀ y as σ K, Sp y as σ K → Rn g ev y as σ K) (hq : rawI (7, a, b, c, v) = some q) (hd : decode (mB μ) pc = .ok q) (hres : resI μ (7, a, b, c, v) = true) (hw : wpI g Sp (7, a, b, c, v) ls st σ K) (hk : ∀ ls st σ, K ls st σ → PW g ev μ (pc + q.2) ls st σ Post) : PW g ev μ pc ls st σ Post := by
  have hw' : (match lvGet ls a with | some (.int x) => (match lvSet ls a (.int (x + v)) with | some ls => K ls st σ | none => False) | _ => False) := hw
  have hr : (decide (a < mX μ) && Int32.ofInt v.toInt == v) = true := hres
  simp only [Bool.and_eq_true, decide_eq_true_eq, beq_iff_eq] at hr
  split at hw'
  next x hx =>
    split at hw'
    next ls' hy =>
      cases hq
      exact n_iinc hd hr.1 hr.2 hx hy (hk _ _ _ hw')
    next => exact hw'.elim
  next => exact hw'.elim
theorem sI_8 (hSp : ∀ y as σ K, Sp y as σ K → Rn g ev y as σ K) (hq : rawI (8, a, b, c, v) = some q) (hd : decode (mB μ) pc = .ok q) (hres : resI μ (8, a, b, c, v) = true) (hw : wpI g Sp (8, a, b, c, v) ls st σ K) (hk : ∀ ls st σ, K ls st σ → PW g ev μ (pc + q.2) ls st σ Post) : PW g ev μ pc ls st σ Post := by
  cases hq
  rcases st with _ | ⟨w, st⟩
  · exact False.elim hw
  cases w <;> first | exact False.elim hw | skip
  · exact n_dup hd rfl (hk _ _ _ hw)
  · exact n_dup hd rfl (hk _ _ _ hw)
theorem sI_9 (hSp : ∀ y as σ K, Sp y as σ K → Rn g ev y as σ K) (hq : rawI (9, a, b, c, v) = some q) (hd : decode (mB μ) pc = .ok q) (hres : resI μ (9, a, b, c, v) = true) (hw : wpI g Sp (9, a, b, c, v) ls st σ K) (hk : ∀ ls st σ, K ls st σ → PW g ev μ (pc + q.2) ls st σ Post) : PW g ev μ pc ls st σ Post := by
  cases hq
  rcases st with _ | ⟨w, st⟩
  · exact False.elim hw
  cases w <;> first | exact False.elim hw | skip
  · exact n_pop hd rfl (hk _ _ _ hw)
  · exact n_pop hd rfl (hk _ _ _ hw)
theorem sI_10 (hSp : ∀ y as σ K, Sp y as σ K → Rn g ev y as σ K) (hq : rawI (10, a, b, c, v) = some q) (hd : decode (mB μ) pc = .ok q) (hres : resI μ (10, a, b, c, v) = true) (hw : wpI g Sp (10, a, b, c, v) ls st σ K) (hk : ∀ ls st σ, K ls st σ → PW g ev μ (pc + q.2) ls st σ Post) : PW g ev μ pc ls st σ Post := by
  cases hq
  rcases st with _ | ⟨w, st⟩
  · exact False.elim hw
  rcases st with _ | ⟨w2, st⟩
  · cases w <;> exact False.elim hw
  cases w <;> first | (cases w2 <;> exact False.elim hw) | skip
  cases w2 <;> first | exact False.elim hw | skip
  · exact n_dup2 hd rfl rfl (hk _ _ _ hw)
  · exact n_dup2 hd rfl rfl (hk _ _ _ hw)
theorem sI_11 (hSp : ∀ y as σ K, Sp y as σ K → Rn g ev y as σ K) (hq : rawI (11, a, b, c, v) = some q) (hd : decode (mB μ) pc = .ok q) (hres : resI μ (11, a, b, c, v) = true) (hw : wpI g Sp (11, a, b, c, v) ls st σ K) (hk : ∀ ls st σ, K ls st σ → PW g ev μ (pc + q.2) ls st σ Post) : PW g ev μ pc ls st σ Post := by
  cases hq
  rcases st with _ | ⟨w0, st⟩
  · first | exact False.elim hw
  rcases st with _ | ⟨w1, st⟩
  · first | exact False.elim hw | (cases w0 <;> exact False.elim hw)
  cases w0 <;> first | exact False.elim hw | (cases w1 <;> exact False.elim hw) | skip
  rename_i y
  cases w1 <;> first | exact False.elim hw | skip
  rename_i x
  exact n_iadd hd (hk _ _ _ hw)
theorem sI_12 (hSp : ∀ y as σ K, Sp y as σ K → Rn g ev y as σ K) (hq : rawI (12, a, b, c, v) = some q) (hd : decode (mB μ) pc = .ok q) (hres : resI μ (12, a, b, c, v) = true) (hw : wpI g Sp (12, a, b, c, v) ls st σ K) (hk : ∀ ls st σ, K ls st σ → PW g ev μ (pc + q.2) ls st σ Post) : PW g ev μ pc ls st σ Post := by
  cases hq
  rcases st with _ | ⟨w0, st⟩
  · first | exact False.elim hw
  rcases st with _ | ⟨w1, st⟩
  · first | exact False.elim hw | (cases w0 <;> exact False.elim hw)
  cases w0 <;> first | exact False.elim hw | (cases w1 <;> exact False.elim hw) | skip
  rename_i y
  cases w1 <;> first | exact False.elim hw | skip
  rename_i x
  exact n_isub hd (hk _ _ _ hw)
theorem sI_13 (hSp : ∀ y as σ K, Sp y as σ K → Rn g ev y as σ K) (hq : rawI (13, a, b, c, v) = some q) (hd : decode (mB μ) pc = .ok q) (hres : resI μ (13, a, b, c, v) = true) (hw : wpI g Sp (13, a, b, c, v) ls st σ K) (hk : ∀ ls st σ, K ls st σ → PW g ev μ (pc + q.2) ls st σ Post) : PW g ev μ pc ls st σ Post := by
  cases hq
  rcases st with _ | ⟨w0, st⟩
  · first | exact False.elim hw
  rcases st with _ | ⟨w1, st⟩
  · first | exact False.elim hw | (cases w0 <;> exact False.elim hw)
  cases w0 <;> first | exact False.elim hw | (cases w1 <;> exact False.elim hw) | skip
  rename_i y
  cases w1 <;> first | exact False.elim hw | skip
  rename_i x
  exact n_imul hd (hk _ _ _ hw)
theorem sI_16 (hSp : ∀ y as σ K, Sp y as σ K → Rn g ev y as σ K) (hq : rawI (16, a, b, c, v) = some q) (hd : decode (mB μ) pc = .ok q) (hres : resI μ (16, a, b, c, v) = true) (hw : wpI g Sp (16, a, b, c, v) ls st σ K) (hk : ∀ ls st σ, K ls st σ → PW g ev μ (pc + q.2) ls st σ Post) : PW g ev μ pc ls st σ Post := by
  cases hq
  rcases st with _ | ⟨w0, st⟩
  · first | exact False.elim hw
  rcases st with _ | ⟨w1, st⟩
  · first | exact False.elim hw | (cases w0 <;> exact False.elim hw)
  cases w0 <;> first | exact False.elim hw | (cases w1 <;> exact False.elim hw) | skip
  rename_i y
  cases w1 <;> first | exact False.elim hw | skip
  rename_i x
  exact n_iand hd (hk _ _ _ hw)
theorem sI_17 (hSp : ∀ y as σ K, Sp y as σ K → Rn g ev y as σ K) (hq : rawI (17, a, b, c, v) = some q) (hd : decode (mB μ) pc = .ok q) (hres : resI μ (17, a, b, c, v) = true) (hw : wpI g Sp (17, a, b, c, v) ls st σ K) (hk : ∀ ls st σ, K ls st σ → PW g ev μ (pc + q.2) ls st σ Post) : PW g ev μ pc ls st σ Post := by
  cases hq
  rcases st with _ | ⟨w0, st⟩
  · first | exact False.elim hw
  rcases st with _ | ⟨w1, st⟩
  · first | exact False.elim hw | (cases w0 <;> exact False.elim hw)
  cases w0 <;> first | exact False.elim hw | (cases w1 <;> exact False.elim hw) | skip
  rename_i y
  cases w1 <;> first | exact False.elim hw | skip
  rename_i x
  exact n_ior hd (hk _ _ _ hw)
theorem sI_18 (hSp : ∀ y as σ K, Sp y as σ K → Rn g ev y as σ K) (hq : rawI (18, a, b, c, v) = some q) (hd : decode (mB μ) pc = .ok q) (hres : resI μ (18, a, b, c, v) = true) (hw : wpI g Sp (18, a, b, c, v) ls st σ K) (hk : ∀ ls st σ, K ls st σ → PW g ev μ (pc + q.2) ls st σ Post) : PW g ev μ pc ls st σ Post := by
  cases hq
  rcases st with _ | ⟨w0, st⟩
  · first | exact False.elim hw
  rcases st with _ | ⟨w1, st⟩
  · first | exact False.elim hw | (cases w0 <;> exact False.elim hw)
  cases w0 <;> first | exact False.elim hw | (cases w1 <;> exact False.elim hw) | skip
  rename_i y
  cases w1 <;> first | exact False.elim hw | skip
  rename_i x
  exact n_ixor hd (hk _ _ _ hw)
theorem sI_19 (hSp : ∀ y as σ K, Sp y as σ K → Rn g ev y as σ K) (hq : rawI (19, a, b, c, v) = some q) (hd : decode (mB μ) pc = .ok q) (hres : resI μ (19, a, b, c, v) = true) (hw : wpI g Sp (19, a, b, c, v) ls st σ K) (hk : ∀ ls st σ, K ls st σ → PW g ev μ (pc + q.2) ls st σ Post) : PW g ev μ pc ls st σ Post := by
  cases hq
  rcases st with _ | ⟨w0, st⟩
  · first | exact False.elim hw
  rcases st with _ | ⟨w1, st⟩
  · first | exact False.elim hw | (cases w0 <;> exact False.elim hw)
  cases w0 <;> first | exact False.elim hw | (cases w1 <;> exact False.elim hw) | skip
  rename_i y
  cases w1 <;> first | exact False.elim hw | skip
  rename_i x
  exact n_ishl hd (hk _ _ _ hw)
theorem sI_20 (hSp : ∀ y as σ K, Sp y as σ K → Rn g ev y as σ K) (hq : rawI (20, a, b, c, v) = some q) (hd : decode (mB μ) pc = .ok q) (hres : resI μ (20, a, b, c, v) = true) (hw : wpI g Sp (20, a, b, c, v) ls st σ K) (hk : ∀ ls st σ, K ls st σ → PW g ev μ (pc + q.2) ls st σ Post) : PW g ev μ pc ls st σ Post := by
  cases hq
  rcases st with _ | ⟨w0, st⟩
  · first | exact False.elim hw
  rcases st with _ | ⟨w1, st⟩
  · first | exact False.elim hw | (cases w0 <;> exact False.elim hw)
  cases w0 <;> first | exact False.elim hw | (cases w1 <;> exact False.elim hw) | skip
  rename_i y
  cases w1 <;> first | exact False.elim hw | skip
  rename_i x
  exact n_ishr hd (hk _ _ _ hw)
theorem sI_21 (hSp : ∀ y as σ K, Sp y as σ K → Rn g ev y as σ K) (hq : rawI (21, a, b, c, v) = some q) (hd : decode (mB μ) pc = .ok q) (hres : resI μ (21, a, b, c, v) = true) (hw : wpI g Sp (21, a, b, c, v) ls st σ K) (hk : ∀ ls st σ, K ls st σ → PW g ev μ (pc + q.2) ls st σ Post) : PW g ev μ pc ls st σ Post := by
  cases hq
  rcases st with _ | ⟨w0, st⟩
  · first | exact False.elim hw
  rcases st with _ | ⟨w1, st⟩
  · first | exact False.elim hw | (cases w0 <;> exact False.elim hw)
  cases w0 <;> first | exact False.elim hw | (cases w1 <;> exact False.elim hw) | skip
  rename_i y
  cases w1 <;> first | exact False.elim hw | skip
  rename_i x
  exact n_iushr hd (hk _ _ _ hw)
theorem sI_22 (hSp : ∀ y as σ K, Sp y as σ K → Rn g ev y as σ K) (hq : rawI (22, a, b, c, v) = some q) (hd : decode (mB μ) pc = .ok q) (hres : resI μ (22, a, b, c, v) = true) (hw : wpI g Sp (22, a, b, c, v) ls st σ K) (hk : ∀ ls st σ, K ls st σ → PW g ev μ (pc + q.2) ls st σ Post) : PW g ev μ pc ls st σ Post := by
  cases hq
  rcases st with _ | ⟨w0, st⟩
  · first | exact False.elim hw
  rcases st with _ | ⟨w1, st⟩
  · first | exact False.elim hw | (cases w0 <;> exact False.elim hw)
  cases w0 <;> first | exact False.elim hw | (cases w1 <;> exact False.elim hw) | skip
  rename_i y
  cases w1 <;> first | exact False.elim hw | skip
  rename_i x
  exact n_ladd hd (hk _ _ _ hw)
theorem sI_23 (hSp : ∀ y as σ K, Sp y as σ K → Rn g ev y as σ K) (hq : rawI (23, a, b, c, v) = some q) (hd : decode (mB μ) pc = .ok q) (hres : resI μ (23, a, b, c, v) = true) (hw : wpI g Sp (23, a, b, c, v) ls st σ K) (hk : ∀ ls st σ, K ls st σ → PW g ev μ (pc + q.2) ls st σ Post) : PW g ev μ pc ls st σ Post := by
  cases hq
  rcases st with _ | ⟨w0, st⟩
  · first | exact False.elim hw
  rcases st with _ | ⟨w1, st⟩
  · first | exact False.elim hw | (cases w0 <;> exact False.elim hw)
  cases w0 <;> first | exact False.elim hw | (cases w1 <;> exact False.elim hw) | skip
  rename_i y
  cases w1 <;> first | exact False.elim hw | skip
  rename_i x
  exact n_lsub hd (hk _ _ _ hw)
theorem sI_24 (hSp : ∀ y as σ K, Sp y as σ K → Rn g ev y as σ K) (hq : rawI (24, a, b, c, v) = some q) (hd : decode (mB μ) pc = .ok q) (hres : resI μ (24, a, b, c, v) = true) (hw : wpI g Sp (24, a, b, c, v) ls st σ K) (hk : ∀ ls st σ, K ls st σ → PW g ev μ (pc + q.2) ls st σ Post) : PW g ev μ pc ls st σ Post := by
  cases hq
  rcases st with _ | ⟨w0, st⟩
  · first | exact False.elim hw
  rcases st with _ | ⟨w1, st⟩
  · first | exact False.elim hw | (cases w0 <;> exact False.elim hw)
  cases w0 <;> first | exact False.elim hw | (cases w1 <;> exact False.elim hw) | skip
  rename_i y
  cases w1 <;> first | exact False.elim hw | skip
  rename_i x
  exact n_lmul hd (hk _ _ _ hw)
theorem sI_27 (hSp : ∀ y as σ K, Sp y as σ K → Rn g ev y as σ K) (hq : rawI (27, a, b, c, v) = some q) (hd : decode (mB μ) pc = .ok q) (hres : resI μ (27, a, b, c, v) = true) (hw : wpI g Sp (27, a, b, c, v) ls st σ K) (hk : ∀ ls st σ, K ls st σ → PW g ev μ (pc + q.2) ls st σ Post) : PW g ev μ pc ls st σ Post := by
  cases hq
  rcases st with _ | ⟨w0, st⟩
  · first | exact False.elim hw
  rcases st with _ | ⟨w1, st⟩
  · first | exact False.elim hw | (cases w0 <;> exact False.elim hw)
  cases w0 <;> first | exact False.elim hw | (cases w1 <;> exact False.elim hw) | skip
  rename_i y
  cases w1 <;> first | exact False.elim hw | skip
  rename_i x
  exact n_lcmp hd (hk _ _ _ hw)
theorem sI_14 (hSp : ∀ y as σ K, Sp y as σ K → Rn g ev y as σ K) (hq : rawI (14, a, b, c, v) = some q) (hd : decode (mB μ) pc = .ok q) (hres : resI μ (14, a, b, c, v) = true) (hw : wpI g Sp (14, a, b, c, v) ls st σ K) (hk : ∀ ls st σ, K ls st σ → PW g ev μ (pc + q.2) ls st σ Post) : PW g ev μ pc ls st σ Post := by
  cases hq
  rcases st with _ | ⟨w0, st⟩
  · first | exact False.elim hw
  rcases st with _ | ⟨w1, st⟩
  · first | exact False.elim hw | (cases w0 <;> exact False.elim hw)
  cases w0 <;> first | exact False.elim hw | (cases w1 <;> exact False.elim hw) | skip
  rename_i y
  cases w1 <;> first | exact False.elim hw | skip
  rename_i x
  exact n_idiv hd hw.1 (hk _ _ _ hw.2)
theorem sI_15 (hSp : ∀ y as σ K, Sp y as σ K → Rn g ev y as σ K) (hq : rawI (15, a, b, c, v) = some q) (hd : decode (mB μ) pc = .ok q) (hres : resI μ (15, a, b, c, v) = true) (hw : wpI g Sp (15, a, b, c, v) ls st σ K) (hk : ∀ ls st σ, K ls st σ → PW g ev μ (pc + q.2) ls st σ Post) : PW g ev μ pc ls st σ Post := by
  cases hq
  rcases st with _ | ⟨w0, st⟩
  · first | exact False.elim hw
  rcases st with _ | ⟨w1, st⟩
  · first | exact False.elim hw | (cases w0 <;> exact False.elim hw)
  cases w0 <;> first | exact False.elim hw | (cases w1 <;> exact False.elim hw) | skip
  rename_i y
  cases w1 <;> first | exact False.elim hw | skip
  rename_i x
  exact n_irem hd hw.1 (hk _ _ _ hw.2)
theorem sI_25 (hSp : ∀ y as σ K, Sp y as σ K → Rn g ev y as σ K) (hq : rawI (25, a, b, c, v) = some q) (hd : decode (mB μ) pc = .ok q) (hres : resI μ (25, a, b, c, v) = true) (hw : wpI g Sp (25, a, b, c, v) ls st σ K) (hk : ∀ ls st σ, K ls st σ → PW g ev μ (pc + q.2) ls st σ Post) : PW g ev μ pc ls st σ Post := by
  cases hq
  rcases st with _ | ⟨w0, st⟩
  · first | exact False.elim hw
  rcases st with _ | ⟨w1, st⟩
  · first | exact False.elim hw | (cases w0 <;> exact False.elim hw)
  cases w0 <;> first | exact False.elim hw | (cases w1 <;> exact False.elim hw) | skip
  rename_i y
  cases w1 <;> first | exact False.elim hw | skip
  rename_i x
  exact n_ldiv hd hw.1 (hk _ _ _ hw.2)
theorem sI_26 (hSp : ∀ y as σ K, Sp y as σ K → Rn g ev y as σ K) (hq : rawI (26, a, b, c, v) = some q) (hd : decode (mB μ) pc = .ok q) (hres : resI μ (26, a, b, c, v) = true) (hw : wpI g Sp (26, a, b, c, v) ls st σ K) (hk : ∀ ls st σ, K ls st σ → PW g ev μ (pc + q.2) ls st σ Post) : PW g ev μ pc ls st σ Post := by
  cases hq
  rcases st with _ | ⟨w0, st⟩
  · first | exact False.elim hw
  rcases st with _ | ⟨w1, st⟩
  · first | exact False.elim hw | (cases w0 <;> exact False.elim hw)
  cases w0 <;> first | exact False.elim hw | (cases w1 <;> exact False.elim hw) | skip
  rename_i y
  cases w1 <;> first | exact False.elim hw | skip
  rename_i x
  exact n_lrem hd hw.1 (hk _ _ _ hw.2)
theorem sI_28 (hSp : ∀ y as σ K, Sp y as σ K → Rn g ev y as σ K) (hq : rawI (28, a, b, c, v) = some q) (hd : decode (mB μ) pc = .ok q) (hres : resI μ (28, a, b, c, v) = true) (hw : wpI g Sp (28, a, b, c, v) ls st σ K) (hk : ∀ ls st σ, K ls st σ → PW g ev μ (pc + q.2) ls st σ Post) : PW g ev μ pc ls st σ Post := by
  cases hq
  rcases st with _ | ⟨w0, st⟩
  · first | exact False.elim hw
  cases w0 <;> first | exact False.elim hw | skip
  rename_i x
  exact n_i2l hd (hk _ _ _ hw)
theorem sI_29 (hSp : ∀ y as σ K, Sp y as σ K → Rn g ev y as σ K) (hq : rawI (29, a, b, c, v) = some q) (hd : decode (mB μ) pc = .ok q) (hres : resI μ (29, a, b, c, v) = true) (hw : wpI g Sp (29, a, b, c, v) ls st σ K) (hk : ∀ ls st σ, K ls st σ → PW g ev μ (pc + q.2) ls st σ Post) : PW g ev μ pc ls st σ Post := by
  cases hq
  rcases st with _ | ⟨w0, st⟩
  · first | exact False.elim hw
  cases w0 <;> first | exact False.elim hw | skip
  rename_i x
  exact n_l2i hd (hk _ _ _ hw)
theorem sI_30 (hSp : ∀ y as σ K, Sp y as σ K → Rn g ev y as σ K) (hq : rawI (30, a, b, c, v) = some q) (hd : decode (mB μ) pc = .ok q) (hres : resI μ (30, a, b, c, v) = true) (hw : wpI g Sp (30, a, b, c, v) ls st σ K) (hk : ∀ ls st σ, K ls st σ → PW g ev μ (pc + q.2) ls st σ Post) : PW g ev μ pc ls st σ Post := by
  cases hq
  rcases st with _ | ⟨w0, st⟩
  · first | exact False.elim hw
  cases w0 <;> first | exact False.elim hw | skip
  rename_i x
  exact n_i2b hd (hk _ _ _ hw)
theorem sI_31 (hSp : ∀ y as σ K, Sp y as σ K → Rn g ev y as σ K) (hq : rawI (31, a, b, c, v) = some q) (hd : decode (mB μ) pc = .ok q) (hres : resI μ (31, a, b, c, v) = true) (hw : wpI g Sp (31, a, b, c, v) ls st σ K) (hk : ∀ ls st σ, K ls st σ → PW g ev μ (pc + q.2) ls st σ Post) : PW g ev μ pc ls st σ Post := by
  cases hq
  rcases st with _ | ⟨w0, st⟩
  · first | exact False.elim hw
  cases w0 <;> first | exact False.elim hw | skip
  rename_i x
  exact n_i2s hd (hk _ _ _ hw)
theorem sI_32 (hSp : ∀ y as σ K, Sp y as σ K → Rn g ev y as σ K) (hq : rawI (32, a, b, c, v) = some q) (hd : decode (mB μ) pc = .ok q) (hres : resI μ (32, a, b, c, v) = true) (hw : wpI g Sp (32, a, b, c, v) ls st σ K) (hk : ∀ ls st σ, K ls st σ → PW g ev μ (pc + q.2) ls st σ Post) : PW g ev μ pc ls st σ Post := by
  cases hq
  rcases st with _ | ⟨w0, st⟩
  · first | exact False.elim hw
  cases w0 <;> first | exact False.elim hw | skip
  rename_i x
  exact n_i2c hd (hk _ _ _ hw)
theorem sI_33 (hSp : ∀ y as σ K, Sp y as σ K → Rn g ev y as σ K) (hq : rawI (33, a, b, c, v) = some q) (hd : decode (mB μ) pc = .ok q) (hres : resI μ (33, a, b, c, v) = true) (hw : wpI g Sp (33, a, b, c, v) ls st σ K) (hk : ∀ ls st σ, K ls st σ → PW g ev μ (pc + q.2) ls st σ Post) : PW g ev μ pc ls st σ Post := by
  cases hq
  rcases st with _ | ⟨w0, st⟩
  · first | exact False.elim hw
  cases w0 <;> first | exact False.elim hw | skip
  rename_i k
  have hr : (ftab.any (fun e => e.1 == mC μ && e.2.1 == a && e.2.2.1 == b && e.2.2.2.1 == c) && decide (fkT b c < 2)) = true := hres
  simp only [Bool.and_eq_true, decide_eq_true_eq] at hr
  exact n_getf hd (ftab_use hr.1) hw.1 (v := .int (σ.1 k c)) (fvl_0 hr.2) (hk _ _ _ hw.2)
theorem sI_34 (hSp : ∀ y as σ K, Sp y as σ K → Rn g ev y as σ K) (hq : rawI (34, a, b, c, v) = some q) (hd : decode (mB μ) pc = .ok q) (hres : resI μ (34, a, b, c, v) = true) (hw : wpI g Sp (34, a, b, c, v) ls st σ K) (hk : ∀ ls st σ, K ls st σ → PW g ev μ (pc + q.2) ls st σ Post) : PW g ev μ pc ls st σ Post := by
  cases hq
  rcases st with _ | ⟨w0, st⟩
  · first | exact False.elim hw
  cases w0 <;> first | exact False.elim hw | skip
  rename_i k
  have hr : (ftab.any (fun e => e.1 == mC μ && e.2.1 == a && e.2.2.1 == b && e.2.2.2.1 == c) && decide (fkT b c = 2)) = true := hres
  simp only [Bool.and_eq_true, decide_eq_true_eq] at hr
  exact n_getf hd (ftab_use hr.1) hw.1 (v := .long (σ.2 k c)) (fvl_2 hr.2) (hk _ _ _ hw.2)
theorem sI_35 (hSp : ∀ y as σ K, Sp y as σ K → Rn g ev y as σ K) (hq : rawI (35, a, b, c, v) = some q) (hd : decode (mB μ) pc = .ok q) (hres : resI μ (35, a, b, c, v) = true) (hw : wpI g Sp (35, a, b, c, v) ls st σ K) (hk : ∀ ls st σ, K ls st σ → PW g ev μ (pc + q.2) ls st σ Post) : PW g ev μ pc ls st σ Post := by
  cases hq
  rcases st with _ | ⟨w0, st⟩
  · first | exact False.elim hw
  cases w0 <;> first | exact False.elim hw | skip
  rename_i k
  have hr : (ftab.any (fun e => e.1 == mC μ && e.2.1 == a && e.2.2.1 == b && e.2.2.2.1 == c) && decide (fkT b c = 3)) = true := hres
  simp only [Bool.and_eq_true, decide_eq_true_eq] at hr
  exact n_getf hd (ftab_use hr.1) hw.1 (v := .ref (rfs g k c)) (fvl_3 hr.2) (hk _ _ _ hw.2)
theorem sI_36 (hSp : ∀ y as σ K, Sp y as σ K → Rn g ev y as σ K) (hq : rawI (36, a, b, c, v) = some q) (hd : decode (mB μ) pc = .ok q) (hres : resI μ (36, a, b, c, v) = true) (hw : wpI g Sp (36, a, b, c, v) ls st σ K) (hk : ∀ ls st σ, K ls st σ → PW g ev μ (pc + q.2) ls st σ Post) : PW g ev μ pc ls st σ Post := by
  cases hq
  rcases st with _ | ⟨w0, st⟩
  · first | exact False.elim hw
  rcases st with _ | ⟨w1, st⟩
  · first | exact False.elim hw | (cases w0 <;> exact False.elim hw)
  cases w0 <;> first | exact False.elim hw | (cases w1 <;> exact False.elim hw) | skip
  rename_i x
  cases w1 <;> first | exact False.elim hw | skip
  rename_i k
  have hr : (ftab.any (fun e => e.1 == mC μ && e.2.1 == a && e.2.2.1 == b && e.2.2.2.1 == c) && decide (fkT b c = 0)) = true := hres
  simp only [Bool.and_eq_true, decide_eq_true_eq] at hr
  have hf := ftab_use hr.1
  exact n_putf (v := .int x) (τ := si σ k c x) hd hf hw.1 ((fkG b hf.1 c hf.2.1).1 hr.2) rfl rfl (by rw [fvl_0 (by omega)]; show Value.int (upr σ.1 k (upd (σ.1 k) c x) k c) = _; rw [upr_eq]; show Value.int (if c = c then x else _) = _; rw [if_pos rfl]; rfl) (fun i h => fvl_si i h) (fun _ h => upr_ne h) (fun _ _ => rfl) (hk _ _ _ hw.2)
theorem sI_37 (hSp : ∀ y as σ K, Sp y as σ K → Rn g ev y as σ K) (hq : rawI (37, a, b, c, v) = some q) (hd : decode (mB μ) pc = .ok q) (hres : resI μ (37, a, b, c, v) = true) (hw : wpI g Sp (37, a, b, c, v) ls st σ K) (hk : ∀ ls st σ, K ls st σ → PW g ev μ (pc + q.2) ls st σ Post) : PW g ev μ pc ls st σ Post := by
  cases hq
  rcases st with _ | ⟨w0, st⟩
  · first | exact False.elim hw
  rcases st with _ | ⟨w1, st⟩
  · first | exact False.elim hw | (cases w0 <;> exact False.elim hw)
  cases w0 <;> first | exact False.elim hw | (cases w1 <;> exact False.elim hw) | skip
  rename_i x
  cases w1 <;> first | exact False.elim hw | skip
  rename_i k
  have hr : (ftab.any (fun e => e.1 == mC μ && e.2.1 == a && e.2.2.1 == b && e.2.2.2.1 == c) && decide (fkT b c = 1)) = true := hres
  simp only [Bool.and_eq_true, decide_eq_true_eq] at hr
  have hf := ftab_use hr.1
  obtain ⟨h1, h2, h3⟩ := hw
  exact n_putf (v := .int x) (τ := si σ k c x) hd hf h1 ((fkG b hf.1 c hf.2.1).2.1 hr.2) (by rcases h2 with rfl | rfl <;> rfl) (by rcases h2 with rfl | rfl <;> rfl) (by rw [fvl_0 (by omega)]; show Value.int (upr σ.1 k (upd (σ.1 k) c x) k c) = _; rw [upr_eq]; show Value.int (if c = c then x else _) = _; rw [if_pos rfl]; rfl) (fun i h => fvl_si i h) (fun _ h => upr_ne h) (fun _ _ => rfl) (hk _ _ _ h3)
theorem sI_38 (hSp : ∀ y as σ K, Sp y as σ K → Rn g ev y as σ K) (hq : rawI (38, a, b, c, v) = some q) (hd : decode (mB μ) pc = .ok q) (hres : resI μ (38, a, b, c, v) = true) (hw : wpI g Sp (38, a, b, c, v) ls st σ K) (hk : ∀ ls st σ, K ls st σ → PW g ev μ (pc + q.2) ls st σ Post) : PW g ev μ pc ls st σ Post := by
  cases hq
  rcases st with _ | ⟨w0, st⟩
  · first | exact False.elim hw
  rcases st with _ | ⟨w1, st⟩
  · first | exact False.elim hw | (cases w0 <;> exact False.elim hw)
  cases w0 <;> first | exact False.elim hw | (cases w1 <;> exact False.elim hw) | skip
  rename_i x
  cases w1 <;> first | exact False.elim hw | skip
  rename_i k
  have hr : (ftab.any (fun e => e.1 == mC μ && e.2.1 == a && e.2.2.1 == b && e.2.2.2.1 == c) && decide (fkT b c = 2)) = true := hres
  simp only [Bool.and_eq_true, decide_eq_true_eq] at hr
  have hf := ftab_use hr.1
  exact n_putf (v := .long x) (τ := sl σ k c x) hd hf hw.1 ((fkG b hf.1 c hf.2.1).2.2.1 hr.2) rfl rfl (by rw [fvl_2 hr.2]; show Value.long (upr σ.2 k (updl (σ.2 k) c x) k c) = _; rw [upr_eq]; show Value.long (if c = c then x else _) = _; rw [if_pos rfl]; rfl) (fun i h => fvl_sl i h) (fun _ _ => rfl) (fun _ h => upr_ne h) (hk _ _ _ hw.2)
theorem sI_39 (hSp : ∀ y as σ K, Sp y as σ K → Rn g ev y as σ K) (hq : rawI (39, a, b, c, v) = some q) (hd : decode (mB μ) pc = .ok q) (hres : resI μ (39, a, b, c, v) = true) (hw : wpI g Sp (39, a, b, c, v) ls st σ K) (hk : ∀ ls st σ, K ls st σ → PW g ev μ (pc + q.2) ls st σ Post) : PW g ev μ pc ls st σ Post := by
  cases hq
  rcases st with _ | ⟨w0, st⟩
  · first | exact False.elim hw
  rcases st with _ | ⟨w1, st⟩
  · first | exact False.elim hw | (cases w0 <;> exact False.elim hw)
  cases w0 <;> first | exact False.elim hw | (cases w1 <;> exact False.elim hw) | skip
  rename_i i
  cases w1 <;> first | exact False.elim hw | skip
  rename_i k
  exact n_iald hd hw.1 hw.2.1 (hk _ _ _ hw.2.2)
theorem sI_40 (hSp : ∀ y as σ K, Sp y as σ K → Rn g ev y as σ K) (hq : rawI (40, a, b, c, v) = some q) (hd : decode (mB μ) pc = .ok q) (hres : resI μ (40, a, b, c, v) = true) (hw : wpI g Sp (40, a, b, c, v) ls st σ K) (hk : ∀ ls st σ, K ls st σ → PW g ev μ (pc + q.2) ls st σ Post) : PW g ev μ pc ls st σ Post := by
  cases hq
  rcases st with _ | ⟨w0, st⟩
  · first | exact False.elim hw
  rcases st with _ | ⟨w1, st⟩
  · first | exact False.elim hw | (cases w0 <;> exact False.elim hw)
  rcases st with _ | ⟨w2, st⟩
  · first | exact False.elim hw | (cases w0 <;> cases w1 <;> exact False.elim hw)
  cases w0 <;> first | exact False.elim hw | (cases w1 <;> cases w2 <;> exact False.elim hw) | skip
  rename_i x
  cases w1 <;> first | exact False.elim hw | (cases w2 <;> exact False.elim hw) | skip
  rename_i i
  cases w2 <;> first | exact False.elim hw | skip
  rename_i k
  exact n_iast hd hw.1 hw.2.1 (hk _ _ _ hw.2.2)
theorem sI_41 (hSp : ∀ y as σ K, Sp y as σ K → Rn g ev y as σ K) (hq : rawI (41, a, b, c, v) = some q) (hd : decode (mB μ) pc = .ok q) (hres : resI μ (41, a, b, c, v) = true) (hw : wpI g Sp (41, a, b, c, v) ls st σ K) (hk : ∀ ls st σ, K ls st σ → PW g ev μ (pc + q.2) ls st σ Post) : PW g ev μ pc ls st σ Post := by
  cases hq
  rcases st with _ | ⟨w0, st⟩
  · first | exact False.elim hw
  rcases st with _ | ⟨w1, st⟩
  · first | exact False.elim hw | (cases w0 <;> exact False.elim hw)
  cases w0 <;> first | exact False.elim hw | (cases w1 <;> exact False.elim hw) | skip
  rename_i i
  cases w1 <;> first | exact False.elim hw | skip
  rename_i k
  exact n_cald hd hw.1 hw.2.1 (hk _ _ _ hw.2.2)
theorem sI_42 (hSp : ∀ y as σ K, Sp y as σ K → Rn g ev y as σ K) (hq : rawI (42, a, b, c, v) = some q) (hd : decode (mB μ) pc = .ok q) (hres : resI μ (42, a, b, c, v) = true) (hw : wpI g Sp (42, a, b, c, v) ls st σ K) (hk : ∀ ls st σ, K ls st σ → PW g ev μ (pc + q.2) ls st σ Post) : PW g ev μ pc ls st σ Post := by
  cases hq
  rcases st with _ | ⟨w0, st⟩
  · first | exact False.elim hw
  rcases st with _ | ⟨w1, st⟩
  · first | exact False.elim hw | (cases w0 <;> exact False.elim hw)
  cases w0 <;> first | exact False.elim hw | (cases w1 <;> exact False.elim hw) | skip
  rename_i i
  cases w1 <;> first | exact False.elim hw | skip
  rename_i k
  exact n_aald hd hw.1 hw.2.1 (hk _ _ _ hw.2.2)
theorem sI_43 (hSp : ∀ y as σ K, Sp y as σ K → Rn g ev y as σ K) (hq : rawI (43, a, b, c, v) = some q) (hd : decode (mB μ) pc = .ok q) (hres : resI μ (43, a, b, c, v) = true) (hw : wpI g Sp (43, a, b, c, v) ls st σ K) (hk : ∀ ls st σ, K ls st σ → PW g ev μ (pc + q.2) ls st σ Post) : PW g ev μ pc ls st σ Post := by
  cases hq
  rcases st with _ | ⟨w0, st⟩
  · first | exact False.elim hw
  cases w0 <;> first | exact False.elim hw | skip
  rename_i k
  exact n_alen hd hw.1 (hk _ _ _ hw.2)
theorem sI_44 (hSp : ∀ y as σ K, Sp y as σ K → Rn g ev y as σ K) (hq : rawI (44, a, b, c, v) = some q) (hd : decode (mB μ) pc = .ok q) (hres : resI μ (44, a, b, c, v) = true) (hw : wpI g Sp (44, a, b, c, v) ls st σ K) (hk : ∀ ls st σ, K ls st σ → PW g ev μ (pc + q.2) ls st σ Post) : PW g ev μ pc ls st σ Post := by
  cases hq
  rcases st with _ | ⟨w0, st⟩
  · first | exact False.elim hw
  rcases st with _ | ⟨w1, st⟩
  · first | exact False.elim hw | (cases w0 <;> exact False.elim hw)
  cases w0 <;> first | exact False.elim hw | (cases w1 <;> exact False.elim hw) | skip
  rename_i i
  cases w1 <;> first | exact False.elim hw | skip
  rename_i k
  exact n_ialdS hd hw.1 hw.2.1 (hk _ _ _ hw.2.2)
theorem sI_45 (hSp : ∀ y as σ K, Sp y as σ K → Rn g ev y as σ K) (hq : rawI (45, a, b, c, v) = some q) (hd : decode (mB μ) pc = .ok q) (hres : resI μ (45, a, b, c, v) = true) (hw : wpI g Sp (45, a, b, c, v) ls st σ K) (hk : ∀ ls st σ, K ls st σ → PW g ev μ (pc + q.2) ls st σ Post) : PW g ev μ pc ls st σ Post := by
  cases hq
  exact n_gsA hd hw.1 (satab_use hres) (hk _ _ _ hw.2)
theorem sI_46 (hSp : ∀ y as σ K, Sp y as σ K → Rn g ev y as σ K) (hq : rawI (46, a, b, c, v) = some q) (hd : decode (mB μ) pc = .ok q) (hres : resI μ (46, a, b, c, v) = true) (hw : wpI g Sp (46, a, b, c, v) ls st σ K) (hk : ∀ ls st σ, K ls st σ → PW g ev μ (pc + q.2) ls st σ Post) : PW g ev μ pc ls st σ Post := by
  cases hq
  exact n_gsI hd hw.1 (sttab_use hres) (hk _ _ _ hw.2)
theorem sI_47 (hSp : ∀ y as σ K, Sp y as σ K → Rn g ev y as σ K) (hq : rawI (47, a, b, c, v) = some q) (hd : decode (mB μ) pc = .ok q) (hres : resI μ (47, a, b, c, v) = true) (hw : wpI g Sp (47, a, b, c, v) ls st σ K) (hk : ∀ ls st σ, K ls st σ → PW g ev μ (pc + q.2) ls st σ Post) : PW g ev μ pc ls st σ Post := by
  cases hq
  exact n_gsQ hd hw.1 (sttab_use hres) (hk _ _ _ hw.2.1) (hk _ _ _ hw.2.2)
theorem sI_48 (hSp : ∀ y as σ K, Sp y as σ K → Rn g ev y as σ K) (hq : rawI (48, a, b, c, v) = some q) (hd : decode (mB μ) pc = .ok q) (hres : resI μ (48, a, b, c, v) = true) (hw : wpI g Sp (48, a, b, c, v) ls st σ K) (hk : ∀ ls st σ, K ls st σ → PW g ev μ (pc + q.2) ls st σ Post) : PW g ev μ pc ls st σ Post := by
  cases hq
  have hr : (mC μ == 3 && decide (300 ≤ b) && ((strL[b - 300]?).map (fun q => q.1)) == some a) = true := hres
  simp only [Bool.and_eq_true, decide_eq_true_eq, beq_iff_eq] at hr
  refine n_ldS hd hw.1 hr.1.1 hr.1.2 ?_ (hk _ _ _ hw.2)
  obtain ⟨q, h1, h2⟩ := Option.map_eq_some_iff.mp hr.2
  exact ⟨q.2, by rw [h1, ← h2]⟩
theorem sI_49 (hSp : ∀ y as σ K, Sp y as σ K → Rn g ev y as σ K) (hq : rawI (49, a, b, c, v) = some q) (hd : decode (mB μ) pc = .ok q) (hres : resI μ (49, a, b, c, v) = true) (hw : wpI g Sp (49, a, b, c, v) ls st σ K) (hk : ∀ ls st σ, K ls st σ → PW g ev μ (pc + q.2) ls st σ Post) : PW g ev μ pc ls st σ Post := by
  cases hq
  rcases st with _ | ⟨w0, st⟩
  · first | exact False.elim hw
  cases w0 <;> first | exact False.elim hw | skip
  rename_i k
  exact n_gfS hd (sttab_use hres) hw.1 (hk _ _ _ hw.2)
theorem sI_50 (hSp : ∀ y as σ K, Sp y as σ K → Rn g ev y as σ K) (hq : rawI (50, a, b, c, v) = some q) (hd : decode (mB μ) pc = .ok q) (hres : resI μ (50, a, b, c, v) = true) (hw : wpI g Sp (50, a, b, c, v) ls st σ K) (hk : ∀ ls st σ, K ls st σ → PW g ev μ (pc + q.2) ls st σ Post) : PW g ev μ pc ls st σ Post := by
  cases hq
  rcases st with _ | ⟨w0, st⟩
  · first | exact False.elim hw
  cases w0 <;> first | exact False.elim hw | skip
  rename_i k
  exact n_gfC hd (sttab_use hres) hw.1 (hk _ _ _ hw.2)
theorem sI_51 (hSp : ∀ y as σ K, Sp y as σ K → Rn g ev y as σ K) (hq : rawI (51, a, b, c, v) = some q) (hd : decode (mB μ) pc = .ok q) (hres : resI μ (51, a, b, c, v) = true) (hw : wpI g Sp (51, a, b, c, v) ls st σ K) (hk : ∀ ls st σ, K ls st σ → PW g ev μ (pc + q.2) ls st σ Post) : PW g ev μ pc ls st σ Post := by
  cases hq
  rcases st with _ | ⟨w0, st⟩
  · first | exact False.elim hw
  rcases st with _ | ⟨w1, st⟩
  · first | exact False.elim hw | (cases w0 <;> exact False.elim hw)
  cases w0 <;> first | exact False.elim hw | (cases w1 <;> exact False.elim hw) | skip
  rename_i i
  cases w1 <;> first | exact False.elim hw | skip
  rename_i k
  exact n_baldS hd hw.1 hw.2.1 (hk _ _ _ hw.2.2)
theorem sI_52 (hSp : ∀ y as σ K, Sp y as σ K → Rn g ev y as σ K) (hq : rawI (52, a, b, c, v) = some q) (hd : decode (mB μ) pc = .ok q) (hres : resI μ (52, a, b, c, v) = true) (hw : wpI g Sp (52, a, b, c, v) ls st σ K) (hk : ∀ ls st σ, K ls st σ → PW g ev μ (pc + q.2) ls st σ Post) : PW g ev μ pc ls st σ Post := by
  cases hq
  rcases st with _ | ⟨w0, st⟩
  · first | exact False.elim hw
  cases w0 <;> first | exact False.elim hw | skip
  rename_i k
  exact n_alenS hd hw.1 (hk _ _ _ hw.2)
theorem sI_53 (hSp : ∀ y as σ K, Sp y as σ K → Rn g ev y as σ K) (hq : rawI (53, a, b, c, v) = some q) (hd : decode (mB μ) pc = .ok q) (hres : resI μ (53, a, b, c, v) = true) (hw : wpI g Sp (53, a, b, c, v) ls st σ K) (hk : ∀ ls st σ, K ls st σ → PW g ev μ (pc + q.2) ls st σ Post) : PW g ev μ pc ls st σ Post := by
  have hr : (a == 0 || lctab.any (fun e => e.1 == mC μ && e.2.1 == a && e.2.2.1 == b)) = true := hres
  have hq' : (if a = 0 then (if h : b < 2 then some (Instr.lconst ⟨b, h⟩, 1) else none) else some (Instr.ldc2_w a, 3)) = some q := hq
  by_cases h0 : a = 0
  · rw [if_pos h0] at hq'
    by_cases h2 : b < 2
    · rw [dif_pos h2] at hq'
      cases hq'
      exact n_lconst hd rfl (hk _ _ _ hw)
    · rw [dif_neg h2] at hq'
      cases hq'
  · rw [if_neg h0] at hq'
    cases hq'
    simp only [Bool.or_eq_true, beq_iff_eq] at hr
    rcases hr with h | h
    · exact absurd h h0
    · exact n_ldc2 hd (lctab_use h) (hk _ _ _ hw)
theorem sI_54 (hSp : ∀ y as σ K, Sp y as σ K → Rn g ev y as σ K) (hq : rawI (54, a, b, c, v) = some q) (hd : decode (mB μ) pc = .ok q) (hres : resI μ (54, a, b, c, v) = true) (hw : wpI g Sp (54, a, b, c, v) ls st σ K) (hk : ∀ ls st σ, K ls st σ → PW g ev μ (pc + q.2) ls st σ Post) : PW g ev μ pc ls st σ Post := by
  cases hq
  have hr : (ktab.any (fun e => e.1 == mC μ && e.2.1 == a && e.2.2.1 == c) && !(mS c) && mA c == b && decide (mE c < mE μ)) = true := hres
  simp only [Bool.and_eq_true, decide_eq_true_eq, beq_iff_eq, Bool.not_eq_true'] at hr
  obtain ⟨⟨⟨h1, h2⟩, h3⟩, h4⟩ := hr
  obtain ⟨h5, h6, h7⟩ := le4_use hw
  exact n_callV hd (ktab_use h1) h2 h3 h4 h5 h6 (hSp _ _ _ _ h7) (fun r σ h => hk _ _ _ h)
theorem sI_55 (hSp : ∀ y as σ K, Sp y as σ K → Rn g ev y as σ K) (hq : rawI (55, a, b, c, v) = some q) (hd : decode (mB μ) pc = .ok q) (hres : resI μ (55, a, b, c, v) = true) (hw : wpI g Sp (55, a, b, c, v) ls st σ K) (hk : ∀ ls st σ, K ls st σ → PW g ev μ (pc + q.2) ls st σ Post) : PW g ev μ pc ls st σ Post := by
  cases hq
  have hr : (ktab.any (fun e => e.1 == mC μ && e.2.1 == a && e.2.2.1 == c) && mS c && mA c == b && decide (mE c < mE μ)) = true := hres
  simp only [Bool.and_eq_true, decide_eq_true_eq, beq_iff_eq] at hr
  obtain ⟨⟨⟨h1, h2⟩, h3⟩, h4⟩ := hr
  obtain ⟨h5, h6, h7⟩ := le4_use hw
  exact n_callS hd (ktab_use h1) h2 h3 h4 h5 h6 (hSp _ _ _ _ h7) (fun r σ h => hk _ _ _ h)
theorem sI_56 (hSp : ∀ y as σ K, Sp y as σ K → Rn g ev y as σ K) (hq : rawI (56, a, b, c, v) = some q) (hd : decode (mB μ) pc = .ok q) (hres : resI μ (56, a, b, c, v) = true) (hw : wpI g Sp (56, a, b, c, v) ls st σ K) (hk : ∀ ls st σ, K ls st σ → PW g ev μ (pc + q.2) ls st σ Post) : PW g ev μ pc ls st σ Post := by
  cases hq
  rcases st with _ | ⟨w0, st⟩
  · first | exact False.elim hw
  rcases st with _ | ⟨w1, st⟩
  · first | exact False.elim hw | (cases w0 <;> exact False.elim hw)
  rcases st with _ | ⟨w2, st⟩
  · first | exact False.elim hw | (cases w0 <;> cases w1 <;> exact False.elim hw)
  rcases st with _ | ⟨w3, st⟩
  · first | exact False.elim hw | (cases w0 <;> cases w1 <;> cases w2 <;> exact False.elim hw)
  rcases st with _ | ⟨w4, st⟩
  · first | exact False.elim hw | (cases w0 <;> cases w1 <;> cases w2 <;> cases w3 <;> exact False.elim hw)
  cases w0 <;> first | exact False.elim hw | (cases w1 <;> cases w2 <;> cases w3 <;> cases w4 <;> exact False.elim hw) | skip
  rename_i n
  cases w1 <;> first | exact False.elim hw | (cases w2 <;> cases w3 <;> cases w4 <;> exact False.elim hw) | skip
  rename_i dp
  cases w2 <;> first | exact False.elim hw | (cases w3 <;> cases w4 <;> exact False.elim hw) | skip
  rename_i k
  cases w3 <;> first | exact False.elim hw | (cases w4 <;> exact False.elim hw) | skip
  rename_i sp
  cases w4 <;> first | exact False.elim hw | skip
  rename_i k0
  have hr : (ntab.any (fun e => e.1 == mC μ && e.2.1 == a && e.2.2.1 == 3) && decide (0 < mE μ)) = true := hres
  simp only [Bool.and_eq_true, decide_eq_true_eq] at hr
  obtain ⟨h1, h2, h3, h4, h5⟩ := hw
  obtain ⟨h6, h7⟩ := le4_use h5
  exact n_acopy hd (ntab_use hr.1) hr.2 h6 h1 h2 h3 h4 (hk _ _ _ h7)
theorem sI_57 (hSp : ∀ y as σ K, Sp y as σ K → Rn g ev y as σ K) (hq : rawI (57, a, b, c, v) = some q) (hd : decode (mB μ) pc = .ok q) (hres : resI μ (57, a, b, c, v) = true) (hw : wpI g Sp (57, a, b, c, v) ls st σ K) (hk : ∀ ls st σ, K ls st σ → PW g ev μ (pc + q.2) ls st σ Post) : PW g ev μ pc ls st σ Post := by
  cases hq
  rcases st with _ | ⟨w0, st⟩
  · first | exact False.elim hw
  rcases st with _ | ⟨w1, st⟩
  · first | exact False.elim hw | (cases w0 <;> exact False.elim hw)
  cases w0 <;> first | exact False.elim hw | (cases w1 <;> exact False.elim hw) | skip
  rename_i y
  cases w1 <;> first | exact False.elim hw | skip
  rename_i x
  have hr : (ntab.any (fun e => e.1 == mC μ && e.2.1 == a && e.2.2.1 == 0) && decide (0 < mE μ)) = true := hres
  simp only [Bool.and_eq_true, decide_eq_true_eq] at hr
  obtain ⟨h6, h7⟩ := le4_use hw
  exact n_mmin hd (ntab_use hr.1) hr.2 h6 (hk _ _ _ h7)
theorem sI_58 (hSp : ∀ y as σ K, Sp y as σ K → Rn g ev y as σ K) (hq : rawI (58, a, b, c, v) = some q) (hd : decode (mB μ) pc = .ok q) (hres : resI μ (58, a, b, c, v) = true) (hw : wpI g Sp (58, a, b, c, v) ls st σ K) (hk : ∀ ls st σ, K ls st σ → PW g ev μ (pc + q.2) ls st σ Post) : PW g ev μ pc ls st σ Post := by
  cases hq
  rcases st with _ | ⟨w0, st⟩
  · first | exact False.elim hw
  rcases st with _ | ⟨w1, st⟩
  · first | exact False.elim hw | (cases w0 <;> exact False.elim hw)
  cases w0 <;> first | exact False.elim hw | (cases w1 <;> exact False.elim hw) | skip
  rename_i y
  cases w1 <;> first | exact False.elim hw | skip
  rename_i x
  have hr : (ntab.any (fun e => e.1 == mC μ && e.2.1 == a && e.2.2.1 == 1) && decide (0 < mE μ)) = true := hres
  simp only [Bool.and_eq_true, decide_eq_true_eq] at hr
  obtain ⟨h6, h7⟩ := le4_use hw
  exact n_mmax hd (ntab_use hr.1) hr.2 h6 (hk _ _ _ h7)
theorem sI_59 (hSp : ∀ y as σ K, Sp y as σ K → Rn g ev y as σ K) (hq : rawI (59, a, b, c, v) = some q) (hd : decode (mB μ) pc = .ok q) (hres : resI μ (59, a, b, c, v) = true) (hw : wpI g Sp (59, a, b, c, v) ls st σ K) (hk : ∀ ls st σ, K ls st σ → PW g ev μ (pc + q.2) ls st σ Post) : PW g ev μ pc ls st σ Post := by
  cases hq
  rcases st with _ | ⟨w0, st⟩
  · first | exact False.elim hw
  rcases st with _ | ⟨w1, st⟩
  · first | exact False.elim hw | (cases w0 <;> exact False.elim hw)
  cases w0 <;> first | exact False.elim hw | (cases w1 <;> exact False.elim hw) | skip
  rename_i y
  cases w1 <;> first | exact False.elim hw | skip
  rename_i x
  have hr : (ntab.any (fun e => e.1 == mC μ && e.2.1 == a && e.2.2.1 == 2) && decide (0 < mE μ)) = true := hres
  simp only [Bool.and_eq_true, decide_eq_true_eq] at hr
  obtain ⟨h6, h7⟩ := le4_use hw
  exact n_mmaxL hd (ntab_use hr.1) hr.2 h6 (hk _ _ _ h7)
theorem sI_all (hSp : ∀ y as σ K, Sp y as σ K → Rn g ev y as σ K) : ∀ (t : Nat), rawI (t, a, b, c, v) = some q → decode (mB μ) pc = .ok q → resI μ (t, a, b, c, v) = true → wpI g Sp (t, a, b, c, v) ls st σ K → (∀ ls st σ, K ls st σ → PW g ev μ (pc + q.2) ls st σ Post) → PW g ev μ pc ls st σ Post
  | 0, hq, hd, hres, hw, hk => sI_0 hSp hq hd hres hw hk
  | 1, hq, hd, hres, hw, hk => sI_1 hSp hq hd hres hw hk
  | 2, hq, hd, hres, hw, hk => sI_2 hSp hq hd hres hw hk
  | 3, hq, hd, hres, hw, hk => sI_3 hSp hq hd hres hw hk
  | 4, hq, hd, hres, hw, hk => sI_4 hSp hq hd hres hw hk
  | 5, hq, hd, hres, hw, hk => sI_5 hSp hq hd hres hw hk
  | 6, hq, hd, hres, hw, hk => sI_6 hSp hq hd hres hw hk
  | 7, hq, hd, hres, hw, hk => sI_7 hSp hq hd hres hw hk
  | 8, hq, hd, hres, hw, hk => sI_8 hSp hq hd hres hw hk
  | 9, hq, hd, hres, hw, hk => sI_9 hSp hq hd hres hw hk
  | 10, hq, hd, hres, hw, hk => sI_10 hSp hq hd hres hw hk
  | 11, hq, hd, hres, hw, hk => sI_11 hSp hq hd hres hw hk
  | 12, hq, hd, hres, hw, hk => sI_12 hSp hq hd hres hw hk
  | 13, hq, hd, hres, hw, hk => sI_13 hSp hq hd hres hw hk
  | 14, hq, hd, hres, hw, hk => sI_14 hSp hq hd hres hw hk
  | 15, hq, hd, hres, hw, hk => sI_15 hSp hq hd hres hw hk
  | 16, hq, hd, hres, hw, hk => sI_16 hSp hq hd hres hw hk
  | 17, hq, hd, hres, hw, hk => sI_17 hSp hq hd hres hw hk
  | 18, hq, hd, hres, hw, hk => sI_18 hSp hq hd hres hw hk
  | 19, hq, hd, hres, hw, hk => sI_19 hSp hq hd hres hw hk
  | 20, hq, hd, hres, hw, hk => sI_20 hSp hq hd hres hw hk
  | 21, hq, hd, hres, hw, hk => sI_21 hSp hq hd hres hw hk
  | 22, hq, hd, hres, hw, hk => sI_22 hSp hq hd hres hw hk
  | 23, hq, hd, hres, hw, hk => sI_23 hSp hq hd hres hw hk
  | 24, hq, hd, hres, hw, hk => sI_24 hSp hq hd hres hw hk
  | 25, hq, hd, hres, hw, hk => sI_25 hSp hq hd hres hw hk
  | 26, hq, hd, hres, hw, hk => sI_26 hSp hq hd hres hw hk
  | 27, hq, hd, hres, hw, hk => sI_27 hSp hq hd hres hw hk
  | 28, hq, hd, hres, hw, hk => sI_28 hSp hq hd hres hw hk
  | 29, hq, hd, hres, hw, hk => sI_29 hSp hq hd hres hw hk
  | 30, hq, hd, hres, hw, hk => sI_30 hSp hq hd hres hw hk
  | 31, hq, hd, hres, hw, hk => sI_31 hSp hq hd hres hw hk
  | 32, hq, hd, hres, hw, hk => sI_32 hSp hq hd hres hw hk
  | 33, hq, hd, hres, hw, hk => sI_33 hSp hq hd hres hw hk
  | 34, hq, hd, hres, hw, hk => sI_34 hSp hq hd hres hw hk
  | 35, hq, hd, hres, hw, hk => sI_35 hSp hq hd hres hw hk
  | 36, hq, hd, hres, hw, hk => sI_36 hSp hq hd hres hw hk
  | 37, hq, hd, hres, hw, hk => sI_37 hSp hq hd hres hw hk
  | 38, hq, hd, hres, hw, hk => sI_38 hSp hq hd hres hw hk
  | 39, hq, hd, hres, hw, hk => sI_39 hSp hq hd hres hw hk
  | 40, hq, hd, hres, hw, hk => sI_40 hSp hq hd hres hw hk
  | 41, hq, hd, hres, hw, hk => sI_41 hSp hq hd hres hw hk
  | 42, hq, hd, hres, hw, hk => sI_42 hSp hq hd hres hw hk
  | 43, hq, hd, hres, hw, hk => sI_43 hSp hq hd hres hw hk
  | 44, hq, hd, hres, hw, hk => sI_44 hSp hq hd hres hw hk
  | 45, hq, hd, hres, hw, hk => sI_45 hSp hq hd hres hw hk
  | 46, hq, hd, hres, hw, hk => sI_46 hSp hq hd hres hw hk
  | 47, hq, hd, hres, hw, hk => sI_47 hSp hq hd hres hw hk
  | 48, hq, hd, hres, hw, hk => sI_48 hSp hq hd hres hw hk
  | 49, hq, hd, hres, hw, hk => sI_49 hSp hq hd hres hw hk
  | 50, hq, hd, hres, hw, hk => sI_50 hSp hq hd hres hw hk
  | 51, hq, hd, hres, hw, hk => sI_51 hSp hq hd hres hw hk
  | 52, hq, hd, hres, hw, hk => sI_52 hSp hq hd hres hw hk
  | 53, hq, hd, hres, hw, hk => sI_53 hSp hq hd hres hw hk
  | 54, hq, hd, hres, hw, hk => sI_54 hSp hq hd hres hw hk
  | 55, hq, hd, hres, hw, hk => sI_55 hSp hq hd hres hw hk
  | 56, hq, hd, hres, hw, hk => sI_56 hSp hq hd hres hw hk
  | 57, hq, hd, hres, hw, hk => sI_57 hSp hq hd hres hw hk
  | 58, hq, hd, hres, hw, hk => sI_58 hSp hq hd hres hw hk
  | 59, hq, hd, hres, hw, hk => sI_59 hSp hq hd hres hw hk
  | _ + 60, _, _, _, hw, _ => False.elim hw
theorem sI (hSp : ∀ y as σ K, Sp y as σ K → Rn g ev y as σ K) {i : RI} {pc' : Nat} (hc : chkI μ pc i = some pc') (hw : wpI g Sp i ls st σ K) (hk : ∀ ls st σ, K ls st σ → PW g ev μ pc' ls st σ Post) : PW g ev μ pc ls st σ Post := by
  obtain ⟨q, hq, hd, hres, rfl⟩ := chk_out hc
  obtain ⟨t, a, b, c, v⟩ := i
  exact sI_all hSp t hq hd hres hw hk
theorem sL (hSp : ∀ y as σ K, Sp y as σ K → Rn g ev y as σ K) : ∀ (L : List RI) (pc : Nat) (ls st : List Value) (σ : St2) (pc' : Nat), chkL μ pc L = some pc' → wpL g Sp L ls st σ K → (∀ ls st σ, K ls st σ → PW g ev μ pc' ls st σ Post) → PW g ev μ pc ls st σ Post := by
  intro L
  induction L with
  | nil => intro pc ls st σ pc' hc hw hk; cases hc; exact hk _ _ _ hw
  | cons i L ih =>
    intro pc ls st σ pc' hc hw hk
    unfold chkL at hc
    split at hc
    next q hq => exact sI hSp hq hw (fun ls st σ h => ih q ls st σ pc' hc h hk)
    next => cases hc
theorem sT_sw {x : Int32} {d : Nat} : ∀ (l : List (Int32 × Nat)), swP (fun pc ls st σ => PW g ev μ pc ls st σ Post) x d ls st σ l → (∃ q ∈ l, x = q.1 ∧ PW g ev μ q.2 ls st σ Post) ∨ ((∀ q ∈ l, ¬ x = q.1) ∧ PW g ev μ d ls st σ Post)
  | [], h => Or.inr ⟨fun _ h => (by cases h), h⟩
  | q :: l, h => by
    by_cases e : x = q.1
    · exact Or.inl ⟨q, List.mem_cons_self, e, h.1 e⟩
    · rcases sT_sw l (h.2 e) with ⟨r, h1, h2⟩ | ⟨h1, h2⟩
      · exact Or.inl ⟨r, List.mem_cons_of_mem _ h1, h2⟩
      · exact Or.inr ⟨fun r hr => by rcases List.mem_cons.mp hr with rfl | hr; exact e; exact h1 r hr, h2⟩
end NB
end
section
/-! a block's end, and a whole method -/
section NT
variable {g : Nat} {ev : EV} {μ pc : Nat} {ls st : List Value} {σ : St2} {Post : PO} {Sp : SPT}
abbrev PK (g : Nat) (ev : EV) (μ : Nat) (Post : PO) : Nat → KT := fun pc ls st σ => PW g ev μ pc ls st σ Post
theorem keysUp_at : ∀ (l : List (Int32 × Nat)) (k : Int32), keysUp k l = true → ∀ (i : Nat) (q : Int32 × Nat), l[i]? = some q → q.1 = k + Int32.ofNat i
  | [], k, _, i, q, h => by simp at h
  | p :: l, k, hk, i, q, h => by
    have hk' : (p.1 == k && keysUp (k + 1) l) = true := hk
    simp only [Bool.and_eq_true, beq_iff_eq] at hk'
    cases i with
    | zero => simp at h; subst h; rw [hk'.1]; show _ = _ + 0; rw [Int32.add_zero]
    | succ i =>
      have h2 := keysUp_at l (k + 1) hk'.2 i q (by simpa using h)
      rw [h2, inc_ofNat, Int32.add_assoc, Int32.add_comm 1]
theorem retI {r : Option FieldType} {ty : FieldType} (h : (r == some ty) = true) : r = some ty := beq_iff_eq.mp h
theorem lookup_at {x : Int32} {d : Nat} : ∀ (l : List (Int32 × Nat)), swP (fun pc ls st σ => PW g ev μ pc ls st σ Post) x d ls st σ l → ∃ t : Nat, PW g ev μ t ls st σ Post ∧ Op.lookupswitch.offset (l.map (fun q => (q.1.toInt, (q.2 : Int) - pc))) ((d : Int) - pc) x.toInt = (t : Int) - pc
  | [], h => ⟨d, h, rfl⟩
  | p :: l, h => by
    by_cases e : x = p.1
    · refine ⟨p.2, h.1 e, ?_⟩
      subst e
      simp [Op.lookupswitch.offset]
    · obtain ⟨t, h1, h2⟩ := lookup_at l (h.2 e)
      refine ⟨t, h1, ?_⟩
      rw [← h2, List.map_cons]
      exact lv_osw e rfl
theorem fb_bmod0 {z : Int} (h1 : -2147483648 ≤ z) (h2 : z < 2147483648) : z.bmod (2 ^ 32) = z := by
  rw [Int.bmod_eq_of_le (by omega) (by omega)]
theorem fb_addI0 {x y : Int32} (h1 : -2147483648 ≤ x.toInt + y.toInt) (h2 : x.toInt + y.toInt < 2147483648) : (x + y).toInt = x.toInt + y.toInt := by
  rw [Int32.toInt_add, fb_bmod0 h1 h2]
end NT
section NT2
variable {g : Nat} {ev : EV} {μ pc : Nat} {ls st : List Value} {σ : St2} {Post : PO} {Sp : SPT} {a b c : Nat} {v : Int32} {l : List (Int32 × Nat)}
theorem sT_70 (hc : chkT μ pc (70, a, b, c, v) l = true) (hw : wpT (PK g ev μ Post) Post (70, a, b, c, v) l ls st σ) : PW g ev μ pc ls st σ Post := by
  have hc' : (decIs (mB μ) pc (.goto ((a : Int) - pc), 3) && true) = true := hc
  simp only [Bool.and_true] at hc'
  exact n_goto (dec_out hc') hw
theorem sT_71 (hc : chkT μ pc (71, a, b, c, v) l = true) (hw : wpT (PK g ev μ Post) Post (71, a, b, c, v) l ls st σ) : PW g ev μ pc ls st σ Post := by
  have hc' : ((71 : Nat) == 71 && a == pc) = true := hc
  simp only [beq_self_eq_true, Bool.true_and, beq_iff_eq] at hc'
  subst hc'
  exact hw
theorem sT_72 (hc : chkT μ pc (72, a, b, c, v) l = true) (hw : wpT (PK g ev μ Post) Post (72, a, b, c, v) l ls st σ) : PW g ev μ pc ls st σ Post := by
  rcases st with _ | ⟨w0, st⟩
  · first | exact False.elim hw
  cases w0 <;> first | exact False.elim hw | skip
  rename_i x
  have hc' : (decIs (mB μ) pc (.ifCond .eq ((a : Int) - pc), 3) && (false || b == pc + 3)) = true := hc
  simp only [Bool.and_eq_true, Bool.false_or, beq_iff_eq] at hc'
  exact n_if_eq (dec_out hc'.1) hc'.2 hw.1 hw.2
theorem sT_73 (hc : chkT μ pc (73, a, b, c, v) l = true) (hw : wpT (PK g ev μ Post) Post (73, a, b, c, v) l ls st σ) : PW g ev μ pc ls st σ Post := by
  rcases st with _ | ⟨w0, st⟩
  · first | exact False.elim hw
  cases w0 <;> first | exact False.elim hw | skip
  rename_i x
  have hc' : (decIs (mB μ) pc (.ifCond .ne ((a : Int) - pc), 3) && (false || b == pc + 3)) = true := hc
  simp only [Bool.and_eq_true, Bool.false_or, beq_iff_eq] at hc'
  exact n_if_ne (dec_out hc'.1) hc'.2 hw.1 hw.2
theorem sT_74 (hc : chkT μ pc (74, a, b, c, v) l = true) (hw : wpT (PK g ev μ Post) Post (74, a, b, c, v) l ls st σ) : PW g ev μ pc ls st σ Post := by
  rcases st with _ | ⟨w0, st⟩
  · first | exact False.elim hw
  cases w0 <;> first | exact False.elim hw | skip
  rename_i x
  have hc' : (decIs (mB μ) pc (.ifCond .lt ((a : Int) - pc), 3) && (false || b == pc + 3)) = true := hc
  simp only [Bool.and_eq_true, Bool.false_or, beq_iff_eq] at hc'
  exact n_if_lt (dec_out hc'.1) hc'.2 hw.1 hw.2
theorem sT_75 (hc : chkT μ pc (75, a, b, c, v) l = true) (hw : wpT (PK g ev μ Post) Post (75, a, b, c, v) l ls st σ) : PW g ev μ pc ls st σ Post := by
  rcases st with _ | ⟨w0, st⟩
  · first | exact False.elim hw
  cases w0 <;> first | exact False.elim hw | skip
  rename_i x
  have hc' : (decIs (mB μ) pc (.ifCond .ge ((a : Int) - pc), 3) && (false || b == pc + 3)) = true := hc
  simp only [Bool.and_eq_true, Bool.false_or, beq_iff_eq] at hc'
  exact n_if_ge (dec_out hc'.1) hc'.2 hw.1 hw.2
theorem sT_76 (hc : chkT μ pc (76, a, b, c, v) l = true) (hw : wpT (PK g ev μ Post) Post (76, a, b, c, v) l ls st σ) : PW g ev μ pc ls st σ Post := by
  rcases st with _ | ⟨w0, st⟩
  · first | exact False.elim hw
  cases w0 <;> first | exact False.elim hw | skip
  rename_i x
  have hc' : (decIs (mB μ) pc (.ifCond .gt ((a : Int) - pc), 3) && (false || b == pc + 3)) = true := hc
  simp only [Bool.and_eq_true, Bool.false_or, beq_iff_eq] at hc'
  exact n_if_gt (dec_out hc'.1) hc'.2 hw.1 hw.2
theorem sT_77 (hc : chkT μ pc (77, a, b, c, v) l = true) (hw : wpT (PK g ev μ Post) Post (77, a, b, c, v) l ls st σ) : PW g ev μ pc ls st σ Post := by
  rcases st with _ | ⟨w0, st⟩
  · first | exact False.elim hw
  cases w0 <;> first | exact False.elim hw | skip
  rename_i x
  have hc' : (decIs (mB μ) pc (.ifCond .le ((a : Int) - pc), 3) && (false || b == pc + 3)) = true := hc
  simp only [Bool.and_eq_true, Bool.false_or, beq_iff_eq] at hc'
  exact n_if_le (dec_out hc'.1) hc'.2 hw.1 hw.2
theorem sT_78 (hc : chkT μ pc (78, a, b, c, v) l = true) (hw : wpT (PK g ev μ Post) Post (78, a, b, c, v) l ls st σ) : PW g ev μ pc ls st σ Post := by
  rcases st with _ | ⟨w0, st⟩
  · first | exact False.elim hw
  rcases st with _ | ⟨w1, st⟩
  · first | exact False.elim hw | (cases w0 <;> exact False.elim hw)
  cases w0 <;> first | exact False.elim hw | (cases w1 <;> exact False.elim hw) | skip
  rename_i y
  cases w1 <;> first | exact False.elim hw | skip
  rename_i x
  have hc' : (decIs (mB μ) pc (.if_icmp .eq ((a : Int) - pc), 3) && (false || b == pc + 3)) = true := hc
  simp only [Bool.and_eq_true, Bool.false_or, beq_iff_eq] at hc'
  exact n_icmp_eq (dec_out hc'.1) hc'.2 hw.1 hw.2
theorem sT_79 (hc : chkT μ pc (79, a, b, c, v) l = true) (hw : wpT (PK g ev μ Post) Post (79, a, b, c, v) l ls st σ) : PW g ev μ pc ls st σ Post := by
  rcases st with _ | ⟨w0, st⟩
  · first | exact False.elim hw
  rcases st with _ | ⟨w1, st⟩
  · first | exact False.elim hw | (cases w0 <;> exact False.elim hw)
  cases w0 <;> first | exact False.elim hw | (cases w1 <;> exact False.elim hw) | skip
  rename_i y
  cases w1 <;> first | exact False.elim hw | skip
  rename_i x
  have hc' : (decIs (mB μ) pc (.if_icmp .ne ((a : Int) - pc), 3) && (false || b == pc + 3)) = true := hc
  simp only [Bool.and_eq_true, Bool.false_or, beq_iff_eq] at hc'
  exact n_icmp_ne (dec_out hc'.1) hc'.2 hw.1 hw.2
theorem sT_80 (hc : chkT μ pc (80, a, b, c, v) l = true) (hw : wpT (PK g ev μ Post) Post (80, a, b, c, v) l ls st σ) : PW g ev μ pc ls st σ Post := by
  rcases st with _ | ⟨w0, st⟩
  · first | exact False.elim hw
  rcases st with _ | ⟨w1, st⟩
  · first | exact False.elim hw | (cases w0 <;> exact False.elim hw)
  cases w0 <;> first | exact False.elim hw | (cases w1 <;> exact False.elim hw) | skip
  rename_i y
  cases w1 <;> first | exact False.elim hw | skip
  rename_i x
  have hc' : (decIs (mB μ) pc (.if_icmp .lt ((a : Int) - pc), 3) && (false || b == pc + 3)) = true := hc
  simp only [Bool.and_eq_true, Bool.false_or, beq_iff_eq] at hc'
  exact n_icmp_lt (dec_out hc'.1) hc'.2 hw.1 hw.2
theorem sT_81 (hc : chkT μ pc (81, a, b, c, v) l = true) (hw : wpT (PK g ev μ Post) Post (81, a, b, c, v) l ls st σ) : PW g ev μ pc ls st σ Post := by
  rcases st with _ | ⟨w0, st⟩
  · first | exact False.elim hw
  rcases st with _ | ⟨w1, st⟩
  · first | exact False.elim hw | (cases w0 <;> exact False.elim hw)
  cases w0 <;> first | exact False.elim hw | (cases w1 <;> exact False.elim hw) | skip
  rename_i y
  cases w1 <;> first | exact False.elim hw | skip
  rename_i x
  have hc' : (decIs (mB μ) pc (.if_icmp .ge ((a : Int) - pc), 3) && (false || b == pc + 3)) = true := hc
  simp only [Bool.and_eq_true, Bool.false_or, beq_iff_eq] at hc'
  exact n_icmp_ge (dec_out hc'.1) hc'.2 hw.1 hw.2
theorem sT_82 (hc : chkT μ pc (82, a, b, c, v) l = true) (hw : wpT (PK g ev μ Post) Post (82, a, b, c, v) l ls st σ) : PW g ev μ pc ls st σ Post := by
  rcases st with _ | ⟨w0, st⟩
  · first | exact False.elim hw
  rcases st with _ | ⟨w1, st⟩
  · first | exact False.elim hw | (cases w0 <;> exact False.elim hw)
  cases w0 <;> first | exact False.elim hw | (cases w1 <;> exact False.elim hw) | skip
  rename_i y
  cases w1 <;> first | exact False.elim hw | skip
  rename_i x
  have hc' : (decIs (mB μ) pc (.if_icmp .gt ((a : Int) - pc), 3) && (false || b == pc + 3)) = true := hc
  simp only [Bool.and_eq_true, Bool.false_or, beq_iff_eq] at hc'
  exact n_icmp_gt (dec_out hc'.1) hc'.2 hw.1 hw.2
theorem sT_83 (hc : chkT μ pc (83, a, b, c, v) l = true) (hw : wpT (PK g ev μ Post) Post (83, a, b, c, v) l ls st σ) : PW g ev μ pc ls st σ Post := by
  rcases st with _ | ⟨w0, st⟩
  · first | exact False.elim hw
  rcases st with _ | ⟨w1, st⟩
  · first | exact False.elim hw | (cases w0 <;> exact False.elim hw)
  cases w0 <;> first | exact False.elim hw | (cases w1 <;> exact False.elim hw) | skip
  rename_i y
  cases w1 <;> first | exact False.elim hw | skip
  rename_i x
  have hc' : (decIs (mB μ) pc (.if_icmp .le ((a : Int) - pc), 3) && (false || b == pc + 3)) = true := hc
  simp only [Bool.and_eq_true, Bool.false_or, beq_iff_eq] at hc'
  exact n_icmp_le (dec_out hc'.1) hc'.2 hw.1 hw.2
theorem sT_84 (hc : chkT μ pc (84, a, b, c, v) l = true) (hw : wpT (PK g ev μ Post) Post (84, a, b, c, v) l ls st σ) : PW g ev μ pc ls st σ Post := by
  rcases st with _ | ⟨w, st⟩
  · exact False.elim hw
  rcases st with _ | ⟨w2, st⟩
  rotate_left
  · cases w <;> exact False.elim hw
  cases w <;> first | exact False.elim hw | skip
  rename_i x
  have hc' : (decIs (mB μ) pc (.ireturn, 1) && (mR μ == some .int)) = true := hc
  simp only [Bool.and_eq_true, beq_iff_eq] at hc'
  exact n_iret (dec_out hc'.1) hc'.2 rfl hw
theorem sT_85 (hc : chkT μ pc (85, a, b, c, v) l = true) (hw : wpT (PK g ev μ Post) Post (85, a, b, c, v) l ls st σ) : PW g ev μ pc ls st σ Post := by
  rcases st with _ | ⟨w, st⟩
  · exact False.elim hw
  rcases st with _ | ⟨w2, st⟩
  rotate_left
  · cases w <;> exact False.elim hw
  cases w <;> first | exact False.elim hw | skip
  rename_i x
  have hc' : (decIs (mB μ) pc (.ireturn, 1) && (mR μ == some .boolean)) = true := hc
  simp only [Bool.and_eq_true, beq_iff_eq] at hc'
  exact n_iret (dec_out hc'.1) hc'.2 (by rcases hw.1 with rfl | rfl <;> rfl) hw.2
theorem sT_89 (hc : chkT μ pc (89, a, b, c, v) l = true) (hw : wpT (PK g ev μ Post) Post (89, a, b, c, v) l ls st σ) : PW g ev μ pc ls st σ Post := by
  rcases st with _ | ⟨w, st⟩
  · exact False.elim hw
  rcases st with _ | ⟨w2, st⟩
  rotate_left
  · cases w <;> exact False.elim hw
  cases w <;> first | exact False.elim hw | skip
  rename_i x
  have hc' : (decIs (mB μ) pc (.ireturn, 1) && (mR μ == some .char)) = true := hc
  simp only [Bool.and_eq_true, beq_iff_eq] at hc'
  exact n_iret (dec_out hc'.1) hc'.2 hw.1 hw.2
theorem sT_92 (hc : chkT μ pc (92, a, b, c, v) l = true) (hw : wpT (PK g ev μ Post) Post (92, a, b, c, v) l ls st σ) : PW g ev μ pc ls st σ Post := by
  rcases st with _ | ⟨w, st⟩
  · exact False.elim hw
  rcases st with _ | ⟨w2, st⟩
  rotate_left
  · cases w <;> exact False.elim hw
  cases w <;> first | exact False.elim hw | skip
  rename_i x
  have hc' : (decIs (mB μ) pc (.ireturn, 1) && (mR μ == some .byte)) = true := hc
  simp only [Bool.and_eq_true, beq_iff_eq] at hc'
  exact n_iret (dec_out hc'.1) hc'.2 hw.1 hw.2
theorem sT_86 (hc : chkT μ pc (86, a, b, c, v) l = true) (hw : wpT (PK g ev μ Post) Post (86, a, b, c, v) l ls st σ) : PW g ev μ pc ls st σ Post := by
  rcases st with _ | ⟨w, st⟩
  · exact False.elim hw
  rcases st with _ | ⟨w2, st⟩
  rotate_left
  · cases w <;> exact False.elim hw
  cases w <;> first | exact False.elim hw | skip
  rename_i x
  have hc' : (decIs (mB μ) pc (.lreturn, 1) && (mR μ == some .long)) = true := hc
  simp only [Bool.and_eq_true, beq_iff_eq] at hc'
  exact n_lret (dec_out hc'.1) hc'.2 hw
theorem sT_88 (hc : chkT μ pc (88, a, b, c, v) l = true) (hw : wpT (PK g ev μ Post) Post (88, a, b, c, v) l ls st σ) : PW g ev μ pc ls st σ Post := by
  rcases st with _ | ⟨w, st⟩
  · exact False.elim hw
  rcases st with _ | ⟨w2, st⟩
  rotate_left
  · cases w <;> exact False.elim hw
  cases w <;> first | exact False.elim hw | skip
  rename_i x
  have hc' : (decIs (mB μ) pc (.areturn, 1) && (mR μ == some (.object "java/lang/String"))) = true := hc
  simp only [Bool.and_eq_true, beq_iff_eq] at hc'
  exact n_aret (dec_out hc'.1) hc'.2 hw
theorem sT_87 (hc : chkT μ pc (87, a, b, c, v) l = true) (hw : wpT (PK g ev μ Post) Post (87, a, b, c, v) l ls st σ) : PW g ev μ pc ls st σ Post := by
  rcases st with _ | ⟨w, st⟩
  rotate_left
  · exact False.elim hw
  have hc' : (decIs (mB μ) pc (.return_, 1) && (mR μ == none)) = true := hc
  simp only [Bool.and_eq_true, beq_iff_eq] at hc'
  exact n_vret (dec_out hc'.1) hc'.2 hw
theorem sT_90 (hc : chkT μ pc (90, a, b, c, v) l = true) (hw : wpT (PK g ev μ Post) Post (90, a, b, c, v) l ls st σ) : PW g ev μ pc ls st σ Post := by
  rcases st with _ | ⟨w, st⟩
  · exact False.elim hw
  cases w <;> first | exact False.elim hw | skip
  rename_i x
  rcases l with _ | ⟨⟨k, t0⟩, l'⟩
  · exact absurd hc (by intro h; cases h)
  generalize hl : (k, t0) :: l' = l at hw hc
  have hc' : (decIs (mB μ) pc (.tableswitch ((a : Int) - pc) k.toInt (k.toInt + l.length - 1) ((l.map (fun q => (q.2 : Int) - pc)).toArray), b - pc) && (keysUp ((l.getD 0 (0, 0)).1) l && decide (l.length < 100) && decide (0 ≤ ((l.getD 0 (0, 0)).1).toInt) && decide (((l.getD 0 (0, 0)).1).toInt < 100))) = true := by
    subst hl
    exact hc
  have hk0 : (l.getD 0 (0, 0)).1 = k := by subst hl; rfl
  rw [hk0] at hc'
  simp only [Bool.and_eq_true, decide_eq_true_eq] at hc'
  obtain ⟨hd, ⟨⟨h1, h2⟩, h3⟩, h4⟩ := hc'
  have hkey : ∀ (i : Nat) (q : Int32 × Nat), l[i]? = some q → q.1.toInt = k.toInt + i := by
    intro i q hq
    have hi : i < l.length := (List.getElem?_eq_some_iff.mp hq).1
    rw [keysUp_at l k h1 i q hq]
    have e1 : (Int32.ofNat i).toInt = (i : Int) := nI_toInt (n := i) (by omega)
    rw [fb_addI0 (by rw [e1]; omega) (by rw [e1]; omega), e1]
  rcases sT_sw l hw with ⟨q, hq, hx, hP⟩ | ⟨hn, hP⟩
  · obtain ⟨i, hi⟩ := List.getElem?_of_mem hq
    have hlt : i < l.length := (List.getElem?_eq_some_iff.mp hi).1
    have e := hkey i q hi
    rw [← hx] at e
    refine n_tsw (t := q.2) (dec_out hd) (Or.inr ⟨by omega, by omega, (q.2 : Int) - pc, ?_, by omega⟩) hP
    rw [e, show (k.toInt + (i : Int) - k.toInt).toNat = i by omega]
    simp [hi]
  · refine n_tsw (t := a) (dec_out hd) (Or.inl ⟨?_, by omega⟩) hP
    rcases (show x.toInt < k.toInt ∨ k.toInt ≤ x.toInt by omega) with h | h
    · exact Or.inl h
    · refine Or.inr ?_
      rcases (show k.toInt + l.length - 1 < x.toInt ∨ x.toInt ≤ k.toInt + l.length - 1 by omega) with h5 | h5
      · exact h5
      · exfalso
        have hi : (x.toInt - k.toInt).toNat < l.length := by omega
        have e := hkey (x.toInt - k.toInt).toNat _ (List.getElem?_eq_getElem hi)
        refine hn _ (List.getElem_mem hi) (Int32.toInt_inj.mp ?_)
        rw [e]
        omega
theorem sT_91 (hc : chkT μ pc (91, a, b, c, v) l = true) (hw : wpT (PK g ev μ Post) Post (91, a, b, c, v) l ls st σ) : PW g ev μ pc ls st σ Post := by
  rcases st with _ | ⟨w, st⟩
  · exact False.elim hw
  cases w <;> first | exact False.elim hw | skip
  rename_i x
  have hc' : (decIs (mB μ) pc (.lookupswitch ((a : Int) - pc) ((l.map (fun q => (q.1.toInt, (q.2 : Int) - pc))).toArray), b - pc) && ((l.map (fun q => (q.1.toInt, (q.2 : Int) - pc))).zip ((l.map (fun q => (q.1.toInt, (q.2 : Int) - pc))).drop 1)).all (fun (a, next) => a.1 < next.1)) = true := hc
  simp only [Bool.and_eq_true] at hc'
  obtain ⟨t, h1, h2⟩ := lookup_at (pc := pc) l hw
  exact n_lsw (t := t) (dec_out hc'.1) hc'.2 h2 (by omega) h1
theorem sT_all : ∀ (t : Nat), chkT μ pc (t, a, b, c, v) l = true → wpT (PK g ev μ Post) Post (t, a, b, c, v) l ls st σ → PW g ev μ pc ls st σ Post
  | 0, hc, hw => False.elim hw
  | 1, hc, hw => False.elim hw
  | 2, hc, hw => False.elim hw
  | 3, hc, hw => False.elim hw
  | 4, hc, hw => False.elim hw
  | 5, hc, hw => False.elim hw
  | 6, hc, hw => False.elim hw
  | 7, hc, hw => False.elim hw
  | 8, hc, hw => False.elim hw
  | 9, hc, hw => False.elim hw
  | 10, hc, hw => False.elim hw
  | 11, hc, hw => False.elim hw
  | 12, hc, hw => False.elim hw
  | 13, hc, hw => False.elim hw
  | 14, hc, hw => False.elim hw
  | 15, hc, hw => False.elim hw
  | 16, hc, hw => False.elim hw
  | 17, hc, hw => False.elim hw
  | 18, hc, hw => False.elim hw
  | 19, hc, hw => False.elim hw
  | 20, hc, hw => False.elim hw
  | 21, hc, hw => False.elim hw
  | 22, hc, hw => False.elim hw
  | 23, hc, hw => False.elim hw
  | 24, hc, hw => False.elim hw
  | 25, hc, hw => False.elim hw
  | 26, hc, hw => False.elim hw
  | 27, hc, hw => False.elim hw
  | 28, hc, hw => False.elim hw
  | 29, hc, hw => False.elim hw
  | 30, hc, hw => False.elim hw
  | 31, hc, hw => False.elim hw
  | 32, hc, hw => False.elim hw
  | 33, hc, hw => False.elim hw
  | 34, hc, hw => False.elim hw
  | 35, hc, hw => False.elim hw
  | 36, hc, hw => False.elim hw
  | 37, hc, hw => False.elim hw
  | 38, hc, hw => False.elim hw
  | 39, hc, hw => False.elim hw
  | 40, hc, hw => False.elim hw
  | 41, hc, hw => False.elim hw
  | 42, hc, hw => False.elim hw
  | 43, hc, hw => False.elim hw
  | 44, hc, hw => False.elim hw
  | 45, hc, hw => False.elim hw
  | 46, hc, hw => False.elim hw
  | 47, hc, hw => False.elim hw
  | 48, hc, hw => False.elim hw
  | 49, hc, hw => False.elim hw
  | 50, hc, hw => False.elim hw
  | 51, hc, hw => False.elim hw
  | 52, hc, hw => False.elim hw
  | 53, hc, hw => False.elim hw
  | 54, hc, hw => False.elim hw
  | 55, hc, hw => False.elim hw
  | 56, hc, hw => False.elim hw
  | 57, hc, hw => False.elim hw
  | 58, hc, hw => False.elim hw
  | 59, hc, hw => False.elim hw
  | 60, hc, hw => False.elim hw
  | 61, hc, hw => False.elim hw
  | 62, hc, hw => False.elim hw
  | 63, hc, hw => False.elim hw
  | 64, hc, hw => False.elim hw
  | 65, hc, hw => False.elim hw
  | 66, hc, hw => False.elim hw
  | 67, hc, hw => False.elim hw
  | 68, hc, hw => False.elim hw
  | 69, hc, hw => False.elim hw
  | 70, hc, hw => sT_70 hc hw
  | 71, hc, hw => sT_71 hc hw
  | 72, hc, hw => sT_72 hc hw
  | 73, hc, hw => sT_73 hc hw
  | 74, hc, hw => sT_74 hc hw
  | 75, hc, hw => sT_75 hc hw
  | 76, hc, hw => sT_76 hc hw
  | 77, hc, hw => sT_77 hc hw
  | 78, hc, hw => sT_78 hc hw
  | 79, hc, hw => sT_79 hc hw
  | 80, hc, hw => sT_80 hc hw
  | 81, hc, hw => sT_81 hc hw
  | 82, hc, hw => sT_82 hc hw
  | 83, hc, hw => sT_83 hc hw
  | 84, hc, hw => sT_84 hc hw
  | 85, hc, hw => sT_85 hc hw
  | 86, hc, hw => sT_86 hc hw
  | 87, hc, hw => sT_87 hc hw
  | 88, hc, hw => sT_88 hc hw
  | 89, hc, hw => sT_89 hc hw
  | 90, hc, hw => sT_90 hc hw
  | 91, hc, hw => sT_91 hc hw
  | 92, hc, hw => sT_92 hc hw
  | _ + 93, _, hw => False.elim hw
theorem sT {t : RI} (hc : chkT μ pc t l = true) (hw : wpT (PK g ev μ Post) Post t l ls st σ) : PW g ev μ pc ls st σ Post := by
  obtain ⟨t, a, b, c, v⟩ := t
  exact sT_all t hc hw
end NT2
/-- A BLOCK: at its first place, its weakest precondition is enough -/
theorem PW_blk {g : Nat} {ev : EV} {μ pc : Nat} {ls st : List Value} {σ : St2} {Post : PO} {Sp : SPT} {cf : List BK} {L : List RI} {t : RI} {l : List (Int32 × Nat)} (hok : chkM μ cf = true) (i : Nat) (hi : cf[i]? = some (pc, L, t, l)) (hSp : ∀ y as σ K, Sp y as σ K → Rn g ev y as σ K)
    (hw : wpL g Sp L ls st σ (fun ls st σ => wpT (PK g ev μ Post) Post t l ls st σ)) : PW g ev μ pc ls st σ Post := by
  have h1 := List.all_eq_true.mp hok _ (List.mem_of_getElem? hi)
  unfold chkB at h1
  split at h1
  next q hq => exact sL hSp L pc ls st σ q hq hw (fun ls st σ h => sT h1 h)
  next => cases h1
/-- fewer locals are enough -/
theorem PW_loc {g : Nat} {ev : EV} {μ pc : Nat} {ls : List Value} (n : Nat) {st : List Value} {σ : St2} {Post : PO} (h : PW g ev μ pc (ls.take n) st σ Post) : PW g ev μ pc ls st σ Post := fun p l e s m args below meth cd H locs ms C hH hS hl => by
  refine h p l e s m args below meth cd H locs ms C hH hS ⟨hl.1, hl.2.1, fun q hq => hl.2.2 q ?_⟩
  have key : ∀ (ls : List Value) (n b : Nat) (q : Nat × Value), q ∈ lv_args b ((ls.take n).map (mv ev)) → q ∈ lv_args b (ls.map (mv ev)) := by
    intro ls
    induction ls with
    | nil => intro n b q h; simpa using h
    | cons v ls ih =>
      intro n b q h
      cases n with
      | zero => cases h
      | succ n =>
        rw [List.take_succ_cons, List.map_cons, la_cons] at h
        rw [List.map_cons, la_cons]
        rcases List.mem_cons.mp h with rfl | h
        · exact List.mem_cons_self
        · exact List.mem_cons_of_mem _ (ih n _ q h)
  exact key ls n 0 q hq
/-- a method's contract out of its walk -/
theorem Rn_of {g : Nat} {ev : EV} {μ : Nat} {as : List Value} {σ : St2} {K : PO} (hμ : μ < 254) (h1 : mS μ = false → ∃ (k : Nat) (as' : List Value), as = .ref k :: as' ∧ rcv g (mC μ) k) (h2 : as.length = mA μ) (h3 : (lg_sl as).length ≤ mX μ) (h : PW g ev μ 0 as [] σ K) : Rn g ev μ as σ K := by
  obtain ⟨a1, a2, a3, a4, a5, a6⟩ := meth_a_use hμ
  have h3' : (lg_sl (as.map (mv ev))).length ≤ mX μ := by
    have e : (lg_sl (as.map (mv ev))).length = (lg_sl as).length := by
      clear h1 h2 h3 h
      induction as with
      | nil => rfl
      | cons v as ih =>
        have e1 : ∀ (w : Value) (l : List Value), (lg_sl (w :: l)).length = w.category + (lg_sl l).length := by
          intro w l
          show (List.flatMap _ (w :: l)).length = _
          rw [List.flatMap_cons, List.length_append]
          rcases lv_cat w with z | z <;> rw [z] <;> rfl
        rw [List.map_cons, e1, e1, mv_cat, ih]
    rw [e]
    exact h3
  refine ⟨h1, h2, fun l => Met.ofW (cc := mB μ) (maxL := mX μ) (ret := mR μ) a4 rfl ?_⟩
  intro p e s m args below meth c s₁ B hml hv
  obtain ⟨rfl, hH, hI, hK, hE⟩ := hv
  have hown := findClass_of_methodNamed B.named
  rw [a1] at hown
  have C : Cx g ev μ p s m ((as.map (mv ev)).toArray) meth c := ⟨B.exec, B.bytes, B.returns, hml, hown, atoms_spec (ws := wsM μ) B.pre, B.notSynchronized, hI, hK, hE⟩
  rw [lg_entry_eq]
  exact h p l e s m _ below meth c s.heap [] _ C hH va_S.rf (lv_entry (as.map (mv ev)) h3')
end
section
/-! rows by which a block's weakest precondition is read off -/
theorem lg0 {v : Value} {l : List Value} : lvGet (v :: l) 0 = some v := by cases v <;> rfl
theorem lgi {x : Int32} {l : List Value} {n : Nat} : lvGet (.int x :: l) (n + 1) = lvGet l n := by cases n <;> rfl
theorem lgr {x : Nat} {l : List Value} {n : Nat} : lvGet (.ref x :: l) (n + 1) = lvGet l n := by cases n <;> rfl
theorem lgn {l : List Value} {n : Nat} : lvGet (.null :: l) (n + 1) = lvGet l n := by cases n <;> rfl
theorem lgl {x : Int64} {l : List Value} {n : Nat} : lvGet (.long x :: l) (n + 2) = lvGet l n := rfl
theorem ls00 {v : Value} : lvSet [] 0 v = some [v] := rfl
theorem ls0i {x y : Int32} {l : List Value} : lvSet (.int x :: l) 0 (.int y) = some (.int y :: l) := rfl
theorem ls0r {x y : Nat} {l : List Value} : lvSet (.ref x :: l) 0 (.ref y) = some (.ref y :: l) := rfl
theorem ls0l {x y : Int64} {l : List Value} : lvSet (.long x :: l) 0 (.long y) = some (.long y :: l) := rfl
theorem lsi {x : Int32} {l : List Value} {n : Nat} {v : Value} : lvSet (.int x :: l) (n + 1) v = (lvSet l n v).map (.int x :: ·) := by cases n <;> rfl
theorem lsr {x : Nat} {l : List Value} {n : Nat} {v : Value} : lvSet (.ref x :: l) (n + 1) v = (lvSet l n v).map (.ref x :: ·) := by cases n <;> rfl
theorem lsl {x : Int64} {l : List Value} {n : Nat} {v : Value} : lvSet (.long x :: l) (n + 2) v = (lvSet l n v).map (.long x :: ·) := rfl
theorem wL0 {g : Nat} {Sp : SPT} {ls st : List Value} {σ : St2} {K : KT} : wpL g Sp [] ls st σ K = K ls st σ := rfl
theorem wLc {g : Nat} {Sp : SPT} {i : RI} {L : List RI} {ls st : List Value} {σ : St2} {K : KT} : wpL g Sp (i :: L) ls st σ K = wpI g Sp i ls st σ (fun ls st σ => wpL g Sp L ls st σ K) := rfl
theorem wS0 {P : Nat → KT} {x : Int32} {d : Nat} {ls st : List Value} {σ : St2} : swP P x d ls st σ [] = P d ls st σ := rfl
theorem wSc {P : Nat → KT} {x : Int32} {k : Int32 × Nat} {n : Nat} {ls st : List Value} {σ : St2} {l : List (Int32 × Nat)} : swP P x n ls st σ (k :: l) = ((x = k.1 → P k.2 ls st σ) ∧ (¬ x = k.1 → swP P x n ls st σ l)) := rfl
theorem q40 {P : Prop} : le4 [] P = P := rfl
theorem q41 {P : Prop} {a : Value} : le4 [a] P = P := rfl
theorem q42 {P : Prop} {a b : Value} : le4 [a, b] P = P := rfl
theorem q43 {P : Prop} {a b c : Value} : le4 [a, b, c] P = P := rfl
theorem q44 {P : Prop} {a b c d : Value} : le4 [a, b, c, d] P = P := rfl
theorem w0 {g : Nat} {Sp : SPT} {ls st : List Value} {σ : St2} {K : KT} {a b c : Nat} {v : Int32}  : wpI g Sp (0, a, b, c, v) ls st σ K = K ls (.int v :: st) σ := rfl
theorem w1 {g : Nat} {Sp : SPT} {ls st : List Value} {σ : St2} {K : KT} {a b c : Nat} {v : Int32}  : wpI g Sp (1, a, b, c, v) ls st σ K = (match lvGet ls a with | some (.int x) => K ls (.int x :: st) σ | _ => False) := rfl
theorem w2 {g : Nat} {Sp : SPT} {ls st : List Value} {σ : St2} {K : KT} {a b c : Nat} {v : Int32}  : wpI g Sp (2, a, b, c, v) ls st σ K = (match lvGet ls a with | some (.ref x) => K ls (.ref x :: st) σ | _ => False) := rfl
theorem w3 {g : Nat} {Sp : SPT} {ls st : List Value} {σ : St2} {K : KT} {a b c : Nat} {v : Int32}  : wpI g Sp (3, a, b, c, v) ls st σ K = (match lvGet ls a with | some (.long x) => K ls (.long x :: st) σ | _ => False) := rfl
theorem w4 {g : Nat} {Sp : SPT} {ls st : List Value} {σ : St2} {K : KT} {a b c : Nat} {v : Int32} {x : Int32} : wpI g Sp (4, a, b, c, v) ls (.int x :: st) σ K = (match lvSet ls a (.int x) with | some ls => K ls st σ | none => False) := rfl
theorem w5 {g : Nat} {Sp : SPT} {ls st : List Value} {σ : St2} {K : KT} {a b c : Nat} {v : Int32} {x : Nat} : wpI g Sp (5, a, b, c, v) ls (.ref x :: st) σ K = (match lvSet ls a (.ref x) with | some ls => K ls st σ | none => False) := rfl
theorem w6 {g : Nat} {Sp : SPT} {ls st : List Value} {σ : St2} {K : KT} {a b c : Nat} {v : Int32} {x : Int64} : wpI g Sp (6, a, b, c, v) ls (.long x :: st) σ K = (match lvSet ls a (.long x) with | some ls => K ls st σ | none => False) := rfl
theorem w7 {g : Nat} {Sp : SPT} {ls st : List Value} {σ : St2} {K : KT} {a b c : Nat} {v : Int32}  : wpI g Sp (7, a, b, c, v) ls st σ K = (match lvGet ls a with | some (.int x) => (match lvSet ls a (.int (x + v)) with | some ls => K ls st σ | none => False) | _ => False) := rfl
theorem w8i {g : Nat} {Sp : SPT} {ls st : List Value} {σ : St2} {K : KT} {a b c : Nat} {v : Int32} {x : Int32} : wpI g Sp (8, a, b, c, v) ls (.int x :: st) σ K = K ls (.int x :: .int x :: st) σ := rfl
theorem w8r {g : Nat} {Sp : SPT} {ls st : List Value} {σ : St2} {K : KT} {a b c : Nat} {v : Int32} {x : Nat} : wpI g Sp (8, a, b, c, v) ls (.ref x :: st) σ K = K ls (.ref x :: .ref x :: st) σ := rfl
theorem w9i {g : Nat} {Sp : SPT} {ls st : List Value} {σ : St2} {K : KT} {a b c : Nat} {v : Int32} {x : Int32} : wpI g Sp (9, a, b, c, v) ls (.int x :: st) σ K = K ls st σ := rfl
theorem w9r {g : Nat} {Sp : SPT} {ls st : List Value} {σ : St2} {K : KT} {a b c : Nat} {v : Int32} {x : Nat} : wpI g Sp (9, a, b, c, v) ls (.ref x :: st) σ K = K ls st σ := rfl
theorem w10r {g : Nat} {Sp : SPT} {ls st : List Value} {σ : St2} {K : KT} {a b c : Nat} {v : Int32} {y : Int32} {x : Nat} : wpI g Sp (10, a, b, c, v) ls (.int y :: .ref x :: st) σ K = K ls (.int y :: .ref x :: .int y :: .ref x :: st) σ := rfl
theorem w10i {g : Nat} {Sp : SPT} {ls st : List Value} {σ : St2} {K : KT} {a b c : Nat} {v : Int32} {y x : Int32} : wpI g Sp (10, a, b, c, v) ls (.int y :: .int x :: st) σ K = K ls (.int y :: .int x :: .int y :: .int x :: st) σ := rfl
theorem w11 {g : Nat} {Sp : SPT} {ls st : List Value} {σ : St2} {K : KT} {a b c : Nat} {v : Int32} {y x : Int32} : wpI g Sp (11, a, b, c, v) ls (.int y :: .int x :: st) σ K = K ls (.int (x + y) :: st) σ := rfl
theorem w12 {g : Nat} {Sp : SPT} {ls st : List Value} {σ : St2} {K : KT} {a b c : Nat} {v : Int32} {y x : Int32} : wpI g Sp (12, a, b, c, v) ls (.int y :: .int x :: st) σ K = K ls (.int (x - y) :: st) σ := rfl
theorem w13 {g : Nat} {Sp : SPT} {ls st : List Value} {σ : St2} {K : KT} {a b c : Nat} {v : Int32} {y x : Int32} : wpI g Sp (13, a, b, c, v) ls (.int y :: .int x :: st) σ K = K ls (.int (x * y) :: st) σ := rfl
theorem w16 {g : Nat} {Sp : SPT} {ls st : List Value} {σ : St2} {K : KT} {a b c : Nat} {v : Int32} {y x : Int32} : wpI g Sp (16, a, b, c, v) ls (.int y :: .int x :: st) σ K = K ls (.int (x &&& y) :: st) σ := rfl
theorem w17 {g : Nat} {Sp : SPT} {ls st : List Value} {σ : St2} {K : KT} {a b c : Nat} {v : Int32} {y x : Int32} : wpI g Sp (17, a, b, c, v) ls (.int y :: .int x :: st) σ K = K ls (.int (x ||| y) :: st) σ := rfl
theorem w18 {g : Nat} {Sp : SPT} {ls st : List Value} {σ : St2} {K : KT} {a b c : Nat} {v : Int32} {y x : Int32} : wpI g Sp (18, a, b, c, v) ls (.int y :: .int x :: st) σ K = K ls (.int (x ^^^ y) :: st) σ := rfl
theorem w19 {g : Nat} {Sp : SPT} {ls st : List Value} {σ : St2} {K : KT} {a b c : Nat} {v : Int32} {y x : Int32} : wpI g Sp (19, a, b, c, v) ls (.int y :: .int x :: st) σ K = K ls (.int (x <<< (y &&& 31)) :: st) σ := rfl
theorem w20 {g : Nat} {Sp : SPT} {ls st : List Value} {σ : St2} {K : KT} {a b c : Nat} {v : Int32} {y x : Int32} : wpI g Sp (20, a, b, c, v) ls (.int y :: .int x :: st) σ K = K ls (.int (x >>> (y &&& 31)) :: st) σ := rfl
theorem w21 {g : Nat} {Sp : SPT} {ls st : List Value} {σ : St2} {K : KT} {a b c : Nat} {v : Int32} {y x : Int32} : wpI g Sp (21, a, b, c, v) ls (.int y :: .int x :: st) σ K = K ls (.int ((x.toUInt32 >>> (y.toUInt32 &&& Int32.toUInt32 31)).toInt32) :: st) σ := rfl
theorem w14 {g : Nat} {Sp : SPT} {ls st : List Value} {σ : St2} {K : KT} {a b c : Nat} {v : Int32} {y x : Int32} : wpI g Sp (14, a, b, c, v) ls (.int y :: .int x :: st) σ K = ((¬ y = 0) ∧ K ls (.int (x / y) :: st) σ) := rfl
theorem w15 {g : Nat} {Sp : SPT} {ls st : List Value} {σ : St2} {K : KT} {a b c : Nat} {v : Int32} {y x : Int32} : wpI g Sp (15, a, b, c, v) ls (.int y :: .int x :: st) σ K = ((¬ y = 0) ∧ K ls (.int (x - x / y * y) :: st) σ) := rfl
theorem w22 {g : Nat} {Sp : SPT} {ls st : List Value} {σ : St2} {K : KT} {a b c : Nat} {v : Int32} {y x : Int64} : wpI g Sp (22, a, b, c, v) ls (.long y :: .long x :: st) σ K = K ls (.long (x + y) :: st) σ := rfl
theorem w23 {g : Nat} {Sp : SPT} {ls st : List Value} {σ : St2} {K : KT} {a b c : Nat} {v : Int32} {y x : Int64} : wpI g Sp (23, a, b, c, v) ls (.long y :: .long x :: st) σ K = K ls (.long (x - y) :: st) σ := rfl
theorem w24 {g : Nat} {Sp : SPT} {ls st : List Value} {σ : St2} {K : KT} {a b c : Nat} {v : Int32} {y x : Int64} : wpI g Sp (24, a, b, c, v) ls (.long y :: .long x :: st) σ K = K ls (.long (x * y) :: st) σ := rfl
theorem w25 {g : Nat} {Sp : SPT} {ls st : List Value} {σ : St2} {K : KT} {a b c : Nat} {v : Int32} {y x : Int64} : wpI g Sp (25, a, b, c, v) ls (.long y :: .long x :: st) σ K = ((¬ y = 0) ∧ K ls (.long (x / y) :: st) σ) := rfl
theorem w26 {g : Nat} {Sp : SPT} {ls st : List Value} {σ : St2} {K : KT} {a b c : Nat} {v : Int32} {y x : Int64} : wpI g Sp (26, a, b, c, v) ls (.long y :: .long x :: st) σ K = ((¬ y = 0) ∧ K ls (.long (x - x / y * y) :: st) σ) := rfl
theorem w27 {g : Nat} {Sp : SPT} {ls st : List Value} {σ : St2} {K : KT} {a b c : Nat} {v : Int32} {y x : Int64} : wpI g Sp (27, a, b, c, v) ls (.long y :: .long x :: st) σ K = K ls (.int (lg_cmp x y) :: st) σ := rfl
theorem w28 {g : Nat} {Sp : SPT} {ls st : List Value} {σ : St2} {K : KT} {a b c : Nat} {v : Int32} {x : Int32} : wpI g Sp (28, a, b, c, v) ls (.int x :: st) σ K = K ls (.long x.toInt64 :: st) σ := rfl
theorem w29 {g : Nat} {Sp : SPT} {ls st : List Value} {σ : St2} {K : KT} {a b c : Nat} {v : Int32} {x : Int64} : wpI g Sp (29, a, b, c, v) ls (.long x :: st) σ K = K ls (.int x.toInt32 :: st) σ := rfl
theorem w30 {g : Nat} {Sp : SPT} {ls st : List Value} {σ : St2} {K : KT} {a b c : Nat} {v : Int32} {x : Int32} : wpI g Sp (30, a, b, c, v) ls (.int x :: st) σ K = K ls (.int x.toInt8.toInt32 :: st) σ := rfl
theorem w31 {g : Nat} {Sp : SPT} {ls st : List Value} {σ : St2} {K : KT} {a b c : Nat} {v : Int32} {x : Int32} : wpI g Sp (31, a, b, c, v) ls (.int x :: st) σ K = K ls (.int x.toInt16.toInt32 :: st) σ := rfl
theorem w32 {g : Nat} {Sp : SPT} {ls st : List Value} {σ : St2} {K : KT} {a b c : Nat} {v : Int32} {x : Int32} : wpI g Sp (32, a, b, c, v) ls (.int x :: st) σ K = K ls (.int (x.toUInt32 % 65536).toInt32 :: st) σ := rfl
theorem w33 {g : Nat} {Sp : SPT} {ls st : List Value} {σ : St2} {K : KT} {a b c : Nat} {v : Int32} {k : Nat} : wpI g Sp (33, a, b, c, v) ls (.ref k :: st) σ K = ((k < nC g ∧ (shp g k).1 = b) ∧ K ls (.int (σ.1 k c) :: st) σ) := rfl
theorem w34 {g : Nat} {Sp : SPT} {ls st : List Value} {σ : St2} {K : KT} {a b c : Nat} {v : Int32} {k : Nat} : wpI g Sp (34, a, b, c, v) ls (.ref k :: st) σ K = ((k < nC g ∧ (shp g k).1 = b) ∧ K ls (.long (σ.2 k c) :: st) σ) := rfl
theorem w35 {g : Nat} {Sp : SPT} {ls st : List Value} {σ : St2} {K : KT} {a b c : Nat} {v : Int32} {k : Nat} : wpI g Sp (35, a, b, c, v) ls (.ref k :: st) σ K = ((k < nC g ∧ (shp g k).1 = b) ∧ K ls (.ref (rfs g k c) :: st) σ) := rfl
theorem w36 {g : Nat} {Sp : SPT} {ls st : List Value} {σ : St2} {K : KT} {a b c : Nat} {v : Int32} {k : Nat} {x : Int32} : wpI g Sp (36, a, b, c, v) ls (.int x :: .ref k :: st) σ K = ((k < nC g ∧ (shp g k).1 = b) ∧ K ls st (si σ k c x)) := rfl
theorem w37 {g : Nat} {Sp : SPT} {ls st : List Value} {σ : St2} {K : KT} {a b c : Nat} {v : Int32} {k : Nat} {x : Int32} : wpI g Sp (37, a, b, c, v) ls (.int x :: .ref k :: st) σ K = ((k < nC g ∧ (shp g k).1 = b) ∧ (x = 0 ∨ x = 1) ∧ K ls st (si σ k c x)) := rfl
theorem w38 {g : Nat} {Sp : SPT} {ls st : List Value} {σ : St2} {K : KT} {a b c : Nat} {v : Int32} {k : Nat} {x : Int64} : wpI g Sp (38, a, b, c, v) ls (.long x :: .ref k :: st) σ K = ((k < nC g ∧ (shp g k).1 = b) ∧ K ls st (sl σ k c x)) := rfl
theorem w39 {g : Nat} {Sp : SPT} {ls st : List Value} {σ : St2} {K : KT} {a b c : Nat} {v : Int32} {k : Nat} {i : Int32} : wpI g Sp (39, a, b, c, v) ls (.int i :: .ref k :: st) σ K = ((k < nC g ∧ (shp g k).1 = 100) ∧ vp_in i (shp g k).2 ∧ K ls (.int (σ.1 k i.toNatClampNeg) :: st) σ) := rfl
theorem w40 {g : Nat} {Sp : SPT} {ls st : List Value} {σ : St2} {K : KT} {a b c : Nat} {v : Int32} {k : Nat} {i x : Int32} : wpI g Sp (40, a, b, c, v) ls (.int x :: .int i :: .ref k :: st) σ K = ((k < nC g ∧ (shp g k).1 = 100) ∧ vp_in i (shp g k).2 ∧ K ls st (si σ k i.toNatClampNeg x)) := rfl
theorem w41 {g : Nat} {Sp : SPT} {ls st : List Value} {σ : St2} {K : KT} {a b c : Nat} {v : Int32} {k : Nat} {i : Int32} : wpI g Sp (41, a, b, c, v) ls (.int i :: .ref k :: st) σ K = ((k < nC g ∧ (shp g k).1 = 101) ∧ vp_in i (shp g k).2 ∧ K ls (.int (σ.1 k i.toNatClampNeg) :: st) σ) := rfl
theorem w42 {g : Nat} {Sp : SPT} {ls st : List Value} {σ : St2} {K : KT} {a b c : Nat} {v : Int32} {k : Nat} {i : Int32} : wpI g Sp (42, a, b, c, v) ls (.int i :: .ref k :: st) σ K = ((k < nC g ∧ ((shp g k).1 = 102 ∨ (shp g k).1 = 103)) ∧ vp_in i (shp g k).2 ∧ K ls (.ref (rfs g k i.toNatClampNeg) :: st) σ) := rfl
theorem w43 {g : Nat} {Sp : SPT} {ls st : List Value} {σ : St2} {K : KT} {a b c : Nat} {v : Int32} {k : Nat} : wpI g Sp (43, a, b, c, v) ls (.ref k :: st) σ K = ((k < nC g ∧ ((shp g k).1 = 100 ∨ (shp g k).1 = 101)) ∧ K ls (.int (nI (shp g k).2) :: st) σ) := rfl
theorem w44 {g : Nat} {Sp : SPT} {ls st : List Value} {σ : St2} {K : KT} {a b c : Nat} {v : Int32} {k : Nat} {i : Int32} : wpI g Sp (44, a, b, c, v) ls (.int i :: .ref k :: st) σ K = ((g = 0 ∧ 200 ≤ k ∧ k < 206) ∧ vp_in i (shp g k).2 ∧ K ls (.int (cst k i.toNatClampNeg) :: st) σ) := rfl
theorem w45 {g : Nat} {Sp : SPT} {ls st : List Value} {σ : St2} {K : KT} {a b c : Nat} {v : Int32}  : wpI g Sp (45, a, b, c, v) ls st σ K = (g = 0 ∧ K ls (.ref b :: st) σ) := rfl
theorem w46 {g : Nat} {Sp : SPT} {ls st : List Value} {σ : St2} {K : KT} {a b c : Nat} {v : Int32}  : wpI g Sp (46, a, b, c, v) ls st σ K = (g = 0 ∧ K ls (.int 1 :: st) σ) := rfl
theorem w47 {g : Nat} {Sp : SPT} {ls st : List Value} {σ : St2} {K : KT} {a b c : Nat} {v : Int32}  : wpI g Sp (47, a, b, c, v) ls st σ K = (g = 0 ∧ K ls (.null :: st) σ ∧ K ls (.ref 999 :: st) σ) := rfl
theorem w48 {g : Nat} {Sp : SPT} {ls st : List Value} {σ : St2} {K : KT} {a b c : Nat} {v : Int32}  : wpI g Sp (48, a, b, c, v) ls st σ K = (g = 0 ∧ K ls (.ref b :: st) σ) := rfl
theorem w49 {g : Nat} {Sp : SPT} {ls st : List Value} {σ : St2} {K : KT} {a b c : Nat} {v : Int32} {k : Nat} : wpI g Sp (49, a, b, c, v) ls (.ref k :: st) σ K = ((g = 0 ∧ 300 ≤ k ∧ k < 316) ∧ K ls (.ref (k + 100) :: st) σ) := rfl
theorem w50 {g : Nat} {Sp : SPT} {ls st : List Value} {σ : St2} {K : KT} {a b c : Nat} {v : Int32} {k : Nat} : wpI g Sp (50, a, b, c, v) ls (.ref k :: st) σ K = ((g = 0 ∧ 300 ≤ k ∧ k < 316) ∧ K ls (.int 0 :: st) σ) := rfl
theorem w51 {g : Nat} {Sp : SPT} {ls st : List Value} {σ : St2} {K : KT} {a b c : Nat} {v : Int32} {k : Nat} {i : Int32} : wpI g Sp (51, a, b, c, v) ls (.int i :: .ref k :: st) σ K = ((g = 0 ∧ 400 ≤ k ∧ k < 416) ∧ vp_in i (shp g k).2 ∧ K ls (.int (cst k i.toNatClampNeg) :: st) σ) := rfl
theorem w52 {g : Nat} {Sp : SPT} {ls st : List Value} {σ : St2} {K : KT} {a b c : Nat} {v : Int32} {k : Nat} : wpI g Sp (52, a, b, c, v) ls (.ref k :: st) σ K = ((g = 0 ∧ 400 ≤ k ∧ k < 416) ∧ K ls (.int (nI (shp g k).2) :: st) σ) := rfl
theorem w53 {g : Nat} {Sp : SPT} {ls st : List Value} {σ : St2} {K : KT} {a b c : Nat} {v : Int32}  : wpI g Sp (53, a, b, c, v) ls st σ K = K ls (.long (lN b) :: st) σ := rfl
theorem w54 {g : Nat} {Sp : SPT} {ls st : List Value} {σ : St2} {K : KT} {a b c : Nat} {v : Int32}  : wpI g Sp (54, a, b, c, v) ls st σ K = le4 (st.drop b) (b ≤ st.length ∧ Sp c (st.take b).reverse σ (fun r σ => K ls (r.toList ++ st.drop b) σ)) := rfl
theorem w55 {g : Nat} {Sp : SPT} {ls st : List Value} {σ : St2} {K : KT} {a b c : Nat} {v : Int32}  : wpI g Sp (55, a, b, c, v) ls st σ K = le4 (st.drop b) (b ≤ st.length ∧ Sp c (st.take b).reverse σ (fun r σ => K ls (r.toList ++ st.drop b) σ)) := rfl
theorem w56 {g : Nat} {Sp : SPT} {ls st : List Value} {σ : St2} {K : KT} {a b c : Nat} {v : Int32} {k k0 : Nat} {sp dp n : Int32} : wpI g Sp (56, a, b, c, v) ls (.int n :: .int dp :: .ref k :: .int sp :: .ref k0 :: st) σ K = ((k < nC g ∧ (shp g k).1 = 100) ∧ (k0 < nC g ∧ (shp g k0).1 = 100) ∧ (¬ sp < 0 ∧ ¬ dp < 0 ∧ ¬ n < 0) ∧ (sp.toNatClampNeg + n.toNatClampNeg ≤ (shp g k0).2 ∧ dp.toNatClampNeg + n.toNatClampNeg ≤ (shp g k).2) ∧ le4 st (K ls st (sr σ k (va_cpy (σ.1 k0) (σ.1 k) sp.toNatClampNeg dp.toNatClampNeg n.toNatClampNeg)))) := rfl
theorem w57 {g : Nat} {Sp : SPT} {ls st : List Value} {σ : St2} {K : KT} {a b c : Nat} {v : Int32} {x y : Int32} : wpI g Sp (57, a, b, c, v) ls (.int y :: .int x :: st) σ K = le4 st (K ls (.int (if y < x then y else x) :: st) σ) := rfl
theorem w58 {g : Nat} {Sp : SPT} {ls st : List Value} {σ : St2} {K : KT} {a b c : Nat} {v : Int32} {x y : Int32} : wpI g Sp (58, a, b, c, v) ls (.int y :: .int x :: st) σ K = le4 st (K ls (.int (if x < y then y else x) :: st) σ) := rfl
theorem w59 {g : Nat} {Sp : SPT} {ls st : List Value} {σ : St2} {K : KT} {a b c : Nat} {v : Int32} {x y : Int64} : wpI g Sp (59, a, b, c, v) ls (.long y :: .long x :: st) σ K = le4 st (K ls (.long (if y < x then x else y) :: st) σ) := rfl
theorem w70 {P : Nat → KT} {Post : PO} {ls st : List Value} {σ : St2} {a b c : Nat} {v : Int32} {l : List (Int32 × Nat)}  : wpT P Post (70, a, b, c, v) l ls st σ = P a ls st σ := rfl
theorem w71 {P : Nat → KT} {Post : PO} {ls st : List Value} {σ : St2} {a b c : Nat} {v : Int32} {l : List (Int32 × Nat)}  : wpT P Post (71, a, b, c, v) l ls st σ = P a ls st σ := rfl
theorem w72 {P : Nat → KT} {Post : PO} {ls st : List Value} {σ : St2} {a b c : Nat} {v : Int32} {l : List (Int32 × Nat)} {x : Int32} : wpT P Post (72, a, b, c, v) l ls (.int x :: st) σ = ((x = 0 → P a ls st σ) ∧ (¬ x = 0 → P b ls st σ)) := rfl
theorem w73 {P : Nat → KT} {Post : PO} {ls st : List Value} {σ : St2} {a b c : Nat} {v : Int32} {l : List (Int32 × Nat)} {x : Int32} : wpT P Post (73, a, b, c, v) l ls (.int x :: st) σ = ((¬ x = 0 → P a ls st σ) ∧ (x = 0 → P b ls st σ)) := rfl
theorem w74 {P : Nat → KT} {Post : PO} {ls st : List Value} {σ : St2} {a b c : Nat} {v : Int32} {l : List (Int32 × Nat)} {x : Int32} : wpT P Post (74, a, b, c, v) l ls (.int x :: st) σ = ((x < 0 → P a ls st σ) ∧ (¬ x < 0 → P b ls st σ)) := rfl
theorem w75 {P : Nat → KT} {Post : PO} {ls st : List Value} {σ : St2} {a b c : Nat} {v : Int32} {l : List (Int32 × Nat)} {x : Int32} : wpT P Post (75, a, b, c, v) l ls (.int x :: st) σ = ((¬ x < 0 → P a ls st σ) ∧ (x < 0 → P b ls st σ)) := rfl
theorem w76 {P : Nat → KT} {Post : PO} {ls st : List Value} {σ : St2} {a b c : Nat} {v : Int32} {l : List (Int32 × Nat)} {x : Int32} : wpT P Post (76, a, b, c, v) l ls (.int x :: st) σ = ((0 < x → P a ls st σ) ∧ (¬ 0 < x → P b ls st σ)) := rfl
theorem w77 {P : Nat → KT} {Post : PO} {ls st : List Value} {σ : St2} {a b c : Nat} {v : Int32} {l : List (Int32 × Nat)} {x : Int32} : wpT P Post (77, a, b, c, v) l ls (.int x :: st) σ = ((¬ 0 < x → P a ls st σ) ∧ (0 < x → P b ls st σ)) := rfl
theorem w78 {P : Nat → KT} {Post : PO} {ls st : List Value} {σ : St2} {a b c : Nat} {v : Int32} {l : List (Int32 × Nat)} {x y : Int32} : wpT P Post (78, a, b, c, v) l ls (.int y :: .int x :: st) σ = ((x = y → P a ls st σ) ∧ (¬ x = y → P b ls st σ)) := rfl
theorem w79 {P : Nat → KT} {Post : PO} {ls st : List Value} {σ : St2} {a b c : Nat} {v : Int32} {l : List (Int32 × Nat)} {x y : Int32} : wpT P Post (79, a, b, c, v) l ls (.int y :: .int x :: st) σ = ((¬ x = y → P a ls st σ) ∧ (x = y → P b ls st σ)) := rfl
theorem w80 {P : Nat → KT} {Post : PO} {ls st : List Value} {σ : St2} {a b c : Nat} {v : Int32} {l : List (Int32 × Nat)} {x y : Int32} : wpT P Post (80, a, b, c, v) l ls (.int y :: .int x :: st) σ = ((x < y → P a ls st σ) ∧ (¬ x < y → P b ls st σ)) := rfl
theorem w81 {P : Nat → KT} {Post : PO} {ls st : List Value} {σ : St2} {a b c : Nat} {v : Int32} {l : List (Int32 × Nat)} {x y : Int32} : wpT P Post (81, a, b, c, v) l ls (.int y :: .int x :: st) σ = ((¬ x < y → P a ls st σ) ∧ (x < y → P b ls st σ)) := rfl
theorem w82 {P : Nat → KT} {Post : PO} {ls st : List Value} {σ : St2} {a b c : Nat} {v : Int32} {l : List (Int32 × Nat)} {x y : Int32} : wpT P Post (82, a, b, c, v) l ls (.int y :: .int x :: st) σ = ((y < x → P a ls st σ) ∧ (¬ y < x → P b ls st σ)) := rfl
theorem w83 {P : Nat → KT} {Post : PO} {ls st : List Value} {σ : St2} {a b c : Nat} {v : Int32} {l : List (Int32 × Nat)} {x y : Int32} : wpT P Post (83, a, b, c, v) l ls (.int y :: .int x :: st) σ = ((¬ y < x → P a ls st σ) ∧ (y < x → P b ls st σ)) := rfl
theorem w84 {P : Nat → KT} {Post : PO} {ls st : List Value} {σ : St2} {a b c : Nat} {v : Int32} {l : List (Int32 × Nat)} {x : Int32} : wpT P Post (84, a, b, c, v) l ls [.int x] σ = Post (some (.int x)) σ := rfl
theorem w85 {P : Nat → KT} {Post : PO} {ls st : List Value} {σ : St2} {a b c : Nat} {v : Int32} {l : List (Int32 × Nat)} {x : Int32} : wpT P Post (85, a, b, c, v) l ls [.int x] σ = ((x = 0 ∨ x = 1) ∧ Post (some (.int x)) σ) := rfl
theorem w86 {P : Nat → KT} {Post : PO} {ls st : List Value} {σ : St2} {a b c : Nat} {v : Int32} {l : List (Int32 × Nat)} {x : Int64} : wpT P Post (86, a, b, c, v) l ls [.long x] σ = Post (some (.long x)) σ := rfl
theorem w87 {P : Nat → KT} {Post : PO} {ls st : List Value} {σ : St2} {a b c : Nat} {v : Int32} {l : List (Int32 × Nat)}  : wpT P Post (87, a, b, c, v) l ls [] σ = Post none σ := rfl
theorem w88 {P : Nat → KT} {Post : PO} {ls st : List Value} {σ : St2} {a b c : Nat} {v : Int32} {l : List (Int32 × Nat)} {x : Nat} : wpT P Post (88, a, b, c, v) l ls [.ref x] σ = Post (some (.ref x)) σ := rfl
theorem w89 {P : Nat → KT} {Post : PO} {ls st : List Value} {σ : St2} {a b c : Nat} {v : Int32} {l : List (Int32 × Nat)} {x : Int32} : wpT P Post (89, a, b, c, v) l ls [.int x] σ = (narrow .char (.int x) = .int x ∧ Post (some (.int x)) σ) := rfl
theorem w92 {P : Nat → KT} {Post : PO} {ls st : List Value} {σ : St2} {a b c : Nat} {v : Int32} {l : List (Int32 × Nat)} {x : Int32} : wpT P Post (92, a, b, c, v) l ls [.int x] σ = (narrow .byte (.int x) = .int x ∧ Post (some (.int x)) σ) := rfl
theorem w90 {P : Nat → KT} {Post : PO} {ls st : List Value} {σ : St2} {a b c : Nat} {v : Int32} {l : List (Int32 × Nat)} {x : Int32} : wpT P Post (90, a, b, c, v) l ls (.int x :: st) σ = swP P x a ls st σ l := rfl
theorem w91 {P : Nat → KT} {Post : PO} {ls st : List Value} {σ : St2} {a b c : Nat} {v : Int32} {l : List (Int32 × Nat)} {x : Int32} : wpT P Post (91, a, b, c, v) l ls (.int x :: st) σ = swP P x a ls st σ l := rfl
/-- a static method -/
theorem Rn_S {g : Nat} {ev : EV} {μ : Nat} {as : List Value} {σ : St2} {K : PO} (hμ : μ < 254) (h1 : mS μ = true) (h2 : as.length = mA μ) (h3 : Nat.ble (lg_sl as).length (mX μ) = true) (h : PW g ev μ 0 as [] σ K) : Rn g ev μ as σ K :=
  Rn_of hμ (fun h0 => by rw [h1] at h0; cases h0) h2 (Nat.le_of_ble_eq_true h3) h
/-- an instance's method -/
theorem Rn_V {g : Nat} {ev : EV} {μ k : Nat} {as : List Value} {σ : St2} {K : PO} (hμ : μ < 254) (h1 : rcv g (mC μ) k) (h2 : (Value.ref k :: as).length = mA μ) (h3 : Nat.ble (lg_sl (Value.ref k :: as)).length (mX μ) = true) (h : PW g ev μ 0 (.ref k :: as) [] σ K) : Rn g ev μ (.ref k :: as) σ K :=
  Rn_of hμ (fun _ => ⟨k, as, rfl, h1⟩) h2 (Nat.le_of_ble_eq_true h3) h
theorem SpR {g : Nat} {ev : EV} : ∀ y as σ K, Rn g ev y as σ K → Rn g ev y as σ K := fun _ _ _ _ h => h
end
section
/-! facts of the cells, of literals, calls by arity -/
theorem w54_0 {g : Nat} {Sp : SPT} {ls st : List Value} {σ : St2} {K : KT} {i y : Nat} {v : Int32}  : wpI g Sp (54, i, 0, y, v) ls (st) σ K = le4 st (Sp y [] σ (fun r σ => K ls (r.toList ++ st) σ)) := by
  show le4 st (0 ≤ (st).length ∧ _) = _
  rw [eq_true (show 0 ≤ (st).length by first | exact Nat.zero_le _ | (simp only [List.length_cons]; omega)), true_and]
  rfl
theorem w54_1 {g : Nat} {Sp : SPT} {ls st : List Value} {σ : St2} {K : KT} {i y : Nat} {v : Int32} {a0 : Value} : wpI g Sp (54, i, 1, y, v) ls (a0 :: st) σ K = le4 st (Sp y [a0] σ (fun r σ => K ls (r.toList ++ st) σ)) := by
  show le4 st (1 ≤ (a0 :: st).length ∧ _) = _
  rw [eq_true (show 1 ≤ (a0 :: st).length by first | exact Nat.zero_le _ | (simp only [List.length_cons]; omega)), true_and]
  rfl
theorem w54_2 {g : Nat} {Sp : SPT} {ls st : List Value} {σ : St2} {K : KT} {i y : Nat} {v : Int32} {a0 a1 : Value} : wpI g Sp (54, i, 2, y, v) ls (a1 :: a0 :: st) σ K = le4 st (Sp y [a0, a1] σ (fun r σ => K ls (r.toList ++ st) σ)) := by
  show le4 st (2 ≤ (a1 :: a0 :: st).length ∧ _) = _
  rw [eq_true (show 2 ≤ (a1 :: a0 :: st).length by first | exact Nat.zero_le _ | (simp only [List.length_cons]; omega)), true_and]
  rfl
theorem w54_3 {g : Nat} {Sp : SPT} {ls st : List Value} {σ : St2} {K : KT} {i y : Nat} {v : Int32} {a0 a1 a2 : Value} : wpI g Sp (54, i, 3, y, v) ls (a2 :: a1 :: a0 :: st) σ K = le4 st (Sp y [a0, a1, a2] σ (fun r σ => K ls (r.toList ++ st) σ)) := by
  show le4 st (3 ≤ (a2 :: a1 :: a0 :: st).length ∧ _) = _
  rw [eq_true (show 3 ≤ (a2 :: a1 :: a0 :: st).length by first | exact Nat.zero_le _ | (simp only [List.length_cons]; omega)), true_and]
  rfl
theorem w54_4 {g : Nat} {Sp : SPT} {ls st : List Value} {σ : St2} {K : KT} {i y : Nat} {v : Int32} {a0 a1 a2 a3 : Value} : wpI g Sp (54, i, 4, y, v) ls (a3 :: a2 :: a1 :: a0 :: st) σ K = le4 st (Sp y [a0, a1, a2, a3] σ (fun r σ => K ls (r.toList ++ st) σ)) := by
  show le4 st (4 ≤ (a3 :: a2 :: a1 :: a0 :: st).length ∧ _) = _
  rw [eq_true (show 4 ≤ (a3 :: a2 :: a1 :: a0 :: st).length by first | exact Nat.zero_le _ | (simp only [List.length_cons]; omega)), true_and]
  rfl
theorem w54_5 {g : Nat} {Sp : SPT} {ls st : List Value} {σ : St2} {K : KT} {i y : Nat} {v : Int32} {a0 a1 a2 a3 a4 : Value} : wpI g Sp (54, i, 5, y, v) ls (a4 :: a3 :: a2 :: a1 :: a0 :: st) σ K = le4 st (Sp y [a0, a1, a2, a3, a4] σ (fun r σ => K ls (r.toList ++ st) σ)) := by
  show le4 st (5 ≤ (a4 :: a3 :: a2 :: a1 :: a0 :: st).length ∧ _) = _
  rw [eq_true (show 5 ≤ (a4 :: a3 :: a2 :: a1 :: a0 :: st).length by first | exact Nat.zero_le _ | (simp only [List.length_cons]; omega)), true_and]
  rfl
theorem w54_6 {g : Nat} {Sp : SPT} {ls st : List Value} {σ : St2} {K : KT} {i y : Nat} {v : Int32} {a0 a1 a2 a3 a4 a5 : Value} : wpI g Sp (54, i, 6, y, v) ls (a5 :: a4 :: a3 :: a2 :: a1 :: a0 :: st) σ K = le4 st (Sp y [a0, a1, a2, a3, a4, a5] σ (fun r σ => K ls (r.toList ++ st) σ)) := by
  show le4 st (6 ≤ (a5 :: a4 :: a3 :: a2 :: a1 :: a0 :: st).length ∧ _) = _
  rw [eq_true (show 6 ≤ (a5 :: a4 :: a3 :: a2 :: a1 :: a0 :: st).length by first | exact Nat.zero_le _ | (simp only [List.length_cons]; omega)), true_and]
  rfl
theorem w54_7 {g : Nat} {Sp : SPT} {ls st : List Value} {σ : St2} {K : KT} {i y : Nat} {v : Int32} {a0 a1 a2 a3 a4 a5 a6 : Value} : wpI g Sp (54, i, 7, y, v) ls (a6 :: a5 :: a4 :: a3 :: a2 :: a1 :: a0 :: st) σ K = le4 st (Sp y [a0, a1, a2, a3, a4, a5, a6] σ (fun r σ => K ls (r.toList ++ st) σ)) := by
  show le4 st (7 ≤ (a6 :: a5 :: a4 :: a3 :: a2 :: a1 :: a0 :: st).length ∧ _) = _
  rw [eq_true (show 7 ≤ (a6 :: a5 :: a4 :: a3 :: a2 :: a1 :: a0 :: st).length by first | exact Nat.zero_le _ | (simp only [List.length_cons]; omega)), true_and]
  rfl
theorem w55_0 {g : Nat} {Sp : SPT} {ls st : List Value} {σ : St2} {K : KT} {i y : Nat} {v : Int32}  : wpI g Sp (55, i, 0, y, v) ls (st) σ K = le4 st (Sp y [] σ (fun r σ => K ls (r.toList ++ st) σ)) := by
  show le4 st (0 ≤ (st).length ∧ _) = _
  rw [eq_true (show 0 ≤ (st).length by first | exact Nat.zero_le _ | (simp only [List.length_cons]; omega)), true_and]
  rfl
theorem w55_1 {g : Nat} {Sp : SPT} {ls st : List Value} {σ : St2} {K : KT} {i y : Nat} {v : Int32} {a0 : Value} : wpI g Sp (55, i, 1, y, v) ls (a0 :: st) σ K = le4 st (Sp y [a0] σ (fun r σ => K ls (r.toList ++ st) σ)) := by
  show le4 st (1 ≤ (a0 :: st).length ∧ _) = _
  rw [eq_true (show 1 ≤ (a0 :: st).length by first | exact Nat.zero_le _ | (simp only [List.length_cons]; omega)), true_and]
  rfl
theorem w55_2 {g : Nat} {Sp : SPT} {ls st : List Value} {σ : St2} {K : KT} {i y : Nat} {v : Int32} {a0 a1 : Value} : wpI g Sp (55, i, 2, y, v) ls (a1 :: a0 :: st) σ K = le4 st (Sp y [a0, a1] σ (fun r σ => K ls (r.toList ++ st) σ)) := by
  show le4 st (2 ≤ (a1 :: a0 :: st).length ∧ _) = _
  rw [eq_true (show 2 ≤ (a1 :: a0 :: st).length by first | exact Nat.zero_le _ | (simp only [List.length_cons]; omega)), true_and]
  rfl
theorem w55_3 {g : Nat} {Sp : SPT} {ls st : List Value} {σ : St2} {K : KT} {i y : Nat} {v : Int32} {a0 a1 a2 : Value} : wpI g Sp (55, i, 3, y, v) ls (a2 :: a1 :: a0 :: st) σ K = le4 st (Sp y [a0, a1, a2] σ (fun r σ => K ls (r.toList ++ st) σ)) := by
  show le4 st (3 ≤ (a2 :: a1 :: a0 :: st).length ∧ _) = _
  rw [eq_true (show 3 ≤ (a2 :: a1 :: a0 :: st).length by first | exact Nat.zero_le _ | (simp only [List.length_cons]; omega)), true_and]
  rfl
theorem w55_4 {g : Nat} {Sp : SPT} {ls st : List Value} {σ : St2} {K : KT} {i y : Nat} {v : Int32} {a0 a1 a2 a3 : Value} : wpI g Sp (55, i, 4, y, v) ls (a3 :: a2 :: a1 :: a0 :: st) σ K = le4 st (Sp y [a0, a1, a2, a3] σ (fun r σ => K ls (r.toList ++ st) σ)) := by
  show le4 st (4 ≤ (a3 :: a2 :: a1 :: a0 :: st).length ∧ _) = _
  rw [eq_true (show 4 ≤ (a3 :: a2 :: a1 :: a0 :: st).length by first | exact Nat.zero_le _ | (simp only [List.length_cons]; omega)), true_and]
  rfl
theorem w55_5 {g : Nat} {Sp : SPT} {ls st : List Value} {σ : St2} {K : KT} {i y : Nat} {v : Int32} {a0 a1 a2 a3 a4 : Value} : wpI g Sp (55, i, 5, y, v) ls (a4 :: a3 :: a2 :: a1 :: a0 :: st) σ K = le4 st (Sp y [a0, a1, a2, a3, a4] σ (fun r σ => K ls (r.toList ++ st) σ)) := by
  show le4 st (5 ≤ (a4 :: a3 :: a2 :: a1 :: a0 :: st).length ∧ _) = _
  rw [eq_true (show 5 ≤ (a4 :: a3 :: a2 :: a1 :: a0 :: st).length by first | exact Nat.zero_le _ | (simp only [List.length_cons]; omega)), true_and]
  rfl
theorem w55_6 {g : Nat} {Sp : SPT} {ls st : List Value} {σ : St2} {K : KT} {i y : Nat} {v : Int32} {a0 a1 a2 a3 a4 a5 : Value} : wpI g Sp (55, i, 6, y, v) ls (a5 :: a4 :: a3 :: a2 :: a1 :: a0 :: st) σ K = le4 st (Sp y [a0, a1, a2, a3, a4, a5] σ (fun r σ => K ls (r.toList ++ st) σ)) := by
  show le4 st (6 ≤ (a5 :: a4 :: a3 :: a2 :: a1 :: a0 :: st).length ∧ _) = _
  rw [eq_true (show 6 ≤ (a5 :: a4 :: a3 :: a2 :: a1 :: a0 :: st).length by first | exact Nat.zero_le _ | (simp only [List.length_cons]; omega)), true_and]
  rfl
theorem w55_7 {g : Nat} {Sp : SPT} {ls st : List Value} {σ : St2} {K : KT} {i y : Nat} {v : Int32} {a0 a1 a2 a3 a4 a5 a6 : Value} : wpI g Sp (55, i, 7, y, v) ls (a6 :: a5 :: a4 :: a3 :: a2 :: a1 :: a0 :: st) σ K = le4 st (Sp y [a0, a1, a2, a3, a4, a5, a6] σ (fun r σ => K ls (r.toList ++ st) σ)) := by
  show le4 st (7 ≤ (a6 :: a5 :: a4 :: a3 :: a2 :: a1 :: a0 :: st).length ∧ _) = _
  rw [eq_true (show 7 ≤ (a6 :: a5 :: a4 :: a3 :: a2 :: a1 :: a0 :: st).length by first | exact Nat.zero_le _ | (simp only [List.length_cons]; omega)), true_and]
  rfl
theorem kM0 : (0 < nC 1 ∧ (shp 1 0).1 = 6) = True := eq_true ⟨by decide, rfl⟩
theorem kM1 : (1 < nC 1 ∧ (shp 1 1).1 = 100) = True := eq_true ⟨by decide, rfl⟩
theorem nM1 : (shp 1 1).2 = 120 := rfl
theorem kM2 : (2 < nC 1 ∧ (shp 1 2).1 = 100) = True := eq_true ⟨by decide, rfl⟩
theorem nM2 : (shp 1 2).2 = 120 := rfl
theorem kM3 : (3 < nC 1 ∧ (shp 1 3).1 = 100) = True := eq_true ⟨by decide, rfl⟩
theorem nM3 : (shp 1 3).2 = 120 := rfl
theorem kM4 : (4 < nC 1 ∧ (shp 1 4).1 = 100) = True := eq_true ⟨by decide, rfl⟩
theorem nM4 : (shp 1 4).2 = 7 := rfl
theorem kM5 : (5 < nC 1 ∧ (shp 1 5).1 = 100) = True := eq_true ⟨by decide, rfl⟩
theorem nM5 : (shp 1 5).2 = 1024 := rfl
theorem kM6 : (6 < nC 1 ∧ (shp 1 6).1 = 100) = True := eq_true ⟨by decide, rfl⟩
theorem nM6 : (shp 1 6).2 = 10 := rfl
theorem kM7 : (7 < nC 1 ∧ (shp 1 7).1 = 100) = True := eq_true ⟨by decide, rfl⟩
theorem nM7 : (shp 1 7).2 = 1024 := rfl
theorem kM8 : (8 < nC 1 ∧ (shp 1 8).1 = 100) = True := eq_true ⟨by decide, rfl⟩
theorem nM8 : (shp 1 8).2 = 120 := rfl
theorem kM9 : (9 < nC 1 ∧ (shp 1 9).1 = 101) = True := eq_true ⟨by decide, rfl⟩
theorem nM9 : (shp 1 9).2 = 42 := rfl
theorem kM10 : (10 < nC 1 ∧ (shp 1 10).1 = 101) = True := eq_true ⟨by decide, rfl⟩
theorem nM10 : (shp 1 10).2 = 36 := rfl
theorem kM11 : (11 < nC 1 ∧ (shp 1 11).1 = 101) = True := eq_true ⟨by decide, rfl⟩
theorem nM11 : (shp 1 11).2 = 18 := rfl
theorem kM12 : (12 < nC 1 ∧ (shp 1 12).1 = 100) = True := eq_true ⟨by decide, rfl⟩
theorem nM12 : (shp 1 12).2 = 6 := rfl
theorem kM13 : (13 < nC 1 ∧ (shp 1 13).1 = 100) = True := eq_true ⟨by decide, rfl⟩
theorem nM13 : (shp 1 13).2 = 4 := rfl
theorem kM14 : (14 < nC 1 ∧ (shp 1 14).1 = 100) = True := eq_true ⟨by decide, rfl⟩
theorem nM14 : (shp 1 14).2 = 4 := rfl
theorem kM15 : (15 < nC 1 ∧ (shp 1 15).1 = 100) = True := eq_true ⟨by decide, rfl⟩
theorem nM15 : (shp 1 15).2 = 160 := rfl
theorem kM16 : (16 < nC 1 ∧ (shp 1 16).1 = 100) = True := eq_true ⟨by decide, rfl⟩
theorem nM16 : (shp 1 16).2 = 40 := rfl
theorem rM0 : rfs 1 0 0 = 1 := rfl
theorem rM1 : rfs 1 0 1 = 2 := rfl
theorem rM2 : rfs 1 0 2 = 3 := rfl
theorem rM4 : rfs 1 0 4 = 4 := rfl
theorem rM5 : rfs 1 0 5 = 5 := rfl
theorem rM6 : rfs 1 0 6 = 6 := rfl
theorem rM8 : rfs 1 0 8 = 7 := rfl
theorem rM10 : rfs 1 0 10 = 8 := rfl
theorem rM16 : rfs 1 0 16 = 9 := rfl
theorem rM17 : rfs 1 0 17 = 10 := rfl
theorem rM18 : rfs 1 0 18 = 11 := rfl
theorem rM19 : rfs 1 0 19 = 12 := rfl
theorem rM20 : rfs 1 0 20 = 13 := rfl
theorem rM21 : rfs 1 0 21 = 14 := rfl
theorem rM22 : rfs 1 0 22 = 15 := rfl
theorem rM23 : rfs 1 0 23 = 16 := rfl
theorem kX0 : (0 < nC 0 ∧ (shp 0 0).1 = 5) = True := eq_true ⟨by decide, rfl⟩
theorem kX1 : (1 < nC 0 ∧ (shp 0 1).1 = 0) = True := eq_true ⟨by decide, rfl⟩
theorem kX15 : (15 < nC 0 ∧ (shp 0 15).1 = 0) = True := eq_true ⟨by decide, rfl⟩
theorem kX29 : (29 < nC 0 ∧ (shp 0 29).1 = 0) = True := eq_true ⟨by decide, rfl⟩
theorem kX43 : (43 < nC 0 ∧ (shp 0 43).1 = 4) = True := eq_true ⟨by decide, rfl⟩
theorem kX44 : (44 < nC 0 ∧ (shp 0 44).1 = 100) = True := eq_true ⟨by decide, rfl⟩
theorem nX44 : (shp 0 44).2 = 1024 := rfl
theorem kX45 : (45 < nC 0 ∧ (shp 0 45).1 = 100) = True := eq_true ⟨by decide, rfl⟩
theorem nX45 : (shp 0 45).2 = 1024 := rfl
theorem kX46 : (46 < nC 0 ∧ (shp 0 46).1 = 100) = True := eq_true ⟨by decide, rfl⟩
theorem nX46 : (shp 0 46).2 = 1024 := rfl
theorem kX47 : (47 < nC 0 ∧ (shp 0 47).1 = 100) = True := eq_true ⟨by decide, rfl⟩
theorem nX47 : (shp 0 47).2 = 1024 := rfl
theorem kX48 : (48 < nC 0 ∧ (shp 0 48).1 = 100) = True := eq_true ⟨by decide, rfl⟩
theorem nX48 : (shp 0 48).2 = 1024 := rfl
theorem kX49 : (49 < nC 0 ∧ (shp 0 49).1 = 100) = True := eq_true ⟨by decide, rfl⟩
theorem nX49 : (shp 0 49).2 = 10 := rfl
theorem kX50 : (50 < nC 0 ∧ (shp 0 50).1 = 2) = True := eq_true ⟨by decide, rfl⟩
theorem kX51 : (51 < nC 0 ∧ (shp 0 51).1 = 3) = True := eq_true ⟨by decide, rfl⟩
theorem kX52 : (52 < nC 0 ∧ (shp 0 52).1 = 100) = True := eq_true ⟨by decide, rfl⟩
theorem nX52 : (shp 0 52).2 = 120 := rfl
theorem kX53 : (53 < nC 0 ∧ ((shp 0 53).1 = 102 ∨ (shp 0 53).1 = 103)) = True := eq_true ⟨by decide, Or.inr rfl⟩
theorem nX53 : (shp 0 53).2 = 4 := rfl
theorem kX54 : (54 < nC 0 ∧ (shp 0 54).1 = 1) = True := eq_true ⟨by decide, rfl⟩
theorem kX55 : (55 < nC 0 ∧ (shp 0 55).1 = 100) = True := eq_true ⟨by decide, rfl⟩
theorem nX55 : (shp 0 55).2 = 40 := rfl
theorem kX56 : (56 < nC 0 ∧ (shp 0 56).1 = 1) = True := eq_true ⟨by decide, rfl⟩
theorem kX57 : (57 < nC 0 ∧ (shp 0 57).1 = 100) = True := eq_true ⟨by decide, rfl⟩
theorem nX57 : (shp 0 57).2 = 40 := rfl
theorem kX58 : (58 < nC 0 ∧ (shp 0 58).1 = 1) = True := eq_true ⟨by decide, rfl⟩
theorem kX59 : (59 < nC 0 ∧ (shp 0 59).1 = 100) = True := eq_true ⟨by decide, rfl⟩
theorem nX59 : (shp 0 59).2 = 40 := rfl
theorem kX60 : (60 < nC 0 ∧ (shp 0 60).1 = 1) = True := eq_true ⟨by decide, rfl⟩
theorem kX61 : (61 < nC 0 ∧ (shp 0 61).1 = 100) = True := eq_true ⟨by decide, rfl⟩
theorem nX61 : (shp 0 61).2 = 40 := rfl
theorem kX62 : (62 < nC 0 ∧ (shp 0 62).1 = 100) = True := eq_true ⟨by decide, rfl⟩
theorem nX62 : (shp 0 62).2 = 7 := rfl
theorem rX0_0 : rfs 0 0 0 = 1 := rfl
theorem rX0_1 : rfs 0 0 1 = 15 := rfl
theorem rX0_2 : rfs 0 0 2 = 29 := rfl
theorem rX0_3 : rfs 0 0 3 = 43 := rfl
theorem rX0_4 : rfs 0 0 4 = 50 := rfl
theorem rX0_5 : rfs 0 0 5 = 51 := rfl
theorem rX0_6 : rfs 0 0 6 = 53 := rfl
theorem rX0_7 : rfs 0 0 7 = 62 := rfl
theorem rX43_0 : rfs 0 43 0 = 1 := rfl
theorem rX43_1 : rfs 0 43 1 = 44 := rfl
theorem rX43_2 : rfs 0 43 2 = 45 := rfl
theorem rX43_3 : rfs 0 43 3 = 46 := rfl
theorem rX43_4 : rfs 0 43 4 = 47 := rfl
theorem rX43_5 : rfs 0 43 5 = 48 := rfl
theorem rX43_6 : rfs 0 43 6 = 49 := rfl
theorem rX50_0 : rfs 0 50 0 = 1 := rfl
theorem rX50_1 : rfs 0 50 1 = 43 := rfl
theorem rX51_0 : rfs 0 51 0 = 52 := rfl
theorem rX53_0 : rfs 0 53 0 = 54 := rfl
theorem rX53_1 : rfs 0 53 1 = 56 := rfl
theorem rX53_2 : rfs 0 53 2 = 58 := rfl
theorem rX53_3 : rfs 0 53 3 = 60 := rfl
theorem rX54_0 : rfs 0 54 0 = 55 := rfl
theorem rX56_0 : rfs 0 56 0 = 57 := rfl
theorem rX58_0 : rfs 0 58 0 = 59 := rfl
theorem rX60_0 : rfs 0 60 0 = 61 := rfl
def CH (c : Nat) : Prop := c = 1 ∨ c = 15 ∨ c = 29
theorem CH_k {c : Nat} (h : CH c) : (c < nC 0 ∧ (shp 0 c).1 = 0) = True := by rcases h with rfl | rfl | rfl <;> exact eq_true ⟨by decide, rfl⟩
theorem CH_t {c : Nat} (h : CH c) : (c + 1 < nC 0 ∧ ((shp 0 (c + 1)).1 = 102 ∨ (shp 0 (c + 1)).1 = 103)) = True := by rcases h with rfl | rfl | rfl <;> exact eq_true ⟨by decide, Or.inl rfl⟩
theorem CH_tn {c : Nat} (h : CH c) : (shp 0 (c + 1)).2 = 10 := by rcases h with rfl | rfl | rfl <;> rfl
theorem CH_a {c : Nat} (h : CH c) : ∀ f, f < 10 → (c + 2 + f < nC 0 ∧ (shp 0 (c + 2 + f)).1 = 100) = True ∧ (shp 0 (c + 2 + f)).2 = 10 ∧ rfs 0 (c + 1) f = c + 2 + f := by
  have key : ∀ c ∈ [1, 15, 29], ∀ f ∈ List.range 10, (c + 2 + f < nC 0 ∧ (shp 0 (c + 2 + f)).1 = 100) ∧ (shp 0 (c + 2 + f)).2 = 10 ∧ rfs 0 (c + 1) f = c + 2 + f := by decide +kernel
  intro f hf
  have h2 := key c (by rcases h with rfl | rfl | rfl <;> decide) f (List.mem_range.mpr hf)
  exact ⟨eq_true h2.1, h2.2⟩
theorem CH_a0 {c : Nat} (h : CH c) : (c + 2 < nC 0 ∧ (shp 0 (c + 2)).1 = 100) = True := (CH_a h 0 (by decide)).1
theorem CH_n0 {c : Nat} (h : CH c) : (shp 0 (c + 2)).2 = 10 := (CH_a h 0 (by decide)).2.1
theorem CH_f0 {c : Nat} (h : CH c) : rfs 0 (c + 1) 0 = c + 2 := (CH_a h 0 (by decide)).2.2
theorem CH_a1 {c : Nat} (h : CH c) : (c + 3 < nC 0 ∧ (shp 0 (c + 3)).1 = 100) = True := (CH_a h 1 (by decide)).1
theorem CH_n1 {c : Nat} (h : CH c) : (shp 0 (c + 3)).2 = 10 := (CH_a h 1 (by decide)).2.1
theorem CH_f1 {c : Nat} (h : CH c) : rfs 0 (c + 1) 1 = c + 3 := (CH_a h 1 (by decide)).2.2
theorem CH_a2 {c : Nat} (h : CH c) : (c + 4 < nC 0 ∧ (shp 0 (c + 4)).1 = 100) = True := (CH_a h 2 (by decide)).1
theorem CH_n2 {c : Nat} (h : CH c) : (shp 0 (c + 4)).2 = 10 := (CH_a h 2 (by decide)).2.1
theorem CH_f2 {c : Nat} (h : CH c) : rfs 0 (c + 1) 2 = c + 4 := (CH_a h 2 (by decide)).2.2
theorem CH_a3 {c : Nat} (h : CH c) : (c + 5 < nC 0 ∧ (shp 0 (c + 5)).1 = 100) = True := (CH_a h 3 (by decide)).1
theorem CH_n3 {c : Nat} (h : CH c) : (shp 0 (c + 5)).2 = 10 := (CH_a h 3 (by decide)).2.1
theorem CH_f3 {c : Nat} (h : CH c) : rfs 0 (c + 1) 3 = c + 5 := (CH_a h 3 (by decide)).2.2
theorem CH_a4 {c : Nat} (h : CH c) : (c + 6 < nC 0 ∧ (shp 0 (c + 6)).1 = 100) = True := (CH_a h 4 (by decide)).1
theorem CH_n4 {c : Nat} (h : CH c) : (shp 0 (c + 6)).2 = 10 := (CH_a h 4 (by decide)).2.1
theorem CH_f4 {c : Nat} (h : CH c) : rfs 0 (c + 1) 4 = c + 6 := (CH_a h 4 (by decide)).2.2
theorem CH_a5 {c : Nat} (h : CH c) : (c + 7 < nC 0 ∧ (shp 0 (c + 7)).1 = 100) = True := (CH_a h 5 (by decide)).1
theorem CH_n5 {c : Nat} (h : CH c) : (shp 0 (c + 7)).2 = 10 := (CH_a h 5 (by decide)).2.1
theorem CH_f5 {c : Nat} (h : CH c) : rfs 0 (c + 1) 5 = c + 7 := (CH_a h 5 (by decide)).2.2
theorem CH_a6 {c : Nat} (h : CH c) : (c + 8 < nC 0 ∧ (shp 0 (c + 8)).1 = 100) = True := (CH_a h 6 (by decide)).1
theorem CH_n6 {c : Nat} (h : CH c) : (shp 0 (c + 8)).2 = 10 := (CH_a h 6 (by decide)).2.1
theorem CH_f6 {c : Nat} (h : CH c) : rfs 0 (c + 1) 6 = c + 8 := (CH_a h 6 (by decide)).2.2
theorem CH_a7 {c : Nat} (h : CH c) : (c + 9 < nC 0 ∧ (shp 0 (c + 9)).1 = 100) = True := (CH_a h 7 (by decide)).1
theorem CH_n7 {c : Nat} (h : CH c) : (shp 0 (c + 9)).2 = 10 := (CH_a h 7 (by decide)).2.1
theorem CH_f7 {c : Nat} (h : CH c) : rfs 0 (c + 1) 7 = c + 9 := (CH_a h 7 (by decide)).2.2
theorem CH_a8 {c : Nat} (h : CH c) : (c + 10 < nC 0 ∧ (shp 0 (c + 10)).1 = 100) = True := (CH_a h 8 (by decide)).1
theorem CH_n8 {c : Nat} (h : CH c) : (shp 0 (c + 10)).2 = 10 := (CH_a h 8 (by decide)).2.1
theorem CH_f8 {c : Nat} (h : CH c) : rfs 0 (c + 1) 8 = c + 10 := (CH_a h 8 (by decide)).2.2
theorem CH_a9 {c : Nat} (h : CH c) : (c + 11 < nC 0 ∧ (shp 0 (c + 11)).1 = 100) = True := (CH_a h 9 (by decide)).1
theorem CH_n9 {c : Nat} (h : CH c) : (shp 0 (c + 11)).2 = 10 := (CH_a h 9 (by decide)).2.1
theorem CH_f9 {c : Nat} (h : CH c) : rfs 0 (c + 1) 9 = c + 11 := (CH_a h 9 (by decide)).2.2
theorem CH_ru {c : Nat} (h : CH c) : (c + 12 < nC 0 ∧ (shp 0 (c + 12)).1 = 100) = True := by rcases h with rfl | rfl | rfl <;> exact eq_true ⟨by decide, rfl⟩
theorem CH_run {c : Nat} (h : CH c) : (shp 0 (c + 12)).2 = 5 := by rcases h with rfl | rfl | rfl <;> rfl
theorem CH_sp {c : Nat} (h : CH c) : (c + 13 < nC 0 ∧ (shp 0 (c + 13)).1 = 100) = True := by rcases h with rfl | rfl | rfl <;> exact eq_true ⟨by decide, rfl⟩
theorem CH_spn {c : Nat} (h : CH c) : (shp 0 (c + 13)).2 = 10 := by rcases h with rfl | rfl | rfl <;> rfl
theorem CH_r0 {c : Nat} (h : CH c) : rfs 0 c 0 = c + 1 := by rcases h with rfl | rfl | rfl <;> rfl
theorem CH_r1 {c : Nat} (h : CH c) : rfs 0 c 1 = c + 12 := by rcases h with rfl | rfl | rfl <;> rfl
theorem CH_r2 {c : Nat} (h : CH c) : rfs 0 c 2 = c + 13 := by rcases h with rfl | rfl | rfl <;> rfl
theorem CH_lt {c : Nat} (h : CH c) : c < 30 := by rcases h with rfl | rfl | rfl <;> decide
def SH (c : Nat) : Prop := c = 54 ∨ c = 56 ∨ c = 58 ∨ c = 60
theorem SH_k {c : Nat} (h : SH c) : (c < nC 0 ∧ (shp 0 c).1 = 1) = True := by rcases h with rfl | rfl | rfl | rfl <;> exact eq_true ⟨by decide, rfl⟩
theorem SH_a {c : Nat} (h : SH c) : (c + 1 < nC 0 ∧ (shp 0 (c + 1)).1 = 100) = True := by rcases h with rfl | rfl | rfl | rfl <;> exact eq_true ⟨by decide, rfl⟩
theorem SH_n {c : Nat} (h : SH c) : (shp 0 (c + 1)).2 = 40 := by rcases h with rfl | rfl | rfl | rfl <;> rfl
theorem SH_r {c : Nat} (h : SH c) : rfs 0 c 0 = c + 1 := by rcases h with rfl | rfl | rfl | rfl <;> rfl
theorem SH_of {j : Nat} (h : j < 4) : SH (rfs 0 53 j) ∧ rfs 0 53 j = 54 + 2 * j := by
  have : j = 0 ∨ j = 1 ∨ j = 2 ∨ j = 3 := by omega
  rcases this with rfl | rfl | rfl | rfl
  · exact ⟨Or.inl rfl, rfl⟩
  · exact ⟨Or.inr (Or.inl rfl), rfl⟩
  · exact ⟨Or.inr (Or.inr (Or.inl rfl)), rfl⟩
  · exact ⟨Or.inr (Or.inr (Or.inr rfl)), rfl⟩
theorem tn0 : (0 : Int32).toNatClampNeg = 0 := rfl
theorem tn1 : (1 : Int32).toNatClampNeg = 1 := rfl
theorem tn2 : (2 : Int32).toNatClampNeg = 2 := rfl
theorem tn3 : (3 : Int32).toNatClampNeg = 3 := rfl
theorem tn4 : (4 : Int32).toNatClampNeg = 4 := rfl
theorem tn5 : (5 : Int32).toNatClampNeg = 5 := rfl
theorem tn6 : (6 : Int32).toNatClampNeg = 6 := rfl
theorem tn7 : (7 : Int32).toNatClampNeg = 7 := rfl
theorem tn8 : (8 : Int32).toNatClampNeg = 8 := rfl
theorem tn9 : (9 : Int32).toNatClampNeg = 9 := rfl
theorem tn10 : (10 : Int32).toNatClampNeg = 10 := rfl
theorem tn11 : (11 : Int32).toNatClampNeg = 11 := rfl
theorem tn12 : (12 : Int32).toNatClampNeg = 12 := rfl
theorem tn110 : (110 : Int32).toNatClampNeg = 110 := rfl
theorem vi0_5 : vp_in (0 : Int32) 5 = True := eq_true (by intro h; rcases h with h | h; exact absurd h (by decide); exact absurd h (by decide))
theorem vi1_5 : vp_in (1 : Int32) 5 = True := eq_true (by intro h; rcases h with h | h; exact absurd h (by decide); exact absurd h (by decide))
theorem vi2_5 : vp_in (2 : Int32) 5 = True := eq_true (by intro h; rcases h with h | h; exact absurd h (by decide); exact absurd h (by decide))
theorem vi3_5 : vp_in (3 : Int32) 5 = True := eq_true (by intro h; rcases h with h | h; exact absurd h (by decide); exact absurd h (by decide))
theorem vi4_5 : vp_in (4 : Int32) 5 = True := eq_true (by intro h; rcases h with h | h; exact absurd h (by decide); exact absurd h (by decide))
theorem vi0_6 : vp_in (0 : Int32) 6 = True := eq_true (by intro h; rcases h with h | h; exact absurd h (by decide); exact absurd h (by decide))
theorem vi1_6 : vp_in (1 : Int32) 6 = True := eq_true (by intro h; rcases h with h | h; exact absurd h (by decide); exact absurd h (by decide))
theorem vi2_6 : vp_in (2 : Int32) 6 = True := eq_true (by intro h; rcases h with h | h; exact absurd h (by decide); exact absurd h (by decide))
theorem vi3_6 : vp_in (3 : Int32) 6 = True := eq_true (by intro h; rcases h with h | h; exact absurd h (by decide); exact absurd h (by decide))
theorem vi4_6 : vp_in (4 : Int32) 6 = True := eq_true (by intro h; rcases h with h | h; exact absurd h (by decide); exact absurd h (by decide))
theorem vi5_6 : vp_in (5 : Int32) 6 = True := eq_true (by intro h; rcases h with h | h; exact absurd h (by decide); exact absurd h (by decide))
theorem vi0_10 : vp_in (0 : Int32) 10 = True := eq_true (by intro h; rcases h with h | h; exact absurd h (by decide); exact absurd h (by decide))
theorem vi1_10 : vp_in (1 : Int32) 10 = True := eq_true (by intro h; rcases h with h | h; exact absurd h (by decide); exact absurd h (by decide))
theorem vi2_10 : vp_in (2 : Int32) 10 = True := eq_true (by intro h; rcases h with h | h; exact absurd h (by decide); exact absurd h (by decide))
theorem vi3_10 : vp_in (3 : Int32) 10 = True := eq_true (by intro h; rcases h with h | h; exact absurd h (by decide); exact absurd h (by decide))
theorem vi4_10 : vp_in (4 : Int32) 10 = True := eq_true (by intro h; rcases h with h | h; exact absurd h (by decide); exact absurd h (by decide))
theorem vi5_10 : vp_in (5 : Int32) 10 = True := eq_true (by intro h; rcases h with h | h; exact absurd h (by decide); exact absurd h (by decide))
theorem vi6_10 : vp_in (6 : Int32) 10 = True := eq_true (by intro h; rcases h with h | h; exact absurd h (by decide); exact absurd h (by decide))
theorem vi7_10 : vp_in (7 : Int32) 10 = True := eq_true (by intro h; rcases h with h | h; exact absurd h (by decide); exact absurd h (by decide))
theorem vi8_10 : vp_in (8 : Int32) 10 = True := eq_true (by intro h; rcases h with h | h; exact absurd h (by decide); exact absurd h (by decide))
theorem vi9_10 : vp_in (9 : Int32) 10 = True := eq_true (by intro h; rcases h with h | h; exact absurd h (by decide); exact absurd h (by decide))
theorem vi0_120 : vp_in (0 : Int32) 120 = True := eq_true (by intro h; rcases h with h | h; exact absurd h (by decide); exact absurd h (by decide))
theorem vi1_120 : vp_in (1 : Int32) 120 = True := eq_true (by intro h; rcases h with h | h; exact absurd h (by decide); exact absurd h (by decide))
theorem vi2_120 : vp_in (2 : Int32) 120 = True := eq_true (by intro h; rcases h with h | h; exact absurd h (by decide); exact absurd h (by decide))
theorem vi3_120 : vp_in (3 : Int32) 120 = True := eq_true (by intro h; rcases h with h | h; exact absurd h (by decide); exact absurd h (by decide))
theorem vi4_120 : vp_in (4 : Int32) 120 = True := eq_true (by intro h; rcases h with h | h; exact absurd h (by decide); exact absurd h (by decide))
theorem vi5_120 : vp_in (5 : Int32) 120 = True := eq_true (by intro h; rcases h with h | h; exact absurd h (by decide); exact absurd h (by decide))
theorem vi6_120 : vp_in (6 : Int32) 120 = True := eq_true (by intro h; rcases h with h | h; exact absurd h (by decide); exact absurd h (by decide))
theorem vi7_120 : vp_in (7 : Int32) 120 = True := eq_true (by intro h; rcases h with h | h; exact absurd h (by decide); exact absurd h (by decide))
theorem vi8_120 : vp_in (8 : Int32) 120 = True := eq_true (by intro h; rcases h with h | h; exact absurd h (by decide); exact absurd h (by decide))
theorem vi9_120 : vp_in (9 : Int32) 120 = True := eq_true (by intro h; rcases h with h | h; exact absurd h (by decide); exact absurd h (by decide))
theorem vi10_120 : vp_in (10 : Int32) 120 = True := eq_true (by intro h; rcases h with h | h; exact absurd h (by decide); exact absurd h (by decide))
theorem vi11_120 : vp_in (11 : Int32) 120 = True := eq_true (by intro h; rcases h with h | h; exact absurd h (by decide); exact absurd h (by decide))
theorem vi12_120 : vp_in (12 : Int32) 120 = True := eq_true (by intro h; rcases h with h | h; exact absurd h (by decide); exact absurd h (by decide))
theorem rc6 : rcv 1 6 0 := Or.inl ⟨by decide, rfl, by decide⟩
theorem rc5 : rcv 0 5 0 := Or.inl ⟨by decide, rfl, by decide⟩
theorem rc4 : rcv 0 4 43 := Or.inl ⟨by decide, rfl, by decide⟩
theorem rc2 : rcv 0 2 50 := Or.inl ⟨by decide, rfl, by decide⟩
theorem rc3 : rcv 0 3 51 := Or.inl ⟨by decide, rfl, by decide⟩
theorem rcC {c : Nat} (h : CH c) : rcv 0 0 c := Or.inl ⟨(of_eq_true (CH_k h)).1, (of_eq_true (CH_k h)).2, by decide⟩
theorem rcH {c : Nat} (h : SH c) : rcv 0 1 c := Or.inl ⟨(of_eq_true (SH_k h)).1, (of_eq_true (SH_k h)).2, by decide⟩
theorem si1 {σ : St2} {k j : Nat} {v : Int32} : (si σ k j v).1 k = upd (σ.1 k) j v := upr_eq
theorem si1n {σ : St2} {k i j : Nat} {v : Int32} (h : i ≠ k) : (si σ k j v).1 i = σ.1 i := upr_ne h
theorem si2 {σ : St2} {k j : Nat} {v : Int32} : (si σ k j v).2 = σ.2 := rfl
theorem sr1 {σ : St2} {k : Nat} {r : Nat → Int32} : (sr σ k r).1 k = r := upr_eq
theorem sr1n {σ : St2} {k i : Nat} {r : Nat → Int32} (h : i ≠ k) : (sr σ k r).1 i = σ.1 i := upr_ne h
theorem sl1 {σ : St2} {k j : Nat} {v : Int64} : (sl σ k j v).1 = σ.1 := rfl
theorem updS {f : Nat → Int32} {k : Nat} {x : Int32} : upd f k x k = x := if_pos rfl
theorem updN {f : Nat → Int32} {k j : Nat} {x : Int32} (h : j ≠ k) : upd f k x j = f j := if_neg h
end
section
/-! plain facts on numbers and arrays, to paste: each family by itself; over the kit's rows on nI and upd -/
/-! ===== order of ints, in all its forms, and through longs ===== -/
theorem fa_lt (a b : Int32) : a < b ↔ a.toInt < b.toInt := Int32.lt_iff_toInt_lt
theorem fa_le (a b : Int32) : a ≤ b ↔ a.toInt ≤ b.toInt := Int32.le_iff_toInt_le
theorem fa_eq (a b : Int32) : a = b ↔ a.toInt = b.toInt := Int32.toInt_inj.symm
theorem fa_lt64 (a b : Int64) : a < b ↔ a.toInt < b.toInt := Int64.lt_iff_toInt_lt
theorem fa_le64 (a b : Int64) : a ≤ b ↔ a.toInt ≤ b.toInt := Int64.le_iff_toInt_le
theorem fa_eq64 (a b : Int64) : a = b ↔ a.toInt = b.toInt := Int64.toInt_inj.symm
/-- a comparison of two ints taken as longs -/
theorem fa_wide_lt (a b : Int32) : a.toInt64 < b.toInt64 ↔ a < b := by rw [fa_lt64, fa_lt, Int32.toInt_toInt64, Int32.toInt_toInt64]
theorem fa_wide_le (a b : Int32) : a.toInt64 ≤ b.toInt64 ↔ a ≤ b := by rw [fa_le64, fa_le, Int32.toInt_toInt64, Int32.toInt_toInt64]
theorem fa_wide_eq (a b : Int32) : a.toInt64 = b.toInt64 ↔ a = b := by rw [fa_eq64, fa_eq, Int32.toInt_toInt64, Int32.toInt_toInt64]
/-- one strict comparison gives all the others -/
theorem fa_of_lt {a b : Int32} (h : a < b) : a ≤ b ∧ ¬ b ≤ a ∧ ¬ b < a ∧ a ≠ b ∧ b ≠ a := by
  rw [fa_lt] at h
  refine ⟨?_, ?_, ?_, ?_, ?_⟩
  · rw [fa_le]; omega
  · rw [fa_le]; omega
  · rw [fa_lt]; omega
  · intro e; rw [fa_eq] at e; omega
  · intro e; rw [fa_eq] at e; omega
theorem fa_of_nlt {a b : Int32} (h : ¬ a < b) : b ≤ a := by
  rw [fa_lt] at h
  rw [fa_le]
  omega
theorem fa_of_nle {a b : Int32} (h : ¬ a ≤ b) : b < a := by
  rw [fa_le] at h
  rw [fa_lt]
  omega
theorem fa_le_ne {a b : Int32} (h : a ≤ b) (h2 : a ≠ b) : a < b := by
  rw [fa_le] at h
  rw [fa_lt]
  have h3 : a.toInt ≠ b.toInt := fun e => h2 ((fa_eq a b).mpr e)
  omega
theorem fa_three (a b : Int32) : a < b ∨ a = b ∨ b < a := by
  rw [fa_lt, fa_lt, fa_eq]
  omega
theorem fa_trans {a b c : Int32} (h : a < b) (h2 : b ≤ c) : a < c := by
  rw [fa_lt] at *
  rw [fa_le] at h2
  omega
/-! ===== small literals as numbers ===== -/
theorem fa_lit (n : Nat) : (OfNat.ofNat n : Int32) = nI n := rfl
theorem fa_litL (n : Nat) : (OfNat.ofNat n : Int64) = lN n := rfl
/-! ===== bits of a number: 'or', masks, one bit ===== -/
theorem fa_and (a b : Nat) : nI a &&& nI b = nI (a &&& b) := by
  apply Int32.toBitVec_inj.1
  show BitVec.ofNat 32 a &&& BitVec.ofNat 32 b = BitVec.ofNat 32 (a &&& b)
  apply BitVec.eq_of_getLsbD_eq
  intro i hi
  simp [hi]
theorem fa_or (a b : Nat) : nI a ||| nI b = nI (a ||| b) := by
  apply Int32.toBitVec_inj.1
  show BitVec.ofNat 32 a ||| BitVec.ofNat 32 b = BitVec.ofNat 32 (a ||| b)
  apply BitVec.eq_of_getLsbD_eq
  intro i hi
  simp [hi]
/-- a remainder by a power of two, as a mask -/
theorem fa_mask (n k : Nat) : nI n &&& nI (2 ^ k - 1) = nI (n % 2 ^ k) := by rw [fa_and, Nat.and_two_pow_sub_one_eq_mod]
/-- 'or' of a high part and a low one that don't meet is their sum -/
theorem fa_or_sum {a k : Nat} (b : Nat) (h : a < 2 ^ k) : nI (2 ^ k * b) ||| nI a = nI (2 ^ k * b + a) := by rw [fa_or, Nat.two_pow_add_eq_or_of_lt h]
/-- one bit, by 'and' with a power of two -/
theorem fa_bit {n j : Nat} (hj : j < 31) : nI n &&& nI (2 ^ j) = 0 ↔ n.testBit j = false := by
  have h2 : (2 : Nat) ^ j < 2 ^ 31 := Nat.pow_lt_pow_right (by decide) hj
  have hle : n &&& 2 ^ j ≤ 2 ^ j := Nat.and_le_right
  have e : n &&& 2 ^ j = 0 ↔ n.testBit j = false := by
    constructor
    · intro h
      have h1 : (n &&& 2 ^ j).testBit j = false := by rw [h]; simp
      rw [Nat.testBit_and] at h1
      first | simpa using h1 | simpa [Nat.testBit_two_pow_self] using h1 | simpa [Nat.testBit_two_pow] using h1
    · intro h
      apply Nat.eq_of_testBit_eq
      intro i
      rw [Nat.testBit_and]
      by_cases hi : j = i
      · subst hi; simp [h]
      · first | (simp [Nat.testBit_two_pow, hi]; done) | (simp [Nat.testBit_two_pow_of_ne hi]; done)
  rw [fa_and]
  constructor
  · intro h
    apply e.mp
    rcases Nat.eq_zero_or_pos (n &&& 2 ^ j) with z | z
    · exact z
    · exact absurd h (nI_ne0 z (Nat.lt_of_le_of_lt hle h2))
  · intro h
    rw [e.mpr h]; exact nI_0
/-- a remainder by a power of two of a number that isn't negative, as Java divides -/
theorem fa_rem {a k : Nat} (ha : a < 2 ^ 31) (hk : k < 31) : nI a - nI a / nI (2 ^ k) * nI (2 ^ k) = nI (a % 2 ^ k) := pk_rem ha (Nat.two_pow_pos k) (Nat.pow_lt_pow_right (by decide) hk)
/-! ===== cuts to a byte, a short ===== -/
theorem fa_byte_xor (x y : Int32) : (x ^^^ y).toInt8 = x.toInt8 ^^^ y.toInt8 := by
  apply Int8.toBitVec_inj.1
  apply BitVec.eq_of_getLsbD_eq
  intro i hi
  first | (simp [hi]; done) | (simp [hi, BitVec.getLsbD_setWidth, BitVec.getLsbD_signExtend]; done)
theorem fa_short_xor (x y : Int32) : (x ^^^ y).toInt16 = x.toInt16 ^^^ y.toInt16 := by
  apply Int16.toBitVec_inj.1
  apply BitVec.eq_of_getLsbD_eq
  intro i hi
  first | (simp [hi]; done) | (simp [hi, BitVec.getLsbD_setWidth, BitVec.getLsbD_signExtend]; done)
/-- the cut to a byte sees the low byte alone -/
theorem fa_byte_low (x : Int32) : (x &&& 255).toInt8 = x.toInt8 := by
  apply Int8.toBitVec_inj.1
  apply BitVec.eq_of_getLsbD_eq
  intro i hi
  have h2 : (255 : Int32).toBitVec.getLsbD i = true := by
    have : ∀ j : Fin 8, (255 : Int32).toBitVec.getLsbD j.val = true := by decide +kernel
    exact this ⟨i, hi⟩
  have h4 : (x &&& 255).toBitVec.getLsbD i = x.toBitVec.getLsbD i := by
    show (x.toBitVec &&& (255 : Int32).toBitVec).getLsbD i = _
    rw [BitVec.getLsbD_and, h2, Bool.and_true]
  have h3 : i < 32 := by omega
  first
    | (show (((x &&& 255).toBitVec).signExtend 8).getLsbD i = (x.toBitVec.signExtend 8).getLsbD i; rw [BitVec.getLsbD_signExtend, BitVec.getLsbD_signExtend, if_pos h3, if_pos h3, h4])
    | (show (((x &&& 255).toBitVec).setWidth 8).getLsbD i = (x.toBitVec.setWidth 8).getLsbD i; rw [BitVec.getLsbD_setWidth, BitVec.getLsbD_setWidth, h4])
    | (simp [hi, h3, h4]; done)
theorem fa_short_low (x : Int32) : (x &&& 65535).toInt16 = x.toInt16 := by
  apply Int16.toBitVec_inj.1
  apply BitVec.eq_of_getLsbD_eq
  intro i hi
  have h2 : (65535 : Int32).toBitVec.getLsbD i = true := by
    have : ∀ j : Fin 16, (65535 : Int32).toBitVec.getLsbD j.val = true := by decide +kernel
    exact this ⟨i, hi⟩
  have h4 : (x &&& 65535).toBitVec.getLsbD i = x.toBitVec.getLsbD i := by
    show (x.toBitVec &&& (65535 : Int32).toBitVec).getLsbD i = _
    rw [BitVec.getLsbD_and, h2, Bool.and_true]
  have h3 : i < 32 := by omega
  first
    | (show (((x &&& 65535).toBitVec).signExtend 16).getLsbD i = (x.toBitVec.signExtend 16).getLsbD i; rw [BitVec.getLsbD_signExtend, BitVec.getLsbD_signExtend, if_pos h3, if_pos h3, h4])
    | (show (((x &&& 65535).toBitVec).setWidth 16).getLsbD i = (x.toBitVec.setWidth 16).getLsbD i; rw [BitVec.getLsbD_setWidth, BitVec.getLsbD_setWidth, h4])
    | (simp [hi, h3, h4]; done)
/-- a small number is its own byte, its own short -/
theorem fa_byte_small {n : Nat} (h : n < 128) : (nI n).toInt8.toInt32 = nI n := by
  have : ∀ j : Fin 128, (nI j.val).toInt8.toInt32 = nI j.val := by decide +kernel
  exact this ⟨n, h⟩
/-! ===== absolute difference ===== -/
theorem fa_absdiff {a b : Nat} (ha : a < 2 ^ 31) (hb : b < 2 ^ 31) : (if nI a < nI b then nI b - nI a else nI a - nI b) = nI (if a < b then b - a else a - b) := by
  by_cases h : a < b
  · rw [if_pos (nI_lt h hb), if_pos h]
    exact pk_sub (Nat.le_of_lt h)
  · rw [if_neg (nI_nlt (Nat.le_of_not_lt h) ha), if_neg h]
    exact pk_sub (Nat.le_of_not_lt h)
/-! ===== an array behind i stores, a conditional store, a row copied ===== -/
/-- f where k < i, what stood there else -/
def fa_fill {α : Type} (f g : Nat → α) (i : Nat) : Nat → α := fun k => if k < i then f k else g k
theorem fa_fill_0 {α : Type} (f g : Nat → α) : fa_fill f g 0 = g := funext fun k => if_neg (Nat.not_lt_zero k)
theorem fa_fill_in {α : Type} {f g : Nat → α} {i k : Nat} (h : k < i) : fa_fill f g i k = f k := if_pos h
theorem fa_fill_out {α : Type} {f g : Nat → α} {i k : Nat} (h : i ≤ k) : fa_fill f g i k = g k := if_neg (Nat.not_lt.mpr h)
theorem fa_fill_succ (f g : Nat → Int32) (i : Nat) : upd (fa_fill f g i) i (f i) = fa_fill f g (i + 1) := by
  funext k
  by_cases e : k = i
  · subst e
    rw [pk_us]
    exact (if_pos (Nat.lt_succ_self k)).symm
  · rw [pk_un e]
    by_cases h : k < i
    · rw [fa_fill_in h, fa_fill_in (Nat.lt_succ_of_lt h)]
    · rw [fa_fill_out (Nat.le_of_not_lt h), fa_fill_out (by omega)]
/-- a store that changes nothing -/
theorem fa_upd_same {f : Nat → Int32} {i : Nat} {x : Int32} (h : f i = x) : upd f i x = f := by
  funext k
  by_cases e : k = i
  · subst e
    rw [pk_us, h]
  · rw [pk_un e]
/-- a store under a condition, told as one -/
theorem fa_upd_if (c : Prop) [Decidable c] (f : Nat → Int32) (i : Nat) (x : Int32) : (if c then upd f i x else f) = upd f i (if c then x else f i) := by
  by_cases h : c
  · rw [if_pos h, if_pos h]
  · rw [if_neg h, if_neg h, fa_upd_same rfl]
/-- two stores at one place, at two -/
theorem fa_upd_twice (f : Nat → Int32) (i : Nat) (x y : Int32) : upd (upd f i x) i y = upd f i y := by
  funext k
  by_cases e : k = i
  · subst e
    rw [pk_us, pk_us]
  · rw [pk_un e, pk_un e, pk_un e]
theorem fa_upd_swap (f : Nat → Int32) {i j : Nat} (h : i ≠ j) (x y : Int32) : upd (upd f i x) j y = upd (upd f j y) i x := by
  funext k
  by_cases e : k = i
  · subst e
    rw [pk_un h, pk_us, pk_us]
  · by_cases e2 : k = j
    · subst e2
      rw [pk_us, pk_un e, pk_us]
    · rw [pk_un e2, pk_un e, pk_un e, pk_un e2]
/-! ===== the first index with a property; a count ===== -/
/-- the first k < n with p k, n if there is none -/
def fa_first (p : Nat → Bool) : Nat → Nat
  | 0 => 0
  | n + 1 => if fa_first p n < n then fa_first p n else if p n then n else n + 1
theorem fa_first_le (p : Nat → Bool) : ∀ n, fa_first p n ≤ n
  | 0 => Nat.le_refl 0
  | n + 1 => by
    have ih := fa_first_le p n
    unfold fa_first
    split
    · omega
    · split
      · omega
      · omega
theorem fa_first_no (p : Nat → Bool) : ∀ n k, k < fa_first p n → p k = false
  | 0, k, h => absurd h (Nat.not_lt_zero k)
  | n + 1, k, h => by
    have ih := fa_first_no p n
    have hl := fa_first_le p n
    unfold fa_first at h
    split at h
    · exact ih k h
    · rename_i h1
      split at h
      · exact ih k (by omega)
      · rename_i h2
        by_cases e : k = n
        · subst e
          exact Bool.eq_false_iff.mpr h2
        · exact ih k (by omega)
theorem fa_first_yes (p : Nat → Bool) : ∀ n, fa_first p n < n → p (fa_first p n) = true
  | 0, h => absurd h (Nat.not_lt_zero _)
  | n + 1, h => by
    have ih := fa_first_yes p n
    have hl := fa_first_le p n
    unfold fa_first at h ⊢
    split at h
    · rename_i h1
      rw [if_pos h1]
      exact ih h1
    · rename_i h1
      rw [if_neg h1]
      split at h
      · rename_i h2
        rw [if_pos h2]
        exact h2
      · omega
/-- how many k < n have p k -/
def fa_cnt (p : Nat → Bool) : Nat → Nat
  | 0 => 0
  | n + 1 => fa_cnt p n + if p n then 1 else 0
theorem fa_cnt_le (p : Nat → Bool) : ∀ n, fa_cnt p n ≤ n
  | 0 => Nat.le_refl 0
  | n + 1 => by
    have ih := fa_cnt_le p n
    unfold fa_cnt
    split
    · omega
    · omega
theorem fa_cnt_yes {p : Nat → Bool} {n : Nat} (h : p n = true) : fa_cnt p (n + 1) = fa_cnt p n + 1 := by rw [fa_cnt, if_pos h]
theorem fa_cnt_no {p : Nat → Bool} {n : Nat} (h : p n = false) : fa_cnt p (n + 1) = fa_cnt p n := by rw [fa_cnt, if_neg (by rw [h]; decide)]; rfl
theorem fa_cnt_cong {p q : Nat → Bool} : ∀ {n : Nat}, (∀ k, k < n → p k = q k) → fa_cnt p n = fa_cnt q n
  | 0, _ => rfl
  | n + 1, h => by rw [fa_cnt, fa_cnt, fa_cnt_cong (fun k hk => h k (Nat.lt_succ_of_lt hk)), h n (Nat.lt_succ_self n)]
/-! ===== an answer carried into a post; a branch on a boolean answer ===== -/
theorem fa_post {α : Type} {P : α → Prop} {x y : α} (h : x = y) (hp : P y) : P x := h ▸ hp
theorem fa_post2 {α β : Type} {P : α → β → Prop} {x y : α} {u v : β} (h : x = y) (h2 : u = v) (hp : P y v) : P x u := h ▸ h2 ▸ hp
theorem fa_bool {r : Int32} {b : Bool} (h : r = if b then 1 else 0) : (r = 0 ↔ b = false) ∧ (¬ r = 0 ↔ b = true) := by
  subst h
  cases b
  · exact ⟨⟨fun _ => rfl, fun _ => rfl⟩, ⟨fun h => absurd rfl h, fun h => absurd h (by decide)⟩⟩
  · exact ⟨⟨fun h => absurd h (by decide), fun h => absurd h (by decide)⟩, ⟨fun _ => rfl, fun _ => by decide⟩⟩
/-- a boolean's narrowing changes nothing -/
theorem fa_bool_and {r : Int32} (h : r = 0 ∨ r = 1) : r &&& 1 = r := by
  rcases h with rfl | rfl
  · decide
  · decide
theorem fa_bool_prop {c : Prop} [Decidable c] {r : Int32} (h : r = if c then 1 else 0) : (r = 0 ↔ ¬ c) ∧ (¬ r = 0 ↔ c) := by
  subst h
  by_cases hc : c
  · rw [if_pos hc]
    exact ⟨⟨fun h => absurd h (by decide), fun h => absurd hc h⟩, ⟨fun _ => hc, fun _ => by decide⟩⟩
  · rw [if_neg hc]
    exact ⟨⟨fun _ => hc, fun _ => rfl⟩, ⟨fun h => absurd rfl h, fun h => absurd h hc⟩⟩
/-! ===== Int32 by its bits: bt x i ===== -/
def bt (x : Int32) (i : Nat) : Bool := x.toBitVec.getLsbD i
theorem b_ext {x y : Int32} (h : ∀ i, i < 32 → bt x i = bt y i) : x = y := Int32.toBitVec_inj.mp (BitVec.eq_of_getLsbD_eq (fun i hi => h i hi))
theorem b_or (x y : Int32) (i : Nat) : bt (x ||| y) i = (bt x i || bt y i) := by unfold bt; rw [Int32.toBitVec_or, BitVec.getLsbD_or]
theorem b_and (x y : Int32) (i : Nat) : bt (x &&& y) i = (bt x i && bt y i) := by unfold bt; rw [Int32.toBitVec_and, BitVec.getLsbD_and]
theorem b_xor (x y : Int32) (i : Nat) : bt (x ^^^ y) i = (bt x i ^^ bt y i) := by unfold bt; rw [Int32.toBitVec_xor, BitVec.getLsbD_xor]
theorem b_big {x : Int32} {i : Nat} (h : 32 ≤ i) : bt x i = false := BitVec.getLsbD_of_ge _ _ h
theorem b_255 (i : Nat) : bt 255 i = decide (i < 8) := by
  rcases Nat.lt_or_ge i 32 with h | h
  · exact (by decide +kernel : ∀ i, i < 32 → bt 255 i = decide (i < 8)) i h
  · rw [b_big h, decide_eq_false (by omega)]
theorem b_65535 (i : Nat) : bt 65535 i = decide (i < 16) := by
  rcases Nat.lt_or_ge i 32 with h | h
  · exact (by decide +kernel : ∀ i, i < 32 → bt 65535 i = decide (i < 16)) i h
  · rw [b_big h, decide_eq_false (by omega)]
theorem b_m1 : ∀ i, i < 32 → bt (-1) i = true := by decide +kernel
theorem b_0 (i : Nat) : bt 0 i = false := BitVec.getLsbD_zero
theorem s_l : ∀ n, n < 32 → ((nI n &&& 31).toBitVec.smod 32).toNat = n := by decide +kernel
theorem s_u : ∀ n, n < 32 → (((nI n).toUInt32 &&& Int32.toUInt32 31).toBitVec % 32).toNat = n := by decide +kernel
theorem b_shl (n : Nat) (hn : n < 32) (x : Int32) {i : Nat} (hi : i < 32) : bt (x <<< (nI n &&& 31)) i = (decide (n ≤ i) && bt x (i - n)) := by
  unfold bt
  rw [Int32.toBitVec_shiftLeft]
  show (x.toBitVec <<< ((nI n &&& 31).toBitVec.smod 32).toNat).getLsbD i = _
  rw [s_l n hn, BitVec.getLsbD_shiftLeft]
  rcases Nat.lt_or_ge i n with h | h
  · simp [h, Nat.not_le.mpr h]
  · simp [hi, h, Nat.not_lt.mpr h]
theorem b_ushr (n : Nat) (hn : n < 32) (x : Int32) (i : Nat) : bt ((x.toUInt32 >>> ((nI n).toUInt32 &&& Int32.toUInt32 31)).toInt32) i = bt x (n + i) := by
  show (x.toUInt32 >>> ((nI n).toUInt32 &&& Int32.toUInt32 31)).toBitVec.getLsbD i = x.toUInt32.toBitVec.getLsbD (n + i)
  rw [UInt32.toBitVec_shiftRight]
  show (x.toUInt32.toBitVec >>> (((nI n).toUInt32 &&& Int32.toUInt32 31).toBitVec % 32).toNat).getLsbD i = _
  rw [s_u n hn, BitVec.getLsbD_ushiftRight]
theorem b_sshr (n : Nat) (hn : n < 32) (x : Int32) {i : Nat} (hi : i < 32) : bt (x >>> (nI n &&& 31)) i = if n + i < 32 then bt x (n + i) else bt x 31 := by
  unfold bt
  rw [Int32.toBitVec_shiftRight]
  show (x.toBitVec.sshiftRight ((nI n &&& 31).toBitVec.smod 32).toNat).getLsbD i = _
  rw [s_l n hn, BitVec.getLsbD_sshiftRight, BitVec.msb_eq_getLsbD_last]
  simp [hi]
theorem b_shl8 (x : Int32) {i : Nat} (hi : i < 32) : bt (x <<< ((8 : Int32) &&& 31)) i = (decide (8 ≤ i) && bt x (i - 8)) := b_shl 8 (by omega) x hi
theorem b_shl16 (x : Int32) {i : Nat} (hi : i < 32) : bt (x <<< ((16 : Int32) &&& 31)) i = (decide (16 ≤ i) && bt x (i - 16)) := b_shl 16 (by omega) x hi
theorem b_shl24 (x : Int32) {i : Nat} (hi : i < 32) : bt (x <<< ((24 : Int32) &&& 31)) i = (decide (24 ≤ i) && bt x (i - 24)) := b_shl 24 (by omega) x hi
theorem b_sshr8 (x : Int32) {i : Nat} (hi : i < 32) : bt (x >>> ((8 : Int32) &&& 31)) i = if 8 + i < 32 then bt x (8 + i) else bt x 31 := b_sshr 8 (by omega) x hi
/-! ===== nI under and, xor, >>>, one bit, 65535 ===== -/
theorem nx_and (a b : Nat) : nI a &&& nI b = nI (a &&& b) := by
  apply Int32.toBitVec_inj.1
  show BitVec.ofNat 32 a &&& BitVec.ofNat 32 b = BitVec.ofNat 32 (a &&& b)
  apply BitVec.eq_of_getLsbD_eq
  intro i hi
  simp [hi]
theorem nx_xor (a b : Nat) : nI a ^^^ nI b = nI (a ^^^ b) := by
  apply Int32.toBitVec_inj.1
  show BitVec.ofNat 32 a ^^^ BitVec.ofNat 32 b = BitVec.ofNat 32 (a ^^^ b)
  apply BitVec.eq_of_getLsbD_eq
  intro i hi
  simp [hi]
end
section
/-! the reference's smallest methods -/
def in1F (v a b : Int32) : Int32 := if v < a then 0 else if b < v then 0 else 1
def isInF (a b : Int32) : Int32 := if (a >>> (b &&& 31)) &&& 1 = 1 then 1 else 0
def mostF (a b : Int32) : Int32 := if b < a then a else b
def ixF (k f : Int32) : Int32 := 10 + 10 * k + f
def alF (n : Int32) : Int32 := (1 : Int32) <<< (n &&& 31) - 1
def outF (a o : Int32) : Int32 := if a &&& (o ^^^ -1) = 0 then 1 else 0
def plF (m s c : Int32) : Int32 := if 0 < m + s then (if c - c / (m + s) * (m + s) < m then 1 else 0) else 0
def abF (k : Int32) : Int32 := if k = 5 then 1 else if k = 4 then 3 else if k = 3 then 2 else 0
def noF (w : Int32) : Int32 := -1000001 - w
def noS (σ : St2) (w : Int32) : St2 := si σ 4 w.toNatClampNeg (σ.1 4 w.toNatClampNeg + 1)
theorem b01 {c : Prop} [Decidable c] : (if c then (1 : Int32) else 0) = 0 ∨ (if c then (1 : Int32) else 0) = 1 := by by_cases h : c <;> simp [h]
theorem in1F_01 (v a b : Int32) : in1F v a b = 0 ∨ in1F v a b = 1 := by unfold in1F; by_cases h : v < a <;> by_cases h2 : b < v <;> simp [h, h2]
theorem isInF_01 (a b : Int32) : isInF a b = 0 ∨ isInF a b = 1 := by unfold isInF; exact b01
section LM
variable {ev : EV} {σ : St2} {K : PO}
theorem R_in1 {v a b : Int32} (hk : K (some (.int (in1F v a b))) σ) : Rn 1 ev mM_in1 [.int v, .int a, .int b] σ K := by
  unfold in1F at hk
  refine Rn_S (by decide) rfl rfl rfl ?_
  refine PW_blk okM_in1 0 rfl SpR ?_
  simp only [wL0, wLc, true_and, w1, lg0, lgi, lgr, lgl, w80]
  refine ⟨fun h => ?_, fun h => ?_⟩
  · refine PW_blk okM_in1 3 rfl SpR ?_
    simp only [wL0, wLc, true_and, w0, w71]
    refine PW_blk okM_in1 4 rfl SpR ?_
    simp only [wL0, w85]
    rw [if_pos h] at hk
    exact ⟨Or.inl trivial, hk⟩
  rw [if_neg h] at hk
  refine PW_blk okM_in1 1 rfl SpR ?_
  simp only [wL0, wLc, true_and, w1, lg0, lgi, lgr, lgl, w82]
  refine ⟨fun h => ?_, fun h => ?_⟩
  · refine PW_blk okM_in1 3 rfl SpR ?_
    simp only [wL0, wLc, true_and, w0, w71]
    refine PW_blk okM_in1 4 rfl SpR ?_
    simp only [wL0, w85]
    rw [if_pos h] at hk
    exact ⟨Or.inl trivial, hk⟩
  rw [if_neg h] at hk
  refine PW_blk okM_in1 2 rfl SpR ?_
  simp only [wL0, wLc, true_and, w0, w70]
  refine PW_blk okM_in1 4 rfl SpR ?_
  simp only [wL0, w85]
  exact ⟨Or.inr trivial, hk⟩
theorem R_most {a b : Int32} (hk : K (some (.int (mostF a b))) σ) : Rn 1 ev mM_most [.int a, .int b] σ K := by
  unfold mostF at hk
  refine Rn_S (by decide) rfl rfl rfl ?_
  refine PW_blk okM_most 0 rfl SpR ?_
  simp only [wL0, wLc, true_and, w1, lg0, lgi, lgr, lgl, w83]
  refine ⟨fun h => ?_, fun h => ?_⟩
  · rw [if_neg h] at hk
    refine PW_blk okM_most 2 rfl SpR ?_
    simp only [wL0, wLc, true_and, w1, lg0, lgi, lgr, lgl, w71]
    refine PW_blk okM_most 3 rfl SpR ?_
    simp only [wL0, w84]
    exact hk
  · rw [if_pos h] at hk
    refine PW_blk okM_most 1 rfl SpR ?_
    simp only [wL0, wLc, true_and, w1, lg0, lgi, lgr, lgl, w70]
    refine PW_blk okM_most 3 rfl SpR ?_
    simp only [wL0, w84]
    exact hk
theorem R_isIn {a b : Int32} (hk : K (some (.int (isInF a b))) σ) : Rn 1 ev mM_isIn [.int a, .int b] σ K := by
  unfold isInF at hk
  refine Rn_S (by decide) rfl rfl rfl ?_
  refine PW_blk okM_isIn 0 rfl SpR ?_
  simp only [wL0, wLc, true_and, w1, lg0, lgi, lgr, lgl, w20, w0, w16, w79]
  refine ⟨fun h => ?_, fun h => ?_⟩
  · rw [if_neg h] at hk
    refine PW_blk okM_isIn 2 rfl SpR ?_
    simp only [wL0, wLc, true_and, w0, w71]
    refine PW_blk okM_isIn 3 rfl SpR ?_
    simp only [wL0, w85]
    exact ⟨Or.inl trivial, hk⟩
  · rw [if_pos h] at hk
    refine PW_blk okM_isIn 1 rfl SpR ?_
    simp only [wL0, wLc, true_and, w0, w70]
    refine PW_blk okM_isIn 3 rfl SpR ?_
    simp only [wL0, w85]
    exact ⟨Or.inr trivial, hk⟩
theorem R_get {k f : Int32} (hi : vp_in (ixF k f) 120) (hk : K (some (.int (σ.1 1 (ixF k f).toNatClampNeg))) σ) : Rn 1 ev mM_get [.ref 0, .int k, .int f] σ K := by
  refine Rn_V (by decide) rc6 rfl rfl ?_
  refine PW_blk okM_get 0 rfl SpR ?_
  simp only [wL0, wLc, true_and, w2, lg0, lgi, lgr, lgl, w35, kM0, rM0, kM1, nM1, w0, w1, w13, w11, w39, tn10, vi10_120, w84]
  exact ⟨hi, hk⟩
theorem R_puts {k f v : Int32} (hi : vp_in (ixF k f) 120) (hk : K none (si σ 1 (ixF k f).toNatClampNeg v)) : Rn 1 ev mM_puts [.ref 0, .int k, .int f, .int v] σ K := by
  refine Rn_V (by decide) rc6 rfl rfl ?_
  refine PW_blk okM_puts 0 rfl SpR ?_
  simp only [wL0, wLc, true_and, w2, lg0, lgi, lgr, lgl, w35, kM0, rM0, kM1, nM1, w0, w1, w13, w11, w40, tn10, vi10_120, w87]
  exact ⟨hi, hk⟩
theorem R_no {w : Int32} (hi : vp_in w 7) (hk : K (some (.int (noF w))) (noS σ w)) : Rn 1 ev mM_no [.ref 0, .int w] σ K := by
  refine Rn_V (by decide) rc6 rfl rfl ?_
  refine PW_blk okM_no 0 rfl SpR ?_
  simp only [wL0, wLc, true_and, w2, lg0, lgi, lgr, lgl, w35, kM0, rM4, kM4, nM4, w1, w10i, w10r, w39, w0, w11, w40, w12, tn1, w84]
  exact ⟨hi, hi, hk⟩
theorem R_allLocks (hk : K (some (.int (alF (σ.1 1 3)))) σ) : Rn 1 ev mM_allLocks [.ref 0] σ K := by
  refine Rn_V (by decide) rc6 rfl rfl ?_
  refine PW_blk okM_allLocks 0 rfl SpR ?_
  simp only [wL0, wLc, true_and, w0, w2, lg0, lgi, lgr, lgl, w35, kM0, rM0, kM1, nM1, w39, w19, w12, tn1, vi1_120, tn3, vi3_120, w84]
  exact hk
theorem R_isOut {o : Int32} (hk : K (some (.int (outF (σ.1 1 6) o))) σ) : Rn 1 ev mM_isOut [.ref 0, .int o] σ K := by
  unfold outF at hk
  refine Rn_V (by decide) rc6 rfl rfl ?_
  refine PW_blk okM_isOut 0 rfl SpR ?_
  simp only [wL0, wLc, true_and, w2, lg0, lgi, lgr, lgl, w35, kM0, rM0, kM1, nM1, w0, w39, w1, w18, w16, tn6, vi6_120, w73]
  refine ⟨fun h => ?_, fun h => ?_⟩
  · rw [if_neg h] at hk
    refine PW_blk okM_isOut 2 rfl SpR ?_
    simp only [wL0, wLc, true_and, w0, w71]
    refine PW_blk okM_isOut 3 rfl SpR ?_
    simp only [wL0, w85]
    exact ⟨Or.inl trivial, hk⟩
  · rw [if_pos h] at hk
    refine PW_blk okM_isOut 1 rfl SpR ?_
    simp only [wL0, wLc, true_and, w0, w70]
    refine PW_blk okM_isOut 3 rfl SpR ?_
    simp only [wL0, w85]
    exact ⟨Or.inr trivial, hk⟩
theorem R_doesPlay {x : Int32} (hk : K (some (.int (plF (σ.1 1 7) (σ.1 1 8) x))) σ) : Rn 1 ev mM_doesPlay [.ref 0, .int x] σ K := by
  unfold plF at hk
  refine Rn_V (by decide) rc6 rfl rfl ?_
  refine PW_blk okM_doesPlay 0 rfl SpR ?_
  simp only [wL0, wLc, true_and, w2, lg0, lgi, lgr, lgl, w35, kM0, rM0, kM1, nM1, w0, w39, w11, w4, ls00, ls0i, ls0r, ls0l, lsi, lsr, lsl, Option.map_some, w1, tn7, vi7_120, tn8, vi8_120, w77]
  refine ⟨fun h => ?_, fun h => ?_⟩
  · rw [if_neg h] at hk
    refine PW_blk okM_doesPlay 3 rfl SpR ?_
    simp only [wL0, wLc, true_and, w0, w71]
    refine PW_blk okM_doesPlay 4 rfl SpR ?_
    simp only [wL0, w85]
    exact ⟨Or.inl trivial, hk⟩
  rw [if_pos h] at hk
  refine PW_blk okM_doesPlay 1 rfl SpR ?_
  simp only [wL0, wLc, true_and, w1, lg0, lgi, lgr, lgl, w15, w2, w35, kM0, rM0, kM1, nM1, w0, w39, tn7, vi7_120, w81]
  refine ⟨fun e => by rw [e] at h; exact absurd h (by decide), fun h2 => ?_, fun h2 => ?_⟩
  · rw [if_neg h2] at hk
    refine PW_blk okM_doesPlay 3 rfl SpR ?_
    simp only [wL0, wLc, true_and, w0, w71]
    refine PW_blk okM_doesPlay 4 rfl SpR ?_
    simp only [wL0, w85]
    exact ⟨Or.inl trivial, hk⟩
  · rw [if_pos h2] at hk
    refine PW_blk okM_doesPlay 2 rfl SpR ?_
    simp only [wL0, wLc, true_and, w0, w70]
    refine PW_blk okM_doesPlay 4 rfl SpR ?_
    simp only [wL0, w85]
    exact ⟨Or.inr trivial, hk⟩
theorem R_above {x : Int32} (hk : K (some (.int (abF x))) σ) : Rn 1 ev mM_above [.int x] σ K := by
  unfold abF at hk
  refine Rn_S (by decide) rfl rfl rfl ?_
  refine PW_blk okM_above 0 rfl SpR ?_
  simp only [wL0, wLc, true_and, w1, lg0, lgi, lgr, lgl, w0, w79]
  refine ⟨fun h => ?_, fun h => ?_⟩
  rotate_left
  · rw [if_pos h] at hk
    refine PW_blk okM_above 1 rfl SpR ?_
    simp only [wL0, wLc, true_and, w0, w70]
    refine PW_blk okM_above 7 rfl SpR ?_
    simp only [wL0, w84]
    exact hk
  rw [if_neg h] at hk
  refine PW_blk okM_above 2 rfl SpR ?_
  simp only [wL0, wLc, true_and, w1, lg0, lgi, lgr, lgl, w0, w79]
  refine ⟨fun h => ?_, fun h => ?_⟩
  rotate_left
  · rw [if_pos h] at hk
    refine PW_blk okM_above 3 rfl SpR ?_
    simp only [wL0, wLc, true_and, w0, w70]
    refine PW_blk okM_above 7 rfl SpR ?_
    simp only [wL0, w84]
    exact hk
  rw [if_neg h] at hk
  refine PW_blk okM_above 4 rfl SpR ?_
  simp only [wL0, wLc, true_and, w1, lg0, lgi, lgr, lgl, w0, w79]
  refine ⟨fun h => ?_, fun h => ?_⟩
  rotate_left
  · rw [if_pos h] at hk
    refine PW_blk okM_above 5 rfl SpR ?_
    simp only [wL0, wLc, true_and, w0, w70]
    refine PW_blk okM_above 7 rfl SpR ?_
    simp only [wL0, w84]
    exact hk
  rw [if_neg h] at hk
  refine PW_blk okM_above 6 rfl SpR ?_
  simp only [wL0, wLc, true_and, w0, w71]
  refine PW_blk okM_above 7 rfl SpR ?_
  simp only [wL0, w84]
  exact hk
theorem R_isLock {k : Int32} (hk : K (some (.int (in1F k 0 (σ.1 1 3 - 1)))) σ) : Rn 1 ev mM_isLock [.ref 0, .int k] σ K := by
  refine Rn_V (by decide) rc6 rfl rfl ?_
  refine PW_blk okM_isLock 0 rfl SpR ?_
  simp only [wL0, wLc, true_and, w1, lg0, lgi, lgr, lgl, w0, w2, w35, kM0, rM0, kM1, nM1, w39, w12, w55_3, q40, q41, q42, q43, q44, Option.toList_some, Option.toList_none, List.cons_append, List.nil_append, tn0, vi0_120, tn1, vi1_120, tn3, vi3_120, w85]
  refine R_in1 ?_
  simp only [wL0, wLc, true_and, w1, lg0, lgi, lgr, lgl, w0, w2, w35, kM0, rM0, kM1, nM1, w39, w12, w55_3, q40, q41, q42, q43, q44, Option.toList_some, Option.toList_none, List.cons_append, List.nil_append, tn0, vi0_120, tn1, vi1_120, tn3, vi3_120, w85]
  exact ⟨in1F_01 _ _ _, hk⟩
theorem R_isSheet {k : Int32} (hk : K (some (.int (in1F k 0 3))) σ) : Rn 1 ev mM_isSheet [.int k] σ K := by
  refine Rn_S (by decide) rfl rfl rfl ?_
  refine PW_blk okM_isSheet 0 rfl SpR ?_
  simp only [wL0, wLc, true_and, w1, lg0, lgi, lgr, lgl, w0, w55_3, q40, q41, q42, q43, q44, Option.toList_some, Option.toList_none, List.cons_append, List.nil_append, w85]
  refine R_in1 ?_
  simp only [wL0, wLc, true_and, w1, lg0, lgi, lgr, lgl, w0, w55_3, q40, q41, q42, q43, q44, Option.toList_some, Option.toList_none, List.cons_append, List.nil_append, w85]
  exact ⟨in1F_01 _ _ _, hk⟩
theorem R_isSpot {k : Int32} (hk : K (some (.int (in1F k 0 9))) σ) : Rn 1 ev mM_isSpot [.int k] σ K := by
  refine Rn_S (by decide) rfl rfl rfl ?_
  refine PW_blk okM_isSpot 0 rfl SpR ?_
  simp only [wL0, wLc, true_and, w1, lg0, lgi, lgr, lgl, w0, w55_3, q40, q41, q42, q43, q44, Option.toList_some, Option.toList_none, List.cons_append, List.nil_append, w85]
  refine R_in1 ?_
  simp only [wL0, wLc, true_and, w1, lg0, lgi, lgr, lgl, w0, w55_3, q40, q41, q42, q43, q44, Option.toList_some, Option.toList_none, List.cons_append, List.nil_append, w85]
  exact ⟨in1F_01 _ _ _, hk⟩
theorem R_isLetter {k : Int32} (hk : K (some (.int (in1F k 97 122))) σ) : Rn 1 ev mM_isLetter [.int k] σ K := by
  refine Rn_S (by decide) rfl rfl rfl ?_
  refine PW_blk okM_isLetter 0 rfl SpR ?_
  simp only [wL0, wLc, true_and, w1, lg0, lgi, lgr, lgl, w0, w55_3, q40, q41, q42, q43, q44, Option.toList_some, Option.toList_none, List.cons_append, List.nil_append, w85]
  refine R_in1 ?_
  simp only [wL0, wLc, true_and, w1, lg0, lgi, lgr, lgl, w0, w55_3, q40, q41, q42, q43, q44, Option.toList_some, Option.toList_none, List.cons_append, List.nil_append, w85]
  exact ⟨in1F_01 _ _ _, hk⟩
theorem R_isDigit {k : Int32} (hk : K (some (.int (in1F k 48 57))) σ) : Rn 1 ev mM_isDigit [.int k] σ K := by
  refine Rn_S (by decide) rfl rfl rfl ?_
  refine PW_blk okM_isDigit 0 rfl SpR ?_
  simp only [wL0, wLc, true_and, w1, lg0, lgi, lgr, lgl, w0, w55_3, q40, q41, q42, q43, q44, Option.toList_some, Option.toList_none, List.cons_append, List.nil_append, w85]
  refine R_in1 ?_
  simp only [wL0, wLc, true_and, w1, lg0, lgi, lgr, lgl, w0, w55_3, q40, q41, q42, q43, q44, Option.toList_some, Option.toList_none, List.cons_append, List.nil_append, w85]
  exact ⟨in1F_01 _ _ _, hk⟩
end LM
/-- the leaves by rule: a call of one of these is read off at once -/
def SpM (ev : EV) : SPT := fun y as σ K =>
  if y = mM_in1 then (match as with | [.int v, .int a, .int b] => K (some (.int (in1F v a b))) σ | _ => False) else
  if y = mM_most then (match as with | [.int a, .int b] => K (some (.int (mostF a b))) σ | _ => False) else
  if y = mM_isIn then (match as with | [.int a, .int b] => K (some (.int (isInF a b))) σ | _ => False) else
  if y = mM_get then (match as with | [.ref 0, .int k, .int f] => vp_in (ixF k f) 120 ∧ K (some (.int (σ.1 1 (ixF k f).toNatClampNeg))) σ | _ => False) else
  if y = mM_puts then (match as with | [.ref 0, .int k, .int f, .int v] => vp_in (ixF k f) 120 ∧ K none (si σ 1 (ixF k f).toNatClampNeg v) | _ => False) else
  if y = mM_no then (match as with | [.ref 0, .int w] => vp_in w 7 ∧ K (some (.int (noF w))) (noS σ w) | _ => False) else
  if y = mM_allLocks then (match as with | [.ref 0] => K (some (.int (alF (σ.1 1 3)))) σ | _ => False) else
  if y = mM_isOut then (match as with | [.ref 0, .int o] => K (some (.int (outF (σ.1 1 6) o))) σ | _ => False) else
  if y = mM_doesPlay then (match as with | [.ref 0, .int x] => K (some (.int (plF (σ.1 1 7) (σ.1 1 8) x))) σ | _ => False) else
  if y = mM_above then (match as with | [.int x] => K (some (.int (abF x))) σ | _ => False) else
  if y = mM_isLock then (match as with | [.ref 0, .int k] => K (some (.int (in1F k 0 (σ.1 1 3 - 1)))) σ | _ => False) else
  if y = mM_isSheet then (match as with | [.int k] => K (some (.int (in1F k 0 3))) σ | _ => False) else
  if y = mM_isSpot then (match as with | [.int k] => K (some (.int (in1F k 0 9))) σ | _ => False) else
  if y = mM_isLetter then (match as with | [.int k] => K (some (.int (in1F k 97 122))) σ | _ => False) else
  if y = mM_isDigit then (match as with | [.int k] => K (some (.int (in1F k 48 57))) σ | _ => False) else
  Rn 1 ev y as σ K
theorem sp_in1 {ev : EV} {σ : St2} {K : PO} {v a b : Int32} : SpM ev mM_in1 [.int v, .int a, .int b] σ K = (K (some (.int (in1F v a b))) σ) := rfl
theorem sp_most {ev : EV} {σ : St2} {K : PO} {a b : Int32} : SpM ev mM_most [.int a, .int b] σ K = (K (some (.int (mostF a b))) σ) := rfl
theorem sp_isIn {ev : EV} {σ : St2} {K : PO} {a b : Int32} : SpM ev mM_isIn [.int a, .int b] σ K = (K (some (.int (isInF a b))) σ) := rfl
theorem sp_get {ev : EV} {σ : St2} {K : PO} {k f : Int32} : SpM ev mM_get [.ref 0, .int k, .int f] σ K = (vp_in (ixF k f) 120 ∧ K (some (.int (σ.1 1 (ixF k f).toNatClampNeg))) σ) := rfl
theorem sp_puts {ev : EV} {σ : St2} {K : PO} {k f v : Int32} : SpM ev mM_puts [.ref 0, .int k, .int f, .int v] σ K = (vp_in (ixF k f) 120 ∧ K none (si σ 1 (ixF k f).toNatClampNeg v)) := rfl
theorem sp_no {ev : EV} {σ : St2} {K : PO} {w : Int32} : SpM ev mM_no [.ref 0, .int w] σ K = (vp_in w 7 ∧ K (some (.int (noF w))) (noS σ w)) := rfl
theorem sp_allLocks {ev : EV} {σ : St2} {K : PO}  : SpM ev mM_allLocks [.ref 0] σ K = (K (some (.int (alF (σ.1 1 3)))) σ) := rfl
theorem sp_isOut {ev : EV} {σ : St2} {K : PO} {o : Int32} : SpM ev mM_isOut [.ref 0, .int o] σ K = (K (some (.int (outF (σ.1 1 6) o))) σ) := rfl
theorem sp_doesPlay {ev : EV} {σ : St2} {K : PO} {x : Int32} : SpM ev mM_doesPlay [.ref 0, .int x] σ K = (K (some (.int (plF (σ.1 1 7) (σ.1 1 8) x))) σ) := rfl
theorem sp_above {ev : EV} {σ : St2} {K : PO} {x : Int32} : SpM ev mM_above [.int x] σ K = (K (some (.int (abF x))) σ) := rfl
theorem sp_isLock {ev : EV} {σ : St2} {K : PO} {k : Int32} : SpM ev mM_isLock [.ref 0, .int k] σ K = (K (some (.int (in1F k 0 (σ.1 1 3 - 1)))) σ) := rfl
theorem sp_isSheet {ev : EV} {σ : St2} {K : PO} {k : Int32} : SpM ev mM_isSheet [.int k] σ K = (K (some (.int (in1F k 0 3))) σ) := rfl
theorem sp_isSpot {ev : EV} {σ : St2} {K : PO} {k : Int32} : SpM ev mM_isSpot [.int k] σ K = (K (some (.int (in1F k 0 9))) σ) := rfl
theorem sp_isLetter {ev : EV} {σ : St2} {K : PO} {k : Int32} : SpM ev mM_isLetter [.int k] σ K = (K (some (.int (in1F k 97 122))) σ) := rfl
theorem sp_isDigit {ev : EV} {σ : St2} {K : PO} {k : Int32} : SpM ev mM_isDigit [.int k] σ K = (K (some (.int (in1F k 48 57))) σ) := rfl
theorem SpM_ok {ev : EV} : ∀ y as σ K, SpM ev y as σ K → Rn 1 ev y as σ K := by
  intro y as σ K h
  unfold SpM at h
  by_cases e : y = mM_in1
  · rw [if_pos e] at h
    subst e
    split at h
    next => exact R_in1 h
    next => exact h.elim
  rw [if_neg e] at h
  clear e
  by_cases e : y = mM_most
  · rw [if_pos e] at h
    subst e
    split at h
    next => exact R_most h
    next => exact h.elim
  rw [if_neg e] at h
  clear e
  by_cases e : y = mM_isIn
  · rw [if_pos e] at h
    subst e
    split at h
    next => exact R_isIn h
    next => exact h.elim
  rw [if_neg e] at h
  clear e
  by_cases e : y = mM_get
  · rw [if_pos e] at h
    subst e
    split at h
    next => exact R_get h.1 h.2
    next => exact h.elim
  rw [if_neg e] at h
  clear e
  by_cases e : y = mM_puts
  · rw [if_pos e] at h
    subst e
    split at h
    next => exact R_puts h.1 h.2
    next => exact h.elim
  rw [if_neg e] at h
  clear e
  by_cases e : y = mM_no
  · rw [if_pos e] at h
    subst e
    split at h
    next => exact R_no h.1 h.2
    next => exact h.elim
  rw [if_neg e] at h
  clear e
  by_cases e : y = mM_allLocks
  · rw [if_pos e] at h
    subst e
    split at h
    next => exact R_allLocks h
    next => exact h.elim
  rw [if_neg e] at h
  clear e
  by_cases e : y = mM_isOut
  · rw [if_pos e] at h
    subst e
    split at h
    next => exact R_isOut h
    next => exact h.elim
  rw [if_neg e] at h
  clear e
  by_cases e : y = mM_doesPlay
  · rw [if_pos e] at h
    subst e
    split at h
    next => exact R_doesPlay h
    next => exact h.elim
  rw [if_neg e] at h
  clear e
  by_cases e : y = mM_above
  · rw [if_pos e] at h
    subst e
    split at h
    next => exact R_above h
    next => exact h.elim
  rw [if_neg e] at h
  clear e
  by_cases e : y = mM_isLock
  · rw [if_pos e] at h
    subst e
    split at h
    next => exact R_isLock h
    next => exact h.elim
  rw [if_neg e] at h
  clear e
  by_cases e : y = mM_isSheet
  · rw [if_pos e] at h
    subst e
    split at h
    next => exact R_isSheet h
    next => exact h.elim
  rw [if_neg e] at h
  clear e
  by_cases e : y = mM_isSpot
  · rw [if_pos e] at h
    subst e
    split at h
    next => exact R_isSpot h
    next => exact h.elim
  rw [if_neg e] at h
  clear e
  by_cases e : y = mM_isLetter
  · rw [if_pos e] at h
    subst e
    split at h
    next => exact R_isLetter h
    next => exact h.elim
  rw [if_neg e] at h
  clear e
  by_cases e : y = mM_isDigit
  · rw [if_pos e] at h
    subst e
    split at h
    next => exact R_isDigit h
    next => exact h.elim
  rw [if_neg e] at h
  clear e
  exact h
end
section
/-! THE ABSTRACT STATE: S, the reference's 120 ints; what class and reference both compute of it -/
def nv (S : Nat → Int32) (i : Nat) : Nat := (S i).toNatClampNeg
def rg (S : Nat → Int32) (i m : Nat) : Prop := S i = nI (nv S i) ∧ nv S i ≤ m
def tr (k f : Nat) : Nat := 10 + 10 * k + f
def InvK (S : Nat → Int32) (k : Nat) : Prop := rg S (tr k 0) 6 ∧ (rg S (tr k 1) 60 ∧ 1 ≤ nv S (tr k 1)) ∧ rg S (tr k 2) 9 ∧ rg S (tr k 3) 40 ∧ rg S (tr k 4) 3 ∧ rg S (tr k 5) 2 ∧ rg S (tr k 6) 4 ∧ rg S (tr k 7) 9 ∧ rg S (tr k 8) 1023 ∧ rg S (tr k 9) 1023
def Inv (S : Nat → Int32) : Prop := rg S 3 10 ∧ (rg S 2 1023 ∧ nv S 2 < 2 ^ nv S 3) ∧ rg S 0 299999 ∧ rg S 4 15 ∧ rg S 5 40 ∧ (rg S 6 1023 ∧ nv S 6 < 2 ^ nv S 3) ∧ rg S 7 60 ∧ rg S 8 60 ∧ (∀ k, k < nv S 3 → InvK S k) ∧ (∀ i, i < 10 → S (110 + i) = -1 ∨ ∃ k, k < nv S 3 ∧ S (110 + i) = nI k)
def pcU (x : Nat) : Nat → Nat
  | 0 => 0
  | k + 1 => pcU x k + (if x.testBit k then 1 else 0)
def pcn (x : Nat) : Nat := pcU x 10
def slU (S : Nat → Int32) (o : Nat) : Nat → Nat
  | 0 => nv S 5
  | k + 1 => slU S o k + (if o.testBit k then nv S (tr k 2) else 0)
def slackN (S : Nat → Int32) (o : Nat) : Nat := slU S o (nv S 3)
def bdU (S : Nat → Int32) (o : Nat) : Nat → Nat
  | 0 => 0
  | k + 1 => bdU S o k ||| (if o.testBit k then 0 else nv S (tr k 4))
def frN (S : Nat → Int32) (o : Nat) : Nat := 3 - bdU S o (nv S 3)
def hdN (S : Nat → Int32) (o : Nat) : Nat := pcn (frN S o)
def whyF (S : Nat → Int32) (k o : Nat) (sl hd : Int32) : Int32 :=
  if o.testBit k then 1 else if sl < S (tr k 3) then 2 else if hd < S (tr k 5) then 3 else if 0 < S (tr k 6) ∧ ¬ isInF (S 4) (S (tr k 6) - 1) = 1 then 4
  else if ¬ (S (tr k 8) &&& (nI o ^^^ -1) = 0) then 5 else if ¬ (S (tr k 9) &&& (((1 : Int32) <<< (nI k &&& 31)) ^^^ -1) &&& nI o = 0) then 6 else 0
def mayok (S : Nat → Int32) (k o : Nat) : Prop := whyF S k o (nI (slackN S o)) (nI (hdN S o)) = 0
noncomputable def mayU (S : Nat → Int32) (o : Nat) : Nat → Nat
  | 0 => 0
  | k + 1 => mayU S o k ||| (if whyF S k o (nI (slackN S o)) (nI (hdN S o)) = 0 then 2 ^ k else 0)
noncomputable def mayN (S : Nat → Int32) (o : Nat) : Nat := mayU S o (nv S 3)
def outP (S : Nat → Int32) (o : Nat) : Prop := S 6 &&& (nI o ^^^ -1) = 0
def takesN (S : Nat → Int32) (k o : Nat) : Nat :=
  let t := nv S (tr k 1)
  let rope := if slackN S o < t then t - slackN S o else 1
  let chain := t + 3 * pcn o
  let old := if 1 < chain then chain / 2 else 1
  if nv S (tr k 0) = 1 then rope else if nv S (tr k 0) = 2 then chain else if nv S (tr k 0) = 3 then old else if nv S (tr k 0) = 4 then old + 4 else if nv S (tr k 0) = 5 then rope + 2 else if nv S (tr k 0) = 6 then (if hdN S o < 2 then 2 * t else t) else t
def soundN (S : Nat → Int32) (k : Nat) : Nat :=
  let h := nv S (tr k 1) / 2
  if nv S (tr k 0) = 1 then 0 else if nv S (tr k 0) = 2 then h else if nv S (tr k 0) = 3 then h + 1 else if nv S (tr k 0) = 4 then 2 * (h + 1) else if nv S (tr k 0) = 5 then 4 else 2
def costN (S : Nat → Int32) (b k o : Nat) : Nat := if b = 0 then takesN S k o else if b = 1 then soundN S k else 1
def omin (acc r : Option Nat) (c : Nat) : Option Nat := match r with
  | none => acc
  | some v => match acc with
    | none => some (c + v)
    | some a => if c + v < a then some (c + v) else some a
noncomputable def lsU (S : Nat → Int32) (b o : Nat) (rest : Nat → Option Nat) : Nat → Option Nat
  | 0 => none
  | k + 1 => if whyF S k o (nI (slackN S o)) (nI (hdN S o)) = 0 then omin (lsU S b o rest k) (rest (o ||| 2 ^ k)) (costN S b k o) else lsU S b o rest k
noncomputable def lsF (S : Nat → Int32) (b : Nat) : Nat → Nat → Option Nat
  | 0, _ => none
  | f + 1, o => if S 6 &&& (nI o ^^^ -1) = 0 then some 0 else lsU S b o (lsF S b f) (nv S 3)
noncomputable def lst (S : Nat → Int32) (b o : Nat) : Option Nat := lsF S b (1025 - o) o
/-! numbers -/
theorem nI_sh1 : ∀ k, k < 31 → (1 : Int32) <<< (nI k &&& 31) = nI (2 ^ k) := by decide +kernel
theorem alF_n : ∀ n, n < 31 → alF (nI n) = nI (2 ^ n - 1) := by decide +kernel
theorem nI_shr {o k : Nat} (ho : o < 2 ^ 31) (hk : k < 31) : nI o >>> (nI k &&& 31) = nI (o / 2 ^ k) := pk_shrN ho _ k (s_l k (by omega))
theorem nI_and1 (n : Nat) : nI n &&& 1 = nI (n % 2) := by
  have h := fa_mask n 1
  rw [show (2 ^ 1 - 1 : Nat) = 1 from rfl, show (2 ^ 1 : Nat) = 2 from rfl] at h
  exact h
theorem isInF_n {o k : Nat} (ho : o < 2 ^ 31) (hk : k < 31) : isInF (nI o) (nI k) = if o.testBit k then 1 else 0 := by
  unfold isInF
  rw [nI_shr ho hk, nI_and1]
  have hb : o.testBit k = decide (o / 2 ^ k % 2 = 1) := by rw [Nat.testBit_eq_decide_div_mod_eq]
  rw [hb]
  rcases Nat.mod_two_eq_zero_or_one (o / 2 ^ k) with h | h <;> rw [h] <;> decide
theorem nI_not {a o : Nat} (ha : a < 1024) (ho : o < 1024) : nI a &&& (nI o ^^^ -1) = 0 ↔ a &&& o = a := by
  have e1 : nI o ^^^ -1 = nI (o ^^^ 4294967295) := by rw [show (-1 : Int32) = nI 4294967295 from by decide, nx_xor]
  rw [e1, fa_and]
  have hlt : a &&& (o ^^^ 4294967295) < 2 ^ 31 := Nat.lt_of_le_of_lt Nat.and_le_left (by omega)
  have e2 : (nI (a &&& (o ^^^ 4294967295)) = 0) ↔ (a &&& (o ^^^ 4294967295) = 0) := by
    constructor
    · intro h
      rcases Nat.eq_zero_or_pos (a &&& (o ^^^ 4294967295)) with z | z
      · exact z
      · exact absurd h (nI_ne0 z hlt)
    · intro h; rw [h]; rfl
  rw [e2]
  constructor
  · intro h
    apply Nat.eq_of_testBit_eq
    intro i
    have hi := congrArg (fun n => Nat.testBit n i) h
    simp only [Nat.testBit_and, Nat.testBit_xor, Nat.zero_testBit] at hi ⊢
    by_cases hlt : i < 32
    · have e3 : Nat.testBit 4294967295 i = true := by
        rw [show (4294967295 : Nat) = 2 ^ 32 - 1 from rfl, Nat.testBit_two_pow_sub_one]
        simp [hlt]
      rw [e3] at hi
      cases ha : a.testBit i <;> cases ho : o.testBit i <;> simp_all
    · have e4 : a.testBit i = false := Nat.testBit_lt_two_pow (Nat.lt_of_lt_of_le ha (by exact Nat.le_trans (by decide : 1024 ≤ 2 ^ 32) (Nat.pow_le_pow_right (by decide) (by omega))))
      rw [e4]; rfl
  · intro h
    apply Nat.eq_of_testBit_eq
    intro i
    have hi := congrArg (fun n => Nat.testBit n i) h
    simp only [Nat.testBit_and, Nat.testBit_xor, Nat.zero_testBit] at hi ⊢
    by_cases hlt : i < 32
    · have e3 : Nat.testBit 4294967295 i = true := by
        rw [show (4294967295 : Nat) = 2 ^ 32 - 1 from rfl, Nat.testBit_two_pow_sub_one]
        simp [hlt]
      rw [e3]
      cases ha : a.testBit i <;> cases ho : o.testBit i <;> simp_all
    · have e4 : a.testBit i = false := Nat.testBit_lt_two_pow (Nat.lt_of_lt_of_le ha (by exact Nat.le_trans (by decide : 1024 ≤ 2 ^ 32) (Nat.pow_le_pow_right (by decide) (by omega))))
      rw [e4]; rfl
theorem bit_or {o k i : Nat} : (o ||| 2 ^ k).testBit i = (o.testBit i || decide (i = k)) := by
  rw [Nat.testBit_or, Nat.testBit_two_pow]
  congr 1
  simp [eq_comm]
theorem or_gt {o k : Nat} (h : o.testBit k = false) : o < o ||| 2 ^ k := by
  have h1 : o ≤ o ||| 2 ^ k := Nat.left_le_or
  rcases Nat.lt_or_ge o (o ||| 2 ^ k) with z | z
  · exact z
  · have e : o = o ||| 2 ^ k := Nat.le_antisymm h1 z
    have : (o ||| 2 ^ k).testBit k = true := by rw [bit_or]; simp
    rw [← e, h] at this
    cases this
theorem or_lt {o k n : Nat} (ho : o < 2 ^ n) (hk : k < n) : o ||| 2 ^ k < 2 ^ n := Nat.or_lt_two_pow ho (Nat.pow_lt_pow_right (by decide) hk)
theorem pcU_le (x : Nat) : ∀ k, pcU x k ≤ k
  | 0 => Nat.le_refl _
  | k + 1 => by have := pcU_le x k; unfold pcU; split <;> omega
theorem pcn_le (x : Nat) : pcn x ≤ 10 := pcU_le x 10
theorem pcn_drop : ∀ l, l < 1024 → 0 < l → pcn (l &&& (l - 1)) + 1 = pcn l ∧ l &&& (l - 1) < 1024 := by decide +kernel
theorem pcn_0 : pcn 0 = 0 := by decide
theorem p2le : ∀ n, n ≤ 10 → 2 ^ n ≤ 1024 := by decide +kernel
theorem lt31 {n m : Nat} (h : n ≤ m) (hm : m < 2147483648 := by decide) : n < 2 ^ 31 := Nat.lt_of_le_of_lt h hm
/-! bounds -/
section SB
variable {S : Nat → Int32}
theorem rg_of {i m n : Nat} (h : S i = nI n) (hm : n ≤ m) (h31 : m < 2147483648 := by decide) : rg S i m := by
  have e : nv S i = n := by unfold nv; rw [h]; exact nI_clamp (lt31 hm h31)
  exact ⟨by rw [e]; exact h, by rw [e]; exact hm⟩
theorem nv_of {i n : Nat} (h : S i = nI n) (hn : n < 2 ^ 31) : nv S i = n := by unfold nv; rw [h]; exact nI_clamp hn
theorem slU_le (h : Inv S) (o : Nat) : ∀ k, k ≤ nv S 3 → slU S o k ≤ 40 + 9 * k := by
  intro k
  induction k with
  | zero => intro _; exact h.2.2.2.2.1.2
  | succ k ih =>
    intro hk
    have h1 := ih (by omega)
    have h2 := (h.2.2.2.2.2.2.2.2.1 k (by omega)).2.2.1.2
    unfold slU
    split <;> omega
theorem slack_le (h : Inv S) (o : Nat) : slackN S o ≤ 130 := by
  have h1 := slU_le h o (nv S 3) (Nat.le_refl _)
  have h2 := h.1.2
  unfold slackN
  omega
theorem bdU_lt (h : Inv S) (o : Nat) : ∀ k, k ≤ nv S 3 → bdU S o k < 4 := by
  intro k
  induction k with
  | zero => intro _; exact (by decide : 0 < 4)
  | succ k ih =>
    intro hk
    have h1 := ih (by omega)
    have h2 := (h.2.2.2.2.2.2.2.2.1 k (by omega)).2.2.2.2.1.2
    unfold bdU
    refine Nat.or_lt_two_pow (n := 2) h1 ?_
    split
    · decide
    · show _ < 4; omega
theorem frN_lt (S : Nat → Int32) (o : Nat) : frN S o < 4 := by unfold frN; omega
theorem hdN_le (S : Nat → Int32) (o : Nat) : hdN S o ≤ 10 := pcn_le _
theorem takes_le (h : Inv S) {k o : Nat} (hk : k < nv S 3) : takesN S k o ≤ 130 ∧ 1 ≤ takesN S k o := by
  obtain ⟨h0, ⟨h1, h1'⟩, -⟩ := h.2.2.2.2.2.2.2.2.1 k hk
  have h2 := h1.2
  have h3 := pcn_le o
  unfold takesN
  dsimp only
  repeat' split
  all_goals omega
theorem sound_le (h : Inv S) {k : Nat} (hk : k < nv S 3) : soundN S k ≤ 130 := by
  obtain ⟨h0, ⟨h1, h1'⟩, -⟩ := h.2.2.2.2.2.2.2.2.1 k hk
  have h2 := h1.2
  unfold soundN
  dsimp only
  repeat' split
  all_goals omega
theorem cost_le (h : Inv S) {b k o : Nat} (hk : k < nv S 3) : costN S b k o ≤ 130 := by
  unfold costN
  split
  · exact (takes_le h hk).1
  · split
    · exact sound_le h hk
    · decide
theorem why_bit {k o : Nat} {sl hd : Int32} (h : whyF S k o sl hd = 0) : o.testBit k = false := by
  unfold whyF at h
  cases e : o.testBit k with
  | false => rfl
  | true => rw [e, if_pos rfl] at h; exact absurd h (by decide)
theorem lsU_cong {b o : Nat} {r r' : Nat → Option Nat} : ∀ n, (∀ k, k < n → whyF S k o (nI (slackN S o)) (nI (hdN S o)) = 0 → r (o ||| 2 ^ k) = r' (o ||| 2 ^ k)) → lsU S b o r n = lsU S b o r' n
  | 0, _ => rfl
  | n + 1, h => by
    have ih := lsU_cong (b := b) n (fun k hk => h k (by omega))
    unfold lsU
    rw [ih]
    split
    next hw => rw [h n (by omega) hw]
    next => rfl
theorem lsF_fuel (hn : nv S 3 ≤ 10) {b : Nat} : ∀ f f' o, o < 1024 → 1025 - o ≤ f → 1025 - o ≤ f' → lsF S b f o = lsF S b f' o := by
  intro f
  induction f with
  | zero => intro f' o h1 h2; omega
  | succ f ih =>
    intro f' o h1 h2 h3
    cases f' with
    | zero => omega
    | succ f' =>
      unfold lsF
      split
      · rfl
      · refine lsU_cong _ (fun k hk hw => ?_)
        have hb := why_bit hw
        have h4 := or_gt hb
        have h5 : o ||| 2 ^ k < 2 ^ 10 := or_lt h1 (by omega)
        exact ih f' _ h5 (by omega) (by omega)
theorem lst_eq (hn : nv S 3 ≤ 10) {b o : Nat} (ho : o < 1024) : lst S b o = if S 6 &&& (nI o ^^^ -1) = 0 then some 0 else lsU S b o (lst S b) (nv S 3) := by
  unfold lst
  rw [show 1025 - o = (1024 - o) + 1 by omega]
  show (if _ then some 0 else lsU S b o (lsF S b (1024 - o)) (nv S 3)) = _
  split
  · rfl
  · refine lsU_cong _ (fun k hk hw => ?_)
    have hb := why_bit hw
    have h4 := or_gt hb
    have h5 : o ||| 2 ^ k < 2 ^ 10 := or_lt ho (by omega)
    exact lsF_fuel hn _ _ _ h5 (by omega) (by omega)
theorem omin_le {acc r : Option Nat} {c B : Nat} (h1 : ∀ v, acc = some v → v ≤ B) (h2 : ∀ v, r = some v → c + v ≤ B) : ∀ v, omin acc r c = some v → v ≤ B := by
  intro v h
  unfold omin at h
  split at h
  · exact h1 v h
  · split at h
    · cases h; exact h2 _ rfl
    · split at h
      · cases h; exact h2 _ rfl
      · cases h; exact h1 _ rfl
theorem lst_le (h : Inv S) {b : Nat} : ∀ (f o : Nat), o < 1024 → 1024 - o ≤ f → ∀ v, lst S b o = some v → v ≤ 130 * (1024 - o) := by
  intro f
  induction f with
  | zero => intro o h1 h2; omega
  | succ f ih =>
    intro o h1 h2
    have hn := h.1.2
    rw [lst_eq hn h1]
    split
    · intro v hv; cases hv; omega
    · have key : ∀ n, n ≤ nv S 3 → ∀ v, lsU S b o (lst S b) n = some v → v ≤ 130 * (1024 - o) := by
        intro n
        induction n with
        | zero => intro _ v hv; cases hv
        | succ n ih2 =>
          intro hn2
          unfold lsU
          split
          next hw =>
            refine omin_le (ih2 (by omega)) (fun v hv => ?_)
            have hb := why_bit hw
            have h4 := or_gt hb
            have h5 : o ||| 2 ^ n < 2 ^ 10 := or_lt h1 (by omega)
            have h6 := ih _ h5 (by omega) v hv
            have h7 := cost_le h (b := b) (k := n) (o := o) (by omega)
            omega
          next => exact ih2 (by omega)
      exact key _ (Nat.le_refl _)
theorem lst_lt (h : Inv S) {b o v : Nat} (ho : o < 1024) (hv : lst S b o = some v) : v ≤ 133120 := by
  have := lst_le h (1024 - o) o ho (Nat.le_refl _) v hv
  omega
end SB
end
section
/-! the reference: slack, hands, why, times, sounds, what may come off -/
theorem ixn (k f : Nat) : ixF (nI k) (nI f) = nI (tr k f) := by
  unfold ixF tr
  rw [show (10 : Int32) = nI 10 from rfl, pk_mul, nI_add, nI_add]
theorem gv_n {k f : Nat} (h : k < 10) (hf : f < 10) : vp_in (ixF (nI k) (nI f)) 120 = True := by
  rw [ixn]
  exact eq_true (vp_in_nI (by unfold tr; omega) (by decide))
theorem gt_n {k f : Nat} (h : k < 10) (hf : f < 10) : (ixF (nI k) (nI f)).toNatClampNeg = tr k f := by
  rw [ixn]
  exact nI_clamp (by unfold tr; omega)
theorem gv0 {k : Nat} (h : k < 10) : vp_in (ixF (nI k) 0) 120 = True := gv_n (f := 0) h (by decide)
theorem gt0 {k : Nat} (h : k < 10) : (ixF (nI k) 0).toNatClampNeg = tr k 0 := gt_n (f := 0) h (by decide)
theorem gv1 {k : Nat} (h : k < 10) : vp_in (ixF (nI k) 1) 120 = True := gv_n (f := 1) h (by decide)
theorem gt1 {k : Nat} (h : k < 10) : (ixF (nI k) 1).toNatClampNeg = tr k 1 := gt_n (f := 1) h (by decide)
theorem gv2 {k : Nat} (h : k < 10) : vp_in (ixF (nI k) 2) 120 = True := gv_n (f := 2) h (by decide)
theorem gt2 {k : Nat} (h : k < 10) : (ixF (nI k) 2).toNatClampNeg = tr k 2 := gt_n (f := 2) h (by decide)
theorem gv3 {k : Nat} (h : k < 10) : vp_in (ixF (nI k) 3) 120 = True := gv_n (f := 3) h (by decide)
theorem gt3 {k : Nat} (h : k < 10) : (ixF (nI k) 3).toNatClampNeg = tr k 3 := gt_n (f := 3) h (by decide)
theorem gv4 {k : Nat} (h : k < 10) : vp_in (ixF (nI k) 4) 120 = True := gv_n (f := 4) h (by decide)
theorem gt4 {k : Nat} (h : k < 10) : (ixF (nI k) 4).toNatClampNeg = tr k 4 := gt_n (f := 4) h (by decide)
theorem gv5 {k : Nat} (h : k < 10) : vp_in (ixF (nI k) 5) 120 = True := gv_n (f := 5) h (by decide)
theorem gt5 {k : Nat} (h : k < 10) : (ixF (nI k) 5).toNatClampNeg = tr k 5 := gt_n (f := 5) h (by decide)
theorem gv6 {k : Nat} (h : k < 10) : vp_in (ixF (nI k) 6) 120 = True := gv_n (f := 6) h (by decide)
theorem gt6 {k : Nat} (h : k < 10) : (ixF (nI k) 6).toNatClampNeg = tr k 6 := gt_n (f := 6) h (by decide)
theorem gv7 {k : Nat} (h : k < 10) : vp_in (ixF (nI k) 7) 120 = True := gv_n (f := 7) h (by decide)
theorem gt7 {k : Nat} (h : k < 10) : (ixF (nI k) 7).toNatClampNeg = tr k 7 := gt_n (f := 7) h (by decide)
theorem gv8 {k : Nat} (h : k < 10) : vp_in (ixF (nI k) 8) 120 = True := gv_n (f := 8) h (by decide)
theorem gt8 {k : Nat} (h : k < 10) : (ixF (nI k) 8).toNatClampNeg = tr k 8 := gt_n (f := 8) h (by decide)
theorem gv9 {k : Nat} (h : k < 10) : vp_in (ixF (nI k) 9) 120 = True := gv_n (f := 9) h (by decide)
theorem gt9 {k : Nat} (h : k < 10) : (ixF (nI k) 9).toNatClampNeg = tr k 9 := gt_n (f := 9) h (by decide)
theorem nI_lt_iff {a b : Nat} (ha : a < 2147483648) (hb : b < 2147483648) : nI a < nI b ↔ a < b := nI_ltI ha hb
theorem nI_eq_iff {a b : Nat} (ha : a < 2147483648) (hb : b < 2147483648) : nI a = nI b ↔ a = b := nI_eq ha hb
theorem nI_z {a : Nat} (ha : a < 2147483648) : nI a = 0 ↔ a = 0 := nI_eq (b := 0) ha (by decide)
theorem if01 {c : Prop} [Decidable c] : ((if c then (1 : Int32) else 0) = 0) ↔ ¬ c := by by_cases h : c <;> simp [h]
theorem if10 {c : Prop} [Decidable c] : ((if c then (1 : Int32) else 0) = 1) ↔ c := by by_cases h : c <;> simp [h]
section MA
variable {ev : EV} {σ : St2} {K : PO}
theorem R_bits {a : Nat} (ha : a < 1024) (hk : K (some (.int (nI (pcn a)))) σ) : Rn 1 ev mM_bits [.int (nI a)] σ K := by
  refine Rn_S (by decide) rfl rfl rfl ?_
  refine PW_blk okM_bits 0 rfl SpM_ok ?_
  simp only [wL0, wLc, true_and, w0, w4, ls00, ls0i, ls0r, ls0l, lsi, lsr, lsl, Option.map_some, w1, lg0, lgi, lgr, lgl, w71]
  have key : ∀ (m l n : Nat), l ≤ m → l < 1024 → n + pcn l = pcn a → PW 1 ev mM_bits 4 [.int (nI a), .int (nI n), .int (nI l)] [] σ K := by
    intro m
    induction m with
    | zero =>
      intro l n h1 h2 h3
      have e : l = 0 := by omega
      subst e
      rw [pcn_0] at h3
      have e2 : n = pcn a := by omega
      subst e2
      refine PW_blk okM_bits 1 rfl SpM_ok ?_
      simp only [wL0, wLc, true_and, w1, lg0, lgi, lgr, lgl, w72]
      refine ⟨fun _ => ?_, fun h => absurd rfl h⟩
      refine PW_blk okM_bits 3 rfl SpM_ok ?_
      simp only [wL0, wLc, true_and, w1, lg0, lgi, lgr, lgl, w84]
      exact hk
    | succ m ih =>
      intro l n h1 h2 h3
      refine PW_blk okM_bits 1 rfl SpM_ok ?_
      simp only [wL0, wLc, true_and, w1, lg0, lgi, lgr, lgl, w72]
      refine ⟨fun h => ?_, fun h => ?_⟩
      · rw [nI_z (by omega)] at h
        subst h
        rw [pcn_0] at h3
        have e2 : n = pcn a := by omega
        subst e2
        refine PW_blk okM_bits 3 rfl SpM_ok ?_
        simp only [wL0, wLc, true_and, w1, lg0, lgi, lgr, lgl, w84]
        exact hk
      · rw [nI_z (by omega)] at h
        obtain ⟨q1, q2⟩ := pcn_drop l h2 (by omega)
        refine PW_blk okM_bits 2 rfl SpM_ok ?_
        simp only [wL0, wLc, true_and, w7, lg0, lgi, lgr, lgl, ls00, ls0i, ls0r, ls0l, lsi, lsr, lsl, Option.map_some, w1, w0, w12, w16, w4, w70]
        rw [show (1 : Int32) = nI 1 from rfl, nI_add, pk_sub (by omega), fa_and]
        have hle : l &&& (l - 1) ≤ l - 1 := Nat.and_le_right
        exact ih _ _ (by omega) q2 (by omega)
  exact key a a 0 (Nat.le_refl _) ha (by omega)
theorem R_slackBy {o : Nat} (hI : Inv (σ.1 1)) (ho : o < 1024) (hk : K (some (.int (nI (slackN (σ.1 1) o)))) σ) : Rn 1 ev mM_slackBy [.ref 0, .int (nI o)] σ K := by
  have hn := hI.1
  have hn10 := hn.2
  refine Rn_V (by decide) rc6 rfl rfl ?_
  refine PW_blk okM_slackBy 0 rfl SpM_ok ?_
  simp only [wL0, wLc, true_and, w2, lg0, lgi, lgr, lgl, w35, kM0, rM0, kM1, nM1, w0, w39, w4, ls00, ls0i, ls0r, ls0l, lsi, lsr, lsl, Option.map_some, tn0, vi0_120, tn5, vi5_120, w71, hI.2.2.2.2.1.1]
  have key : ∀ (m k : Nat), k + m = nv (σ.1 1) 3 → PW 1 ev mM_slackBy 9 [.ref 0, .int (nI o), .int (nI (slU (σ.1 1) o k)), .int (nI k)] [] σ K := by
    intro m
    induction m with
    | zero =>
      intro k hkm
      have e : k = nv (σ.1 1) 3 := by omega
      subst e
      refine PW_blk okM_slackBy 1 rfl SpM_ok ?_
      simp only [wL0, wLc, true_and, w1, lg0, lgi, lgr, lgl, w2, w35, kM0, rM0, kM1, nM1, w0, w39, tn3, vi3_120, w81, hn.1]
      refine ⟨fun _ => ?_, fun h => absurd h (nI_nlt (Nat.le_refl _) (by omega))⟩
      refine PW_blk okM_slackBy 6 rfl SpM_ok ?_
      simp only [wL0, wLc, true_and, w1, lg0, lgi, lgr, lgl, w84]
      exact hk
    | succ m ih =>
      intro k hkm
      have hkn : k < nv (σ.1 1) 3 := by omega
      have hk10 : k < 10 := by omega
      have hK := hI.2.2.2.2.2.2.2.2.1 k hkn
      refine PW_blk okM_slackBy 1 rfl SpM_ok ?_
      simp only [wL0, wLc, true_and, w1, lg0, lgi, lgr, lgl, w2, w35, kM0, rM0, kM1, nM1, w0, w39, tn3, vi3_120, w81, hn.1]
      refine ⟨fun h => absurd (nI_lt hkn (by omega)) h, fun _ => ?_⟩
      refine PW_blk okM_slackBy 2 rfl SpM_ok ?_
      simp only [wL0, wLc, true_and, w1, lg0, lgi, lgr, lgl, w55_2, q40, q41, q42, q43, q44, Option.toList_some, Option.toList_none, List.cons_append, List.nil_append, sp_isIn, w72]
      have e1 : slU (σ.1 1) o (k + 1) = slU (σ.1 1) o k + (if o.testBit k then nv (σ.1 1) (tr k 2) else 0) := rfl
      have hi := ih (k + 1) (by omega)
      rw [e1] at hi
      rw [isInF_n (by omega) (by omega)]
      refine ⟨fun h => ?_, fun h => ?_⟩
      · rw [if01] at h
        rw [if_neg h] at hi
        refine PW_blk okM_slackBy 4 rfl SpM_ok ?_
        simp only [wL0, wLc, true_and, w0, w71]
        refine PW_blk okM_slackBy 5 rfl SpM_ok ?_
        simp only [wL0, wLc, true_and, w11, w4, ls00, ls0i, ls0r, ls0l, lsi, lsr, lsl, Option.map_some, w7, lg0, lgi, lgr, lgl, w70]
        rw [show (0 : Int32) = nI 0 from rfl, show (1 : Int32) = nI 1 from rfl, nI_add, nI_add]
        exact hi
      · rw [if01] at h
        rw [if_pos (Decidable.not_not.mp h)] at hi
        refine PW_blk okM_slackBy 3 rfl SpM_ok ?_
        simp only [wL0, wLc, true_and, w2, lg0, lgi, lgr, lgl, w1, w0, w54_3, q40, q41, q42, q43, q44, Option.toList_some, Option.toList_none, List.cons_append, List.nil_append, sp_get, w70, gv2 hk10, gt2 hk10, hK.2.2.1.1]
        refine PW_blk okM_slackBy 5 rfl SpM_ok ?_
        simp only [wL0, wLc, true_and, w11, w4, ls00, ls0i, ls0r, ls0l, lsi, lsr, lsl, Option.map_some, w7, lg0, lgi, lgr, lgl, w70]
        rw [show (1 : Int32) = nI 1 from rfl, nI_add, nI_add]
        exact hi
  exact key _ 0 (Nat.zero_add _)
theorem fr_and : ∀ b, b < 4 → (3 : Int32) &&& (nI b ^^^ -1) = nI (3 - b) := by decide +kernel
theorem R_freeBy {o : Nat} (hI : Inv (σ.1 1)) (ho : o < 1024) (hk : K (some (.int (nI (frN (σ.1 1) o)))) σ) : Rn 1 ev mM_freeBy [.ref 0, .int (nI o)] σ K := by
  have hn := hI.1
  have hn10 := hn.2
  refine Rn_V (by decide) rc6 rfl rfl ?_
  refine PW_blk okM_freeBy 0 rfl SpM_ok ?_
  simp only [wL0, wLc, true_and, w0, w4, ls00, ls0i, ls0r, ls0l, lsi, lsr, lsl, Option.map_some, w71]
  have key : ∀ (m k : Nat), k + m = nv (σ.1 1) 3 → PW 1 ev mM_freeBy 4 [.ref 0, .int (nI o), .int (nI (bdU (σ.1 1) o k)), .int (nI k)] [] σ K := by
    intro m
    induction m with
    | zero =>
      intro k hkm
      have e : k = nv (σ.1 1) 3 := by omega
      subst e
      refine PW_blk okM_freeBy 1 rfl SpM_ok ?_
      simp only [wL0, wLc, true_and, w1, lg0, lgi, lgr, lgl, w2, w35, kM0, rM0, kM1, nM1, w0, w39, tn3, vi3_120, w81, hn.1]
      refine ⟨fun _ => ?_, fun h => absurd h (nI_nlt (Nat.le_refl _) (by omega))⟩
      refine PW_blk okM_freeBy 6 rfl SpM_ok ?_
      simp only [wL0, wLc, true_and, w0, w1, lg0, lgi, lgr, lgl, w18, w16, w84]
      rw [fr_and _ (bdU_lt hI o _ (Nat.le_refl _))]
      exact hk
    | succ m ih =>
      intro k hkm
      have hkn : k < nv (σ.1 1) 3 := by omega
      have hk10 : k < 10 := by omega
      have hK := hI.2.2.2.2.2.2.2.2.1 k hkn
      refine PW_blk okM_freeBy 1 rfl SpM_ok ?_
      simp only [wL0, wLc, true_and, w1, lg0, lgi, lgr, lgl, w2, w35, kM0, rM0, kM1, nM1, w0, w39, tn3, vi3_120, w81, hn.1]
      refine ⟨fun h => absurd (nI_lt hkn (by omega)) h, fun _ => ?_⟩
      refine PW_blk okM_freeBy 2 rfl SpM_ok ?_
      simp only [wL0, wLc, true_and, w1, lg0, lgi, lgr, lgl, w55_2, q40, q41, q42, q43, q44, Option.toList_some, Option.toList_none, List.cons_append, List.nil_append, sp_isIn, w72]
      have e1 : bdU (σ.1 1) o (k + 1) = bdU (σ.1 1) o k ||| (if o.testBit k then 0 else nv (σ.1 1) (tr k 4)) := rfl
      have hi := ih (k + 1) (by omega)
      rw [e1] at hi
      rw [isInF_n (by omega) (by omega)]
      refine ⟨fun h => ?_, fun h => ?_⟩
      · rw [if01] at h
        rw [if_neg h] at hi
        refine PW_blk okM_freeBy 4 rfl SpM_ok ?_
        simp only [wL0, wLc, true_and, w2, lg0, lgi, lgr, lgl, w1, w0, w54_3, q40, q41, q42, q43, q44, Option.toList_some, Option.toList_none, List.cons_append, List.nil_append, sp_get, w71, gv4 hk10, gt4 hk10, hK.2.2.2.2.1.1]
        refine PW_blk okM_freeBy 5 rfl SpM_ok ?_
        simp only [wL0, wLc, true_and, w17, w4, ls00, ls0i, ls0r, ls0l, lsi, lsr, lsl, Option.map_some, w7, lg0, lgi, lgr, lgl, w70]
        rw [show (1 : Int32) = nI 1 from rfl, nI_add, fa_or]
        exact hi
      · rw [if01] at h
        rw [if_pos (Decidable.not_not.mp h)] at hi
        refine PW_blk okM_freeBy 3 rfl SpM_ok ?_
        simp only [wL0, wLc, true_and, w0, w70]
        refine PW_blk okM_freeBy 5 rfl SpM_ok ?_
        simp only [wL0, wLc, true_and, w17, w4, ls00, ls0i, ls0r, ls0l, lsi, lsr, lsl, Option.map_some, w7, lg0, lgi, lgr, lgl, w70]
        rw [show (0 : Int32) = nI 0 from rfl, show (1 : Int32) = nI 1 from rfl, nI_add, fa_or]
        exact hi
  exact key _ 0 (Nat.zero_add _)
theorem R_whyBy {k o fr : Nat} {sl : Int32} (hI : Inv (σ.1 1)) (ho : o < 1024) (hf : fr < 1024) (hkn : k < nv (σ.1 1) 3) (hk : K (some (.int (whyF (σ.1 1) k o sl (nI (pcn fr))))) σ) : Rn 1 ev mM_whyBy [.ref 0, .int (nI k), .int (nI o), .int sl, .int (nI fr)] σ K := by
  have hn := hI.1
  have hn10 := hn.2
  have hk10 : k < 10 := by omega
  unfold whyF at hk
  refine Rn_V (by decide) rc6 rfl rfl ?_
  refine PW_blk okM_whyBy 0 rfl SpM_ok ?_
  simp only [wL0, wLc, true_and, w1, lg0, lgi, lgr, lgl, w55_2, q40, q41, q42, q43, q44, Option.toList_some, Option.toList_none, List.cons_append, List.nil_append, sp_isIn, w72]
  rw [isInF_n (by omega) (by omega)]
  refine ⟨fun h => ?_, fun h => ?_⟩
  rotate_left
  · rw [if01] at h
    rw [if_pos (Decidable.not_not.mp h)] at hk
    refine PW_blk okM_whyBy 1 rfl SpM_ok ?_
    simp only [wL0, wLc, true_and, w0, w84]
    exact hk
  rw [if01] at h
  rw [if_neg h] at hk
  refine PW_blk okM_whyBy 2 rfl SpM_ok ?_
  simp only [wL0, wLc, true_and, w1, lg0, lgi, lgr, lgl, w2, w0, w54_3, q40, q41, q42, q43, q44, Option.toList_some, Option.toList_none, List.cons_append, List.nil_append, sp_get, w81, gv3 hk10, gt3 hk10]
  refine ⟨fun h => ?_, fun h => ?_⟩
  rotate_left
  · rw [if_pos h] at hk
    refine PW_blk okM_whyBy 3 rfl SpM_ok ?_
    simp only [wL0, wLc, true_and, w0, w84]
    exact hk
  rw [if_neg h] at hk
  refine PW_blk okM_whyBy 4 rfl SpM_ok ?_
  simp only [wL0, wLc, true_and, w1, lg0, lgi, lgr, lgl, w55_1, q40, q41, q42, q43, q44, Option.toList_some, Option.toList_none, List.cons_append, List.nil_append, w2, w0, w54_3, sp_get, w81]
  refine R_bits hf ?_
  simp only [wL0, wLc, true_and, w1, lg0, lgi, lgr, lgl, w55_1, q40, q41, q42, q43, q44, Option.toList_some, Option.toList_none, List.cons_append, List.nil_append, w2, w0, w54_3, sp_get, w81, gv5 hk10, gt5 hk10]
  refine ⟨fun h => ?_, fun h => ?_⟩
  rotate_left
  · rw [if_pos h] at hk
    refine PW_blk okM_whyBy 5 rfl SpM_ok ?_
    simp only [wL0, wLc, true_and, w0, w84]
    exact hk
  rw [if_neg h] at hk
  have k71 : (K (some (.int (if ¬ (σ.1 1 (tr k 8) &&& (nI o ^^^ -1) = 0) then 5 else if ¬ (σ.1 1 (tr k 9) &&& (((1 : Int32) <<< (nI k &&& 31)) ^^^ -1) &&& nI o = 0) then 6 else 0))) σ) → PW 1 ev mM_whyBy 71 [.ref 0, .int (nI k), .int (nI o), .int sl, .int (nI fr)] [] σ K := by
    intro hk
    refine PW_blk okM_whyBy 9 rfl SpM_ok ?_
    simp only [wL0, wLc, true_and, w2, lg0, lgi, lgr, lgl, w1, w0, w54_3, q40, q41, q42, q43, q44, Option.toList_some, Option.toList_none, List.cons_append, List.nil_append, sp_get, w18, w16, w72, gv8 hk10, gt8 hk10]
    refine ⟨fun h => ?_, fun h => ?_⟩
    rotate_left
    · rw [if_pos h] at hk
      refine PW_blk okM_whyBy 10 rfl SpM_ok ?_
      simp only [wL0, wLc, true_and, w0, w84]
      exact hk
    rw [if_neg (Decidable.not_not.mpr h)] at hk
    refine PW_blk okM_whyBy 11 rfl SpM_ok ?_
    simp only [wL0, wLc, true_and, w2, lg0, lgi, lgr, lgl, w1, w0, w54_3, q40, q41, q42, q43, q44, Option.toList_some, Option.toList_none, List.cons_append, List.nil_append, sp_get, w19, w18, w16, w72, gv9 hk10, gt9 hk10]
    refine ⟨fun h => ?_, fun h => ?_⟩
    · rw [if_neg (Decidable.not_not.mpr h)] at hk
      refine PW_blk okM_whyBy 13 rfl SpM_ok ?_
      simp only [wL0, wLc, true_and, w0, w71]
      refine PW_blk okM_whyBy 14 rfl SpM_ok ?_
      simp only [wL0, w84]
      exact hk
    · rw [if_pos h] at hk
      refine PW_blk okM_whyBy 12 rfl SpM_ok ?_
      simp only [wL0, wLc, true_and, w0, w70]
      refine PW_blk okM_whyBy 14 rfl SpM_ok ?_
      simp only [wL0, w84]
      exact hk
  refine PW_blk okM_whyBy 6 rfl SpM_ok ?_
  simp only [wL0, wLc, true_and, w2, lg0, lgi, lgr, lgl, w1, w0, w54_3, q40, q41, q42, q43, q44, Option.toList_some, Option.toList_none, List.cons_append, List.nil_append, sp_get, w77, gv6 hk10, gt6 hk10]
  refine ⟨fun h => ?_, fun h => ?_⟩
  · rw [if_neg (fun z => h z.1)] at hk
    exact k71 hk
  refine PW_blk okM_whyBy 7 rfl SpM_ok ?_
  simp only [wL0, wLc, true_and, w2, lg0, lgi, lgr, lgl, w35, kM0, rM0, kM1, nM1, w0, w39, w1, w54_3, q40, q41, q42, q43, q44, Option.toList_some, Option.toList_none, List.cons_append, List.nil_append, sp_get, w12, w55_2, sp_isIn, tn1, vi1_120, tn4, vi4_120, tn6, vi6_120, w73, gv6 hk10, gt6 hk10]
  refine ⟨fun h2 => ?_, fun h2 => ?_⟩
  · have h3 : isInF (σ.1 1 4) (σ.1 1 (tr k 6) - 1) = 1 := (isInF_01 _ _).resolve_left h2
    rw [if_neg (fun z => z.2 h3)] at hk
    exact k71 hk
  · rw [if_pos ⟨h, by rw [h2]; decide⟩] at hk
    refine PW_blk okM_whyBy 8 rfl SpM_ok ?_
    simp only [wL0, wLc, true_and, w0, w84]
    exact hk
theorem mostF_r {t s : Nat} (ht : t ≤ 60) (ht1 : 1 ≤ t) (hs : s ≤ 130) : mostF 1 (nI t - nI s) = nI (if s < t then t - s else 1) := by
  have key : ∀ t, t < 61 → ∀ s, s < 131 → 1 ≤ t → mostF 1 (nI t - nI s) = nI (if s < t then t - s else 1) := by decide +kernel
  exact key t (by omega) s (by omega) ht1
theorem mostF_o {c : Nat} (hc : c ≤ 90) (h1 : 1 ≤ c) : mostF 1 (nI c / 2) = nI (if 1 < c then c / 2 else 1) := by
  have key : ∀ c, c < 91 → 1 ≤ c → mostF 1 (nI c / 2) = nI (if 1 < c then c / 2 else 1) := by decide +kernel
  exact key c (by omega) h1
theorem nI_li (n : Nat) {x : Int32} (h : x = nI n) : x = nI n := h
theorem R_takesBy {k o : Nat} (hI : Inv (σ.1 1)) (ho : o < 1024) (hkn : k < nv (σ.1 1) 3) (hk : K (some (.int (nI (takesN (σ.1 1) k o)))) σ) : Rn 1 ev mM_takesBy [.ref 0, .int (nI k), .int (nI o), .int (nI (slackN (σ.1 1) o)), .int (nI (frN (σ.1 1) o))] σ K := by
  have hn := hI.1
  have hn10 := hn.2
  have hk10 : k < 10 := by omega
  obtain ⟨hK0, ⟨hK1, hK1'⟩, -⟩ := hI.2.2.2.2.2.2.2.2.1 k hkn
  have hsl := slack_le hI o
  have hp := pcn_le o
  have hfr := frN_lt (σ.1 1) o
  unfold takesN at hk
  dsimp only at hk
  refine Rn_V (by decide) rc6 rfl rfl ?_
  refine PW_blk okM_takesBy 0 rfl SpM_ok ?_
  simp only [wL0, wLc, true_and, w2, lg0, lgi, lgr, lgl, w1, w0, w54_3, q40, q41, q42, q43, q44, Option.toList_some, Option.toList_none, List.cons_append, List.nil_append, sp_get, w4, ls00, ls0i, ls0r, ls0l, lsi, lsr, lsl, Option.map_some, w12, w55_2, sp_most, w55_1, w13, w11, w14, w90, wS0, wSc, gv1 hk10, gt1 hk10, hK1.1]
  refine R_bits ho ?_
  simp only [wL0, wLc, true_and, w2, lg0, lgi, lgr, lgl, w1, w0, w54_3, q40, q41, q42, q43, q44, Option.toList_some, Option.toList_none, List.cons_append, List.nil_append, sp_get, w4, ls00, ls0i, ls0r, ls0l, lsi, lsr, lsl, Option.map_some, w12, w55_2, sp_most, w55_1, w13, w11, w14, w90, wS0, wSc, gv0 hk10, gt0 hk10, hK0.1]
  refine ⟨by decide, ?_⟩
  rw [mostF_r hK1.2 hK1' hsl, show (3 : Int32) = nI 3 from rfl, pk_mul, nI_add, mostF_o (by have := hK1.2; omega) (by omega)]
  generalize hkd : nv (σ.1 1) (tr k 0) = kd at hk ⊢
  have hkd6 : kd ≤ 6 := by rw [← hkd]; exact hK0.2
  refine ⟨fun h => ?_, fun h => ?_⟩
  · have e : kd = 1 := (nI_eq (by omega) (by decide)).mp h
    subst e
    refine PW_blk okM_takesBy 1 rfl SpM_ok ?_
    simp only [wL0, wLc, true_and, w1, lg0, lgi, lgr, lgl, w84]
    exact hk
  have n1 : ¬ kd = 1 := fun e => h (by rw [e] <;> rfl)
  rw [if_neg n1] at hk
  refine ⟨fun h => ?_, fun h => ?_⟩
  · have e : kd = 2 := (nI_eq (by omega) (by decide)).mp h
    subst e
    refine PW_blk okM_takesBy 2 rfl SpM_ok ?_
    simp only [wL0, wLc, true_and, w1, lg0, lgi, lgr, lgl, w84]
    exact hk
  have n2 : ¬ kd = 2 := fun e => h (by rw [e] <;> rfl)
  rw [if_neg n2] at hk
  refine ⟨fun h => ?_, fun h => ?_⟩
  · have e : kd = 3 := (nI_eq (by omega) (by decide)).mp h
    subst e
    refine PW_blk okM_takesBy 3 rfl SpM_ok ?_
    simp only [wL0, wLc, true_and, w1, lg0, lgi, lgr, lgl, w84]
    exact hk
  have n3 : ¬ kd = 3 := fun e => h (by rw [e] <;> rfl)
  rw [if_neg n3] at hk
  refine ⟨fun h => ?_, fun h => ?_⟩
  · have e : kd = 4 := (nI_eq (by omega) (by decide)).mp h
    subst e
    refine PW_blk okM_takesBy 4 rfl SpM_ok ?_
    simp only [wL0, wLc, true_and, w1, lg0, lgi, lgr, lgl, w0, w11, w84]
    rw [show (4 : Int32) = nI 4 from rfl, nI_add]
    exact hk
  have n4 : ¬ kd = 4 := fun e => h (by rw [e] <;> rfl)
  rw [if_neg n4] at hk
  refine ⟨fun h => ?_, fun h => ?_⟩
  · have e : kd = 5 := (nI_eq (by omega) (by decide)).mp h
    subst e
    refine PW_blk okM_takesBy 5 rfl SpM_ok ?_
    simp only [wL0, wLc, true_and, w1, lg0, lgi, lgr, lgl, w0, w11, w84]
    rw [show (2 : Int32) = nI 2 from rfl, nI_add]
    exact hk
  have n5 : ¬ kd = 5 := fun e => h (by rw [e] <;> rfl)
  rw [if_neg n5] at hk
  refine ⟨fun h => ?_, fun h => ?_⟩
  · have e : kd = 6 := (nI_eq (by omega) (by decide)).mp h
    subst e
    rw [if_pos rfl] at hk
    refine PW_blk okM_takesBy 6 rfl SpM_ok ?_
    simp only [wL0, wLc, true_and, w1, lg0, lgi, lgr, lgl, w55_1, q40, q41, q42, q43, q44, Option.toList_some, Option.toList_none, List.cons_append, List.nil_append, w0, w81]
    refine R_bits (by omega) ?_
    simp only [wL0, wLc, true_and, w1, lg0, lgi, lgr, lgl, w55_1, q40, q41, q42, q43, q44, Option.toList_some, Option.toList_none, List.cons_append, List.nil_append, w0, w81]
    rw [show (2 : Int32) = nI 2 from rfl, nI_lt_iff (by have := pcn_le (frN (σ.1 1) o); omega) (by decide)]
    refine ⟨fun h2 => ?_, fun h2 => ?_⟩
    · rw [show hdN (σ.1 1) o = pcn (frN (σ.1 1) o) from rfl, if_neg h2] at hk
      refine PW_blk okM_takesBy 8 rfl SpM_ok ?_
      simp only [wL0, wLc, true_and, w1, lg0, lgi, lgr, lgl, w71]
      refine PW_blk okM_takesBy 9 rfl SpM_ok ?_
      simp only [wL0, w84]
      exact hk
    · rw [show hdN (σ.1 1) o = pcn (frN (σ.1 1) o) from rfl, if_pos h2] at hk
      refine PW_blk okM_takesBy 7 rfl SpM_ok ?_
      simp only [wL0, wLc, true_and, w0, w1, lg0, lgi, lgr, lgl, w13, w70]
      refine PW_blk okM_takesBy 9 rfl SpM_ok ?_
      simp only [wL0, w84]
      rw [show (2 : Int32) = nI 2 from rfl, pk_mul]
      exact hk
  have n6 : ¬ kd = 6 := fun e => h (by rw [e] <;> rfl)
  rw [if_neg n6] at hk
  refine PW_blk okM_takesBy 10 rfl SpM_ok ?_
  simp only [wL0, wLc, true_and, w1, lg0, lgi, lgr, lgl, w84]
  exact hk
theorem R_soundsOf {k : Nat} (hI : Inv (σ.1 1)) (hkn : k < nv (σ.1 1) 3) (hk : K (some (.int (nI (soundN (σ.1 1) k)))) σ) : Rn 1 ev mM_soundsOf [.ref 0, .int (nI k)] σ K := by
  have hn := hI.1
  have hn10 := hn.2
  have hk10 : k < 10 := by omega
  obtain ⟨hK0, ⟨hK1, hK1'⟩, -⟩ := hI.2.2.2.2.2.2.2.2.1 k hkn
  unfold soundN at hk
  dsimp only at hk
  refine Rn_V (by decide) rc6 rfl rfl ?_
  refine PW_blk okM_soundsOf 0 rfl SpM_ok ?_
  simp only [wL0, wLc, true_and, w2, lg0, lgi, lgr, lgl, w1, w0, w54_3, q40, q41, q42, q43, q44, Option.toList_some, Option.toList_none, List.cons_append, List.nil_append, sp_get, w14, w4, ls00, ls0i, ls0r, ls0l, lsi, lsr, lsl, Option.map_some, w90, wS0, wSc, gv1 hk10, gt1 hk10, hK1.1, gv0 hk10, gt0 hk10, hK0.1]
  refine ⟨by decide, ?_⟩
  rw [show (2 : Int32) = nI 2 from rfl, pk_div (by have := hK1.2; omega) (by decide) (by decide)]
  generalize hkd : nv (σ.1 1) (tr k 0) = kd at hk ⊢
  have hkd6 : kd ≤ 6 := by rw [← hkd]; exact hK0.2
  refine ⟨fun h => ?_, fun h => ?_⟩
  · have e : kd = 1 := (nI_eq (by omega) (by decide)).mp h
    subst e
    refine PW_blk okM_soundsOf 1 rfl SpM_ok ?_
    simp only [wL0, wLc, true_and, w0, w84]
    exact hk
  have n1 : ¬ kd = 1 := fun e => h (by rw [e] <;> rfl)
  rw [if_neg n1] at hk
  refine ⟨fun h => ?_, fun h => ?_⟩
  · have e : kd = 2 := (nI_eq (by omega) (by decide)).mp h
    subst e
    refine PW_blk okM_soundsOf 2 rfl SpM_ok ?_
    simp only [wL0, wLc, true_and, w1, lg0, lgi, lgr, lgl, w84]
    exact hk
  have n2 : ¬ kd = 2 := fun e => h (by rw [e] <;> rfl)
  rw [if_neg n2] at hk
  refine ⟨fun h => ?_, fun h => ?_⟩
  · have e : kd = 3 := (nI_eq (by omega) (by decide)).mp h
    subst e
    refine PW_blk okM_soundsOf 3 rfl SpM_ok ?_
    simp only [wL0, wLc, true_and, w1, lg0, lgi, lgr, lgl, w0, w11, w84]
    rw [show (1 : Int32) = nI 1 from rfl, nI_add]
    exact hk
  have n3 : ¬ kd = 3 := fun e => h (by rw [e] <;> rfl)
  rw [if_neg n3] at hk
  refine ⟨fun h => ?_, fun h => ?_⟩
  · have e : kd = 4 := (nI_eq (by omega) (by decide)).mp h
    subst e
    refine PW_blk okM_soundsOf 4 rfl SpM_ok ?_
    simp only [wL0, wLc, true_and, w0, w1, lg0, lgi, lgr, lgl, w11, w13, w84]
    rw [show (1 : Int32) = nI 1 from rfl, nI_add, show (2 : Int32) = nI 2 from rfl, pk_mul]
    exact hk
  have n4 : ¬ kd = 4 := fun e => h (by rw [e] <;> rfl)
  rw [if_neg n4] at hk
  refine ⟨fun h => ?_, fun h => ?_⟩
  · have e : kd = 5 := (nI_eq (by omega) (by decide)).mp h
    subst e
    refine PW_blk okM_soundsOf 5 rfl SpM_ok ?_
    simp only [wL0, wLc, true_and, w0, w84]
    exact hk
  have n5 : ¬ kd = 5 := fun e => h (by rw [e] <;> rfl)
  rw [if_neg n5] at hk
  refine PW_blk okM_soundsOf 6 rfl SpM_ok ?_
  simp only [wL0, wLc, true_and, w0, w84]
  exact hk
theorem R_mayBy {o : Nat} (hI : Inv (σ.1 1)) (ho : o < 1024) (hk : K (some (.int (nI (mayN (σ.1 1) o)))) σ) : Rn 1 ev mM_mayBy [.ref 0, .int (nI o)] σ K := by
  have hn := hI.1
  have hn10 := hn.2
  refine Rn_V (by decide) rc6 rfl rfl ?_
  refine PW_blk okM_mayBy 0 rfl SpM_ok ?_
  simp only [wL0, wLc, true_and, w2, lg0, lgi, lgr, lgl, w1, w54_2, q40, q41, q42, q43, q44, Option.toList_some, Option.toList_none, List.cons_append, List.nil_append, w4, ls00, ls0i, ls0r, ls0l, lsi, lsr, lsl, Option.map_some, w0, w71]
  refine R_slackBy hI ho ?_
  simp only [wL0, wLc, true_and, w2, lg0, lgi, lgr, lgl, w1, w54_2, q40, q41, q42, q43, q44, Option.toList_some, Option.toList_none, List.cons_append, List.nil_append, w4, ls00, ls0i, ls0r, ls0l, lsi, lsr, lsl, Option.map_some, w0, w71]
  refine R_freeBy hI ho ?_
  simp only [wL0, wLc, true_and, w2, lg0, lgi, lgr, lgl, w1, w54_2, q40, q41, q42, q43, q44, Option.toList_some, Option.toList_none, List.cons_append, List.nil_append, w4, ls00, ls0i, ls0r, ls0l, lsi, lsr, lsl, Option.map_some, w0, w71]
  have key : ∀ (m k : Nat), k + m = nv (σ.1 1) 3 → PW 1 ev mM_mayBy 18 [.ref 0, .int (nI o), .int (nI (slackN (σ.1 1) o)), .int (nI (frN (σ.1 1) o)), .int (nI (mayU (σ.1 1) o k)), .int (nI k)] [] σ K := by
    intro m
    induction m with
    | zero =>
      intro k hkm
      have e : k = nv (σ.1 1) 3 := by omega
      subst e
      refine PW_blk okM_mayBy 1 rfl SpM_ok ?_
      simp only [wL0, wLc, true_and, w1, lg0, lgi, lgr, lgl, w2, w35, kM0, rM0, kM1, nM1, w0, w39, tn3, vi3_120, w81, hn.1]
      refine ⟨fun _ => ?_, fun h => absurd h (nI_nlt (Nat.le_refl _) (by omega))⟩
      refine PW_blk okM_mayBy 6 rfl SpM_ok ?_
      simp only [wL0, wLc, true_and, w1, lg0, lgi, lgr, lgl, w84]
      exact hk
    | succ m ih =>
      intro k hkm
      have hkn : k < nv (σ.1 1) 3 := by omega
      refine PW_blk okM_mayBy 1 rfl SpM_ok ?_
      simp only [wL0, wLc, true_and, w1, lg0, lgi, lgr, lgl, w2, w35, kM0, rM0, kM1, nM1, w0, w39, tn3, vi3_120, w81, hn.1]
      refine ⟨fun h => absurd (nI_lt hkn (by omega)) h, fun _ => ?_⟩
      refine PW_blk okM_mayBy 2 rfl SpM_ok ?_
      simp only [wL0, wLc, true_and, w1, lg0, lgi, lgr, lgl, w2, w54_5, q40, q41, q42, q43, q44, Option.toList_some, Option.toList_none, List.cons_append, List.nil_append, w73]
      refine R_whyBy hI ho (by have := frN_lt (σ.1 1) o; omega) hkn ?_
      simp only [wL0, wLc, true_and, w1, lg0, lgi, lgr, lgl, w2, w54_5, q40, q41, q42, q43, q44, Option.toList_some, Option.toList_none, List.cons_append, List.nil_append, w73]
      have e1 : mayU (σ.1 1) o (k + 1) = mayU (σ.1 1) o k ||| (if whyF (σ.1 1) k o (nI (slackN (σ.1 1) o)) (nI (hdN (σ.1 1) o)) = 0 then 2 ^ k else 0) := rfl
      have hi := ih (k + 1) (by omega)
      rw [e1] at hi
      refine ⟨fun h => ?_, fun h => ?_⟩
      · have h' : ¬ whyF (σ.1 1) k o (nI (slackN (σ.1 1) o)) (nI (hdN (σ.1 1) o)) = 0 := h
        rw [if_neg h'] at hi
        refine PW_blk okM_mayBy 4 rfl SpM_ok ?_
        simp only [wL0, wLc, true_and, w0, w71]
        refine PW_blk okM_mayBy 5 rfl SpM_ok ?_
        simp only [wL0, wLc, true_and, w17, w4, ls00, ls0i, ls0r, ls0l, lsi, lsr, lsl, Option.map_some, w7, lg0, lgi, lgr, lgl, w70]
        rw [show (0 : Int32) = nI 0 from rfl, show (1 : Int32) = nI 1 from rfl, nI_add, fa_or]
        exact hi
      · have h' : whyF (σ.1 1) k o (nI (slackN (σ.1 1) o)) (nI (hdN (σ.1 1) o)) = 0 := h
        rw [if_pos h'] at hi
        refine PW_blk okM_mayBy 3 rfl SpM_ok ?_
        simp only [wL0, wLc, true_and, w0, w1, lg0, lgi, lgr, lgl, w19, w70]
        refine PW_blk okM_mayBy 5 rfl SpM_ok ?_
        simp only [wL0, wLc, true_and, w17, w4, ls00, ls0i, ls0r, ls0l, lsi, lsr, lsl, Option.map_some, w7, lg0, lgi, lgr, lgl, w70]
        rw [nI_sh1 k (by omega), show (1 : Int32) = nI 1 from rfl, nI_add, fa_or]
        exact hi
  exact key _ 0 (Nat.zero_add _)
theorem R_takesNow {k : Nat} (hI : Inv (σ.1 1)) (hkn : k < nv (σ.1 1) 3) (hk : K (some (.int (nI (takesN (σ.1 1) k (nv (σ.1 1) 2))))) σ) : Rn 1 ev mM_takesNow [.ref 0, .int (nI k)] σ K := by
  have h2 := hI.2.1.1
  have ho : nv (σ.1 1) 2 < 1024 := by have := h2.2; omega
  refine Rn_V (by decide) rc6 rfl rfl ?_
  refine PW_blk okM_takesNow 0 rfl SpM_ok ?_
  simp only [wL0, wLc, true_and, w2, lg0, lgi, lgr, lgl, w1, w35, kM0, rM0, kM1, nM1, w0, w39, w54_2, q40, q41, q42, q43, q44, Option.toList_some, Option.toList_none, List.cons_append, List.nil_append, w54_5, tn2, vi2_120, w84, h2.1]
  refine R_slackBy hI ho ?_
  simp only [wL0, wLc, true_and, w2, lg0, lgi, lgr, lgl, w1, w35, kM0, rM0, kM1, nM1, w0, w39, w54_2, q40, q41, q42, q43, q44, Option.toList_some, Option.toList_none, List.cons_append, List.nil_append, w54_5, tn2, vi2_120, w84, h2.1]
  refine R_freeBy hI ho ?_
  simp only [wL0, wLc, true_and, w2, lg0, lgi, lgr, lgl, w1, w35, kM0, rM0, kM1, nM1, w0, w39, w54_2, q40, q41, q42, q43, q44, Option.toList_some, Option.toList_none, List.cons_append, List.nil_append, w54_5, tn2, vi2_120, w84, h2.1]
  refine R_takesBy hI ho hkn ?_
  simp only [wL0, wLc, true_and, w2, lg0, lgi, lgr, lgl, w1, w35, kM0, rM0, kM1, nM1, w0, w39, w54_2, q40, q41, q42, q43, q44, Option.toList_some, Option.toList_none, List.cons_append, List.nil_append, w54_5, tn2, vi2_120, w84]
  exact hk
end MA
end
section
/-! ranges, loops, what a store holds behind a row was laid -/
theorem lp_up {P : Nat → Prop} {n : Nat} (h0 : P n) (hs : ∀ k, k < n → P (k + 1) → P k) : ∀ k, k ≤ n → P k := by
  have key : ∀ m k, k + m = n → P k := by
    intro m
    induction m with
    | zero => intro k hk; rw [Nat.add_zero] at hk; subst hk; exact h0
    | succ m ih => intro k hk; exact hs k (by omega) (ih (k + 1) (by omega))
  intro k hk
  exact key (n - k) k (by omega)
theorem lp_dn {P : Nat → Prop} {a : Nat} (h0 : P a) (hs : ∀ k, a ≤ k → P k → P (k + 1)) : ∀ k, a ≤ k → P k := by
  have key : ∀ m, P (a + m) := by
    intro m
    induction m with
    | zero => exact h0
    | succ m ih => exact hs (a + m) (Nat.le_add_right _ _) ih
  intro k hk
  have := key (k - a)
  rw [show a + (k - a) = k by omega] at this
  exact this
def rgI (v : Int32) (a m : Nat) : Prop := ∃ n, a ≤ n ∧ n ≤ m ∧ v = nI n
def hasL (S : Nat → Int32) (v : Int32) : Prop := ∃ k, k < nv S 3 ∧ v = nI k
theorem rgI_toInt {v : Int32} {a m : Nat} (h0 : (a : Int) ≤ v.toInt) (h1 : v.toInt ≤ m) : rgI v a m := by
  have hlt : v.toInt < 2147483648 := by have := Int32.toInt_lt v; omega
  refine ⟨v.toInt.toNat, by omega, by omega, ?_⟩
  rw [fa_eq, nI_toInt (by omega)]
  omega
theorem in1Y {v : Int32} {a m : Nat} (hm : m < 2147483648) (h : rgI v a m) : in1F v (nI a) (nI m) = 1 := by
  obtain ⟨n, h1, h2, e⟩ := h
  subst e
  unfold in1F
  rw [if_neg (nI_nlt h1 (by omega)), if_neg (nI_nlt h2 hm)]
theorem in1N {v : Int32} {a m : Nat} (hm : m < 2147483648) (ha : a < 2147483648) (h : ¬ rgI v a m) : in1F v (nI a) (nI m) = 0 := by
  unfold in1F
  by_cases h1 : v < nI a
  · rw [if_pos h1]
  · rw [if_neg h1]
    by_cases h2 : nI m < v
    · rw [if_pos h2]
    · exfalso
      rw [fa_lt, nI_toInt ha] at h1
      rw [fa_lt, nI_toInt hm] at h2
      exact h (rgI_toInt (by omega) (by omega))
theorem in1LY {S : Nat → Int32} {v : Int32} (hr : rg S 3 10) (h : hasL S v) : in1F v 0 (S 3 - 1) = 1 := by
  obtain ⟨k, hk, e⟩ := h
  have h10 := hr.2
  rw [hr.1, show (1 : Int32) = nI 1 from rfl, pk_sub (by omega)]
  exact in1Y (a := 0) (by omega) ⟨k, by omega, by omega, e⟩
theorem in1LN {S : Nat → Int32} {v : Int32} (hr : rg S 3 10) (h : ¬ hasL S v) : in1F v 0 (S 3 - 1) = 0 := by
  have h10 := hr.2
  rcases Nat.eq_zero_or_pos (nv S 3) with z | z
  · rw [hr.1, z]
    unfold in1F
    by_cases h1 : v < 0
    · rw [if_pos h1]
    · rw [if_neg h1, if_pos]
      rw [fa_lt] at h1 ⊢
      have e0 : (0 : Int32).toInt = 0 := by decide
      have e1 : (nI 0 - 1).toInt = -1 := by decide
      omega
  · rw [hr.1, show (1 : Int32) = nI 1 from rfl, pk_sub (by omega)]
    refine in1N (a := 0) (by omega) (by decide) (fun hh => ?_)
    obtain ⟨n, h1, h2, e⟩ := hh
    exact h ⟨n, by omega, e⟩
theorem bN {c : Int32} {p q : Prop} (hc : c = 0) (hp : p) : (c = 0 → p) ∧ (¬ c = 0 → q) := ⟨fun _ => hp, fun h => absurd hc h⟩
theorem bY {c : Int32} {p q : Prop} (hc : c = 1) (hq : q) : (c = 0 → p) ∧ (¬ c = 0 → q) := ⟨fun h => absurd (hc.symm.trans h) (by decide), fun _ => hq⟩
theorem dN {c : Int32} {p q : Prop} (hc : c = 0) (hq : q) : (¬ c = 0 → p) ∧ (c = 0 → q) := ⟨fun h => absurd hc h, fun _ => hq⟩
theorem dY {c : Int32} {p q : Prop} (hc : c = 1) (hp : p) : (¬ c = 0 → p) ∧ (c = 0 → q) := ⟨fun _ => hp, fun h => absurd (hc.symm.trans h) (by decide)⟩
theorem b3N {c : Prop} {p q : Prop} (hc : ¬ c) (hp : p) : (¬ c → p) ∧ (c → q) := ⟨fun _ => hp, fun h => absurd h hc⟩
theorem b3Y {c : Prop} {p q : Prop} (hc : c) (hq : q) : (¬ c → p) ∧ (c → q) := ⟨fun h => absurd hc h, fun _ => hq⟩
theorem b2N {c : Prop} {p q : Prop} (hc : ¬ c) (hq : q) : (c → p) ∧ (¬ c → q) := ⟨fun h => absurd h hc, fun _ => hq⟩
theorem b2Y {c : Prop} {p q : Prop} (hc : c) (hp : p) : (c → p) ∧ (¬ c → q) := ⟨fun _ => hp, fun h => absurd hc h⟩
theorem si_sr {σ : St2} {k j : Nat} {r : Nat → Int32} {v : Int32} : si (sr σ k r) k j v = sr σ k (upd r j v) := by
  unfold si sr
  rw [show (upr σ.1 k r, σ.2).1 = upr σ.1 k r from rfl, upr_eq]
  congr 1
  funext a
  unfold upr
  by_cases h : a = k <;> simp [h]
theorem sr_sr {σ : St2} {k : Nat} {r r' : Nat → Int32} : sr (sr σ k r) k r' = sr σ k r' := by
  unfold sr
  congr 1
  funext a
  unfold upr
  by_cases h : a = k <;> simp [h]
theorem sr_self {σ : St2} {k : Nat} : sr σ k (σ.1 k) = σ := by
  unfold sr
  have : upr σ.1 k (σ.1 k) = σ.1 := by
    funext a
    unfold upr
    by_cases h : a = k <;> simp [h]
  rw [this]
theorem si_is {σ : St2} {k j : Nat} {v : Int32} : si σ k j v = sr σ k (upd (σ.1 k) j v) := rfl
theorem tr_n3 {k f : Nat} : ¬ tr k f = 3 := by unfold tr; omega
theorem tr_n2 {k f : Nat} : ¬ tr k f = 2 := by unfold tr; omega
theorem n3_tr {k f : Nat} : ¬ 3 = tr k f := by unfold tr; omega
theorem n2_tr {k f : Nat} : ¬ 2 = tr k f := by unfold tr; omega
theorem updI {f : Nat → Int32} {j i : Nat} {x : Int32} : upd f j x i = if i = j then x else f i := rfl
/-- S with one lock more -/
def cmS (S : Nat → Int32) (kind : Int32) : Nat → Int32 := fun i =>
  if i = 3 then nI (nv S 3 + 1) else if i = tr (nv S 3) 0 then kind else if i = tr (nv S 3) 1 then 10 else if i = tr (nv S 3) 5 then 1 else if tr (nv S 3) 0 ≤ i ∧ i < tr (nv S 3) 10 then 0 else S i
def clS (S : Nat → Int32) (k f : Nat) : Nat → Int32 := fun i => if tr k 0 ≤ i ∧ i < tr k f then 0 else S i
theorem clS_0 {S : Nat → Int32} {k : Nat} : clS S k 0 = S := by
  funext i
  unfold clS
  rw [if_neg (by omega)]
theorem clS_s {S : Nat → Int32} {k f : Nat} : upd (clS S k f) (tr k f) 0 = clS S k (f + 1) := by
  funext i
  unfold clS upd tr
  by_cases h : i = 10 + 10 * k + f
  · rw [if_pos h, if_pos (by omega)]
  · rw [if_neg h]
    show (if _ then _ else _) = _
    by_cases h2 : 10 + 10 * k + 0 ≤ i ∧ i < 10 + 10 * k + f
    · rw [if_pos h2, if_pos (by omega)]
    · rw [if_neg h2, if_neg (by omega)]
theorem v7_0 : vp_in (0 : Int32) 7 = True := eq_true (vp_in_nI (n := 0) (by decide) (by decide))
theorem v7_1 : vp_in (1 : Int32) 7 = True := eq_true (vp_in_nI (n := 1) (by decide) (by decide))
theorem v7_2 : vp_in (2 : Int32) 7 = True := eq_true (vp_in_nI (n := 2) (by decide) (by decide))
theorem v7_3 : vp_in (3 : Int32) 7 = True := eq_true (vp_in_nI (n := 3) (by decide) (by decide))
theorem v7_4 : vp_in (4 : Int32) 7 = True := eq_true (vp_in_nI (n := 4) (by decide) (by decide))
theorem v7_5 : vp_in (5 : Int32) 7 = True := eq_true (vp_in_nI (n := 5) (by decide) (by decide))
theorem v7_6 : vp_in (6 : Int32) 7 = True := eq_true (vp_in_nI (n := 6) (by decide) (by decide))
section MB
variable {ev : EV} {σ : St2} {K : PO}
theorem and_keep {a k : Nat} (ha : a < 2 ^ k) (hk : k < 31) : nI a &&& (((1 : Int32) <<< (nI k &&& 31)) ^^^ -1) = nI a := by
  rw [nI_sh1 k hk, show (-1 : Int32) = nI 4294967295 from by decide, nx_xor, fa_and]
  congr 1
  apply Nat.eq_of_testBit_eq
  intro i
  rw [Nat.testBit_and, Nat.testBit_xor, Nat.testBit_two_pow]
  by_cases hi : i < k
  · rw [show (4294967295 : Nat) = 2 ^ 32 - 1 from rfl, Nat.testBit_two_pow_sub_one]
    simp [show ¬ k = i by omega, show i < 32 by omega]
  · have e : a.testBit i = false := Nat.testBit_lt_two_pow (Nat.lt_of_lt_of_le ha (Nat.pow_le_pow_right (by decide) (by omega)))
    rw [e]; rfl
theorem R_comes {kind : Int32} (hI : Inv (σ.1 1)) (hlt : nv (σ.1 1) 3 < 10) (hk : K none (sr σ 1 (cmS (σ.1 1) kind))) : Rn 1 ev mM_comes [.ref 0, .int kind] σ K := by
  refine Rn_V (by decide) rc6 rfl rfl ?_
  refine PW_blk okM_comes 0 rfl SpM_ok ?_
  simp only [wL0, wLc, true_and, w2, lg0, lgi, lgr, lgl, w35, kM0, rM0, kM1, nM1, w0, w39, w4, ls00, ls0i, ls0r, ls0l, lsi, lsr, lsl, Option.map_some, tn0, vi0_120, tn3, vi3_120, w71, hI.1.1]
  have key := lp_up (n := 10) (P := fun f => PW 1 ev mM_comes 9 [.ref 0, .int kind, .int (nI (nv (σ.1 1) 3)), .int (nI f)] [] (sr σ 1 (clS (σ.1 1) (nv (σ.1 1) 3) f)) K) ?_ ?_ 0 (by decide)
  · rw [clS_0, sr_self] at key
    exact key
  · refine PW_blk okM_comes 1 rfl SpM_ok ?_
    simp only [wL0, wLc, true_and, w1, lg0, lgi, lgr, lgl, w0, w81]
    refine b3N (by decide) ?_
    refine PW_blk okM_comes 3 rfl SpM_ok ?_
    simp only [wL0, wLc, true_and, w2, lg0, lgi, lgr, lgl, w1, w0, w54_4, q40, q41, q42, q43, q44, Option.toList_some, Option.toList_none, List.cons_append, List.nil_append, sp_puts, w35, kM0, rM0, kM1, nM1, w10i, w10r, w39, w19, w18, w16, w40, w11, tn0, vi0_120, tn1, vi1_120, tn2, vi2_120, tn3, vi3_120, tn5, vi5_120, tn10, vi10_120, w87, gv0 hlt, gt0 hlt, gv1 hlt, gt1 hlt, gv5 hlt, gt5 hlt, si_sr, sr1]
    refine fa_post2 rfl ?_ hk
    congr 1
    have e2 : clS (σ.1 1) (nv (σ.1 1) 3) 10 2 = nI (nv (σ.1 1) 2) := by
      unfold clS
      rw [if_neg (by unfold tr; omega)]
      exact hI.2.1.1.1
    have e3 : clS (σ.1 1) (nv (σ.1 1) 3) 10 3 = nI (nv (σ.1 1) 3) := by
      unfold clS
      rw [if_neg (by unfold tr; omega)]
      exact hI.1.1
    simp only [updI, n3_tr, n2_tr, if_false, e2, e3, and_keep hI.2.1.2 (by omega : nv (σ.1 1) 3 < 31)]
    funext i
    simp only [updI]
    unfold cmS
    by_cases h3 : i = 3
    · subst h3
      rw [if_pos rfl, if_pos rfl, if_neg (by decide), show (1 : Int32) = nI 1 from rfl, nI_add]
    rw [if_neg h3, if_neg h3]
    by_cases h2 : i = 2
    · subst h2
      rw [if_pos rfl, if_neg n2_tr, if_neg n2_tr, if_neg n2_tr, if_neg (by unfold tr; omega)]
      exact hI.2.1.1.1.symm
    rw [if_neg h2]
    by_cases h5 : i = tr (nv (σ.1 1) 3) 5
    · rw [if_pos h5, if_neg (by rw [h5]; unfold tr; omega), if_neg (by rw [h5]; unfold tr; omega), if_pos h5]
    rw [if_neg h5]
    by_cases h1 : i = tr (nv (σ.1 1) 3) 1
    · rw [if_pos h1, if_neg (by rw [h1]; unfold tr; omega), if_pos h1]
    rw [if_neg h1]
    by_cases h0 : i = tr (nv (σ.1 1) 3) 0
    · rw [if_pos h0, if_pos h0]
    rw [if_neg h0, if_neg h0, if_neg h1, if_neg h5]
    rfl
  · intro f hf ih
    refine PW_blk okM_comes 1 rfl SpM_ok ?_
    simp only [wL0, wLc, true_and, w1, lg0, lgi, lgr, lgl, w0, w81]
    refine b3Y (nI_lt hf (by decide)) ?_
    refine PW_blk okM_comes 2 rfl SpM_ok ?_
    simp only [wL0, wLc, true_and, w2, lg0, lgi, lgr, lgl, w1, w0, w54_4, q40, q41, q42, q43, q44, Option.toList_some, Option.toList_none, List.cons_append, List.nil_append, sp_puts, w7, ls00, ls0i, ls0r, ls0l, lsi, lsr, lsl, Option.map_some, w70, gv_n hlt hf, gt_n hlt hf, si_sr, clS_s]
    rw [show (1 : Int32) = nI 1 from rfl, nI_add]
    exact ih
theorem R_lock {kind : Int32} (hI : Inv (σ.1 1)) (h1 : ¬ rgI kind 0 6 → K (some (.int (-1000001))) (noS σ 0)) (h2 : rgI kind 0 6 → nv (σ.1 1) 3 = 10 → K (some (.int (-1000002))) (noS σ 1)) (h3 : rgI kind 0 6 → nv (σ.1 1) 3 < 10 → K (some (.int (nI (nv (σ.1 1) 3)))) (sr σ 1 (cmS (σ.1 1) kind))) : Rn 1 ev mM_lock [.ref 0, .int kind] σ K := by
  refine Rn_V (by decide) rc6 rfl rfl ?_
  refine PW_blk okM_lock 0 rfl SpM_ok ?_
  simp only [wL0, wLc, true_and, w1, lg0, lgi, lgr, lgl, w0, w55_3, q40, q41, q42, q43, q44, Option.toList_some, Option.toList_none, List.cons_append, List.nil_append, sp_in1, w73]
  by_cases hr : rgI kind 0 6
  · refine dY (in1Y (by decide) hr) ?_
    refine PW_blk okM_lock 2 rfl SpM_ok ?_
    simp only [wL0, wLc, true_and, w2, lg0, lgi, lgr, lgl, w35, kM0, rM0, kM1, nM1, w0, w39, tn3, vi3_120, tn10, vi10_120, w79, hI.1.1]
    by_cases h10 : nv (σ.1 1) 3 = 10
    · rw [h10]
      refine ⟨fun h => absurd rfl h, fun _ => ?_⟩
      refine PW_blk okM_lock 3 rfl SpM_ok ?_
      simp only [wL0, wLc, true_and, w2, lg0, lgi, lgr, lgl, w0, w54_2, q40, q41, q42, q43, q44, Option.toList_some, Option.toList_none, List.cons_append, List.nil_append, sp_no, v7_0, v7_1, v7_2, v7_3, v7_4, v7_5, v7_6, w84]
      exact h2 hr h10
    · have hlt : nv (σ.1 1) 3 < 10 := by have := hI.1.2; omega
      refine ⟨fun _ => ?_, fun h => absurd ((nI_eq_iff (b := 10) (by omega) (by decide)).mp h) h10⟩
      refine PW_blk okM_lock 4 rfl SpM_ok ?_
      simp only [wL0, wLc, true_and, w2, lg0, lgi, lgr, lgl, w1, w54_2, q40, q41, q42, q43, q44, Option.toList_some, Option.toList_none, List.cons_append, List.nil_append, w35, kM0, rM0, kM1, nM1, w0, w39, w12, tn1, vi1_120, tn3, vi3_120, w84]
      refine R_comes hI hlt ?_
      simp only [wL0, wLc, true_and, w2, lg0, lgi, lgr, lgl, w1, w54_2, q40, q41, q42, q43, q44, Option.toList_some, Option.toList_none, List.cons_append, List.nil_append, w35, kM0, rM0, kM1, nM1, w0, w39, w12, tn1, vi1_120, tn3, vi3_120, w84, sr1]
      have e : cmS (σ.1 1) kind 3 - 1 = nI (nv (σ.1 1) 3) := by
        unfold cmS
        rw [if_pos rfl, show (1 : Int32) = nI 1 from rfl, pk_sub (by omega)]
        congr 1
      rw [e]
      exact h3 hr hlt
  · refine dN (in1N (by decide) (by decide) hr) ?_
    refine PW_blk okM_lock 1 rfl SpM_ok ?_
    simp only [wL0, wLc, true_and, w2, lg0, lgi, lgr, lgl, w0, w54_2, q40, q41, q42, q43, q44, Option.toList_some, Option.toList_none, List.cons_append, List.nil_append, sp_no, v7_0, v7_1, v7_2, v7_3, v7_4, v7_5, v7_6, w84]
    exact h1 hr
end MB
end
section
/-! of, change, rule, on, shut, may, why, off, now, costs -/
theorem wide_here : True := by have _h := @Jvm.Example.Sh0.dc0; trivial
noncomputable def ofF (S : Nat → Int32) (k w : Nat) : Int32 := if w < 10 then S (tr k w) else if w = 10 then (if (nv S 2).testBit k then 0 else 1) else if w = 11 then nI (takesN S k (nv S 2)) else nI (soundN S k)
def mostN (S : Nat → Int32) (w : Nat) : Nat := if w = 0 then 6 else if w = 1 then 60 else if w = 2 then 9 else if w = 3 then 40 else if w = 4 then 3 else if w = 5 then 2 else if w = 6 then 4 else if w = 7 then 9 else 2 ^ nv S 3 - 1
def leastN (w : Nat) : Nat := if w = 1 then 1 else 0
def mostR (S : Nat → Int32) (w : Nat) : Nat := if w = 0 then 15 else if w = 1 then 40 else if w = 2 then 2 ^ nv S 3 - 1 else 60
def okC (S : Nat → Int32) (l what v : Int32) : Prop := ∃ k w n, k < nv S 3 ∧ l = nI k ∧ w ≤ 9 ∧ what = nI w ∧ leastN w ≤ n ∧ n ≤ mostN S w ∧ v = nI n
def okR (S : Nat → Int32) (what v : Int32) : Prop := ∃ w n, w ≤ 4 ∧ what = nI w ∧ n ≤ mostR S w ∧ v = nI n
/-- a without b's bits -/
def dif (a b : Nat) : Nat := a &&& (b ^^^ 4294967295)
theorem dif_I (a b : Nat) : nI a &&& (nI b ^^^ -1) = nI (dif a b) := by
  rw [show (-1 : Int32) = nI 4294967295 from by decide, nx_xor, fa_and]
  rfl
theorem dif_le (a b : Nat) : dif a b ≤ a := Nat.and_le_left
theorem dif_bit {a b : Nat} (i : Nat) (ha : a < 2 ^ 32) : (dif a b).testBit i = (a.testBit i && !b.testBit i) := by
  unfold dif
  rw [Nat.testBit_and, Nat.testBit_xor]
  by_cases hi : i < 32
  · rw [show (4294967295 : Nat) = 2 ^ 32 - 1 from rfl, Nat.testBit_two_pow_sub_one]
    simp [hi]
  · have e : a.testBit i = false := Nat.testBit_lt_two_pow (Nat.lt_of_lt_of_le ha (Nat.pow_le_pow_right (by decide) (by omega)))
    rw [e]; rfl
theorem dif_self {a k : Nat} (ha : a < 2 ^ 32) : dif a (2 ^ k) = a ↔ a.testBit k = false := by
  constructor
  · intro h
    have h2 := dif_bit (b := 2 ^ k) k ha
    rw [h, Nat.testBit_two_pow] at h2
    simpa using h2
  · intro h
    apply Nat.eq_of_testBit_eq
    intro i
    rw [dif_bit i ha, Nat.testBit_two_pow]
    by_cases e : k = i
    · subst e; rw [h]; rfl
    · simp [e]
theorem mayU_bit (S : Nat → Int32) (o : Nat) : ∀ n k, (mayU S o n).testBit k = true ↔ k < n ∧ whyF S k o (nI (slackN S o)) (nI (hdN S o)) = 0
  | 0, k => by simp [mayU]
  | n + 1, k => by
    have ih := mayU_bit S o n k
    unfold mayU
    rw [Nat.testBit_or, Bool.or_eq_true, ih]
    split
    next h =>
      rw [Nat.testBit_two_pow]
      constructor
      · intro z
        rcases z with z | z
        · exact ⟨by omega, z.2⟩
        · have e : n = k := of_decide_eq_true z
          subst e
          exact ⟨by omega, h⟩
      · intro z
        by_cases e : n = k
        · exact Or.inr (decide_eq_true e)
        · exact Or.inl ⟨by omega, z.2⟩
    next h =>
      rw [Nat.zero_testBit]
      constructor
      · intro z
        rcases z with z | z
        · exact ⟨by omega, z.2⟩
        · cases z
      · intro z
        by_cases e : n = k
        · subst e; exact absurd z.2 h
        · exact Or.inl ⟨by omega, z.2⟩
theorem mayN_bit {S : Nat → Int32} {o k : Nat} : (mayN S o).testBit k = true ↔ k < nv S 3 ∧ mayok S k o := mayU_bit S o _ k
theorem mayU_lt (S : Nat → Int32) (o : Nat) : ∀ n, mayU S o n < 2 ^ n
  | 0 => by simp [mayU]
  | n + 1 => by
    have ih := mayU_lt S o n
    unfold mayU
    refine Nat.or_lt_two_pow (Nat.lt_of_lt_of_le ih (Nat.pow_le_pow_right (by decide) (by omega))) ?_
    split
    · exact Nat.pow_lt_pow_right (by decide) (by omega)
    · exact Nat.two_pow_pos _
theorem mayN_lt (S : Nat → Int32) (o : Nat) : mayN S o < 2 ^ nv S 3 := mayU_lt S o _
theorem i_ne {n m : Nat} (h : ¬ n = m) (hn : n < 2147483648) (hm : m < 2147483648) : ¬ nI n = nI m := fun e => h ((nI_eq_iff hn hm).mp e)
def stS (S : Nat → Int32) (k : Nat) : Nat → Int32 := upd (upd (upd S 1 (S 1 + if plF (S 7) (S 8) (S 0) = 0 then nI (soundN S k) else 0)) 0 (S 0 + nI (takesN S k (nv S 2)))) 2 (S 2 ||| ((1 : Int32) <<< (nI k &&& 31)))
noncomputable def nowF (S : Nat → Int32) (w : Nat) : Int32 := if w = 0 then S 0 else if w = 1 then S 1 else if w = 2 then S 2 else if w = 3 then nI (slackN S (nv S 2)) else if w = 4 then nI (frN S (nv S 2)) else if w = 5 then outF (S 6) (S 2) else plF (S 7) (S 8) (S 0)
theorem plF_01 (a b c : Int32) : plF a b c = 0 ∨ plF a b c = 1 := by
  unfold plF
  split
  · exact b01
  · exact Or.inl rfl
section MC
variable {ev : EV} {σ : St2} {K : PO}
theorem R_of {l what : Int32} (hI : Inv (σ.1 1)) (h1 : ¬ (hasL (σ.1 1) l ∧ rgI what 0 12) → K (some (.int (-1000001))) (noS σ 0)) (h2 : ∀ k w, k < nv (σ.1 1) 3 → l = nI k → w ≤ 12 → what = nI w → K (some (.int (ofF (σ.1 1) k w))) σ) : Rn 1 ev mM_of [.ref 0, .int l, .int what] σ K := by
  have hG := hI.2.1.1
  have hn := hI.1.2
  have hlt : nv (σ.1 1) 2 < 1024 := by have := hG.2; omega
  refine Rn_V (by decide) rc6 rfl rfl ?_
  refine PW_blk okM_of 0 rfl SpM_ok ?_
  simp only [wL0, wLc, true_and, w2, lg0, lgi, lgr, lgl, w1, w54_2, q40, q41, q42, q43, q44, Option.toList_some, Option.toList_none, List.cons_append, List.nil_append, sp_isLock, w72]
  by_cases hl : hasL (σ.1 1) l
  rotate_left
  · refine bN (in1LN hI.1 hl) ?_
    refine PW_blk okM_of 2 rfl SpM_ok ?_
    simp only [wL0, wLc, true_and, w2, lg0, lgi, lgr, lgl, w0, w54_2, q40, q41, q42, q43, q44, Option.toList_some, Option.toList_none, List.cons_append, List.nil_append, sp_no, v7_0, v7_1, v7_2, v7_3, v7_4, v7_5, v7_6, w84]
    exact h1 (fun z => hl z.1)
  refine bY (in1LY hI.1 hl) ?_
  refine PW_blk okM_of 1 rfl SpM_ok ?_
  simp only [wL0, wLc, true_and, w1, lg0, lgi, lgr, lgl, w0, w55_3, q40, q41, q42, q43, q44, Option.toList_some, Option.toList_none, List.cons_append, List.nil_append, sp_in1, w73]
  by_cases hw : rgI what 0 12
  rotate_left
  · refine dN (in1N (by decide) (by decide) hw) ?_
    refine PW_blk okM_of 2 rfl SpM_ok ?_
    simp only [wL0, wLc, true_and, w2, lg0, lgi, lgr, lgl, w0, w54_2, q40, q41, q42, q43, q44, Option.toList_some, Option.toList_none, List.cons_append, List.nil_append, sp_no, v7_0, v7_1, v7_2, v7_3, v7_4, v7_5, v7_6, w84]
    exact h1 (fun z => hw z.2)
  refine dY (in1Y (by decide) hw) ?_
  obtain ⟨k, hk, rfl⟩ := hl
  obtain ⟨w, -, hw, rfl⟩ := hw
  have hkk := h2 k w hk rfl hw rfl
  unfold ofF at hkk
  refine PW_blk okM_of 3 rfl SpM_ok ?_
  simp only [wL0, wLc, true_and, w2, lg0, lgi, lgr, lgl, w35, kM0, rM0, kM1, nM1, w0, w39, w4, ls00, ls0i, ls0r, ls0l, lsi, lsr, lsl, Option.map_some, w1, tn2, vi2_120, tn10, vi10_120, w81, hG.1]
  by_cases c1 : w < 10
  · refine b3Y (nI_lt c1 (by decide)) ?_
    rw [if_pos c1] at hkk
    refine PW_blk okM_of 4 rfl SpM_ok ?_
    simp only [wL0, wLc, true_and, w2, lg0, lgi, lgr, lgl, w1, w54_3, q40, q41, q42, q43, q44, Option.toList_some, Option.toList_none, List.cons_append, List.nil_append, sp_get, w70, gv_n (show k < 10 by omega) c1, gt_n (show k < 10 by omega) c1]
    refine PW_blk okM_of 12 rfl SpM_ok ?_
    simp only [wL0, w84]
    exact hkk
  rw [if_neg c1] at hkk
  refine b3N (nI_nlt (a := w) (b := 10) (by omega) (by omega)) ?_
  refine PW_blk okM_of 5 rfl SpM_ok ?_
  simp only [wL0, wLc, true_and, w1, lg0, lgi, lgr, lgl, w0, w79]
  by_cases c2 : w = 10
  · subst c2
    rw [if_pos rfl] at hkk
    refine b3Y rfl ?_
    refine PW_blk okM_of 6 rfl SpM_ok ?_
    simp only [wL0, wLc, true_and, w1, lg0, lgi, lgr, lgl, w55_2, q40, q41, q42, q43, q44, Option.toList_some, Option.toList_none, List.cons_append, List.nil_append, sp_isIn, w72]
    rw [isInF_n (by omega) (by omega)]
    by_cases hb : (nv (σ.1 1) 2).testBit k = true
    · rw [if_pos hb] at hkk ⊢
      refine bY rfl ?_
      refine PW_blk okM_of 7 rfl SpM_ok ?_
      simp only [wL0, wLc, true_and, w0, w70]
      refine PW_blk okM_of 12 rfl SpM_ok ?_
      simp only [wL0, w84]
      exact hkk
    · rw [if_neg hb] at hkk ⊢
      refine bN rfl ?_
      refine PW_blk okM_of 8 rfl SpM_ok ?_
      simp only [wL0, wLc, true_and, w0, w70]
      refine PW_blk okM_of 12 rfl SpM_ok ?_
      simp only [wL0, w84]
      exact hkk
  rw [if_neg c2] at hkk
  refine b3N (i_ne c2 (by omega) (by decide)) ?_
  refine PW_blk okM_of 9 rfl SpM_ok ?_
  simp only [wL0, wLc, true_and, w1, lg0, lgi, lgr, lgl, w0, w79]
  by_cases c3 : w = 11
  · subst c3
    rw [if_pos rfl] at hkk
    refine b3Y rfl ?_
    refine PW_blk okM_of 10 rfl SpM_ok ?_
    simp only [wL0, wLc, true_and, w2, lg0, lgi, lgr, lgl, w1, w54_2, q40, q41, q42, q43, q44, Option.toList_some, Option.toList_none, List.cons_append, List.nil_append, w54_5, w70]
    refine R_slackBy hI hlt ?_
    simp only [wL0, wLc, true_and, w2, lg0, lgi, lgr, lgl, w1, w54_2, q40, q41, q42, q43, q44, Option.toList_some, Option.toList_none, List.cons_append, List.nil_append, w54_5, w70]
    refine R_freeBy hI hlt ?_
    simp only [wL0, wLc, true_and, w2, lg0, lgi, lgr, lgl, w1, w54_2, q40, q41, q42, q43, q44, Option.toList_some, Option.toList_none, List.cons_append, List.nil_append, w54_5, w70]
    refine R_takesBy hI hlt hk ?_
    simp only [wL0, wLc, true_and, w2, lg0, lgi, lgr, lgl, w1, w54_2, q40, q41, q42, q43, q44, Option.toList_some, Option.toList_none, List.cons_append, List.nil_append, w54_5, w70]
    refine PW_blk okM_of 12 rfl SpM_ok ?_
    simp only [wL0, w84]
    exact hkk
  rw [if_neg c3] at hkk
  refine b3N (i_ne c3 (by omega) (by decide)) ?_
  refine PW_blk okM_of 11 rfl SpM_ok ?_
  simp only [wL0, wLc, true_and, w2, lg0, lgi, lgr, lgl, w1, w54_2, q40, q41, q42, q43, q44, Option.toList_some, Option.toList_none, List.cons_append, List.nil_append, w71]
  refine R_soundsOf hI hk ?_
  simp only [wL0, wLc, true_and, w2, lg0, lgi, lgr, lgl, w1, w54_2, q40, q41, q42, q43, q44, Option.toList_some, Option.toList_none, List.cons_append, List.nil_append, w71]
  refine PW_blk okM_of 12 rfl SpM_ok ?_
  simp only [wL0, w84]
  exact hkk
theorem R_mostOf {w : Nat} (hI : Inv (σ.1 1)) (hw : w ≤ 9) (hk : K (some (.int (nI (mostN (σ.1 1) w)))) σ) : Rn 1 ev mM_mostOf [.ref 0, .int (nI w)] σ K := by
  have hn := hI.1.2
  refine Rn_V (by decide) rc6 rfl rfl ?_
  refine PW_blk okM_mostOf 0 rfl SpM_ok ?_
  simp only [wL0, wLc, true_and, w1, lg0, lgi, lgr, lgl, w90, wS0, wSc]
  rcases (show w = 0 ∨ w = 1 ∨ w = 2 ∨ w = 3 ∨ w = 4 ∨ w = 5 ∨ w = 6 ∨ w = 7 ∨ w = 8 ∨ w = 9 by omega) with rfl | rfl | rfl | rfl | rfl | rfl | rfl | rfl | rfl | rfl
  · refine ⟨fun _ => ?_, fun h => absurd rfl h⟩
    refine PW_blk okM_mostOf 1 rfl SpM_ok ?_
    simp only [wL0, wLc, true_and, w0, w84]
    exact hk
  · refine ⟨fun h => absurd h (by decide), fun _ => ?_⟩
    refine ⟨fun _ => ?_, fun h => absurd rfl h⟩
    refine PW_blk okM_mostOf 2 rfl SpM_ok ?_
    simp only [wL0, wLc, true_and, w0, w84]
    exact hk
  · refine ⟨fun h => absurd h (by decide), fun _ => ?_⟩
    refine ⟨fun h => absurd h (by decide), fun _ => ?_⟩
    refine ⟨fun _ => ?_, fun h => absurd rfl h⟩
    refine PW_blk okM_mostOf 8 rfl SpM_ok ?_
    simp only [wL0, wLc, true_and, w0, w84]
    exact hk
  · refine ⟨fun h => absurd h (by decide), fun _ => ?_⟩
    refine ⟨fun h => absurd h (by decide), fun _ => ?_⟩
    refine ⟨fun h => absurd h (by decide), fun _ => ?_⟩
    refine ⟨fun _ => ?_, fun h => absurd rfl h⟩
    refine PW_blk okM_mostOf 3 rfl SpM_ok ?_
    simp only [wL0, wLc, true_and, w0, w84]
    exact hk
  · refine ⟨fun h => absurd h (by decide), fun _ => ?_⟩
    refine ⟨fun h => absurd h (by decide), fun _ => ?_⟩
    refine ⟨fun h => absurd h (by decide), fun _ => ?_⟩
    refine ⟨fun h => absurd h (by decide), fun _ => ?_⟩
    refine ⟨fun _ => ?_, fun h => absurd rfl h⟩
    refine PW_blk okM_mostOf 4 rfl SpM_ok ?_
    simp only [wL0, wLc, true_and, w0, w84]
    exact hk
  · refine ⟨fun h => absurd h (by decide), fun _ => ?_⟩
    refine ⟨fun h => absurd h (by decide), fun _ => ?_⟩
    refine ⟨fun h => absurd h (by decide), fun _ => ?_⟩
    refine ⟨fun h => absurd h (by decide), fun _ => ?_⟩
    refine ⟨fun h => absurd h (by decide), fun _ => ?_⟩
    refine ⟨fun _ => ?_, fun h => absurd rfl h⟩
    refine PW_blk okM_mostOf 5 rfl SpM_ok ?_
    simp only [wL0, wLc, true_and, w0, w84]
    exact hk
  · refine ⟨fun h => absurd h (by decide), fun _ => ?_⟩
    refine ⟨fun h => absurd h (by decide), fun _ => ?_⟩
    refine ⟨fun h => absurd h (by decide), fun _ => ?_⟩
    refine ⟨fun h => absurd h (by decide), fun _ => ?_⟩
    refine ⟨fun h => absurd h (by decide), fun _ => ?_⟩
    refine ⟨fun h => absurd h (by decide), fun _ => ?_⟩
    refine ⟨fun _ => ?_, fun h => absurd rfl h⟩
    refine PW_blk okM_mostOf 6 rfl SpM_ok ?_
    simp only [wL0, wLc, true_and, w0, w84]
    exact hk
  · refine ⟨fun h => absurd h (by decide), fun _ => ?_⟩
    refine ⟨fun h => absurd h (by decide), fun _ => ?_⟩
    refine ⟨fun h => absurd h (by decide), fun _ => ?_⟩
    refine ⟨fun h => absurd h (by decide), fun _ => ?_⟩
    refine ⟨fun h => absurd h (by decide), fun _ => ?_⟩
    refine ⟨fun h => absurd h (by decide), fun _ => ?_⟩
    refine ⟨fun h => absurd h (by decide), fun _ => ?_⟩
    refine ⟨fun _ => ?_, fun h => absurd rfl h⟩
    refine PW_blk okM_mostOf 8 rfl SpM_ok ?_
    simp only [wL0, wLc, true_and, w0, w84]
    exact hk
  · refine ⟨fun h => absurd h (by decide), fun _ => ?_⟩
    refine ⟨fun h => absurd h (by decide), fun _ => ?_⟩
    refine ⟨fun h => absurd h (by decide), fun _ => ?_⟩
    refine ⟨fun h => absurd h (by decide), fun _ => ?_⟩
    refine ⟨fun h => absurd h (by decide), fun _ => ?_⟩
    refine ⟨fun h => absurd h (by decide), fun _ => ?_⟩
    refine ⟨fun h => absurd h (by decide), fun _ => ?_⟩
    refine ⟨fun h => absurd h (by decide), fun _ => ?_⟩
    refine ⟨fun _ => ?_, fun h => absurd rfl h⟩
    refine PW_blk okM_mostOf 7 rfl SpM_ok ?_
    simp only [wL0, wLc, true_and, w2, lg0, lgi, lgr, lgl, w54_1, q40, q41, q42, q43, q44, Option.toList_some, Option.toList_none, List.cons_append, List.nil_append, sp_allLocks, w84, hI.1.1]
    rw [alF_n _ (by omega)]
    exact hk
  · refine ⟨fun h => absurd h (by decide), fun _ => ?_⟩
    refine ⟨fun h => absurd h (by decide), fun _ => ?_⟩
    refine ⟨fun h => absurd h (by decide), fun _ => ?_⟩
    refine ⟨fun h => absurd h (by decide), fun _ => ?_⟩
    refine ⟨fun h => absurd h (by decide), fun _ => ?_⟩
    refine ⟨fun h => absurd h (by decide), fun _ => ?_⟩
    refine ⟨fun h => absurd h (by decide), fun _ => ?_⟩
    refine ⟨fun h => absurd h (by decide), fun _ => ?_⟩
    refine ⟨fun h => absurd h (by decide), fun _ => ?_⟩
    refine ⟨fun _ => ?_, fun h => absurd rfl h⟩
    refine PW_blk okM_mostOf 7 rfl SpM_ok ?_
    simp only [wL0, wLc, true_and, w2, lg0, lgi, lgr, lgl, w54_1, q40, q41, q42, q43, q44, Option.toList_some, Option.toList_none, List.cons_append, List.nil_append, sp_allLocks, w84, hI.1.1]
    rw [alF_n _ (by omega)]
    exact hk
theorem mostN_lt {S : Nat → Int32} {w : Nat} (h : nv S 3 ≤ 10) : mostN S w < 1024 := by
  have := p2le _ h
  unfold mostN
  repeat' split
  all_goals omega
theorem mostR_lt {S : Nat → Int32} {w : Nat} (h : nv S 3 ≤ 10) : mostR S w < 1024 := by
  have := p2le _ h
  unfold mostR
  repeat' split
  all_goals omega
theorem R_change {l what v : Int32} (hI : Inv (σ.1 1)) (h1 : ¬ okC (σ.1 1) l what v → K (some (.int (-1000001))) (noS σ 0)) (h2 : ∀ k w n, k < nv (σ.1 1) 3 → l = nI k → w ≤ 9 → what = nI w → leastN w ≤ n → n ≤ mostN (σ.1 1) w → v = nI n → K (some (.int (σ.1 1 (tr k w)))) (sr σ 1 (upd (σ.1 1) (tr k w) (nI n)))) : Rn 1 ev mM_change [.ref 0, .int l, .int what, .int v] σ K := by
  have hn := hI.1.2
  refine Rn_V (by decide) rc6 rfl rfl ?_
  refine PW_blk okM_change 0 rfl SpM_ok ?_
  simp only [wL0, wLc, true_and, w2, lg0, lgi, lgr, lgl, w1, w54_2, q40, q41, q42, q43, q44, Option.toList_some, Option.toList_none, List.cons_append, List.nil_append, sp_isLock, w72]
  by_cases hl : hasL (σ.1 1) l
  rotate_left
  · refine bN (in1LN hI.1 hl) ?_
    refine PW_blk okM_change 6 rfl SpM_ok ?_
    simp only [wL0, wLc, true_and, w2, lg0, lgi, lgr, lgl, w0, w54_2, q40, q41, q42, q43, q44, Option.toList_some, Option.toList_none, List.cons_append, List.nil_append, sp_no, v7_0, v7_1, v7_2, v7_3, v7_4, v7_5, v7_6, w84]
    exact h1 (fun z => by obtain ⟨k, w, n, a, b, -⟩ := z; exact hl ⟨k, a, b⟩)
  refine bY (in1LY hI.1 hl) ?_
  refine PW_blk okM_change 1 rfl SpM_ok ?_
  simp only [wL0, wLc, true_and, w1, lg0, lgi, lgr, lgl, w0, w55_3, q40, q41, q42, q43, q44, Option.toList_some, Option.toList_none, List.cons_append, List.nil_append, sp_in1, w72]
  by_cases hw : rgI what 0 9
  rotate_left
  · refine bN (in1N (by decide) (by decide) hw) ?_
    refine PW_blk okM_change 6 rfl SpM_ok ?_
    simp only [wL0, wLc, true_and, w2, lg0, lgi, lgr, lgl, w0, w54_2, q40, q41, q42, q43, q44, Option.toList_some, Option.toList_none, List.cons_append, List.nil_append, sp_no, v7_0, v7_1, v7_2, v7_3, v7_4, v7_5, v7_6, w84]
    exact h1 (fun z => by obtain ⟨k, w, n, a, b, c, d, -⟩ := z; exact hw ⟨w, by omega, c, d⟩)
  refine bY (in1Y (by decide) hw) ?_
  obtain ⟨k, hk, rfl⟩ := hl
  obtain ⟨w, -, hw, rfl⟩ := hw
  have fin : PW 1 ev mM_change 29 [.ref 0, .int (nI k), .int (nI w), .int v] [.int (nI (leastN w)), .int v] σ K := by
    refine PW_blk okM_change 5 rfl SpM_ok ?_
    simp only [wL0, wLc, true_and, w2, lg0, lgi, lgr, lgl, w1, w54_2, q40, q41, q42, q43, q44, Option.toList_some, Option.toList_none, List.cons_append, List.nil_append, w55_3, sp_in1, w73]
    refine R_mostOf hI hw ?_
    simp only [wL0, wLc, true_and, w2, lg0, lgi, lgr, lgl, w1, w54_2, q40, q41, q42, q43, q44, Option.toList_some, Option.toList_none, List.cons_append, List.nil_append, w55_3, sp_in1, w73]
    by_cases hv : rgI v (leastN w) (mostN (σ.1 1) w)
    rotate_left
    · refine dN (in1N (by have := mostN_lt (w := w) hn; omega) (by unfold leastN; split <;> decide) hv) ?_
      refine PW_blk okM_change 6 rfl SpM_ok ?_
      simp only [wL0, wLc, true_and, w2, lg0, lgi, lgr, lgl, w0, w54_2, q40, q41, q42, q43, q44, Option.toList_some, Option.toList_none, List.cons_append, List.nil_append, sp_no, v7_0, v7_1, v7_2, v7_3, v7_4, v7_5, v7_6, w84]
      refine h1 (fun z => ?_)
      obtain ⟨k', w', n, -, -, c, d, e, f, g⟩ := z
      have e2 : w = w' := (nI_eq_iff (by omega) (by omega)).mp d
      subst e2
      exact hv ⟨n, e, f, g⟩
    refine dY (in1Y (by have := mostN_lt (w := w) hn; omega) hv) ?_
    obtain ⟨n, hv1, hv2, rfl⟩ := hv
    have hk10 : k < 10 := by omega
    have hw10 : w < 10 := by omega
    refine PW_blk okM_change 7 rfl SpM_ok ?_
    simp only [wL0, wLc, true_and, w2, lg0, lgi, lgr, lgl, w1, w54_3, q40, q41, q42, q43, q44, Option.toList_some, Option.toList_none, List.cons_append, List.nil_append, sp_get, w4, ls00, ls0i, ls0r, ls0l, lsi, lsr, lsl, Option.map_some, w54_4, sp_puts, w84, gv_n hk10 hw10, gt_n hk10 hw10, si_is]
    exact h2 k w n hk rfl hw rfl hv1 hv2 rfl
  refine PW_blk okM_change 2 rfl SpM_ok ?_
  simp only [wL0, wLc, true_and, w1, lg0, lgi, lgr, lgl, w0, w79]
  by_cases c : w = 1
  · subst c
    refine b3Y rfl ?_
    refine PW_blk okM_change 3 rfl SpM_ok ?_
    simp only [wL0, wLc, true_and, w0, w70]
    exact fin
  · refine b3N (i_ne c (by omega) (by decide)) ?_
    refine PW_blk okM_change 4 rfl SpM_ok ?_
    simp only [wL0, wLc, true_and, w0, w71]
    unfold leastN at fin
    rw [if_neg c] at fin
    exact fin
theorem R_rule {what v : Int32} (hI : Inv (σ.1 1)) (h1 : ¬ okR (σ.1 1) what v → K (some (.int (-1000001))) (noS σ 0)) (h2 : ∀ w n, w ≤ 4 → what = nI w → n ≤ mostR (σ.1 1) w → v = nI n → K (some (.int (σ.1 1 (4 + w)))) (sr σ 1 (upd (σ.1 1) (4 + w) (nI n)))) : Rn 1 ev mM_rule [.ref 0, .int what, .int v] σ K := by
  have hn := hI.1.2
  refine Rn_V (by decide) rc6 rfl rfl ?_
  refine PW_blk okM_rule 0 rfl SpM_ok ?_
  simp only [wL0, wLc, true_and, w1, lg0, lgi, lgr, lgl, w0, w55_3, q40, q41, q42, q43, q44, Option.toList_some, Option.toList_none, List.cons_append, List.nil_append, sp_in1, w73]
  by_cases hw : rgI what 0 4
  rotate_left
  · refine dN (in1N (by decide) (by decide) hw) ?_
    refine PW_blk okM_rule 1 rfl SpM_ok ?_
    simp only [wL0, wLc, true_and, w2, lg0, lgi, lgr, lgl, w0, w54_2, q40, q41, q42, q43, q44, Option.toList_some, Option.toList_none, List.cons_append, List.nil_append, sp_no, v7_0, v7_1, v7_2, v7_3, v7_4, v7_5, v7_6, w84]
    exact h1 (fun z => by obtain ⟨w, n, c, d, -⟩ := z; exact hw ⟨w, by omega, c, d⟩)
  refine dY (in1Y (by decide) hw) ?_
  obtain ⟨w, -, hw, rfl⟩ := hw
  have fin : PW 1 ev mM_rule 50 [.ref 0, .int (nI w), .int v] [.int (nI (mostR (σ.1 1) w)), .int 0, .int v] σ K := by
    refine PW_blk okM_rule 9 rfl SpM_ok ?_
    simp only [wL0, wLc, true_and, w55_3, q40, q41, q42, q43, q44, Option.toList_some, Option.toList_none, List.cons_append, List.nil_append, sp_in1, w73]
    by_cases hv : rgI v 0 (mostR (σ.1 1) w)
    rotate_left
    · refine dN (in1N (by have := mostR_lt (w := w) hn; omega) (by decide) hv) ?_
      refine PW_blk okM_rule 10 rfl SpM_ok ?_
      simp only [wL0, wLc, true_and, w2, lg0, lgi, lgr, lgl, w0, w54_2, q40, q41, q42, q43, q44, Option.toList_some, Option.toList_none, List.cons_append, List.nil_append, sp_no, v7_0, v7_1, v7_2, v7_3, v7_4, v7_5, v7_6, w84]
      refine h1 (fun z => ?_)
      obtain ⟨w', n, c, d, f, g⟩ := z
      have e2 : w = w' := (nI_eq_iff (by omega) (by omega)).mp d
      subst e2
      exact hv ⟨n, by omega, f, g⟩
    refine dY (in1Y (by have := mostR_lt (w := w) hn; omega) hv) ?_
    obtain ⟨n, hv1, hv2, rfl⟩ := hv
    refine PW_blk okM_rule 11 rfl SpM_ok ?_
    simp only [wL0, wLc, true_and, w2, lg0, lgi, lgr, lgl, w35, kM0, rM0, kM1, nM1, w0, w1, w11, w39, w4, ls00, ls0i, ls0r, ls0l, lsi, lsr, lsl, Option.map_some, w40, tn4, vi4_120, w84, si_is]
    rw [show (4 : Int32) = nI 4 from rfl, nI_add, nI_clamp (show 4 + w < 2 ^ 31 by omega)]
    exact ⟨vp_in_nI (by omega) (by decide), vp_in_nI (by omega) (by decide), h2 w n hw rfl hv2 rfl⟩
  refine PW_blk okM_rule 2 rfl SpM_ok ?_
  simp only [wL0, wLc, true_and, w1, lg0, lgi, lgr, lgl, w0, w73]
  rcases (show w = 0 ∨ w = 1 ∨ w = 2 ∨ w = 3 ∨ w = 4 by omega) with rfl | rfl | rfl | rfl | rfl
  · refine b3Y rfl ?_
    refine PW_blk okM_rule 3 rfl SpM_ok ?_
    simp only [wL0, wLc, true_and, w0, w70]
    exact fin
  · refine b3N (by decide) ?_
    refine PW_blk okM_rule 4 rfl SpM_ok ?_
    simp only [wL0, wLc, true_and, w1, lg0, lgi, lgr, lgl, w0, w79]
    refine b3Y rfl ?_
    refine PW_blk okM_rule 5 rfl SpM_ok ?_
    simp only [wL0, wLc, true_and, w0, w70]
    exact fin
  · refine b3N (by decide) ?_
    refine PW_blk okM_rule 4 rfl SpM_ok ?_
    simp only [wL0, wLc, true_and, w1, lg0, lgi, lgr, lgl, w0, w79]
    refine b3N (by decide) ?_
    refine PW_blk okM_rule 6 rfl SpM_ok ?_
    simp only [wL0, wLc, true_and, w1, lg0, lgi, lgr, lgl, w0, w79]
    refine b3Y rfl ?_
    refine PW_blk okM_rule 7 rfl SpM_ok ?_
    simp only [wL0, wLc, true_and, w2, lg0, lgi, lgr, lgl, w54_1, q40, q41, q42, q43, q44, Option.toList_some, Option.toList_none, List.cons_append, List.nil_append, sp_allLocks, w70, hI.1.1]
    rw [alF_n _ (by omega)]
    exact fin
  · refine b3N (by decide) ?_
    refine PW_blk okM_rule 4 rfl SpM_ok ?_
    simp only [wL0, wLc, true_and, w1, lg0, lgi, lgr, lgl, w0, w79]
    refine b3N (by decide) ?_
    refine PW_blk okM_rule 6 rfl SpM_ok ?_
    simp only [wL0, wLc, true_and, w1, lg0, lgi, lgr, lgl, w0, w79]
    refine b3N (by decide) ?_
    refine PW_blk okM_rule 8 rfl SpM_ok ?_
    simp only [wL0, wLc, true_and, w0, w71]
    exact fin
  · refine b3N (by decide) ?_
    refine PW_blk okM_rule 4 rfl SpM_ok ?_
    simp only [wL0, wLc, true_and, w1, lg0, lgi, lgr, lgl, w0, w79]
    refine b3N (by decide) ?_
    refine PW_blk okM_rule 6 rfl SpM_ok ?_
    simp only [wL0, wLc, true_and, w1, lg0, lgi, lgr, lgl, w0, w79]
    refine b3N (by decide) ?_
    refine PW_blk okM_rule 8 rfl SpM_ok ?_
    simp only [wL0, wLc, true_and, w0, w71]
    exact fin
theorem R_on {l : Int32} (hI : Inv (σ.1 1)) (h1 : ¬ hasL (σ.1 1) l → K (some (.int (-1000001))) (noS σ 0)) (h2 : ∀ k, k < nv (σ.1 1) 3 → l = nI k → K (some (.int (if (nv (σ.1 1) 2).testBit k then 1 else 0))) (sr σ 1 (upd (σ.1 1) 2 (nI (dif (nv (σ.1 1) 2) (2 ^ k)))))) : Rn 1 ev mM_on [.ref 0, .int l] σ K := by
  have hG := hI.2.1.1
  have hn := hI.1.2
  have hlt : nv (σ.1 1) 2 < 1024 := by have := hG.2; omega
  refine Rn_V (by decide) rc6 rfl rfl ?_
  refine PW_blk okM_on 0 rfl SpM_ok ?_
  simp only [wL0, wLc, true_and, w2, lg0, lgi, lgr, lgl, w1, w54_2, q40, q41, q42, q43, q44, Option.toList_some, Option.toList_none, List.cons_append, List.nil_append, sp_isLock, w73]
  by_cases hl : hasL (σ.1 1) l
  rotate_left
  · refine dN (in1LN hI.1 hl) ?_
    refine PW_blk okM_on 1 rfl SpM_ok ?_
    simp only [wL0, wLc, true_and, w2, lg0, lgi, lgr, lgl, w0, w54_2, q40, q41, q42, q43, q44, Option.toList_some, Option.toList_none, List.cons_append, List.nil_append, sp_no, v7_0, v7_1, v7_2, v7_3, v7_4, v7_5, v7_6, w84]
    exact h1 hl
  refine dY (in1LY hI.1 hl) ?_
  obtain ⟨k, hk, rfl⟩ := hl
  have hkk := h2 k hk rfl
  refine PW_blk okM_on 2 rfl SpM_ok ?_
  simp only [wL0, wLc, true_and, w2, lg0, lgi, lgr, lgl, w35, kM0, rM0, kM1, nM1, w0, w39, w4, ls00, ls0i, ls0r, ls0l, lsi, lsr, lsl, Option.map_some, w10i, w10r, w1, w19, w18, w16, w40, tn1, vi1_120, tn2, vi2_120, w79, si_is, sr1, updS]
  rw [nI_sh1 k (by omega), hG.1, dif_I, nI_eq_iff (by omega) (by have := dif_le (nv (σ.1 1) 2) (2 ^ k); omega), eq_comm, dif_self (by omega)]
  by_cases hb : (nv (σ.1 1) 2).testBit k = true
  · rw [if_pos hb] at hkk
    refine b3N (by rw [hb]; decide) ?_
    refine PW_blk okM_on 4 rfl SpM_ok ?_
    simp only [wL0, wLc, true_and, w0, w71]
    refine PW_blk okM_on 5 rfl SpM_ok ?_
    simp only [wL0, w84]
    exact hkk
  · rw [if_neg hb] at hkk
    refine b3Y (by simpa using hb) ?_
    refine PW_blk okM_on 3 rfl SpM_ok ?_
    simp only [wL0, wLc, true_and, w0, w70]
    refine PW_blk okM_on 5 rfl SpM_ok ?_
    simp only [wL0, w84]
    exact hkk
theorem R_shut (hI : Inv (σ.1 1)) (hk : K (some (.int (nI (pcn (nv (σ.1 1) 2))))) (sr σ 1 (upd (upd (upd (σ.1 1) 2 0) 0 0) 1 0))) : Rn 1 ev mM_shut [.ref 0] σ K := by
  have hG := hI.2.1.1
  have hlt : nv (σ.1 1) 2 < 1024 := by have := hG.2; omega
  refine Rn_V (by decide) rc6 rfl rfl ?_
  refine PW_blk okM_shut 0 rfl SpM_ok ?_
  simp only [wL0, wLc, true_and, w2, lg0, lgi, lgr, lgl, w35, kM0, rM0, kM1, nM1, w0, w39, w55_1, q40, q41, q42, q43, q44, Option.toList_some, Option.toList_none, List.cons_append, List.nil_append, w4, ls00, ls0i, ls0r, ls0l, lsi, lsr, lsl, Option.map_some, w40, w1, tn0, vi0_120, tn1, vi1_120, tn2, vi2_120, w84, hG.1]
  refine R_bits hlt ?_
  simp only [wL0, wLc, true_and, w2, lg0, lgi, lgr, lgl, w35, kM0, rM0, kM1, nM1, w0, w39, w55_1, q40, q41, q42, q43, q44, Option.toList_some, Option.toList_none, List.cons_append, List.nil_append, w4, ls00, ls0i, ls0r, ls0l, lsi, lsr, lsl, Option.map_some, w40, w1, tn0, vi0_120, tn1, vi1_120, tn2, vi2_120, w84, si_is, sr1, sr_sr]
  exact hk
theorem R_may (hI : Inv (σ.1 1)) (hk : K (some (.int (nI (mayN (σ.1 1) (nv (σ.1 1) 2))))) σ) : Rn 1 ev mM_may [.ref 0] σ K := by
  have hG := hI.2.1.1
  have hlt : nv (σ.1 1) 2 < 1024 := by have := hG.2; omega
  refine Rn_V (by decide) rc6 rfl rfl ?_
  refine PW_blk okM_may 0 rfl SpM_ok ?_
  simp only [wL0, wLc, true_and, w2, lg0, lgi, lgr, lgl, w35, kM0, rM0, kM1, nM1, w0, w39, w54_2, q40, q41, q42, q43, q44, Option.toList_some, Option.toList_none, List.cons_append, List.nil_append, tn2, vi2_120, w84, hG.1]
  refine R_mayBy hI hlt ?_
  simp only [wL0, wLc, true_and, w2, lg0, lgi, lgr, lgl, w35, kM0, rM0, kM1, nM1, w0, w39, w54_2, q40, q41, q42, q43, q44, Option.toList_some, Option.toList_none, List.cons_append, List.nil_append, tn2, vi2_120, w84]
  exact hk
theorem R_why {l : Int32} (hI : Inv (σ.1 1)) (h1 : ¬ hasL (σ.1 1) l → K (some (.int (-1000001))) (noS σ 0)) (h2 : ∀ k, k < nv (σ.1 1) 3 → l = nI k → K (some (.int (whyF (σ.1 1) k (nv (σ.1 1) 2) (nI (slackN (σ.1 1) (nv (σ.1 1) 2))) (nI (hdN (σ.1 1) (nv (σ.1 1) 2)))))) σ) : Rn 1 ev mM_why [.ref 0, .int l] σ K := by
  have hG := hI.2.1.1
  have hlt : nv (σ.1 1) 2 < 1024 := by have := hG.2; omega
  refine Rn_V (by decide) rc6 rfl rfl ?_
  refine PW_blk okM_why 0 rfl SpM_ok ?_
  simp only [wL0, wLc, true_and, w2, lg0, lgi, lgr, lgl, w1, w54_2, q40, q41, q42, q43, q44, Option.toList_some, Option.toList_none, List.cons_append, List.nil_append, sp_isLock, w72]
  by_cases hl : hasL (σ.1 1) l
  rotate_left
  · refine bN (in1LN hI.1 hl) ?_
    refine PW_blk okM_why 2 rfl SpM_ok ?_
    simp only [wL0, wLc, true_and, w2, lg0, lgi, lgr, lgl, w0, w54_2, q40, q41, q42, q43, q44, Option.toList_some, Option.toList_none, List.cons_append, List.nil_append, sp_no, v7_0, v7_1, v7_2, v7_3, v7_4, v7_5, v7_6, w71]
    refine PW_blk okM_why 3 rfl SpM_ok ?_
    simp only [wL0, w84]
    exact h1 hl
  refine bY (in1LY hI.1 hl) ?_
  obtain ⟨k, hk, rfl⟩ := hl
  refine PW_blk okM_why 1 rfl SpM_ok ?_
  simp only [wL0, wLc, true_and, w2, lg0, lgi, lgr, lgl, w1, w35, kM0, rM0, kM1, nM1, w0, w39, w54_2, q40, q41, q42, q43, q44, Option.toList_some, Option.toList_none, List.cons_append, List.nil_append, w54_5, tn2, vi2_120, w70, hG.1]
  refine R_slackBy hI hlt ?_
  simp only [wL0, wLc, true_and, w2, lg0, lgi, lgr, lgl, w1, w35, kM0, rM0, kM1, nM1, w0, w39, w54_2, q40, q41, q42, q43, q44, Option.toList_some, Option.toList_none, List.cons_append, List.nil_append, w54_5, tn2, vi2_120, w70, hG.1]
  refine R_freeBy hI hlt ?_
  simp only [wL0, wLc, true_and, w2, lg0, lgi, lgr, lgl, w1, w35, kM0, rM0, kM1, nM1, w0, w39, w54_2, q40, q41, q42, q43, q44, Option.toList_some, Option.toList_none, List.cons_append, List.nil_append, w54_5, tn2, vi2_120, w70]
  refine R_whyBy hI hlt (by have := frN_lt (σ.1 1) (nv (σ.1 1) 2); omega) hk ?_
  simp only [wL0, wLc, true_and, w2, lg0, lgi, lgr, lgl, w1, w35, kM0, rM0, kM1, nM1, w0, w39, w54_2, q40, q41, q42, q43, q44, Option.toList_some, Option.toList_none, List.cons_append, List.nil_append, w54_5, tn2, vi2_120, w70]
  refine PW_blk okM_why 3 rfl SpM_ok ?_
  simp only [wL0, w84]
  exact h2 k hk rfl
theorem R_comesOff {k : Nat} (hI : Inv (σ.1 1)) (hkn : k < nv (σ.1 1) 3) (hk : K none (sr σ 1 (stS (σ.1 1) k))) : Rn 1 ev mM_comesOff [.ref 0, .int (nI k)] σ K := by
  refine Rn_V (by decide) rc6 rfl rfl ?_
  refine PW_blk okM_comesOff 0 rfl SpM_ok ?_
  simp only [wL0, wLc, true_and, w2, lg0, lgi, lgr, lgl, w1, w54_2, q40, q41, q42, q43, q44, Option.toList_some, Option.toList_none, List.cons_append, List.nil_append, w4, ls00, ls0i, ls0r, ls0l, lsi, lsr, lsl, Option.map_some, w35, kM0, rM0, kM1, nM1, w0, w10i, w10r, w39, sp_doesPlay, tn0, vi0_120, tn1, vi1_120, w72]
  refine R_takesNow hI hkn ?_
  simp only [wL0, wLc, true_and, w2, lg0, lgi, lgr, lgl, w1, w54_2, q40, q41, q42, q43, q44, Option.toList_some, Option.toList_none, List.cons_append, List.nil_append, w4, ls00, ls0i, ls0r, ls0l, lsi, lsr, lsl, Option.map_some, w35, kM0, rM0, kM1, nM1, w0, w10i, w10r, w39, sp_doesPlay, tn0, vi0_120, tn1, vi1_120, w72]
  unfold stS at hk
  rcases plF_01 (σ.1 1 7) (σ.1 1 8) (σ.1 1 0) with h | h
  · rw [if_pos h] at hk
    refine bN h ?_
    refine PW_blk okM_comesOff 2 rfl SpM_ok ?_
    simp only [wL0, wLc, true_and, w2, lg0, lgi, lgr, lgl, w1, w54_2, q40, q41, q42, q43, q44, Option.toList_some, Option.toList_none, List.cons_append, List.nil_append, w71]
    refine R_soundsOf hI hkn ?_
    simp only [wL0, wLc, true_and, w2, lg0, lgi, lgr, lgl, w1, w54_2, q40, q41, q42, q43, q44, Option.toList_some, Option.toList_none, List.cons_append, List.nil_append, w71]
    refine PW_blk okM_comesOff 3 rfl SpM_ok ?_
    simp only [wL0, wLc, true_and, w11, w40, w2, lg0, lgi, lgr, lgl, w35, kM0, rM0, kM1, nM1, w0, w10i, w10r, w39, w1, w19, w17, tn0, vi0_120, tn1, vi1_120, tn2, vi2_120, w87, si_is, sr1, sr_sr, updI, if_false, if_true]
    exact hk
  · rw [if_neg (by rw [h]; decide)] at hk
    refine bY h ?_
    refine PW_blk okM_comesOff 1 rfl SpM_ok ?_
    simp only [wL0, wLc, true_and, w0, w70]
    refine PW_blk okM_comesOff 3 rfl SpM_ok ?_
    simp only [wL0, wLc, true_and, w11, w40, w2, lg0, lgi, lgr, lgl, w35, kM0, rM0, kM1, nM1, w0, w10i, w10r, w39, w1, w19, w17, tn0, vi0_120, tn1, vi1_120, tn2, vi2_120, w87, si_is, sr1, sr_sr, updI, if_false, if_true]
    exact hk
theorem R_off {l : Int32} (hI : Inv (σ.1 1)) (h1 : ¬ hasL (σ.1 1) l → K (some (.int (-1000001))) (noS σ 0)) (h2 : ∀ k, k < nv (σ.1 1) 3 → l = nI k → ¬ (mayok (σ.1 1) k (nv (σ.1 1) 2) ∧ nv (σ.1 1) 0 + takesN (σ.1 1) k (nv (σ.1 1) 2) ≤ 99999) → K (some (.int (-1000005))) (noS σ 4)) (h3 : ∀ k, k < nv (σ.1 1) 3 → l = nI k → mayok (σ.1 1) k (nv (σ.1 1) 2) → nv (σ.1 1) 0 + takesN (σ.1 1) k (nv (σ.1 1) 2) ≤ 99999 → K (some (.int (nI (takesN (σ.1 1) k (nv (σ.1 1) 2))))) (sr σ 1 (stS (σ.1 1) k))) : Rn 1 ev mM_off [.ref 0, .int l] σ K := by
  have hG := hI.2.1.1
  have hn := hI.1.2
  have hC := hI.2.2.1
  have hlt : nv (σ.1 1) 2 < 1024 := by have := hG.2; omega
  refine Rn_V (by decide) rc6 rfl rfl ?_
  refine PW_blk okM_off 0 rfl SpM_ok ?_
  simp only [wL0, wLc, true_and, w2, lg0, lgi, lgr, lgl, w1, w54_2, q40, q41, q42, q43, q44, Option.toList_some, Option.toList_none, List.cons_append, List.nil_append, sp_isLock, w73]
  by_cases hl : hasL (σ.1 1) l
  rotate_left
  · refine dN (in1LN hI.1 hl) ?_
    refine PW_blk okM_off 1 rfl SpM_ok ?_
    simp only [wL0, wLc, true_and, w2, lg0, lgi, lgr, lgl, w0, w54_2, q40, q41, q42, q43, q44, Option.toList_some, Option.toList_none, List.cons_append, List.nil_append, sp_no, v7_0, v7_1, v7_2, v7_3, v7_4, v7_5, v7_6, w84]
    exact h1 hl
  refine dY (in1LY hI.1 hl) ?_
  obtain ⟨k, hk, rfl⟩ := hl
  have ht := takes_le hI (o := nv (σ.1 1) 2) hk
  refine PW_blk okM_off 2 rfl SpM_ok ?_
  simp only [wL0, wLc, true_and, w2, lg0, lgi, lgr, lgl, w1, w54_2, q40, q41, q42, q43, q44, Option.toList_some, Option.toList_none, List.cons_append, List.nil_append, w4, ls00, ls0i, ls0r, ls0l, lsi, lsr, lsl, Option.map_some, w35, kM0, rM0, kM1, nM1, w0, w39, w55_2, sp_isIn, tn2, vi2_120, w72, hG.1]
  refine R_takesNow hI hk ?_
  simp only [wL0, wLc, true_and, w2, lg0, lgi, lgr, lgl, w1, w54_2, q40, q41, q42, q43, q44, Option.toList_some, Option.toList_none, List.cons_append, List.nil_append, w4, ls00, ls0i, ls0r, ls0l, lsi, lsr, lsl, Option.map_some, w35, kM0, rM0, kM1, nM1, w0, w39, w55_2, sp_isIn, tn2, vi2_120, w72, hG.1]
  refine R_mayBy hI hlt ?_
  simp only [wL0, wLc, true_and, w2, lg0, lgi, lgr, lgl, w1, w54_2, q40, q41, q42, q43, q44, Option.toList_some, Option.toList_none, List.cons_append, List.nil_append, w4, ls00, ls0i, ls0r, ls0l, lsi, lsr, lsl, Option.map_some, w35, kM0, rM0, kM1, nM1, w0, w39, w55_2, sp_isIn, tn2, vi2_120, w72]
  have hm := mayN_lt (σ.1 1) (nv (σ.1 1) 2)
  have hp := p2le _ hn
  rw [isInF_n (by omega) (by omega)]
  by_cases hb : (mayN (σ.1 1) (nv (σ.1 1) 2)).testBit k = true
  rotate_left
  · refine bN (if_neg hb) ?_
    refine PW_blk okM_off 4 rfl SpM_ok ?_
    simp only [wL0, wLc, true_and, w2, lg0, lgi, lgr, lgl, w0, w54_2, q40, q41, q42, q43, q44, Option.toList_some, Option.toList_none, List.cons_append, List.nil_append, sp_no, v7_0, v7_1, v7_2, v7_3, v7_4, v7_5, v7_6, w84]
    exact h2 k hk rfl (fun z => hb (mayN_bit.mpr ⟨hk, z.1⟩))
  have hmk := (mayN_bit.mp hb).2
  refine bY (if_pos hb) ?_
  refine PW_blk okM_off 3 rfl SpM_ok ?_
  simp only [wL0, wLc, true_and, w2, lg0, lgi, lgr, lgl, w35, kM0, rM0, kM1, nM1, w0, w39, w1, w11, tn0, vi0_120, w83, hC.1]
  have hC2 := hC.2
  rw [nI_add, show (99999 : Int32) = nI 99999 from rfl, nI_lt_iff (by decide) (by omega)]
  by_cases hc : 99999 < nv (σ.1 1) 0 + takesN (σ.1 1) k (nv (σ.1 1) 2)
  · refine b3Y hc ?_
    refine PW_blk okM_off 4 rfl SpM_ok ?_
    simp only [wL0, wLc, true_and, w2, lg0, lgi, lgr, lgl, w0, w54_2, q40, q41, q42, q43, q44, Option.toList_some, Option.toList_none, List.cons_append, List.nil_append, sp_no, v7_0, v7_1, v7_2, v7_3, v7_4, v7_5, v7_6, w84]
    exact h2 k hk rfl (fun z => by have := z.2; omega)
  · refine b3N hc ?_
    refine PW_blk okM_off 5 rfl SpM_ok ?_
    simp only [wL0, wLc, true_and, w2, lg0, lgi, lgr, lgl, w1, w54_2, q40, q41, q42, q43, q44, Option.toList_some, Option.toList_none, List.cons_append, List.nil_append, w84]
    refine R_comesOff hI hk ?_
    simp only [wL0, wLc, true_and, w2, lg0, lgi, lgr, lgl, w1, w54_2, q40, q41, q42, q43, q44, Option.toList_some, Option.toList_none, List.cons_append, List.nil_append, w84]
    exact h3 k hk rfl hmk (by omega)
theorem R_now {what : Int32} (hI : Inv (σ.1 1)) (h1 : ¬ rgI what 0 6 → K (some (.int (-1000001))) (noS σ 0)) (h2 : ∀ w, w ≤ 6 → what = nI w → K (some (.int (nowF (σ.1 1) w))) σ) : Rn 1 ev mM_now [.ref 0, .int what] σ K := by
  have hG := hI.2.1.1
  have hlt : nv (σ.1 1) 2 < 1024 := by have := hG.2; omega
  refine Rn_V (by decide) rc6 rfl rfl ?_
  refine PW_blk okM_now 0 rfl SpM_ok ?_
  simp only [wL0, wLc, true_and, w1, lg0, lgi, lgr, lgl, w90, wS0, wSc]
  by_cases hw : rgI what 0 6
  rotate_left
  · have hw' := h1 hw
    refine ⟨fun h => absurd ⟨0, by decide, by decide, h⟩ hw, fun _ => ?_⟩
    refine ⟨fun h => absurd ⟨1, by decide, by decide, h⟩ hw, fun _ => ?_⟩
    refine ⟨fun h => absurd ⟨2, by decide, by decide, h⟩ hw, fun _ => ?_⟩
    refine ⟨fun h => absurd ⟨3, by decide, by decide, h⟩ hw, fun _ => ?_⟩
    refine ⟨fun h => absurd ⟨4, by decide, by decide, h⟩ hw, fun _ => ?_⟩
    refine ⟨fun h => absurd ⟨5, by decide, by decide, h⟩ hw, fun _ => ?_⟩
    refine ⟨fun h => absurd ⟨6, by decide, by decide, h⟩ hw, fun _ => ?_⟩
    refine PW_blk okM_now 14 rfl SpM_ok ?_
    simp only [wL0, wLc, true_and, w2, lg0, lgi, lgr, lgl, w0, w54_2, q40, q41, q42, q43, q44, Option.toList_some, Option.toList_none, List.cons_append, List.nil_append, sp_no, v7_0, v7_1, v7_2, v7_3, v7_4, v7_5, v7_6, w84]
    exact hw'
  obtain ⟨w, -, hw, rfl⟩ := hw
  have hkk := h2 w hw rfl
  rcases (show w = 0 ∨ w = 1 ∨ w = 2 ∨ w = 3 ∨ w = 4 ∨ w = 5 ∨ w = 6 by omega) with rfl | rfl | rfl | rfl | rfl | rfl | rfl
  · refine ⟨fun _ => ?_, fun h => absurd rfl h⟩
    refine PW_blk okM_now 1 rfl SpM_ok ?_
    simp only [wL0, wLc, true_and, w2, lg0, lgi, lgr, lgl, w35, kM0, rM0, kM1, nM1, w0, w39, tn0, vi0_120, w84]
    exact hkk
  · refine ⟨fun h => absurd h (by decide), fun _ => ?_⟩
    refine ⟨fun _ => ?_, fun h => absurd rfl h⟩
    refine PW_blk okM_now 2 rfl SpM_ok ?_
    simp only [wL0, wLc, true_and, w2, lg0, lgi, lgr, lgl, w35, kM0, rM0, kM1, nM1, w0, w39, tn1, vi1_120, w84]
    exact hkk
  · refine ⟨fun h => absurd h (by decide), fun _ => ?_⟩
    refine ⟨fun h => absurd h (by decide), fun _ => ?_⟩
    refine ⟨fun _ => ?_, fun h => absurd rfl h⟩
    refine PW_blk okM_now 3 rfl SpM_ok ?_
    simp only [wL0, wLc, true_and, w2, lg0, lgi, lgr, lgl, w35, kM0, rM0, kM1, nM1, w0, w39, tn2, vi2_120, w84]
    exact hkk
  · refine ⟨fun h => absurd h (by decide), fun _ => ?_⟩
    refine ⟨fun h => absurd h (by decide), fun _ => ?_⟩
    refine ⟨fun h => absurd h (by decide), fun _ => ?_⟩
    refine ⟨fun _ => ?_, fun h => absurd rfl h⟩
    refine PW_blk okM_now 4 rfl SpM_ok ?_
    simp only [wL0, wLc, true_and, w2, lg0, lgi, lgr, lgl, w35, kM0, rM0, kM1, nM1, w0, w39, w54_2, q40, q41, q42, q43, q44, Option.toList_some, Option.toList_none, List.cons_append, List.nil_append, tn2, vi2_120, w84, hG.1]
    refine R_slackBy hI hlt ?_
    simp only [wL0, wLc, true_and, w2, lg0, lgi, lgr, lgl, w35, kM0, rM0, kM1, nM1, w0, w39, w54_2, q40, q41, q42, q43, q44, Option.toList_some, Option.toList_none, List.cons_append, List.nil_append, tn2, vi2_120, w84]
    exact hkk
  · refine ⟨fun h => absurd h (by decide), fun _ => ?_⟩
    refine ⟨fun h => absurd h (by decide), fun _ => ?_⟩
    refine ⟨fun h => absurd h (by decide), fun _ => ?_⟩
    refine ⟨fun h => absurd h (by decide), fun _ => ?_⟩
    refine ⟨fun _ => ?_, fun h => absurd rfl h⟩
    refine PW_blk okM_now 5 rfl SpM_ok ?_
    simp only [wL0, wLc, true_and, w2, lg0, lgi, lgr, lgl, w35, kM0, rM0, kM1, nM1, w0, w39, w54_2, q40, q41, q42, q43, q44, Option.toList_some, Option.toList_none, List.cons_append, List.nil_append, tn2, vi2_120, w84, hG.1]
    refine R_freeBy hI hlt ?_
    simp only [wL0, wLc, true_and, w2, lg0, lgi, lgr, lgl, w35, kM0, rM0, kM1, nM1, w0, w39, w54_2, q40, q41, q42, q43, q44, Option.toList_some, Option.toList_none, List.cons_append, List.nil_append, tn2, vi2_120, w84]
    exact hkk
  · refine ⟨fun h => absurd h (by decide), fun _ => ?_⟩
    refine ⟨fun h => absurd h (by decide), fun _ => ?_⟩
    refine ⟨fun h => absurd h (by decide), fun _ => ?_⟩
    refine ⟨fun h => absurd h (by decide), fun _ => ?_⟩
    refine ⟨fun h => absurd h (by decide), fun _ => ?_⟩
    refine ⟨fun _ => ?_, fun h => absurd rfl h⟩
    have hkk : K (some (.int (outF (σ.1 1 6) (σ.1 1 2)))) σ := hkk
    refine PW_blk okM_now 6 rfl SpM_ok ?_
    simp only [wL0, wLc, true_and, w2, lg0, lgi, lgr, lgl, w35, kM0, rM0, kM1, nM1, w0, w39, w54_2, q40, q41, q42, q43, q44, Option.toList_some, Option.toList_none, List.cons_append, List.nil_append, sp_isOut, tn2, vi2_120, w72]
    rcases (show outF (σ.1 1 6) (σ.1 1 2) = 0 ∨ outF (σ.1 1 6) (σ.1 1 2) = 1 from b01) with h | h
    · rw [h] at hkk
      refine bN h ?_
      refine PW_blk okM_now 8 rfl SpM_ok ?_
      simp only [wL0, wLc, true_and, w0, w71]
      refine PW_blk okM_now 9 rfl SpM_ok ?_
      simp only [wL0, w84]
      exact hkk
    · rw [h] at hkk
      refine bY h ?_
      refine PW_blk okM_now 7 rfl SpM_ok ?_
      simp only [wL0, wLc, true_and, w0, w70]
      refine PW_blk okM_now 9 rfl SpM_ok ?_
      simp only [wL0, w84]
      exact hkk
  · refine ⟨fun h => absurd h (by decide), fun _ => ?_⟩
    refine ⟨fun h => absurd h (by decide), fun _ => ?_⟩
    refine ⟨fun h => absurd h (by decide), fun _ => ?_⟩
    refine ⟨fun h => absurd h (by decide), fun _ => ?_⟩
    refine ⟨fun h => absurd h (by decide), fun _ => ?_⟩
    refine ⟨fun h => absurd h (by decide), fun _ => ?_⟩
    refine ⟨fun _ => ?_, fun h => absurd rfl h⟩
    have hkk : K (some (.int (plF (σ.1 1 7) (σ.1 1 8) (σ.1 1 0)))) σ := hkk
    refine PW_blk okM_now 10 rfl SpM_ok ?_
    simp only [wL0, wLc, true_and, w2, lg0, lgi, lgr, lgl, w35, kM0, rM0, kM1, nM1, w0, w39, w54_2, q40, q41, q42, q43, q44, Option.toList_some, Option.toList_none, List.cons_append, List.nil_append, sp_doesPlay, tn0, vi0_120, w72]
    rcases plF_01 (σ.1 1 7) (σ.1 1 8) (σ.1 1 0) with h | h
    · rw [h] at hkk
      refine bN h ?_
      refine PW_blk okM_now 12 rfl SpM_ok ?_
      simp only [wL0, wLc, true_and, w0, w71]
      refine PW_blk okM_now 13 rfl SpM_ok ?_
      simp only [wL0, w84]
      exact hkk
    · rw [h] at hkk
      refine bY h ?_
      refine PW_blk okM_now 11 rfl SpM_ok ?_
      simp only [wL0, wLc, true_and, w0, w70]
      refine PW_blk okM_now 13 rfl SpM_ok ?_
      simp only [wL0, w84]
      exact hkk
theorem R_costs {b k o : Nat} (hI : Inv (σ.1 1)) (ho : o < 1024) (hb : b ≤ 2) (hkn : k < nv (σ.1 1) 3) (hk : K (some (.int (nI (costN (σ.1 1) b k o)))) σ) : Rn 1 ev mM_costs [.ref 0, .int (nI b), .int (nI k), .int (nI o), .int (nI (slackN (σ.1 1) o)), .int (nI (frN (σ.1 1) o))] σ K := by
  unfold costN at hk
  refine Rn_V (by decide) rc6 rfl rfl ?_
  refine PW_blk okM_costs 0 rfl SpM_ok ?_
  simp only [wL0, wLc, true_and, w1, lg0, lgi, lgr, lgl, w73]
  rcases (show b = 0 ∨ b = 1 ∨ b = 2 by omega) with rfl | rfl | rfl
  · rw [if_pos rfl] at hk
    refine b3Y rfl ?_
    refine PW_blk okM_costs 1 rfl SpM_ok ?_
    simp only [wL0, wLc, true_and, w2, lg0, lgi, lgr, lgl, w1, w54_5, q40, q41, q42, q43, q44, Option.toList_some, Option.toList_none, List.cons_append, List.nil_append, w70]
    refine R_takesBy hI ho hkn ?_
    simp only [wL0, wLc, true_and, w2, lg0, lgi, lgr, lgl, w1, w54_5, q40, q41, q42, q43, q44, Option.toList_some, Option.toList_none, List.cons_append, List.nil_append, w70]
    refine PW_blk okM_costs 5 rfl SpM_ok ?_
    simp only [wL0, w84]
    exact hk
  · rw [if_neg (by decide), if_pos rfl] at hk
    refine b3N (by decide) ?_
    refine PW_blk okM_costs 2 rfl SpM_ok ?_
    simp only [wL0, wLc, true_and, w1, lg0, lgi, lgr, lgl, w0, w79]
    refine b3Y rfl ?_
    refine PW_blk okM_costs 3 rfl SpM_ok ?_
    simp only [wL0, wLc, true_and, w2, lg0, lgi, lgr, lgl, w1, w54_2, q40, q41, q42, q43, q44, Option.toList_some, Option.toList_none, List.cons_append, List.nil_append, w70]
    refine R_soundsOf hI hkn ?_
    simp only [wL0, wLc, true_and, w2, lg0, lgi, lgr, lgl, w1, w54_2, q40, q41, q42, q43, q44, Option.toList_some, Option.toList_none, List.cons_append, List.nil_append, w70]
    refine PW_blk okM_costs 5 rfl SpM_ok ?_
    simp only [wL0, w84]
    exact hk
  · rw [if_neg (by decide), if_neg (by decide)] at hk
    refine b3N (by decide) ?_
    refine PW_blk okM_costs 2 rfl SpM_ok ?_
    simp only [wL0, wLc, true_and, w1, lg0, lgi, lgr, lgl, w0, w79]
    refine b3N (by decide) ?_
    refine PW_blk okM_costs 4 rfl SpM_ok ?_
    simp only [wL0, wLc, true_and, w0, w71]
    refine PW_blk okM_costs 5 rfl SpM_ok ?_
    simp only [wL0, w84]
    exact hk
end MC
end
section
/-! the reference's table of the least ways off; its rows of picks -/
def encF (r : Option Nat) : Int32 := match r with
  | none => 99999999
  | some v => nI v
theorem encF_lt {v : Nat} (h : v ≤ 200000) : nI v < 99999999 := by
  rw [show (99999999 : Int32) = nI 99999999 from rfl, nI_lt_iff (by omega) (by decide)]
  omega
theorem encF_omin {acc : Option Nat} {v c : Nat} (ha : ∀ a, acc = some a → a ≤ 133120) (hv : c + v ≤ 200000) : encF (omin acc (some v) c) = if nI (c + v) < encF acc then nI (c + v) else encF acc := by
  cases acc with
  | none => rw [if_pos (show nI (c + v) < encF none from encF_lt hv)]; rfl
  | some a =>
    have := ha a rfl
    show encF (if c + v < a then some (c + v) else some a) = if nI (c + v) < nI a then _ else _
    by_cases h : c + v < a
    · rw [if_pos h, if_pos (nI_lt h (by omega))]; rfl
    · rw [if_neg h, if_neg (nI_nlt (by omega) (by omega))]
theorem lsU_some {S : Nat → Int32} {b o : Nat} {rest : Nat → Option Nat} : ∀ n w, lsU S b o rest n = some w → ∃ k, k < n ∧ mayok S k o ∧ ∃ v, rest (o ||| 2 ^ k) = some v ∧ costN S b k o + v = w
  | 0, w, h => by cases h
  | n + 1, w, h => by
    have ih := lsU_some (S := S) (b := b) (o := o) (rest := rest) n
    unfold lsU at h
    split at h
    next hw =>
      cases e : rest (o ||| 2 ^ n) with
      | none =>
        rw [e] at h
        obtain ⟨k, a, bb⟩ := ih w h
        exact ⟨k, by omega, bb⟩
      | some v =>
        rw [e] at h
        cases e2 : lsU S b o rest n with
        | none =>
          rw [e2] at h
          have h2 : some (costN S b n o + v) = some w := h
          exact ⟨n, by omega, hw, v, e, Option.some.inj h2⟩
        | some a =>
          rw [e2] at h
          have h2 : (if costN S b n o + v < a then some (costN S b n o + v) else some a) = some w := h
          split at h2
          · exact ⟨n, by omega, hw, v, e, Option.some.inj h2⟩
          · have h3 := Option.some.inj h2
            subst h3
            obtain ⟨k, x, y⟩ := ih a e2
            exact ⟨k, by omega, y⟩
    next =>
      obtain ⟨k, a, bb⟩ := ih w h
      exact ⟨k, by omega, bb⟩
theorem lsU_le {S : Nat → Int32} {b o : Nat} {rest : Nat → Option Nat} : ∀ n k v, k < n → mayok S k o → rest (o ||| 2 ^ k) = some v → ∃ w, lsU S b o rest n = some w ∧ w ≤ costN S b k o + v
  | 0, k, v, h, _, _ => by omega
  | n + 1, k, v, h, hm, hr => by
    have ih := lsU_le (S := S) (b := b) (o := o) (rest := rest) n k v
    unfold lsU
    by_cases e : k = n
    · subst e
      rw [if_pos (show whyF S k o (nI (slackN S o)) (nI (hdN S o)) = 0 from hm), hr]
      cases e2 : lsU S b o rest k with
      | none => exact ⟨_, rfl, Nat.le_refl _⟩
      | some a =>
        show ∃ w, (if costN S b k o + v < a then some (costN S b k o + v) else some a) = some w ∧ _
        split
        · exact ⟨_, rfl, Nat.le_refl _⟩
        · exact ⟨_, rfl, by omega⟩
    · obtain ⟨w, hw, hl⟩ := ih (by omega) hm hr
      rw [hw]
      split
      · cases e2 : rest (o ||| 2 ^ n) with
        | none => exact ⟨w, rfl, hl⟩
        | some x =>
          show ∃ w', (if costN S b n o + x < w then some (costN S b n o + x) else some w) = some w' ∧ _
          split
          · exact ⟨_, rfl, by omega⟩
          · exact ⟨_, rfl, hl⟩
      · exact ⟨w, rfl, hl⟩
theorem lsU_lt {S : Nat → Int32} (h : Inv S) {b o n : Nat} (ho : o < 1024) (hn : n ≤ nv S 3) : ∀ v, lsU S b o (lst S b) n = some v → v ≤ 133120 := by
  have hn3 := h.1.2
  induction n with
  | zero => intro v hv; cases hv
  | succ n ih =>
    unfold lsU
    split
    next hw =>
      intro v hv
      have hb := why_bit hw
      have h4 := or_gt hb
      have h5 : o ||| 2 ^ n < 2 ^ 10 := or_lt ho (by omega)
      have h7 := cost_le h (b := b) (k := n) (o := o) (by omega)
      exact omin_le (B := 133120) (ih (by omega)) (fun x hx => by have := lst_le h (1024 - (o ||| 2 ^ n)) _ h5 (Nat.le_refl _) x hx; omega) v hv
    next => exact ih (by omega)
theorem m1_lt {n : Nat} (h : n < 2147483647) : nI n - 1 < nI n := by
  rw [fa_lt, nI_toInt (by omega)]
  rcases Nat.eq_zero_or_pos n with z | z
  · subst z; decide
  · rw [show (1 : Int32) = nI 1 from rfl, pk_sub (by omega), nI_toInt (by omega)]; omega
theorem m1_s (n : Nat) : nI (n + 1) - 1 = nI n := by
  rw [show (1 : Int32) = nI 1 from rfl, pk_sub (by omega)]; rfl
theorem m1_add (x : Int32) : x + -1 = x - 1 := (Int32.sub_eq_add_neg x 1).symm
/-- what a row of calls that only asks leaves as it was -/
def kp (c : Nat) : Bool := c == 1 || c == 2 || c == 4 || c == 8 || c == 9 || c == 10 || c == 11 || c == 12 || c == 13 || c == 14 || c == 15
def Sm (σ σ' : St2) : Prop := (∀ c, kp c = true → σ'.1 c = σ.1 c) ∧ σ'.1 0 3 = σ.1 0 3 ∧ σ'.1 0 11 = σ.1 0 11
theorem Sm_r {σ : St2} : Sm σ σ := ⟨fun _ _ => rfl, rfl, rfl⟩
theorem Sm_sr {σ σ' : St2} {k : Nat} {r : Nat → Int32} (hk : kp k = false) (h0 : k ≠ 0) (h : Sm σ σ') : Sm σ (sr σ' k r) := by
  refine ⟨fun c hc => ?_, ?_, ?_⟩
  · rw [sr1n (fun e => by rw [e, hk] at hc; cases hc)]; exact h.1 c hc
  · rw [sr1n (fun e => h0 e.symm)]; exact h.2.1
  · rw [sr1n (fun e => h0 e.symm)]; exact h.2.2
theorem Sm_f {σ σ' : St2} {j : Nat} {v : Int32} (h3 : j ≠ 3) (h11 : j ≠ 11) (h : Sm σ σ') : Sm σ (sr σ' 0 (upd (σ'.1 0) j v)) := by
  refine ⟨fun c hc => ?_, ?_, ?_⟩
  · rw [sr1n (fun e => by rw [e] at hc; exact absurd hc (by decide))]; exact h.1 c hc
  · rw [sr1, updN (fun e => h3 e.symm)]; exact h.2.1
  · rw [sr1, updN (fun e => h11 e.symm)]; exact h.2.2
theorem Sm_t {a b c : St2} (h : Sm a b) (h2 : Sm b c) : Sm a c := ⟨fun i hi => (h2.1 i hi).trans (h.1 i hi), h2.2.1.trans h.2.1, h2.2.2.trans h.2.2⟩
theorem n0_1 {σ : St2} {r : Nat → Int32} : (sr σ 0 r).1 1 = σ.1 1 := sr1n (by decide)
theorem n0_2 {σ : St2} {r : Nat → Int32} : (sr σ 0 r).1 2 = σ.1 2 := sr1n (by decide)
theorem n0_3 {σ : St2} {r : Nat → Int32} : (sr σ 0 r).1 3 = σ.1 3 := sr1n (by decide)
theorem n0_4 {σ : St2} {r : Nat → Int32} : (sr σ 0 r).1 4 = σ.1 4 := sr1n (by decide)
theorem n0_5 {σ : St2} {r : Nat → Int32} : (sr σ 0 r).1 5 = σ.1 5 := sr1n (by decide)
theorem n0_6 {σ : St2} {r : Nat → Int32} : (sr σ 0 r).1 6 = σ.1 6 := sr1n (by decide)
theorem n0_7 {σ : St2} {r : Nat → Int32} : (sr σ 0 r).1 7 = σ.1 7 := sr1n (by decide)
theorem n0_8 {σ : St2} {r : Nat → Int32} : (sr σ 0 r).1 8 = σ.1 8 := sr1n (by decide)
theorem n0_9 {σ : St2} {r : Nat → Int32} : (sr σ 0 r).1 9 = σ.1 9 := sr1n (by decide)
theorem n0_10 {σ : St2} {r : Nat → Int32} : (sr σ 0 r).1 10 = σ.1 10 := sr1n (by decide)
theorem n0_11 {σ : St2} {r : Nat → Int32} : (sr σ 0 r).1 11 = σ.1 11 := sr1n (by decide)
theorem n0_12 {σ : St2} {r : Nat → Int32} : (sr σ 0 r).1 12 = σ.1 12 := sr1n (by decide)
theorem n0_13 {σ : St2} {r : Nat → Int32} : (sr σ 0 r).1 13 = σ.1 13 := sr1n (by decide)
theorem n0_14 {σ : St2} {r : Nat → Int32} : (sr σ 0 r).1 14 = σ.1 14 := sr1n (by decide)
theorem n0_15 {σ : St2} {r : Nat → Int32} : (sr σ 0 r).1 15 = σ.1 15 := sr1n (by decide)
theorem n0_16 {σ : St2} {r : Nat → Int32} : (sr σ 0 r).1 16 = σ.1 16 := sr1n (by decide)
theorem n1_0 {σ : St2} {r : Nat → Int32} : (sr σ 1 r).1 0 = σ.1 0 := sr1n (by decide)
theorem n1_2 {σ : St2} {r : Nat → Int32} : (sr σ 1 r).1 2 = σ.1 2 := sr1n (by decide)
theorem n1_3 {σ : St2} {r : Nat → Int32} : (sr σ 1 r).1 3 = σ.1 3 := sr1n (by decide)
theorem n1_4 {σ : St2} {r : Nat → Int32} : (sr σ 1 r).1 4 = σ.1 4 := sr1n (by decide)
theorem n1_5 {σ : St2} {r : Nat → Int32} : (sr σ 1 r).1 5 = σ.1 5 := sr1n (by decide)
theorem n1_6 {σ : St2} {r : Nat → Int32} : (sr σ 1 r).1 6 = σ.1 6 := sr1n (by decide)
theorem n1_7 {σ : St2} {r : Nat → Int32} : (sr σ 1 r).1 7 = σ.1 7 := sr1n (by decide)
theorem n1_8 {σ : St2} {r : Nat → Int32} : (sr σ 1 r).1 8 = σ.1 8 := sr1n (by decide)
theorem n1_9 {σ : St2} {r : Nat → Int32} : (sr σ 1 r).1 9 = σ.1 9 := sr1n (by decide)
theorem n1_10 {σ : St2} {r : Nat → Int32} : (sr σ 1 r).1 10 = σ.1 10 := sr1n (by decide)
theorem n1_11 {σ : St2} {r : Nat → Int32} : (sr σ 1 r).1 11 = σ.1 11 := sr1n (by decide)
theorem n1_12 {σ : St2} {r : Nat → Int32} : (sr σ 1 r).1 12 = σ.1 12 := sr1n (by decide)
theorem n1_13 {σ : St2} {r : Nat → Int32} : (sr σ 1 r).1 13 = σ.1 13 := sr1n (by decide)
theorem n1_14 {σ : St2} {r : Nat → Int32} : (sr σ 1 r).1 14 = σ.1 14 := sr1n (by decide)
theorem n1_15 {σ : St2} {r : Nat → Int32} : (sr σ 1 r).1 15 = σ.1 15 := sr1n (by decide)
theorem n1_16 {σ : St2} {r : Nat → Int32} : (sr σ 1 r).1 16 = σ.1 16 := sr1n (by decide)
theorem n2_0 {σ : St2} {r : Nat → Int32} : (sr σ 2 r).1 0 = σ.1 0 := sr1n (by decide)
theorem n2_1 {σ : St2} {r : Nat → Int32} : (sr σ 2 r).1 1 = σ.1 1 := sr1n (by decide)
theorem n2_3 {σ : St2} {r : Nat → Int32} : (sr σ 2 r).1 3 = σ.1 3 := sr1n (by decide)
theorem n2_4 {σ : St2} {r : Nat → Int32} : (sr σ 2 r).1 4 = σ.1 4 := sr1n (by decide)
theorem n2_5 {σ : St2} {r : Nat → Int32} : (sr σ 2 r).1 5 = σ.1 5 := sr1n (by decide)
theorem n2_6 {σ : St2} {r : Nat → Int32} : (sr σ 2 r).1 6 = σ.1 6 := sr1n (by decide)
theorem n2_7 {σ : St2} {r : Nat → Int32} : (sr σ 2 r).1 7 = σ.1 7 := sr1n (by decide)
theorem n2_8 {σ : St2} {r : Nat → Int32} : (sr σ 2 r).1 8 = σ.1 8 := sr1n (by decide)
theorem n2_9 {σ : St2} {r : Nat → Int32} : (sr σ 2 r).1 9 = σ.1 9 := sr1n (by decide)
theorem n2_10 {σ : St2} {r : Nat → Int32} : (sr σ 2 r).1 10 = σ.1 10 := sr1n (by decide)
theorem n2_11 {σ : St2} {r : Nat → Int32} : (sr σ 2 r).1 11 = σ.1 11 := sr1n (by decide)
theorem n2_12 {σ : St2} {r : Nat → Int32} : (sr σ 2 r).1 12 = σ.1 12 := sr1n (by decide)
theorem n2_13 {σ : St2} {r : Nat → Int32} : (sr σ 2 r).1 13 = σ.1 13 := sr1n (by decide)
theorem n2_14 {σ : St2} {r : Nat → Int32} : (sr σ 2 r).1 14 = σ.1 14 := sr1n (by decide)
theorem n2_15 {σ : St2} {r : Nat → Int32} : (sr σ 2 r).1 15 = σ.1 15 := sr1n (by decide)
theorem n2_16 {σ : St2} {r : Nat → Int32} : (sr σ 2 r).1 16 = σ.1 16 := sr1n (by decide)
theorem n3_0 {σ : St2} {r : Nat → Int32} : (sr σ 3 r).1 0 = σ.1 0 := sr1n (by decide)
theorem n3_1 {σ : St2} {r : Nat → Int32} : (sr σ 3 r).1 1 = σ.1 1 := sr1n (by decide)
theorem n3_2 {σ : St2} {r : Nat → Int32} : (sr σ 3 r).1 2 = σ.1 2 := sr1n (by decide)
theorem n3_4 {σ : St2} {r : Nat → Int32} : (sr σ 3 r).1 4 = σ.1 4 := sr1n (by decide)
theorem n3_5 {σ : St2} {r : Nat → Int32} : (sr σ 3 r).1 5 = σ.1 5 := sr1n (by decide)
theorem n3_6 {σ : St2} {r : Nat → Int32} : (sr σ 3 r).1 6 = σ.1 6 := sr1n (by decide)
theorem n3_7 {σ : St2} {r : Nat → Int32} : (sr σ 3 r).1 7 = σ.1 7 := sr1n (by decide)
theorem n3_8 {σ : St2} {r : Nat → Int32} : (sr σ 3 r).1 8 = σ.1 8 := sr1n (by decide)
theorem n3_9 {σ : St2} {r : Nat → Int32} : (sr σ 3 r).1 9 = σ.1 9 := sr1n (by decide)
theorem n3_10 {σ : St2} {r : Nat → Int32} : (sr σ 3 r).1 10 = σ.1 10 := sr1n (by decide)
theorem n3_11 {σ : St2} {r : Nat → Int32} : (sr σ 3 r).1 11 = σ.1 11 := sr1n (by decide)
theorem n3_12 {σ : St2} {r : Nat → Int32} : (sr σ 3 r).1 12 = σ.1 12 := sr1n (by decide)
theorem n3_13 {σ : St2} {r : Nat → Int32} : (sr σ 3 r).1 13 = σ.1 13 := sr1n (by decide)
theorem n3_14 {σ : St2} {r : Nat → Int32} : (sr σ 3 r).1 14 = σ.1 14 := sr1n (by decide)
theorem n3_15 {σ : St2} {r : Nat → Int32} : (sr σ 3 r).1 15 = σ.1 15 := sr1n (by decide)
theorem n3_16 {σ : St2} {r : Nat → Int32} : (sr σ 3 r).1 16 = σ.1 16 := sr1n (by decide)
theorem n4_0 {σ : St2} {r : Nat → Int32} : (sr σ 4 r).1 0 = σ.1 0 := sr1n (by decide)
theorem n4_1 {σ : St2} {r : Nat → Int32} : (sr σ 4 r).1 1 = σ.1 1 := sr1n (by decide)
theorem n4_2 {σ : St2} {r : Nat → Int32} : (sr σ 4 r).1 2 = σ.1 2 := sr1n (by decide)
theorem n4_3 {σ : St2} {r : Nat → Int32} : (sr σ 4 r).1 3 = σ.1 3 := sr1n (by decide)
theorem n4_5 {σ : St2} {r : Nat → Int32} : (sr σ 4 r).1 5 = σ.1 5 := sr1n (by decide)
theorem n4_6 {σ : St2} {r : Nat → Int32} : (sr σ 4 r).1 6 = σ.1 6 := sr1n (by decide)
theorem n4_7 {σ : St2} {r : Nat → Int32} : (sr σ 4 r).1 7 = σ.1 7 := sr1n (by decide)
theorem n4_8 {σ : St2} {r : Nat → Int32} : (sr σ 4 r).1 8 = σ.1 8 := sr1n (by decide)
theorem n4_9 {σ : St2} {r : Nat → Int32} : (sr σ 4 r).1 9 = σ.1 9 := sr1n (by decide)
theorem n4_10 {σ : St2} {r : Nat → Int32} : (sr σ 4 r).1 10 = σ.1 10 := sr1n (by decide)
theorem n4_11 {σ : St2} {r : Nat → Int32} : (sr σ 4 r).1 11 = σ.1 11 := sr1n (by decide)
theorem n4_12 {σ : St2} {r : Nat → Int32} : (sr σ 4 r).1 12 = σ.1 12 := sr1n (by decide)
theorem n4_13 {σ : St2} {r : Nat → Int32} : (sr σ 4 r).1 13 = σ.1 13 := sr1n (by decide)
theorem n4_14 {σ : St2} {r : Nat → Int32} : (sr σ 4 r).1 14 = σ.1 14 := sr1n (by decide)
theorem n4_15 {σ : St2} {r : Nat → Int32} : (sr σ 4 r).1 15 = σ.1 15 := sr1n (by decide)
theorem n4_16 {σ : St2} {r : Nat → Int32} : (sr σ 4 r).1 16 = σ.1 16 := sr1n (by decide)
theorem n5_0 {σ : St2} {r : Nat → Int32} : (sr σ 5 r).1 0 = σ.1 0 := sr1n (by decide)
theorem n5_1 {σ : St2} {r : Nat → Int32} : (sr σ 5 r).1 1 = σ.1 1 := sr1n (by decide)
theorem n5_2 {σ : St2} {r : Nat → Int32} : (sr σ 5 r).1 2 = σ.1 2 := sr1n (by decide)
theorem n5_3 {σ : St2} {r : Nat → Int32} : (sr σ 5 r).1 3 = σ.1 3 := sr1n (by decide)
theorem n5_4 {σ : St2} {r : Nat → Int32} : (sr σ 5 r).1 4 = σ.1 4 := sr1n (by decide)
theorem n5_6 {σ : St2} {r : Nat → Int32} : (sr σ 5 r).1 6 = σ.1 6 := sr1n (by decide)
theorem n5_7 {σ : St2} {r : Nat → Int32} : (sr σ 5 r).1 7 = σ.1 7 := sr1n (by decide)
theorem n5_8 {σ : St2} {r : Nat → Int32} : (sr σ 5 r).1 8 = σ.1 8 := sr1n (by decide)
theorem n5_9 {σ : St2} {r : Nat → Int32} : (sr σ 5 r).1 9 = σ.1 9 := sr1n (by decide)
theorem n5_10 {σ : St2} {r : Nat → Int32} : (sr σ 5 r).1 10 = σ.1 10 := sr1n (by decide)
theorem n5_11 {σ : St2} {r : Nat → Int32} : (sr σ 5 r).1 11 = σ.1 11 := sr1n (by decide)
theorem n5_12 {σ : St2} {r : Nat → Int32} : (sr σ 5 r).1 12 = σ.1 12 := sr1n (by decide)
theorem n5_13 {σ : St2} {r : Nat → Int32} : (sr σ 5 r).1 13 = σ.1 13 := sr1n (by decide)
theorem n5_14 {σ : St2} {r : Nat → Int32} : (sr σ 5 r).1 14 = σ.1 14 := sr1n (by decide)
theorem n5_15 {σ : St2} {r : Nat → Int32} : (sr σ 5 r).1 15 = σ.1 15 := sr1n (by decide)
theorem n5_16 {σ : St2} {r : Nat → Int32} : (sr σ 5 r).1 16 = σ.1 16 := sr1n (by decide)
theorem n6_0 {σ : St2} {r : Nat → Int32} : (sr σ 6 r).1 0 = σ.1 0 := sr1n (by decide)
theorem n6_1 {σ : St2} {r : Nat → Int32} : (sr σ 6 r).1 1 = σ.1 1 := sr1n (by decide)
theorem n6_2 {σ : St2} {r : Nat → Int32} : (sr σ 6 r).1 2 = σ.1 2 := sr1n (by decide)
theorem n6_3 {σ : St2} {r : Nat → Int32} : (sr σ 6 r).1 3 = σ.1 3 := sr1n (by decide)
theorem n6_4 {σ : St2} {r : Nat → Int32} : (sr σ 6 r).1 4 = σ.1 4 := sr1n (by decide)
theorem n6_5 {σ : St2} {r : Nat → Int32} : (sr σ 6 r).1 5 = σ.1 5 := sr1n (by decide)
theorem n6_7 {σ : St2} {r : Nat → Int32} : (sr σ 6 r).1 7 = σ.1 7 := sr1n (by decide)
theorem n6_8 {σ : St2} {r : Nat → Int32} : (sr σ 6 r).1 8 = σ.1 8 := sr1n (by decide)
theorem n6_9 {σ : St2} {r : Nat → Int32} : (sr σ 6 r).1 9 = σ.1 9 := sr1n (by decide)
theorem n6_10 {σ : St2} {r : Nat → Int32} : (sr σ 6 r).1 10 = σ.1 10 := sr1n (by decide)
theorem n6_11 {σ : St2} {r : Nat → Int32} : (sr σ 6 r).1 11 = σ.1 11 := sr1n (by decide)
theorem n6_12 {σ : St2} {r : Nat → Int32} : (sr σ 6 r).1 12 = σ.1 12 := sr1n (by decide)
theorem n6_13 {σ : St2} {r : Nat → Int32} : (sr σ 6 r).1 13 = σ.1 13 := sr1n (by decide)
theorem n6_14 {σ : St2} {r : Nat → Int32} : (sr σ 6 r).1 14 = σ.1 14 := sr1n (by decide)
theorem n6_15 {σ : St2} {r : Nat → Int32} : (sr σ 6 r).1 15 = σ.1 15 := sr1n (by decide)
theorem n6_16 {σ : St2} {r : Nat → Int32} : (sr σ 6 r).1 16 = σ.1 16 := sr1n (by decide)
theorem n7_0 {σ : St2} {r : Nat → Int32} : (sr σ 7 r).1 0 = σ.1 0 := sr1n (by decide)
theorem n7_1 {σ : St2} {r : Nat → Int32} : (sr σ 7 r).1 1 = σ.1 1 := sr1n (by decide)
theorem n7_2 {σ : St2} {r : Nat → Int32} : (sr σ 7 r).1 2 = σ.1 2 := sr1n (by decide)
theorem n7_3 {σ : St2} {r : Nat → Int32} : (sr σ 7 r).1 3 = σ.1 3 := sr1n (by decide)
theorem n7_4 {σ : St2} {r : Nat → Int32} : (sr σ 7 r).1 4 = σ.1 4 := sr1n (by decide)
theorem n7_5 {σ : St2} {r : Nat → Int32} : (sr σ 7 r).1 5 = σ.1 5 := sr1n (by decide)
theorem n7_6 {σ : St2} {r : Nat → Int32} : (sr σ 7 r).1 6 = σ.1 6 := sr1n (by decide)
theorem n7_8 {σ : St2} {r : Nat → Int32} : (sr σ 7 r).1 8 = σ.1 8 := sr1n (by decide)
theorem n7_9 {σ : St2} {r : Nat → Int32} : (sr σ 7 r).1 9 = σ.1 9 := sr1n (by decide)
theorem n7_10 {σ : St2} {r : Nat → Int32} : (sr σ 7 r).1 10 = σ.1 10 := sr1n (by decide)
theorem n7_11 {σ : St2} {r : Nat → Int32} : (sr σ 7 r).1 11 = σ.1 11 := sr1n (by decide)
theorem n7_12 {σ : St2} {r : Nat → Int32} : (sr σ 7 r).1 12 = σ.1 12 := sr1n (by decide)
theorem n7_13 {σ : St2} {r : Nat → Int32} : (sr σ 7 r).1 13 = σ.1 13 := sr1n (by decide)
theorem n7_14 {σ : St2} {r : Nat → Int32} : (sr σ 7 r).1 14 = σ.1 14 := sr1n (by decide)
theorem n7_15 {σ : St2} {r : Nat → Int32} : (sr σ 7 r).1 15 = σ.1 15 := sr1n (by decide)
theorem n7_16 {σ : St2} {r : Nat → Int32} : (sr σ 7 r).1 16 = σ.1 16 := sr1n (by decide)
theorem n8_0 {σ : St2} {r : Nat → Int32} : (sr σ 8 r).1 0 = σ.1 0 := sr1n (by decide)
theorem n8_1 {σ : St2} {r : Nat → Int32} : (sr σ 8 r).1 1 = σ.1 1 := sr1n (by decide)
theorem n8_2 {σ : St2} {r : Nat → Int32} : (sr σ 8 r).1 2 = σ.1 2 := sr1n (by decide)
theorem n8_3 {σ : St2} {r : Nat → Int32} : (sr σ 8 r).1 3 = σ.1 3 := sr1n (by decide)
theorem n8_4 {σ : St2} {r : Nat → Int32} : (sr σ 8 r).1 4 = σ.1 4 := sr1n (by decide)
theorem n8_5 {σ : St2} {r : Nat → Int32} : (sr σ 8 r).1 5 = σ.1 5 := sr1n (by decide)
theorem n8_6 {σ : St2} {r : Nat → Int32} : (sr σ 8 r).1 6 = σ.1 6 := sr1n (by decide)
theorem n8_7 {σ : St2} {r : Nat → Int32} : (sr σ 8 r).1 7 = σ.1 7 := sr1n (by decide)
theorem n8_9 {σ : St2} {r : Nat → Int32} : (sr σ 8 r).1 9 = σ.1 9 := sr1n (by decide)
theorem n8_10 {σ : St2} {r : Nat → Int32} : (sr σ 8 r).1 10 = σ.1 10 := sr1n (by decide)
theorem n8_11 {σ : St2} {r : Nat → Int32} : (sr σ 8 r).1 11 = σ.1 11 := sr1n (by decide)
theorem n8_12 {σ : St2} {r : Nat → Int32} : (sr σ 8 r).1 12 = σ.1 12 := sr1n (by decide)
theorem n8_13 {σ : St2} {r : Nat → Int32} : (sr σ 8 r).1 13 = σ.1 13 := sr1n (by decide)
theorem n8_14 {σ : St2} {r : Nat → Int32} : (sr σ 8 r).1 14 = σ.1 14 := sr1n (by decide)
theorem n8_15 {σ : St2} {r : Nat → Int32} : (sr σ 8 r).1 15 = σ.1 15 := sr1n (by decide)
theorem n8_16 {σ : St2} {r : Nat → Int32} : (sr σ 8 r).1 16 = σ.1 16 := sr1n (by decide)
theorem n13_0 {σ : St2} {r : Nat → Int32} : (sr σ 13 r).1 0 = σ.1 0 := sr1n (by decide)
theorem n13_1 {σ : St2} {r : Nat → Int32} : (sr σ 13 r).1 1 = σ.1 1 := sr1n (by decide)
theorem n13_2 {σ : St2} {r : Nat → Int32} : (sr σ 13 r).1 2 = σ.1 2 := sr1n (by decide)
theorem n13_3 {σ : St2} {r : Nat → Int32} : (sr σ 13 r).1 3 = σ.1 3 := sr1n (by decide)
theorem n13_4 {σ : St2} {r : Nat → Int32} : (sr σ 13 r).1 4 = σ.1 4 := sr1n (by decide)
theorem n13_5 {σ : St2} {r : Nat → Int32} : (sr σ 13 r).1 5 = σ.1 5 := sr1n (by decide)
theorem n13_6 {σ : St2} {r : Nat → Int32} : (sr σ 13 r).1 6 = σ.1 6 := sr1n (by decide)
theorem n13_7 {σ : St2} {r : Nat → Int32} : (sr σ 13 r).1 7 = σ.1 7 := sr1n (by decide)
theorem n13_8 {σ : St2} {r : Nat → Int32} : (sr σ 13 r).1 8 = σ.1 8 := sr1n (by decide)
theorem n13_9 {σ : St2} {r : Nat → Int32} : (sr σ 13 r).1 9 = σ.1 9 := sr1n (by decide)
theorem n13_10 {σ : St2} {r : Nat → Int32} : (sr σ 13 r).1 10 = σ.1 10 := sr1n (by decide)
theorem n13_11 {σ : St2} {r : Nat → Int32} : (sr σ 13 r).1 11 = σ.1 11 := sr1n (by decide)
theorem n13_12 {σ : St2} {r : Nat → Int32} : (sr σ 13 r).1 12 = σ.1 12 := sr1n (by decide)
theorem n13_14 {σ : St2} {r : Nat → Int32} : (sr σ 13 r).1 14 = σ.1 14 := sr1n (by decide)
theorem n13_15 {σ : St2} {r : Nat → Int32} : (sr σ 13 r).1 15 = σ.1 15 := sr1n (by decide)
theorem n13_16 {σ : St2} {r : Nat → Int32} : (sr σ 13 r).1 16 = σ.1 16 := sr1n (by decide)
theorem n14_0 {σ : St2} {r : Nat → Int32} : (sr σ 14 r).1 0 = σ.1 0 := sr1n (by decide)
theorem n14_1 {σ : St2} {r : Nat → Int32} : (sr σ 14 r).1 1 = σ.1 1 := sr1n (by decide)
theorem n14_2 {σ : St2} {r : Nat → Int32} : (sr σ 14 r).1 2 = σ.1 2 := sr1n (by decide)
theorem n14_3 {σ : St2} {r : Nat → Int32} : (sr σ 14 r).1 3 = σ.1 3 := sr1n (by decide)
theorem n14_4 {σ : St2} {r : Nat → Int32} : (sr σ 14 r).1 4 = σ.1 4 := sr1n (by decide)
theorem n14_5 {σ : St2} {r : Nat → Int32} : (sr σ 14 r).1 5 = σ.1 5 := sr1n (by decide)
theorem n14_6 {σ : St2} {r : Nat → Int32} : (sr σ 14 r).1 6 = σ.1 6 := sr1n (by decide)
theorem n14_7 {σ : St2} {r : Nat → Int32} : (sr σ 14 r).1 7 = σ.1 7 := sr1n (by decide)
theorem n14_8 {σ : St2} {r : Nat → Int32} : (sr σ 14 r).1 8 = σ.1 8 := sr1n (by decide)
theorem n14_9 {σ : St2} {r : Nat → Int32} : (sr σ 14 r).1 9 = σ.1 9 := sr1n (by decide)
theorem n14_10 {σ : St2} {r : Nat → Int32} : (sr σ 14 r).1 10 = σ.1 10 := sr1n (by decide)
theorem n14_11 {σ : St2} {r : Nat → Int32} : (sr σ 14 r).1 11 = σ.1 11 := sr1n (by decide)
theorem n14_12 {σ : St2} {r : Nat → Int32} : (sr σ 14 r).1 12 = σ.1 12 := sr1n (by decide)
theorem n14_13 {σ : St2} {r : Nat → Int32} : (sr σ 14 r).1 13 = σ.1 13 := sr1n (by decide)
theorem n14_15 {σ : St2} {r : Nat → Int32} : (sr σ 14 r).1 15 = σ.1 15 := sr1n (by decide)
theorem n14_16 {σ : St2} {r : Nat → Int32} : (sr σ 14 r).1 16 = σ.1 16 := sr1n (by decide)
theorem n15_0 {σ : St2} {r : Nat → Int32} : (sr σ 15 r).1 0 = σ.1 0 := sr1n (by decide)
theorem n15_1 {σ : St2} {r : Nat → Int32} : (sr σ 15 r).1 1 = σ.1 1 := sr1n (by decide)
theorem n15_2 {σ : St2} {r : Nat → Int32} : (sr σ 15 r).1 2 = σ.1 2 := sr1n (by decide)
theorem n15_3 {σ : St2} {r : Nat → Int32} : (sr σ 15 r).1 3 = σ.1 3 := sr1n (by decide)
theorem n15_4 {σ : St2} {r : Nat → Int32} : (sr σ 15 r).1 4 = σ.1 4 := sr1n (by decide)
theorem n15_5 {σ : St2} {r : Nat → Int32} : (sr σ 15 r).1 5 = σ.1 5 := sr1n (by decide)
theorem n15_6 {σ : St2} {r : Nat → Int32} : (sr σ 15 r).1 6 = σ.1 6 := sr1n (by decide)
theorem n15_7 {σ : St2} {r : Nat → Int32} : (sr σ 15 r).1 7 = σ.1 7 := sr1n (by decide)
theorem n15_8 {σ : St2} {r : Nat → Int32} : (sr σ 15 r).1 8 = σ.1 8 := sr1n (by decide)
theorem n15_9 {σ : St2} {r : Nat → Int32} : (sr σ 15 r).1 9 = σ.1 9 := sr1n (by decide)
theorem n15_10 {σ : St2} {r : Nat → Int32} : (sr σ 15 r).1 10 = σ.1 10 := sr1n (by decide)
theorem n15_11 {σ : St2} {r : Nat → Int32} : (sr σ 15 r).1 11 = σ.1 11 := sr1n (by decide)
theorem n15_12 {σ : St2} {r : Nat → Int32} : (sr σ 15 r).1 12 = σ.1 12 := sr1n (by decide)
theorem n15_13 {σ : St2} {r : Nat → Int32} : (sr σ 15 r).1 13 = σ.1 13 := sr1n (by decide)
theorem n15_14 {σ : St2} {r : Nat → Int32} : (sr σ 15 r).1 14 = σ.1 14 := sr1n (by decide)
theorem n15_16 {σ : St2} {r : Nat → Int32} : (sr σ 15 r).1 16 = σ.1 16 := sr1n (by decide)
theorem n16_0 {σ : St2} {r : Nat → Int32} : (sr σ 16 r).1 0 = σ.1 0 := sr1n (by decide)
theorem n16_1 {σ : St2} {r : Nat → Int32} : (sr σ 16 r).1 1 = σ.1 1 := sr1n (by decide)
theorem n16_2 {σ : St2} {r : Nat → Int32} : (sr σ 16 r).1 2 = σ.1 2 := sr1n (by decide)
theorem n16_3 {σ : St2} {r : Nat → Int32} : (sr σ 16 r).1 3 = σ.1 3 := sr1n (by decide)
theorem n16_4 {σ : St2} {r : Nat → Int32} : (sr σ 16 r).1 4 = σ.1 4 := sr1n (by decide)
theorem n16_5 {σ : St2} {r : Nat → Int32} : (sr σ 16 r).1 5 = σ.1 5 := sr1n (by decide)
theorem n16_6 {σ : St2} {r : Nat → Int32} : (sr σ 16 r).1 6 = σ.1 6 := sr1n (by decide)
theorem n16_7 {σ : St2} {r : Nat → Int32} : (sr σ 16 r).1 7 = σ.1 7 := sr1n (by decide)
theorem n16_8 {σ : St2} {r : Nat → Int32} : (sr σ 16 r).1 8 = σ.1 8 := sr1n (by decide)
theorem n16_9 {σ : St2} {r : Nat → Int32} : (sr σ 16 r).1 9 = σ.1 9 := sr1n (by decide)
theorem n16_10 {σ : St2} {r : Nat → Int32} : (sr σ 16 r).1 10 = σ.1 10 := sr1n (by decide)
theorem n16_11 {σ : St2} {r : Nat → Int32} : (sr σ 16 r).1 11 = σ.1 11 := sr1n (by decide)
theorem n16_12 {σ : St2} {r : Nat → Int32} : (sr σ 16 r).1 12 = σ.1 12 := sr1n (by decide)
theorem n16_13 {σ : St2} {r : Nat → Int32} : (sr σ 16 r).1 13 = σ.1 13 := sr1n (by decide)
theorem n16_14 {σ : St2} {r : Nat → Int32} : (sr σ 16 r).1 14 = σ.1 14 := sr1n (by decide)
theorem n16_15 {σ : St2} {r : Nat → Int32} : (sr σ 16 r).1 15 = σ.1 15 := sr1n (by decide)
section MD
variable {ev : EV} {σ : St2} {K : PO}
theorem R_leastFrom {fr b : Nat} (hI : Inv (σ.1 1)) (hb : b ≤ 2) (hf : fr < 2 ^ nv (σ.1 1) 3) (hk : ∀ r, (∀ t, t < 2 ^ nv (σ.1 1) 3 → fr &&& t = fr → r t = encF (lst (σ.1 1) b t)) → K (some (.int (encF (lst (σ.1 1) b fr)))) (sr σ 5 r)) : Rn 1 ev mM_leastFrom [.ref 0, .int (nI fr), .int (nI b)] σ K := by
  have hn := hI.1.2
  have hT := p2le _ hn
  refine Rn_V (by decide) rc6 rfl rfl ?_
  refine PW_blk okM_leastFrom 0 rfl SpM_ok ?_
  simp only [wL0, wLc, true_and, w2, lg0, lgi, lgr, lgl, w54_1, q40, q41, q42, q43, q44, Option.toList_some, Option.toList_none, List.cons_append, List.nil_append, sp_allLocks, w4, ls00, ls0i, ls0r, ls0l, lsi, lsr, lsl, Option.map_some, w71, hI.1.1]
  rw [alF_n _ (by omega)]
  have key := lp_dn (a := fr) (P := fun j => j ≤ 2 ^ nv (σ.1 1) 3 → ∀ r, (∀ t, j ≤ t → t < 2 ^ nv (σ.1 1) 3 → fr &&& t = fr → r t = encF (lst (σ.1 1) b t)) → PW 1 ev mM_leastFrom 5 [.ref 0, .int (nI fr), .int (nI b), .int (nI j - 1)] [] (sr σ 5 r) K) ?_ ?_ (2 ^ nv (σ.1 1) 3) (by omega) (Nat.le_refl _) (σ.1 5) (fun t h1 h2 _ => absurd h1 (by omega))
  · rw [sr_self] at key
    have e : nI (2 ^ nv (σ.1 1) 3 - 1) = nI (2 ^ nv (σ.1 1) 3) - 1 := by rw [show (1 : Int32) = nI 1 from rfl, pk_sub (by omega)]
    rw [e]
    exact key
  · intro hle r hr
    refine PW_blk okM_leastFrom 1 rfl SpM_ok ?_
    simp only [wL0, wLc, true_and, w1, lg0, lgi, lgr, lgl, w80]
    refine b2Y (m1_lt (by omega)) ?_
    refine PW_blk okM_leastFrom 16 rfl SpM_ok ?_
    simp only [wL0, wLc, true_and, w2, lg0, lgi, lgr, lgl, w35, kM0, rM5, kM5, nM5, w1, w39, w84, sr1]
    rw [nI_clamp (by omega), hr fr (Nat.le_refl _) hf (Nat.and_self _)]
    exact ⟨vp_in_nI (by omega) (by decide), hk r (fun t h1 h2 => hr t (by have : fr &&& t ≤ t := Nat.and_le_right; omega) h1 h2)⟩
  · intro s hs ih hle r hr
    have hs10 : s < 1024 := by omega
    rw [m1_s]
    refine PW_blk okM_leastFrom 1 rfl SpM_ok ?_
    simp only [wL0, wLc, true_and, w1, lg0, lgi, lgr, lgl, w80]
    refine b2N (nI_nlt hs (by omega)) ?_
    have cont : ∀ r, (∀ t, s ≤ t → t < 2 ^ nv (σ.1 1) 3 → fr &&& t = fr → r t = encF (lst (σ.1 1) b t)) → PW 1 ev mM_leastFrom 170 [.ref 0, .int (nI fr), .int (nI b), .int (nI s)] [] (sr σ 5 r) K := by
      intro r hr
      refine PW_blk okM_leastFrom 15 rfl SpM_ok ?_
      simp only [wL0, wLc, true_and, w7, lg0, lgi, lgr, lgl, ls00, ls0i, ls0r, ls0l, lsi, lsr, lsl, Option.map_some, w70, m1_add]
      exact ih (by omega) r hr
    have hv : vp_in (nI s) 1024 := vp_in_nI hs10 (by decide)
    have cl : (nI s).toNatClampNeg = s := nI_clamp (by omega)
    refine PW_blk okM_leastFrom 2 rfl SpM_ok ?_
    simp only [wL0, wLc, true_and, w2, lg0, lgi, lgr, lgl, w35, kM0, rM5, kM5, nM5, w1, w0, w40, w18, w16, w73, sr1, si_sr, eq_true hv, cl]
    rw [nI_not (by omega) hs10]
    have same : ∀ x t, s + 1 ≤ t → upd r s x t = r t := fun x t ht => updN (by omega)
    by_cases hsub : fr &&& s = fr
    rotate_left
    · refine b3N hsub ?_
      refine PW_blk okM_leastFrom 5 rfl SpM_ok ?_
      simp only [wL0, wLc, true_and, w1, lg0, lgi, lgr, lgl, w0, w18, w16, w73]
      rw [nI_not (by omega) hs10]
      refine b3N hsub ?_
      refine cont _ (fun t h1 h2 h3 => ?_)
      have hne : t ≠ s := fun e => hsub (e ▸ h3)
      rw [same _ t (by omega)]
      exact hr t (by omega) h2 h3
    refine b3Y hsub ?_
    refine PW_blk okM_leastFrom 3 rfl SpM_ok ?_
    simp only [wL0, wLc, true_and, w2, lg0, lgi, lgr, lgl, w1, w54_2, q40, q41, q42, q43, q44, Option.toList_some, Option.toList_none, List.cons_append, List.nil_append, sp_isOut, w72, n5_1]
    by_cases hout : σ.1 1 6 &&& (nI s ^^^ -1) = 0
    · refine bY (if_pos hout) ?_
      refine PW_blk okM_leastFrom 4 rfl SpM_ok ?_
      simp only [wL0, wLc, true_and, w2, lg0, lgi, lgr, lgl, w35, kM0, rM5, kM5, nM5, w1, w0, w40, tn0, w70, sr1, si_sr, eq_true hv, cl]
      refine cont _ (fun t h1 h2 h3 => ?_)
      by_cases e : t = s
      · subst e
        rw [updS, lst_eq hn (by omega), if_pos hout]
        rfl
      · rw [updN e, same _ t (by omega)]
        exact hr t (by omega) h2 h3
    refine bN (if_neg hout) ?_
    refine PW_blk okM_leastFrom 5 rfl SpM_ok ?_
    simp only [wL0, wLc, true_and, w1, lg0, lgi, lgr, lgl, w0, w18, w16, w73]
    rw [nI_not (by omega) hs10]
    refine b3Y hsub ?_
    refine PW_blk okM_leastFrom 6 rfl SpM_ok ?_
    simp only [wL0, wLc, true_and, w2, lg0, lgi, lgr, lgl, w1, w54_2, q40, q41, q42, q43, q44, Option.toList_some, Option.toList_none, List.cons_append, List.nil_append, w4, ls00, ls0i, ls0r, ls0l, lsi, lsr, lsl, Option.map_some, w0, w71]
    refine R_slackBy (σ := sr σ 5 _) hI hs10 ?_
    simp only [wL0, wLc, true_and, w2, lg0, lgi, lgr, lgl, w1, w54_2, q40, q41, q42, q43, q44, Option.toList_some, Option.toList_none, List.cons_append, List.nil_append, w4, ls00, ls0i, ls0r, ls0l, lsi, lsr, lsl, Option.map_some, w0, w71, n5_1]
    refine R_freeBy (σ := sr σ 5 _) hI hs10 ?_
    simp only [wL0, wLc, true_and, w2, lg0, lgi, lgr, lgl, w1, w54_2, q40, q41, q42, q43, q44, Option.toList_some, Option.toList_none, List.cons_append, List.nil_append, w4, ls00, ls0i, ls0r, ls0l, lsi, lsr, lsl, Option.map_some, w0, w71, n5_1]
    have inner := lp_up (n := nv (σ.1 1) 3) (P := fun k => ∀ r, (∀ t, s + 1 ≤ t → t < 2 ^ nv (σ.1 1) 3 → fr &&& t = fr → r t = encF (lst (σ.1 1) b t)) → r s = encF (lsU (σ.1 1) b s (lst (σ.1 1) b) k) → PW 1 ev mM_leastFrom 69 [.ref 0, .int (nI fr), .int (nI b), .int (nI s), .int (nI (slackN (σ.1 1) s)), .int (nI (frN (σ.1 1) s)), .int (nI k)] [] (sr σ 5 r) K) ?_ ?_ 0 (Nat.zero_le _)
    · exact inner _ (fun t h1 h2 h3 => by rw [same _ t h1]; exact hr t h1 h2 h3) updS
    · intro r hr hrs
      refine PW_blk okM_leastFrom 7 rfl SpM_ok ?_
      simp only [wL0, wLc, true_and, w1, lg0, lgi, lgr, lgl, w2, w35, kM0, rM0, kM1, nM1, w0, w39, tn3, vi3_120, w81, n5_1, hI.1.1]
      refine b3N (nI_nlt (Nat.le_refl _) (by omega)) ?_
      refine PW_loc 4 ?_
      refine cont r (fun t h1 h2 h3 => ?_)
      by_cases e : t = s
      · subst e
        rw [hrs, lst_eq hn (by omega), if_neg hout]
      · exact hr t (by omega) h2 h3
    · intro k hkn ih2 r hr hrs
      have hk10 : k < 10 := by omega
      refine PW_blk okM_leastFrom 7 rfl SpM_ok ?_
      simp only [wL0, wLc, true_and, w1, lg0, lgi, lgr, lgl, w2, w35, kM0, rM0, kM1, nM1, w0, w39, tn3, vi3_120, w81, n5_1, hI.1.1]
      refine b3Y (nI_lt hkn (by omega)) ?_
      refine PW_blk okM_leastFrom 8 rfl SpM_ok ?_
      simp only [wL0, wLc, true_and, w2, lg0, lgi, lgr, lgl, w1, w54_5, q40, q41, q42, q43, q44, Option.toList_some, Option.toList_none, List.cons_append, List.nil_append, w73]
      refine R_whyBy (σ := sr σ 5 _) hI hs10 (by have := frN_lt (σ.1 1) s; omega) hkn ?_
      simp only [wL0, wLc, true_and, w2, lg0, lgi, lgr, lgl, w1, w54_5, q40, q41, q42, q43, q44, Option.toList_some, Option.toList_none, List.cons_append, List.nil_append, w73, n5_1]
      have next : ∀ r, (∀ t, s + 1 ≤ t → t < 2 ^ nv (σ.1 1) 3 → fr &&& t = fr → r t = encF (lst (σ.1 1) b t)) → r s = encF (lsU (σ.1 1) b s (lst (σ.1 1) b) (k + 1)) → PW 1 ev mM_leastFrom 164 [.ref 0, .int (nI fr), .int (nI b), .int (nI s), .int (nI (slackN (σ.1 1) s)), .int (nI (frN (σ.1 1) s)), .int (nI k)] [] (sr σ 5 r) K := by
        intro r hr hrs
        refine PW_blk okM_leastFrom 14 rfl SpM_ok ?_
        simp only [wL0, wLc, true_and, w7, lg0, lgi, lgr, lgl, ls00, ls0i, ls0r, ls0l, lsi, lsr, lsl, Option.map_some, w70]
        rw [show (1 : Int32) = nI 1 from rfl, nI_add]
        exact ih2 r hr hrs
      have e1 : lsU (σ.1 1) b s (lst (σ.1 1) b) (k + 1) = if whyF (σ.1 1) k s (nI (slackN (σ.1 1) s)) (nI (hdN (σ.1 1) s)) = 0 then omin (lsU (σ.1 1) b s (lst (σ.1 1) b) k) (lst (σ.1 1) b (s ||| 2 ^ k)) (costN (σ.1 1) b k s) else lsU (σ.1 1) b s (lst (σ.1 1) b) k := rfl
      by_cases hw : whyF (σ.1 1) k s (nI (slackN (σ.1 1) s)) (nI (hdN (σ.1 1) s)) = 0
      rotate_left
      · refine b3N hw ?_
        refine next r hr ?_
        rw [e1, if_neg hw]
        exact hrs
      refine b3Y hw ?_
      rw [if_pos hw] at e1
      have hbit := why_bit hw
      have hgt := or_gt hbit
      have hlt : s ||| 2 ^ k < 2 ^ nv (σ.1 1) 3 := or_lt (by omega) hkn
      have hsub2 : fr &&& (s ||| 2 ^ k) = fr := by
        rw [Nat.and_or_distrib_left, hsub]
        apply Nat.eq_of_testBit_eq
        intro i
        rw [Nat.testBit_or, Nat.testBit_and]
        cases fr.testBit i <;> simp
      have hv2 : vp_in (nI (s ||| 2 ^ k)) 1024 := vp_in_nI (by omega) (by decide)
      have cl2 : (nI (s ||| 2 ^ k)).toNatClampNeg = s ||| 2 ^ k := nI_clamp (by omega)
      have hq := hr _ hgt hlt hsub2
      refine PW_blk okM_leastFrom 9 rfl SpM_ok ?_
      simp only [wL0, wLc, true_and, w2, lg0, lgi, lgr, lgl, w35, kM0, rM5, kM5, nM5, w1, w0, w19, w17, w39, tn1, w81, sr1, nI_sh1 k (by omega), fa_or, eq_true hv2, cl2, hq]
      cases e : lst (σ.1 1) b (s ||| 2 ^ k) with
      | none =>
        refine b3N (show ¬ encF none < 99999999 by decide) ?_
        refine next r hr ?_
        rw [e1, e]
        exact hrs
      | some v =>
        have hvle := lst_lt hI (by omega) e
        have hc := cost_le hI (b := b) (o := s) hkn
        have hal : ∀ a, lsU (σ.1 1) b s (lst (σ.1 1) b) k = some a → a ≤ 133120 := lsU_lt hI hs10 (by omega)
        refine b3Y (encF_lt (v := v) (by omega)) ?_
        refine PW_blk okM_leastFrom 10 rfl SpM_ok ?_
        simp only [wL0, wLc, true_and, w2, lg0, lgi, lgr, lgl, w1, w54_6, q40, q41, q42, q43, q44, Option.toList_some, Option.toList_none, List.cons_append, List.nil_append, w35, kM0, rM5, kM5, nM5, w0, w19, w17, w39, w11, w4, ls00, ls0i, ls0r, ls0l, lsi, lsr, lsl, Option.map_some, tn1, w81]
        refine R_costs (σ := sr σ 5 _) hI hs10 hb hkn ?_
        rw [e] at hq
        simp only [wL0, wLc, true_and, w2, lg0, lgi, lgr, lgl, w1, w54_6, q40, q41, q42, q43, q44, Option.toList_some, Option.toList_none, List.cons_append, List.nil_append, w35, kM0, rM5, kM5, nM5, w0, w19, w17, w39, w11, w4, ls00, ls0i, ls0r, ls0l, lsi, lsr, lsl, Option.map_some, tn1, w81, sr1, n5_1, nI_sh1 k (by omega), fa_or, eq_true hv2, cl2, hq, cl, eq_true hv, hrs]
        rw [show encF (some v) = nI v from rfl, nI_add]
        have e3 := encF_omin (acc := lsU (σ.1 1) b s (lst (σ.1 1) b) k) (v := v) (c := costN (σ.1 1) b k s) hal (by omega)
        have fin : PW 1 ev mM_leastFrom 163 [.ref 0, .int (nI fr), .int (nI b), .int (nI s), .int (nI (slackN (σ.1 1) s)), .int (nI (frN (σ.1 1) s)), .int (nI k), .int (nI (costN (σ.1 1) b k s + v))] [.int (encF (lsU (σ.1 1) b s (lst (σ.1 1) b) (k + 1))), .int (nI s), .ref 5] (sr σ 5 r) K := by
          refine PW_blk okM_leastFrom 13 rfl SpM_ok ?_
          simp only [wL0, wLc, true_and, w40, w71, si_sr, kM5, nM5, cl, eq_true hv]
          refine PW_loc 7 ?_
          exact next _ (fun t h1 h2 h3 => by rw [updN (by omega)]; exact hr t h1 h2 h3) updS
        rw [e1, e, e3] at fin
        by_cases hc2 : nI (costN (σ.1 1) b k s + v) < encF (lsU (σ.1 1) b s (lst (σ.1 1) b) k)
        · refine b3Y hc2 ?_
          rw [if_pos hc2] at fin
          refine PW_blk okM_leastFrom 11 rfl SpM_ok ?_
          simp only [wL0, wLc, true_and, w1, lg0, lgi, lgr, lgl, w70]
          exact fin
        · refine b3N hc2 ?_
          rw [if_neg hc2] at fin
          refine PW_blk okM_leastFrom 12 rfl SpM_ok ?_
          simp only [wL0, wLc, true_and, w2, lg0, lgi, lgr, lgl, w35, kM0, rM5, kM5, nM5, w1, w39, w71, sr1, cl, eq_true hv, hrs]
          exact fin
theorem R_told1 {r : Option Nat} (hr : ∀ v, r = some v → v ≤ 133120) (h1 : r = none → K (some (.int (-1000004))) (noS σ 3)) (h2 : ∀ v, r = some v → K (some (.int (nI v))) σ) : Rn 1 ev mM_told1 [.ref 0, .int (encF r)] σ K := by
  refine Rn_V (by decide) rc6 rfl rfl ?_
  refine PW_blk okM_told1 0 rfl SpM_ok ?_
  simp only [wL0, wLc, true_and, w1, lg0, lgi, lgr, lgl, w0, w81]
  cases r with
  | none =>
    refine b3N (show ¬ encF none < 99999999 by decide) ?_
    refine PW_blk okM_told1 2 rfl SpM_ok ?_
    simp only [wL0, wLc, true_and, w2, lg0, lgi, lgr, lgl, w0, w54_2, q40, q41, q42, q43, q44, Option.toList_some, Option.toList_none, List.cons_append, List.nil_append, sp_no, v7_0, v7_1, v7_2, v7_3, v7_4, v7_5, v7_6, w71]
    refine PW_blk okM_told1 3 rfl SpM_ok ?_
    simp only [wL0, w84]
    exact h1 rfl
  | some v =>
    have := hr v rfl
    refine b3Y (encF_lt (v := v) (by omega)) ?_
    refine PW_blk okM_told1 1 rfl SpM_ok ?_
    simp only [wL0, wLc, true_and, w1, lg0, lgi, lgr, lgl, w70]
    refine PW_blk okM_told1 3 rfl SpM_ok ?_
    simp only [wL0, w84]
    exact h2 v rfl
theorem R_soonest (hI : Inv (σ.1 1)) (h1 : lst (σ.1 1) 0 (nv (σ.1 1) 2) = none → ∀ σ', Sm σ σ' → K (some (.int (-1000004))) (noS σ' 3)) (h2 : ∀ v, lst (σ.1 1) 0 (nv (σ.1 1) 2) = some v → ∀ σ', Sm σ σ' → K (some (.int (nI v))) σ') : Rn 1 ev mM_soonest [.ref 0] σ K := by
  have hG := hI.2.1.1
  have hlt : nv (σ.1 1) 2 < 1024 := by have := hG.2; omega
  refine Rn_V (by decide) rc6 rfl rfl ?_
  refine PW_blk okM_soonest 0 rfl SpM_ok ?_
  simp only [wL0, wLc, true_and, w2, lg0, lgi, lgr, lgl, w35, kM0, rM0, kM1, nM1, w0, w39, w54_3, q40, q41, q42, q43, q44, Option.toList_some, Option.toList_none, List.cons_append, List.nil_append, w54_2, tn0, vi0_120, tn2, vi2_120, w84, hG.1]
  refine R_leastFrom (b := 0) hI (by decide) hI.2.1.2 (fun r _ => ?_)
  simp only [wL0, wLc, true_and, w2, lg0, lgi, lgr, lgl, w35, kM0, rM0, kM1, nM1, w0, w39, w54_3, q40, q41, q42, q43, q44, Option.toList_some, Option.toList_none, List.cons_append, List.nil_append, w54_2, tn0, vi0_120, tn2, vi2_120, w84]
  refine R_told1 (fun v hv => lst_lt hI hlt hv) (fun e => ?_) (fun v e => ?_)
  · simp only [wL0, wLc, true_and, w2, lg0, lgi, lgr, lgl, w35, kM0, rM0, kM1, nM1, w0, w39, w54_3, q40, q41, q42, q43, q44, Option.toList_some, Option.toList_none, List.cons_append, List.nil_append, w54_2, tn0, vi0_120, tn2, vi2_120, w84]
    exact h1 e _ (Sm_sr (by decide) (by decide) Sm_r)
  · simp only [wL0, wLc, true_and, w2, lg0, lgi, lgr, lgl, w35, kM0, rM0, kM1, nM1, w0, w39, w54_3, q40, q41, q42, q43, q44, Option.toList_some, Option.toList_none, List.cons_append, List.nil_append, w54_2, tn0, vi0_120, tn2, vi2_120, w84]
    exact h2 v e _ (Sm_sr (by decide) (by decide) Sm_r)
theorem R_quietest (hI : Inv (σ.1 1)) (h1 : lst (σ.1 1) 1 (nv (σ.1 1) 2) = none → ∀ σ', Sm σ σ' → K (some (.int (-1000004))) (noS σ' 3)) (h2 : ∀ v, lst (σ.1 1) 1 (nv (σ.1 1) 2) = some v → ∀ σ', Sm σ σ' → K (some (.int (nI v))) σ') : Rn 1 ev mM_quietest [.ref 0] σ K := by
  have hG := hI.2.1.1
  have hlt : nv (σ.1 1) 2 < 1024 := by have := hG.2; omega
  refine Rn_V (by decide) rc6 rfl rfl ?_
  refine PW_blk okM_quietest 0 rfl SpM_ok ?_
  simp only [wL0, wLc, true_and, w2, lg0, lgi, lgr, lgl, w35, kM0, rM0, kM1, nM1, w0, w39, w54_3, q40, q41, q42, q43, q44, Option.toList_some, Option.toList_none, List.cons_append, List.nil_append, w54_2, tn1, vi1_120, tn2, vi2_120, w84, hG.1]
  refine R_leastFrom (b := 1) hI (by decide) hI.2.1.2 (fun r _ => ?_)
  simp only [wL0, wLc, true_and, w2, lg0, lgi, lgr, lgl, w35, kM0, rM0, kM1, nM1, w0, w39, w54_3, q40, q41, q42, q43, q44, Option.toList_some, Option.toList_none, List.cons_append, List.nil_append, w54_2, tn1, vi1_120, tn2, vi2_120, w84]
  refine R_told1 (fun v hv => lst_lt hI hlt hv) (fun e => ?_) (fun v e => ?_)
  · simp only [wL0, wLc, true_and, w2, lg0, lgi, lgr, lgl, w35, kM0, rM0, kM1, nM1, w0, w39, w54_3, q40, q41, q42, q43, q44, Option.toList_some, Option.toList_none, List.cons_append, List.nil_append, w54_2, tn1, vi1_120, tn2, vi2_120, w84]
    exact h1 e _ (Sm_sr (by decide) (by decide) Sm_r)
  · simp only [wL0, wLc, true_and, w2, lg0, lgi, lgr, lgl, w35, kM0, rM0, kM1, nM1, w0, w39, w54_3, q40, q41, q42, q43, q44, Option.toList_some, Option.toList_none, List.cons_append, List.nil_append, w54_2, tn1, vi1_120, tn2, vi2_120, w84]
    exact h2 v e _ (Sm_sr (by decide) (by decide) Sm_r)
theorem R_fewest (hI : Inv (σ.1 1)) (h1 : lst (σ.1 1) 2 (nv (σ.1 1) 2) = none → ∀ σ', Sm σ σ' → K (some (.int (-1000004))) (noS σ' 3)) (h2 : ∀ v, lst (σ.1 1) 2 (nv (σ.1 1) 2) = some v → ∀ σ', Sm σ σ' → K (some (.int (nI v))) σ') : Rn 1 ev mM_fewest [.ref 0] σ K := by
  have hG := hI.2.1.1
  have hlt : nv (σ.1 1) 2 < 1024 := by have := hG.2; omega
  refine Rn_V (by decide) rc6 rfl rfl ?_
  refine PW_blk okM_fewest 0 rfl SpM_ok ?_
  simp only [wL0, wLc, true_and, w2, lg0, lgi, lgr, lgl, w35, kM0, rM0, kM1, nM1, w0, w39, w54_3, q40, q41, q42, q43, q44, Option.toList_some, Option.toList_none, List.cons_append, List.nil_append, w54_2, tn2, vi2_120, w84, hG.1]
  refine R_leastFrom (b := 2) hI (by decide) hI.2.1.2 (fun r _ => ?_)
  simp only [wL0, wLc, true_and, w2, lg0, lgi, lgr, lgl, w35, kM0, rM0, kM1, nM1, w0, w39, w54_3, q40, q41, q42, q43, q44, Option.toList_some, Option.toList_none, List.cons_append, List.nil_append, w54_2, tn2, vi2_120, w84]
  refine R_told1 (fun v hv => lst_lt hI hlt hv) (fun e => ?_) (fun v e => ?_)
  · simp only [wL0, wLc, true_and, w2, lg0, lgi, lgr, lgl, w35, kM0, rM0, kM1, nM1, w0, w39, w54_3, q40, q41, q42, q43, q44, Option.toList_some, Option.toList_none, List.cons_append, List.nil_append, w54_2, tn2, vi2_120, w84]
    exact h1 e _ (Sm_sr (by decide) (by decide) Sm_r)
  · simp only [wL0, wLc, true_and, w2, lg0, lgi, lgr, lgl, w35, kM0, rM0, kM1, nM1, w0, w39, w54_3, q40, q41, q42, q43, q44, Option.toList_some, Option.toList_none, List.cons_append, List.nil_append, w54_2, tn2, vi2_120, w84]
    exact h2 v e _ (Sm_sr (by decide) (by decide) Sm_r)
end MD
end
section
/-! rows of picks -/
def best (S : Nat → Int32) (o k : Nat) : Prop := mayok S k o ∧ ∃ v, lst S 0 (o ||| 2 ^ k) = some v ∧ lst S 0 o = some (takesN S k o + v)
def isPick (S : Nat → Int32) (o k : Nat) : Prop := k < nv S 3 ∧ best S o k ∧ ∀ j, j < k → ¬ best S o j
noncomputable def pick (S : Nat → Int32) (o : Nat) : Nat := Classical.epsilon (isPick S o)
noncomputable def rst (S : Nat → Int32) (o : Nat) : Nat → Nat
  | 0 => o
  | i + 1 => rst S o i ||| 2 ^ pick S (rst S o i)
def rowM (S : Nat → Int32) (o m : Nat) : Prop := outP S (rst S o m) ∧ ∀ j, j < m → ¬ outP S (rst S o j)
theorem rowM_u {S : Nat → Int32} {o m m' : Nat} (h : rowM S o m) (h' : rowM S o m') : m = m' := by
  rcases Nat.lt_trichotomy m m' with z | z | z
  · exact absurd h.1 (h'.2 m z)
  · exact z
  · exact absurd h'.1 (h.2 m' z)
theorem lst_out {S : Nat → Int32} (hn : nv S 3 ≤ 10) {b o : Nat} (ho : o < 1024) (h : outP S o) : lst S b o = some 0 := by
  rw [lst_eq hn ho, if_pos (show S 6 &&& (nI o ^^^ -1) = 0 from h)]
theorem lst_in {S : Nat → Int32} (hn : nv S 3 ≤ 10) {b o : Nat} (ho : o < 1024) (h : ¬ outP S o) : lst S b o = lsU S b o (lst S b) (nv S 3) := by
  rw [lst_eq hn ho, if_neg (show ¬ (S 6 &&& (nI o ^^^ -1) = 0) from h)]
theorem sr_eq {σ : St2} {k : Nat} {r : Nat → Int32} (h : r = σ.1 k) : sr σ k r = σ := by rw [h, sr_self]
theorem least_ex {p : Nat → Prop} : ∀ n, (∃ k, k < n ∧ p k) → ∃ k, k < n ∧ p k ∧ ∀ j, j < k → ¬ p j := by
  intro n
  induction n with
  | zero => intro ⟨k, h, _⟩; omega
  | succ n ih =>
    intro ⟨k, h1, h2⟩
    by_cases h : ∃ k, k < n ∧ p k
    · obtain ⟨a, x, y⟩ := ih h
      exact ⟨a, by omega, y⟩
    · have e : k = n := by
        rcases Nat.lt_or_ge k n with z | z
        · exact absurd ⟨k, z, h2⟩ h
        · omega
      subst e
      exact ⟨k, h1, h2, fun j hj hp => h ⟨j, hj, hp⟩⟩
theorem pick_eq {S : Nat → Int32} {o k : Nat} (h : isPick S o k) : pick S o = k := by
  have h2 : isPick S o (pick S o) := Classical.epsilon_spec ⟨k, h⟩
  rcases Nat.lt_trichotomy (pick S o) k with z | z | z
  · exact absurd h2.2.1 (h.2.2 _ z)
  · exact z
  · exact absurd h.2.1 (h2.2.2 _ z)
theorem pcU_or {o k : Nat} (h : o.testBit k = false) : ∀ m, pcU (o ||| 2 ^ k) m = pcU o m + (if k < m then 1 else 0)
  | 0 => rfl
  | m + 1 => by
    have ih := pcU_or h m
    unfold pcU
    rw [ih, bit_or]
    by_cases e : m = k
    · subst e
      simp [h]
    · have e1 : decide (m = k) = false := decide_eq_false e
      rw [e1, Bool.or_false]
      have e2 : (if k < m + 1 then 1 else 0) = (if k < m then 1 else (0 : Nat)) := by
        by_cases e2 : k < m
        · rw [if_pos e2, if_pos (by omega)]
        · rw [if_neg e2, if_neg (by omega)]
      rw [e2]
      omega
theorem pcn_or {o k : Nat} (hk : k < 10) (h : o.testBit k = false) : pcn (o ||| 2 ^ k) = pcn o + 1 := by
  unfold pcn
  rw [pcU_or h, if_pos hk]
theorem pick_ok {S : Nat → Int32} (hI : Inv S) {o : Nat} (ho : o < 1024) (hl : lst S 0 o ≠ none) (hno : ¬ outP S o) : isPick S o (pick S o) := by
  have hex : ∃ k, k < nv S 3 ∧ best S o k := by
    cases e : lst S 0 o with
    | none => exact absurd e hl
    | some w =>
      have e2 := e
      rw [lst_eq hI.1.2 ho, if_neg (show ¬ (S 6 &&& (nI o ^^^ -1) = 0) from hno)] at e2
      obtain ⟨k, hk, hm, v, hv, hc⟩ := lsU_some _ _ e2
      refine ⟨k, hk, hm, v, hv, ?_⟩
      rw [e, ← hc]
      rfl
  obtain ⟨k, h1, h2, h3⟩ := least_ex _ hex
  have := pick_eq (S := S) (o := o) ⟨h1, h2, h3⟩
  rw [this]
  exact ⟨h1, h2, h3⟩
theorem rst_ok {S : Nat → Int32} (hI : Inv S) {o : Nat} (ho : o < 2 ^ nv S 3) (hl : lst S 0 o ≠ none) : ∀ i, (∀ j, j < i → ¬ outP S (rst S o j)) → lst S 0 (rst S o i) ≠ none ∧ rst S o i < 2 ^ nv S 3 ∧ pcn (rst S o i) = pcn o + i ∧ o &&& rst S o i = o
  | 0, _ => ⟨hl, ho, rfl, Nat.and_self _⟩
  | i + 1, h => by
    obtain ⟨h1, h2, h3, h4⟩ := rst_ok hI ho hl i (fun j hj => h j (by omega))
    have hp2 := p2le _ hI.1.2
    have hn := hI.1.2
    have hp := pick_ok hI (by omega) h1 (h i (by omega))
    obtain ⟨hk, ⟨hm, v, hv, -⟩, -⟩ := hp
    have hb := why_bit hm
    show lst S 0 (rst S o i ||| 2 ^ pick S (rst S o i)) ≠ none ∧ rst S o i ||| 2 ^ pick S (rst S o i) < _ ∧ pcn (rst S o i ||| 2 ^ pick S (rst S o i)) = _ ∧ o &&& (rst S o i ||| 2 ^ pick S (rst S o i)) = o
    refine ⟨by (rw [hv]; intro z; cases z), or_lt h2 hk, by rw [pcn_or (by omega) hb, h3]; omega, ?_⟩
    rw [Nat.and_or_distrib_left, h4]
    apply Nat.eq_of_testBit_eq
    intro j
    rw [Nat.testBit_or, Nat.testBit_and]
    cases o.testBit j <;> simp
def pkQ (S : Nat → Int32) (o k : Nat) (f : Int32) : Prop := (f = -1 ∧ ∀ j, k ≤ j → j < nv S 3 → ¬ best S o j) ∨ ∃ p, k ≤ p ∧ p < nv S 3 ∧ f = nI p ∧ best S o p ∧ ∀ j, k ≤ j → j < p → ¬ best S o j
theorem pkQ_no {S : Nat → Int32} {o k : Nat} {f : Int32} (h : pkQ S o (k + 1) f) (hb : ¬ best S o k) : pkQ S o k f := by
  rcases h with ⟨h1, h2⟩ | ⟨p, h1, h2, h3, h4, h5⟩
  · refine Or.inl ⟨h1, fun j ha hc => ?_⟩
    by_cases e : j = k
    · rw [e]; exact hb
    · exact h2 j (by omega) hc
  · refine Or.inr ⟨p, by omega, h2, h3, h4, fun j ha hc => ?_⟩
    by_cases e : j = k
    · rw [e]; exact hb
    · exact h5 j (by omega) hc
theorem pkQ_yes {S : Nat → Int32} {o k : Nat} (hk : k < nv S 3) (hb : best S o k) : pkQ S o k (nI k) := Or.inr ⟨k, Nat.le_refl _, hk, rfl, hb, fun j h1 h2 => absurd h1 (by omega)⟩
section ME
variable {ev : EV} {σ : St2} {K : PO}
theorem R_takesBy' {k o : Nat} {sl fr : Int32} (hI : Inv (σ.1 1)) (ho : o < 1024) (hkn : k < nv (σ.1 1) 3) (h1 : sl = nI (slackN (σ.1 1) o)) (h2 : fr = nI (frN (σ.1 1) o)) (hk : K (some (.int (nI (takesN (σ.1 1) k o)))) σ) : Rn 1 ev mM_takesBy [.ref 0, .int (nI k), .int (nI o), .int sl, .int fr] σ K := by
  subst h1 h2
  exact R_takesBy hI ho hkn hk
theorem R_findsRow (hI : Inv (σ.1 1)) (h0 : lst (σ.1 1) 0 (nv (σ.1 1) 2) = none → ∀ σ', Sm σ σ' → K (some (.int 0)) σ') (h1 : ∀ m, lst (σ.1 1) 0 (nv (σ.1 1) 2) ≠ none → rowM (σ.1 1) (nv (σ.1 1) 2) m → m ≤ 10 → ∀ σ', Sm σ σ' → σ'.1 0 7 = nI m → (∀ i, i < m → σ'.1 6 i = nI (pick (σ.1 1) (rst (σ.1 1) (nv (σ.1 1) 2) i))) → K (some (.int 1)) σ') : Rn 1 ev mM_findsRow [.ref 0] σ K := by
  have hG := hI.2.1.1
  have hn := hI.1.2
  have hT := p2le _ hn
  have hoT := hI.2.1.2
  refine Rn_V (by decide) rc6 rfl rfl ?_
  refine PW_blk okM_findsRow 0 rfl SpM_ok ?_
  simp only [wL0, wLc, true_and, w2, lg0, lgi, lgr, lgl, w0, w36, kM0, w35, rM0, kM1, nM1, w39, w4, ls00, ls0i, ls0r, ls0l, lsi, lsr, lsl, Option.map_some, w1, w54_3, q40, q41, q42, q43, q44, Option.toList_some, Option.toList_none, List.cons_append, List.nil_append, tn0, vi0_120, tn2, vi2_120, w79, si_is, n0_1, hG.1]
  refine R_leastFrom (σ := sr σ 0 _) (b := 0) hI (by decide) hI.2.1.2 (fun r hr => ?_)
  have hr : ∀ t, t < 2 ^ nv (σ.1 1) 3 → nv (σ.1 1) 2 &&& t = nv (σ.1 1) 2 → r t = encF (lst (σ.1 1) 0 t) := hr
  simp only [wL0, wLc, true_and, w2, lg0, lgi, lgr, lgl, w0, w36, kM0, w35, rM0, kM1, nM1, w39, w4, ls00, ls0i, ls0r, ls0l, lsi, lsr, lsl, Option.map_some, w1, w54_3, q40, q41, q42, q43, q44, Option.toList_some, Option.toList_none, List.cons_append, List.nil_append, tn0, vi0_120, tn2, vi2_120, w79, n0_1]
  have hSm0 : Sm σ (sr (sr σ 0 (upd (σ.1 0) 7 0)) 5 r) := Sm_sr (by decide) (by decide) (Sm_f (by decide) (by decide) Sm_r)
  generalize ho : nv (σ.1 1) 2 = o at *
  cases el : lst (σ.1 1) 0 o with
  | none =>
    refine b3Y rfl ?_
    refine PW_blk okM_findsRow 1 rfl SpM_ok ?_
    simp only [wL0, wLc, true_and, w0, w85]
    exact ⟨Or.inl trivial, h0 el _ hSm0⟩
  | some w =>
  have hw := lst_lt hI (by omega) el
  have hne : lst (σ.1 1) 0 o ≠ none := by rw [el]; exact fun z => by cases z
  refine b3N (by intro e; have e2 := encF_lt (v := w) (by omega); rw [show nI w = 99999999 from e] at e2; exact absurd e2 (by decide)) ?_
  have key := lp_up (n := 11) (P := fun i => ∀ σ', Sm σ σ' → (∀ t, t < 2 ^ nv (σ.1 1) 3 → o &&& t = o → σ'.1 5 t = encF (lst (σ.1 1) 0 t)) → σ'.1 0 7 = nI i → (∀ j, j < i → σ'.1 6 j = nI (pick (σ.1 1) (rst (σ.1 1) o j))) → (∀ j, j < i → ¬ outP (σ.1 1) (rst (σ.1 1) o j)) → PW 1 ev mM_findsRow 25 [.ref 0, .int (nI (rst (σ.1 1) o i))] [] σ' K) ?_ ?_ 0 (by decide)
  · refine key _ hSm0 (fun t h2 h3 => ?_) ?_ (fun j hj => absurd hj (Nat.not_lt_zero _)) (fun j hj => absurd hj (Nat.not_lt_zero _))
    · rw [sr1]; exact hr t h2 h3
    · rw [n5_0, sr1, updS]; rfl
  · intro σ' _ _ _ _ hno
    have := (rst_ok hI hoT hne 11 hno).2.2.1
    have := pcn_le (rst (σ.1 1) o 11)
    omega
  · intro i hi ih σ' hSm h5 h7 h6 hno
    obtain ⟨hl, hlt, hpc, hsub⟩ := rst_ok hI hoT hne i hno
    have enext : rst (σ.1 1) o (i + 1) = rst (σ.1 1) o i ||| 2 ^ pick (σ.1 1) (rst (σ.1 1) o i) := rfl
    have e1 : σ'.1 1 = σ.1 1 := hSm.1 1 rfl
    have hI' : Inv (σ'.1 1) := by rw [e1]; exact hI
    have hnoi : ∀ q, outP (σ.1 1) (rst (σ.1 1) o i) → q = i → rowM (σ.1 1) o q := fun q hq e => by subst e; exact ⟨hq, hno⟩
    have hnos : ¬ outP (σ.1 1) (rst (σ.1 1) o i) → ∀ j, j < i + 1 → ¬ outP (σ.1 1) (rst (σ.1 1) o j) := fun hq j hj => by
      by_cases e : j = i
      · subst e; exact hq
      · exact hno j (by omega)
    have h6s : ∀ r6 : Nat → Int32, (∀ j, j < i → r6 j = σ'.1 6 j) → r6 i = nI (pick (σ.1 1) (rst (σ.1 1) o i)) → ∀ j, j < i + 1 → r6 j = nI (pick (σ.1 1) (rst (σ.1 1) o j)) := fun r6 ha hb j hj => by
      by_cases e : j = i
      · subst e; exact hb
      · rw [ha j (by omega)]; exact h6 j (by omega)
    rw [enext] at ih
    generalize hs : rst (σ.1 1) o i = s at *
    have hs10 : s < 1024 := by omega
    have hv : vp_in (nI s) 1024 := vp_in_nI hs10 (by decide)
    have cl : (nI s).toNatClampNeg = s := nI_clamp (by omega)
    have h5s := h5 s hlt hsub
    refine PW_blk okM_findsRow 2 rfl SpM_ok ?_
    simp only [wL0, wLc, true_and, w2, lg0, lgi, lgr, lgl, w35, kM0, rM5, kM5, nM5, w1, w39, w77, cl, eq_true hv, h5s]
    by_cases hout : outP (σ.1 1) s
    · have e0 : lst (σ.1 1) 0 s = some 0 := by rw [lst_eq hn hs10, if_pos (show σ.1 1 6 &&& (nI s ^^^ -1) = 0 from hout)]
      rw [e0]
      refine b3N (show ¬ (0 : Int32) < encF (some 0) by decide) ?_
      refine PW_blk okM_findsRow 15 rfl SpM_ok ?_
      simp only [wL0, wLc, true_and, w0, w85]
      exact ⟨Or.inr trivial, h1 i hne (hnoi i hout rfl) (by have := pcn_le s; omega) σ' hSm h7 h6⟩
    have hpk := pick_ok hI hs10 hl hout
    have hpk2 := hpk
    obtain ⟨hkp, ⟨hmp, v, hv1, hv2⟩, -⟩ := hpk2
    have htk := takes_le hI (o := s) hkp
    have hvle := lst_lt hI hs10 hv2
    rw [hv2] at h5s ⊢
    refine b3Y (show (0 : Int32) < nI (takesN (σ.1 1) (pick (σ.1 1) s) s + v) from nI_lt (a := 0) (by omega) (by omega)) ?_
    refine PW_blk okM_findsRow 3 rfl SpM_ok ?_
    simp only [wL0, wLc, true_and, w2, lg0, lgi, lgr, lgl, w1, w54_2, q40, q41, q42, q43, q44, Option.toList_some, Option.toList_none, List.cons_append, List.nil_append, w4, ls00, ls0i, ls0r, ls0l, lsi, lsr, lsl, Option.map_some, w0, w35, kM0, rM0, kM1, nM1, w39, w12, tn1, vi1_120, tn3, vi3_120, w71]
    refine R_slackBy hI' hs10 ?_
    simp only [wL0, wLc, true_and, w2, lg0, lgi, lgr, lgl, w1, w54_2, q40, q41, q42, q43, q44, Option.toList_some, Option.toList_none, List.cons_append, List.nil_append, w4, ls00, ls0i, ls0r, ls0l, lsi, lsr, lsl, Option.map_some, w0, w35, kM0, rM0, kM1, nM1, w39, w12, tn1, vi1_120, tn3, vi3_120, w71]
    refine R_freeBy hI' hs10 ?_
    simp only [wL0, wLc, true_and, w2, lg0, lgi, lgr, lgl, w1, w54_2, q40, q41, q42, q43, q44, Option.toList_some, Option.toList_none, List.cons_append, List.nil_append, w4, ls00, ls0i, ls0r, ls0l, lsi, lsr, lsl, Option.map_some, w0, w35, kM0, rM0, kM1, nM1, w39, w12, tn1, vi1_120, tn3, vi3_120, w71, e1, hI.1.1]
    have inner := lp_dn (a := 0) (P := fun k => k ≤ nv (σ.1 1) 3 → ∀ f, pkQ (σ.1 1) s k f → PW 1 ev mM_findsRow 59 [.ref 0, .int (nI s), .int (nI (slackN (σ.1 1) s)), .int (nI (frN (σ.1 1) s)), .int f, .int (nI k - 1)] [] σ' K) ?_ ?_ (nv (σ.1 1) 3) (Nat.zero_le _)
    · exact inner (Nat.le_refl _) (-1) (Or.inl ⟨rfl, fun j a b => absurd a (by omega)⟩)
    · intro _ f hq
      refine PW_blk okM_findsRow 4 rfl SpM_ok ?_
      simp only [wL0, wLc, true_and, w1, lg0, lgi, lgr, lgl, w74]
      refine b2Y (by decide) ?_
      have hf : f = nI (pick (σ.1 1) s) := by
        rcases hq with ⟨-, h2⟩ | ⟨p, -, h2, h3, h4, h5⟩
        · exact absurd hpk.2.1 (h2 _ (Nat.zero_le _) hkp)
        · rw [pick_eq ⟨h2, h4, fun j hj => h5 j (Nat.zero_le _) hj⟩]; exact h3
      subst hf
      have hb := why_bit hmp
      have hpo := pcn_or (by omega) hb
      have hple := pcn_le (s ||| 2 ^ pick (σ.1 1) s)
      have hi10 : i < 10 := by omega
      refine PW_blk okM_findsRow 14 rfl SpM_ok ?_
      simp only [wL0, wLc, true_and, w2, lg0, lgi, lgr, lgl, w35, kM0, rM6, kM6, nM6, w33, w1, w40, w8i, w8r, w0, w11, w36, w19, w17, w4, ls00, ls0i, ls0r, ls0l, lsi, lsr, lsl, Option.map_some, tn1, w70, si_is, n6_0, h7, eq_true (vp_in_nI hi10 (by decide)), nI_clamp (show i < 2 ^ 31 by omega), nI_sh1 (pick (σ.1 1) s) (by omega), fa_or]
      refine PW_loc 2 ?_
      refine ih _ ?_ ?_ ?_ ?_ (hnos hout)
      · exact Sm_f (by decide) (by decide) (Sm_sr (by decide) (by decide) hSm)
      · intro t h2 h3
        rw [n0_5, n6_5]
        exact h5 t h2 h3
      · rw [sr1, updS, show (1 : Int32) = nI 1 from rfl, nI_add]
      · rw [n0_6, sr1]
        exact h6s _ (fun j hj => updN (by omega)) updS
    · intro k _ ih2 hkn f hq
      have hk10 : k < 10 := by omega
      rw [m1_s]
      refine PW_blk okM_findsRow 4 rfl SpM_ok ?_
      simp only [wL0, wLc, true_and, w1, lg0, lgi, lgr, lgl, w74]
      refine b2N (nI_nlt (a := k) (b := 0) (Nat.zero_le _) (by omega)) ?_
      refine PW_blk okM_findsRow 5 rfl SpM_ok ?_
      simp only [wL0, wLc, true_and, w2, lg0, lgi, lgr, lgl, w1, w54_5, q40, q41, q42, q43, q44, Option.toList_some, Option.toList_none, List.cons_append, List.nil_append, w73]
      refine R_whyBy (o := s) (fr := frN (σ.1 1) s) hI' hs10 (by have := frN_lt (σ.1 1) s; omega) (by rw [e1]; omega) ?_
      simp only [wL0, wLc, true_and, w2, lg0, lgi, lgr, lgl, w1, w54_5, q40, q41, q42, q43, q44, Option.toList_some, Option.toList_none, List.cons_append, List.nil_append, w73, e1]
      have cont : ∀ old x f', pkQ (σ.1 1) s k f' → PW 1 ev mM_findsRow 141 [.ref 0, .int (nI s), .int (nI (slackN (σ.1 1) s)), .int (nI (frN (σ.1 1) s)), .int old, .int (nI k), .int x] [.int f'] σ' K := by
        intro old x f' hq'
        refine PW_blk okM_findsRow 13 rfl SpM_ok ?_
        simp only [wL0, wLc, true_and, w4, ls00, ls0i, ls0r, ls0l, lsi, lsr, lsl, Option.map_some, w7, lg0, lgi, lgr, lgl, w70, m1_add]
        refine PW_loc 6 ?_
        exact ih2 (by omega) f' hq'
      have no : pkQ (σ.1 1) s k f → PW 1 ev mM_findsRow 96 [.ref 0, .int (nI s), .int (nI (slackN (σ.1 1) s)), .int (nI (frN (σ.1 1) s)), .int f, .int (nI k)] [] σ' K := by
        intro hq'
        refine PW_blk okM_findsRow 8 rfl SpM_ok ?_
        simp only [wL0, wLc, true_and, w0, w71]
        refine PW_blk okM_findsRow 9 rfl SpM_ok ?_
        simp only [wL0, wLc, true_and, w4, ls00, ls0i, ls0r, ls0l, lsi, lsr, lsl, Option.map_some, w1, lg0, lgi, lgr, lgl, w72]
        refine b2Y trivial ?_
        refine PW_blk okM_findsRow 12 rfl SpM_ok ?_
        simp only [wL0, wLc, true_and, w1, lg0, lgi, lgr, lgl, w71]
        exact cont _ _ _ hq'
      by_cases hw : whyF (σ.1 1) k s (nI (slackN (σ.1 1) s)) (nI (hdN (σ.1 1) s)) = 0
      rotate_left
      · refine b3N hw ?_
        exact no (pkQ_no hq (fun hb => hw hb.1))
      refine b3Y hw ?_
      have hbit := why_bit hw
      have hgt := or_gt hbit
      have hlt2 : s ||| 2 ^ k < 2 ^ nv (σ.1 1) 3 := or_lt (by omega) (by omega)
      have hsub2 : o &&& (s ||| 2 ^ k) = o := by
        rw [Nat.and_or_distrib_left, hsub]
        apply Nat.eq_of_testBit_eq
        intro j
        rw [Nat.testBit_or, Nat.testBit_and]
        cases o.testBit j <;> simp
      have hv2' : vp_in (nI (s ||| 2 ^ k)) 1024 := vp_in_nI (by omega) (by decide)
      have cl2 : (nI (s ||| 2 ^ k)).toNatClampNeg = s ||| 2 ^ k := nI_clamp (by omega)
      have hq5 := h5 _ hlt2 hsub2
      refine PW_blk okM_findsRow 6 rfl SpM_ok ?_
      simp only [wL0, wLc, true_and, w2, lg0, lgi, lgr, lgl, w35, kM0, rM5, kM5, nM5, w1, w0, w19, w17, w39, tn1, w81, nI_sh1 k (by omega), fa_or, eq_true hv2', cl2, hq5]
      cases e : lst (σ.1 1) 0 (s ||| 2 ^ k) with
      | none =>
        refine b3N (show ¬ encF none < 99999999 by decide) ?_
        exact no (pkQ_no hq (fun hb => by obtain ⟨-, x, hx, -⟩ := hb; rw [e] at hx; cases hx))
      | some y =>
        have hyle := lst_lt hI (by omega) e
        have ht2 := takes_le hI (k := k) (o := s) (by omega)
        refine b3Y (encF_lt (v := y) (by omega)) ?_
        refine PW_blk okM_findsRow 7 rfl SpM_ok ?_
        simp only [wL0, wLc, true_and, w0, w70]
        refine PW_blk okM_findsRow 9 rfl SpM_ok ?_
        simp only [wL0, wLc, true_and, w4, ls00, ls0i, ls0r, ls0l, lsi, lsr, lsl, Option.map_some, w1, lg0, lgi, lgr, lgl, w72]
        refine b2N (by decide) ?_
        refine PW_blk okM_findsRow 10 rfl SpM_ok ?_
        simp only [wL0, wLc, true_and, w2, lg0, lgi, lgr, lgl, w1, w54_5, q40, q41, q42, q43, q44, Option.toList_some, Option.toList_none, List.cons_append, List.nil_append, w35, kM0, rM5, kM5, nM5, w0, w19, w17, w39, w11, tn1, w79]
        refine R_takesBy' hI' hs10 (by rw [e1]; omega) (by rw [e1]) (by rw [e1]) ?_
        rw [e] at hq5
        simp only [wL0, wLc, true_and, w2, lg0, lgi, lgr, lgl, w1, w54_5, q40, q41, q42, q43, q44, Option.toList_some, Option.toList_none, List.cons_append, List.nil_append, w35, kM0, rM5, kM5, nM5, w0, w19, w17, w39, w11, tn1, w79, e1, nI_sh1 k (by omega), fa_or, eq_true hv2', cl2, hq5, cl, eq_true hv, h5s]
        rw [show encF (some y) = nI y from rfl, show encF (some (takesN (σ.1 1) (pick (σ.1 1) s) s + v)) = nI (takesN (σ.1 1) (pick (σ.1 1) s) s + v) from rfl, nI_add, nI_eq_iff (by omega) (by omega)]
        by_cases hc : takesN (σ.1 1) k s + y = takesN (σ.1 1) (pick (σ.1 1) s) s + v
        · refine b3Y hc ?_
          refine PW_blk okM_findsRow 11 rfl SpM_ok ?_
          simp only [wL0, wLc, true_and, w1, lg0, lgi, lgr, lgl, w70]
          refine cont _ _ _ (pkQ_yes (by omega) ⟨hw, y, e, ?_⟩)
          rw [hc]; exact hv2
        · refine b3N hc ?_
          refine PW_blk okM_findsRow 12 rfl SpM_ok ?_
          simp only [wL0, wLc, true_and, w1, lg0, lgi, lgr, lgl, w71]
          refine cont _ _ _ (pkQ_no hq (fun hb => ?_))
          obtain ⟨-, x, hx, hx2⟩ := hb
          rw [e] at hx
          cases hx
          rw [hv2] at hx2
          exact hc (Option.some.inj hx2).symm
end ME
end
section
/-! ith, ahead: the man walks his row, and is set back -/
def ag3 (S S' : Nat → Int32) : Prop := ∀ i, 3 ≤ i → S' i = S i
theorem ag_nv {S S' : Nat → Int32} (h : ag3 S S') {i : Nat} (hi : 3 ≤ i) : nv S' i = nv S i := by unfold nv; rw [h i hi]
theorem ag_t {S S' : Nat → Int32} (h : ag3 S S') (k f : Nat) : nv S' (tr k f) = nv S (tr k f) := ag_nv h (by unfold tr; omega)
theorem ag_tS {S S' : Nat → Int32} (h : ag3 S S') (k f : Nat) : S' (tr k f) = S (tr k f) := h _ (by unfold tr; omega)
theorem slU_ag {S S' : Nat → Int32} (h : ag3 S S') (o : Nat) : ∀ n, slU S' o n = slU S o n
  | 0 => ag_nv h (by decide)
  | n + 1 => by unfold slU; rw [slU_ag h o n, ag_t h]
theorem slackN_ag {S S' : Nat → Int32} (h : ag3 S S') (o : Nat) : slackN S' o = slackN S o := by unfold slackN; rw [ag_nv h (by decide), slU_ag h]
theorem bdU_ag {S S' : Nat → Int32} (h : ag3 S S') (o : Nat) : ∀ n, bdU S' o n = bdU S o n
  | 0 => rfl
  | n + 1 => by unfold bdU; rw [bdU_ag h o n, ag_t h]
theorem frN_ag {S S' : Nat → Int32} (h : ag3 S S') (o : Nat) : frN S' o = frN S o := by unfold frN; rw [ag_nv h (by decide), bdU_ag h]
theorem takesN_ag {S S' : Nat → Int32} (h : ag3 S S') (k o : Nat) : takesN S' k o = takesN S k o := by
  unfold takesN hdN
  rw [slackN_ag h, frN_ag h, ag_t h, ag_t h]
theorem soundN_ag {S S' : Nat → Int32} (h : ag3 S S') (k : Nat) : soundN S' k = soundN S k := by
  unfold soundN
  rw [ag_t h, ag_t h]
theorem InvK_ag {S S' : Nat → Int32} (h : ag3 S S') {k : Nat} (hk : InvK S k) : InvK S' k := by
  unfold InvK rg at *
  simp only [ag_tS h, ag_t h]
  exact hk
theorem rg_ag {S S' : Nat → Int32} (h : ag3 S S') {i m : Nat} (hi : 3 ≤ i) (hr : rg S i m) : rg S' i m := by
  unfold rg at *
  rw [h i hi, ag_nv h hi]
  exact hr
theorem Inv_ag {S S' : Nat → Int32} (h : ag3 S S') (hI : Inv S) (h0 : rg S' 0 299999) (h2 : rg S' 2 1023 ∧ nv S' 2 < 2 ^ nv S 3) : Inv S' := by
  have h3 := ag_nv h (i := 3) (by decide)
  refine ⟨rg_ag h (by decide) hI.1, ?_, h0, rg_ag h (by decide) hI.2.2.2.1, rg_ag h (by decide) hI.2.2.2.2.1, ?_, rg_ag h (by decide) hI.2.2.2.2.2.2.1, rg_ag h (by decide) hI.2.2.2.2.2.2.2.1, ?_, ?_⟩
  · rw [h3]; exact h2
  · rw [h3, ag_nv h (i := 6) (by decide)]; exact ⟨rg_ag h (by decide) hI.2.2.2.2.2.1.1, hI.2.2.2.2.2.1.2⟩
  · rw [h3]; exact fun k hk => InvK_ag h (hI.2.2.2.2.2.2.2.2.1 k hk)
  · rw [h3]
    intro i hi
    rw [h (110 + i) (by omega)]
    exact hI.2.2.2.2.2.2.2.2.2 i hi
theorem stS_ag {S : Nat → Int32} {k : Nat} : ag3 S (stS S k) := by
  intro i hi
  unfold stS
  rw [updN (by omega), updN (by omega), updN (by omega)]
theorem ag_trans {a b c : Nat → Int32} (h : ag3 a b) (h2 : ag3 b c) : ag3 a c := fun i hi => (h2 i hi).trans (h i hi)
theorem stS_2 {S : Nat → Int32} {k : Nat} (hk : k < 31) (h : rg S 2 1023) : stS S k 2 = nI (nv S 2 ||| 2 ^ k) := by
  unfold stS
  rw [updS, nI_sh1 k hk, h.1, fa_or]
theorem stS_0 {S : Nat → Int32} {k : Nat} (h : rg S 0 299999) : stS S k 0 = nI (nv S 0 + takesN S k (nv S 2)) := by
  unfold stS
  rw [updN (by decide), updS, h.1, nI_add]
theorem stS_1 {S : Nat → Int32} {k : Nat} : stS S k 1 = S 1 + if plF (S 7) (S 8) (S 0) = 0 then nI (soundN S k) else 0 := by
  unfold stS
  rw [updN (by decide), updN (by decide), updS]
theorem Inv_stS {S : Nat → Int32} {k : Nat} (hI : Inv S) (hk : k < nv S 3) (hb : nv S 0 + takesN S k (nv S 2) ≤ 299999) : Inv (stS S k) ∧ nv (stS S k) 2 = nv S 2 ||| 2 ^ k ∧ nv (stS S k) 0 = nv S 0 + takesN S k (nv S 2) := by
  have hn := hI.1.2
  have hT := p2le _ hn
  have hlt : nv S 2 ||| 2 ^ k < 2 ^ nv S 3 := or_lt hI.2.1.2 hk
  have e2 : nv (stS S k) 2 = nv S 2 ||| 2 ^ k := nv_of (stS_2 (by omega) hI.2.1.1) (by omega)
  have e0 : nv (stS S k) 0 = nv S 0 + takesN S k (nv S 2) := nv_of (stS_0 hI.2.2.1) (by omega)
  refine ⟨Inv_ag stS_ag hI (rg_of (stS_0 hI.2.2.1) hb) ⟨rg_of (stS_2 (by omega) hI.2.1.1) (by omega), by rw [e2]; exact hlt⟩, e2, e0⟩
noncomputable def SSq (S : Nat → Int32) (o : Nat) : Nat → Nat → Int32
  | 0 => S
  | i + 1 => stS (SSq S o i) (pick S (rst S o i))
theorem SSq_ag {S : Nat → Int32} {o : Nat} : ∀ i, ag3 S (SSq S o i)
  | 0 => fun _ _ => rfl
  | i + 1 => ag_trans (SSq_ag i) stS_ag
theorem SSq_ok {S : Nat → Int32} (hI : Inv S) {v0 : Nat} (hC : nv S 0 ≤ 99999) (hl : lst S 0 (nv S 2) = some v0) : ∀ i, (∀ j, j < i → ¬ outP S (rst S (nv S 2) j)) → Inv (SSq S (nv S 2) i) ∧ nv (SSq S (nv S 2) i) 2 = rst S (nv S 2) i ∧ ∃ v, lst S 0 (rst S (nv S 2) i) = some v ∧ nv (SSq S (nv S 2) i) 0 + v = nv S 0 + v0
  | 0, _ => ⟨hI, rfl, v0, hl, rfl⟩
  | i + 1, h => by
    have hn := hI.1.2
    have hT := p2le _ hn
    have hne : lst S 0 (nv S 2) ≠ none := by rw [hl]; exact fun z => by cases z
    obtain ⟨h1, h2, v, h3, h4⟩ := SSq_ok hI hC hl i (fun j hj => h j (by omega))
    obtain ⟨q1, q2, q3, q4⟩ := rst_ok hI hI.2.1.2 hne i (fun j hj => h j (by omega))
    obtain ⟨hk, ⟨hm, w, hw, hw2⟩, -⟩ := pick_ok hI (by omega) q1 (h i (by omega))
    have hle := lst_lt hI (by have := hI.2.1.2; omega) hl
    rw [h3] at hw2
    have hw3 := Option.some.inj hw2
    have hag := SSq_ag (S := S) (o := nv S 2) i
    have et : takesN (SSq S (nv S 2) i) (pick S (rst S (nv S 2) i)) (nv (SSq S (nv S 2) i) 2) = takesN S (pick S (rst S (nv S 2) i)) (rst S (nv S 2) i) := by rw [h2, takesN_ag hag]
    have hk2 : pick S (rst S (nv S 2) i) < nv (SSq S (nv S 2) i) 3 := by rw [ag_nv hag (by decide)]; exact hk
    have key := Inv_stS h1 hk2 (by rw [et]; omega)
    refine ⟨key.1, ?_, w, hw, ?_⟩
    · show nv (stS _ _) 2 = _
      rw [key.2.1, h2]; rfl
    · show nv (stS _ _) 0 + w = _
      rw [key.2.2, et]; omega
section MF
variable {ev : EV} {σ : St2} {K : PO}
theorem R_ith {i : Int32} (hI : Inv (σ.1 1)) (h1 : ¬ rgI i 0 9 → K (some (.int (-1000001))) (noS σ 0)) (h2 : ∀ j, j ≤ 9 → i = nI j → (lst (σ.1 1) 0 (nv (σ.1 1) 2) = none ∨ ∃ m, rowM (σ.1 1) (nv (σ.1 1) 2) m ∧ m ≤ j) → ∀ σ', Sm σ σ' → K (some (.int (-1000004))) (noS σ' 3)) (h3 : ∀ j m, i = nI j → lst (σ.1 1) 0 (nv (σ.1 1) 2) ≠ none → rowM (σ.1 1) (nv (σ.1 1) 2) m → j < m → ∀ σ', Sm σ σ' → K (some (.int (nI (pick (σ.1 1) (rst (σ.1 1) (nv (σ.1 1) 2) j))))) σ') : Rn 1 ev mM_ith [.ref 0, .int i] σ K := by
  refine Rn_V (by decide) rc6 rfl rfl ?_
  refine PW_blk okM_ith 0 rfl SpM_ok ?_
  simp only [wL0, wLc, true_and, w1, lg0, lgi, lgr, lgl, w0, w55_3, q40, q41, q42, q43, q44, Option.toList_some, Option.toList_none, List.cons_append, List.nil_append, sp_in1, w73]
  by_cases hr : rgI i 0 9
  rotate_left
  · refine dN (in1N (by decide) (by decide) hr) ?_
    refine PW_blk okM_ith 1 rfl SpM_ok ?_
    simp only [wL0, wLc, true_and, w2, lg0, lgi, lgr, lgl, w0, w54_2, q40, q41, q42, q43, q44, Option.toList_some, Option.toList_none, List.cons_append, List.nil_append, sp_no, v7_0, v7_1, v7_2, v7_3, v7_4, v7_5, v7_6, w84]
    exact h1 hr
  refine dY (in1Y (by decide) hr) ?_
  obtain ⟨j, -, hj, rfl⟩ := hr
  refine PW_blk okM_ith 2 rfl SpM_ok ?_
  simp only [wL0, wLc, true_and, w2, lg0, lgi, lgr, lgl, w54_1, q40, q41, q42, q43, q44, Option.toList_some, Option.toList_none, List.cons_append, List.nil_append, w4, ls00, ls0i, ls0r, ls0l, lsi, lsr, lsl, Option.map_some, w1, w72]
  refine R_findsRow hI (fun e σ' hS => ?_) (fun m hne hm hm10 σ' hS h7 h6 => ?_)
  · simp only [wL0, wLc, true_and, w2, lg0, lgi, lgr, lgl, w54_1, q40, q41, q42, q43, q44, Option.toList_some, Option.toList_none, List.cons_append, List.nil_append, w4, ls00, ls0i, ls0r, ls0l, lsi, lsr, lsl, Option.map_some, w1, w72]
    refine b2Y trivial ?_
    refine PW_blk okM_ith 5 rfl SpM_ok ?_
    simp only [wL0, wLc, true_and, w2, lg0, lgi, lgr, lgl, w0, w54_2, q40, q41, q42, q43, q44, Option.toList_some, Option.toList_none, List.cons_append, List.nil_append, sp_no, v7_0, v7_1, v7_2, v7_3, v7_4, v7_5, v7_6, w71]
    refine PW_blk okM_ith 6 rfl SpM_ok ?_
    simp only [wL0, w84]
    exact h2 j hj rfl (Or.inl e) σ' hS
  · simp only [wL0, wLc, true_and, w2, lg0, lgi, lgr, lgl, w54_1, q40, q41, q42, q43, q44, Option.toList_some, Option.toList_none, List.cons_append, List.nil_append, w4, ls00, ls0i, ls0r, ls0l, lsi, lsr, lsl, Option.map_some, w1, w72]
    refine b2N (by decide) ?_
    refine PW_blk okM_ith 3 rfl SpM_ok ?_
    simp only [wL0, wLc, true_and, w1, lg0, lgi, lgr, lgl, w2, w33, kM0, w81, h7]
    by_cases hjm : j < m
    · refine b3Y (nI_lt hjm (by omega)) ?_
      refine PW_blk okM_ith 4 rfl SpM_ok ?_
      simp only [wL0, wLc, true_and, w2, lg0, lgi, lgr, lgl, w35, kM0, rM6, kM6, nM6, w1, w39, w70, eq_true (vp_in_nI (show j < 10 by omega) (by decide)), nI_clamp (show j < 2 ^ 31 by omega), h6 j hjm]
      refine PW_blk okM_ith 6 rfl SpM_ok ?_
      simp only [wL0, w84]
      exact h3 j m rfl hne hm hjm σ' hS
    · refine b3N (nI_nlt (a := j) (b := m) (by omega) (by omega)) ?_
      refine PW_blk okM_ith 5 rfl SpM_ok ?_
      simp only [wL0, wLc, true_and, w2, lg0, lgi, lgr, lgl, w0, w54_2, q40, q41, q42, q43, q44, Option.toList_some, Option.toList_none, List.cons_append, List.nil_append, sp_no, v7_0, v7_1, v7_2, v7_3, v7_4, v7_5, v7_6, w71]
      refine PW_blk okM_ith 6 rfl SpM_ok ?_
      simp only [wL0, w84]
      exact h2 j hj rfl (Or.inr ⟨m, hm, by omega⟩) σ' hS
theorem R_setsAside (hk : K none (sr σ 3 (fa_fill (σ.1 1) (σ.1 3) 120))) : Rn 1 ev mM_setsAside [.ref 0] σ K := by
  refine Rn_V (by decide) rc6 rfl rfl ?_
  refine PW_blk okM_setsAside 0 rfl SpM_ok ?_
  simp only [wL0, wLc, true_and, w0, w4, ls00, ls0i, ls0r, ls0l, lsi, lsr, lsl, Option.map_some, w71]
  have key := lp_up (n := 120) (P := fun i => PW 1 ev mM_setsAside 2 [.ref 0, .int (nI i)] [] (sr σ 3 (fa_fill (σ.1 1) (σ.1 3) i)) K) ?_ ?_ 0 (by decide)
  · rw [fa_fill_0, sr_self] at key
    exact key
  · refine PW_blk okM_setsAside 1 rfl SpM_ok ?_
    simp only [wL0, wLc, true_and, w1, lg0, lgi, lgr, lgl, w0, w81]
    refine b3N (by decide) ?_
    refine PW_blk okM_setsAside 3 rfl SpM_ok ?_
    simp only [wL0, w87]
    exact hk
  · intro i hi ih
    refine PW_blk okM_setsAside 1 rfl SpM_ok ?_
    simp only [wL0, wLc, true_and, w1, lg0, lgi, lgr, lgl, w0, w81]
    refine b3Y (nI_lt hi (by decide)) ?_
    refine PW_blk okM_setsAside 2 rfl SpM_ok ?_
    simp only [wL0, wLc, true_and, w2, lg0, lgi, lgr, lgl, w35, kM0, rM2, kM3, nM3, w1, rM0, kM1, nM1, w39, w40, w7, ls00, ls0i, ls0r, ls0l, lsi, lsr, lsl, Option.map_some, w70, n3_1, eq_true (vp_in_nI (show i < 120 by omega) (by decide)), nI_clamp (show i < 2 ^ 31 by omega), si_sr, fa_fill_succ]
    rw [show (1 : Int32) = nI 1 from rfl, nI_add]
    exact ih
theorem R_laysBack (hk : K none (sr σ 1 (fa_fill (σ.1 3) (σ.1 1) 120))) : Rn 1 ev mM_laysBack [.ref 0] σ K := by
  refine Rn_V (by decide) rc6 rfl rfl ?_
  refine PW_blk okM_laysBack 0 rfl SpM_ok ?_
  simp only [wL0, wLc, true_and, w0, w4, ls00, ls0i, ls0r, ls0l, lsi, lsr, lsl, Option.map_some, w71]
  have key := lp_up (n := 120) (P := fun i => PW 1 ev mM_laysBack 2 [.ref 0, .int (nI i)] [] (sr σ 1 (fa_fill (σ.1 3) (σ.1 1) i)) K) ?_ ?_ 0 (by decide)
  · rw [fa_fill_0, sr_self] at key
    exact key
  · refine PW_blk okM_laysBack 1 rfl SpM_ok ?_
    simp only [wL0, wLc, true_and, w1, lg0, lgi, lgr, lgl, w0, w81]
    refine b3N (by decide) ?_
    refine PW_blk okM_laysBack 3 rfl SpM_ok ?_
    simp only [wL0, w87]
    exact hk
  · intro i hi ih
    refine PW_blk okM_laysBack 1 rfl SpM_ok ?_
    simp only [wL0, wLc, true_and, w1, lg0, lgi, lgr, lgl, w0, w81]
    refine b3Y (nI_lt hi (by decide)) ?_
    refine PW_blk okM_laysBack 2 rfl SpM_ok ?_
    simp only [wL0, wLc, true_and, w2, lg0, lgi, lgr, lgl, w35, kM0, rM0, kM1, nM1, w1, rM2, kM3, nM3, w39, w40, w7, ls00, ls0i, ls0r, ls0l, lsi, lsr, lsl, Option.map_some, w70, n1_3, eq_true (vp_in_nI (show i < 120 by omega) (by decide)), nI_clamp (show i < 2 ^ 31 by omega), si_sr, fa_fill_succ]
    rw [show (1 : Int32) = nI 1 from rfl, nI_add]
    exact ih
theorem R_ahead {what : Int32} (hI : Inv (σ.1 1)) (hC : nv (σ.1 1) 0 ≤ 99999) (h1 : ¬ rgI what 0 1 → K (some (.int (-1000001))) (noS σ 0)) (h2 : ∀ w, w ≤ 1 → what = nI w → lst (σ.1 1) 0 (nv (σ.1 1) 2) = none → ∀ σ', Sm σ σ' → K (some (.int (-1000004))) (noS σ' 3)) (h3 : ∀ w v, w ≤ 1 → what = nI w → lst (σ.1 1) 0 (nv (σ.1 1) 2) = some v → 99999 < nv (σ.1 1) 0 + v → ∀ σ', Sm σ σ' → K (some (.int (-1000005))) (noS σ' 4)) (h4 : ∀ v, what = nI 0 → lst (σ.1 1) 0 (nv (σ.1 1) 2) = some v → nv (σ.1 1) 0 + v ≤ 99999 → ∀ σ', Sm σ σ' → K (some (.int (nI (nv (σ.1 1) 0 + v)))) σ') (h5 : ∀ v m, what = nI 1 → lst (σ.1 1) 0 (nv (σ.1 1) 2) = some v → nv (σ.1 1) 0 + v ≤ 99999 → rowM (σ.1 1) (nv (σ.1 1) 2) m → ∀ σ', Sm σ σ' → K (some (.int (SSq (σ.1 1) (nv (σ.1 1) 2) m 1 - σ.1 1 1))) σ') : Rn 1 ev mM_ahead [.ref 0, .int what] σ K := by
  have hlt : nv (σ.1 1) 2 < 1024 := by have := hI.2.1.1.2; omega
  refine Rn_V (by decide) rc6 rfl rfl ?_
  refine PW_blk okM_ahead 0 rfl SpM_ok ?_
  simp only [wL0, wLc, true_and, w1, lg0, lgi, lgr, lgl, w0, w55_3, q40, q41, q42, q43, q44, Option.toList_some, Option.toList_none, List.cons_append, List.nil_append, sp_in1, w73]
  by_cases hr : rgI what 0 1
  rotate_left
  · refine dN (in1N (by decide) (by decide) hr) ?_
    refine PW_blk okM_ahead 1 rfl SpM_ok ?_
    simp only [wL0, wLc, true_and, w2, lg0, lgi, lgr, lgl, w0, w54_2, q40, q41, q42, q43, q44, Option.toList_some, Option.toList_none, List.cons_append, List.nil_append, sp_no, v7_0, v7_1, v7_2, v7_3, v7_4, v7_5, v7_6, w84]
    exact h1 hr
  refine dY (in1Y (by decide) hr) ?_
  obtain ⟨w, -, hw, rfl⟩ := hr
  refine PW_blk okM_ahead 2 rfl SpM_ok ?_
  simp only [wL0, wLc, true_and, w2, lg0, lgi, lgr, lgl, w54_1, q40, q41, q42, q43, q44, Option.toList_some, Option.toList_none, List.cons_append, List.nil_append, w73]
  refine R_findsRow hI (fun e σ' hS => ?_) (fun m hne hm hm10 σ' hS h7 h6 => ?_)
  · simp only [wL0, wLc, true_and, w2, lg0, lgi, lgr, lgl, w54_1, q40, q41, q42, q43, q44, Option.toList_some, Option.toList_none, List.cons_append, List.nil_append, w73]
    refine b3Y trivial ?_
    refine PW_blk okM_ahead 3 rfl SpM_ok ?_
    simp only [wL0, wLc, true_and, w2, lg0, lgi, lgr, lgl, w0, w54_2, q40, q41, q42, q43, q44, Option.toList_some, Option.toList_none, List.cons_append, List.nil_append, sp_no, v7_0, v7_1, v7_2, v7_3, v7_4, v7_5, v7_6, w84]
    exact h2 w hw rfl e σ' hS
  · simp only [wL0, wLc, true_and, w2, lg0, lgi, lgr, lgl, w54_1, q40, q41, q42, q43, q44, Option.toList_some, Option.toList_none, List.cons_append, List.nil_append, w73]
    refine b3N (by decide) ?_
    obtain ⟨v, hv⟩ : ∃ v, lst (σ.1 1) 0 (nv (σ.1 1) 2) = some v := by
      cases e : lst (σ.1 1) 0 (nv (σ.1 1) 2) with
      | none => exact absurd e hne
      | some v => exact ⟨v, rfl⟩
    have hvl := lst_lt hI hlt hv
    have e1 : σ'.1 1 = σ.1 1 := hS.1 1 rfl
    have ok := fun i (hi : i ≤ m) => SSq_ok hI hC hv i (fun j hj => hm.2 j (by omega))
    refine PW_blk okM_ahead 4 rfl SpM_ok ?_
    simp only [wL0, wLc, true_and, w2, lg0, lgi, lgr, lgl, w54_1, q40, q41, q42, q43, q44, Option.toList_some, Option.toList_none, List.cons_append, List.nil_append, w0, w4, ls00, ls0i, ls0r, ls0l, lsi, lsr, lsl, Option.map_some, w71]
    refine R_setsAside ?_
    simp only [wL0, wLc, true_and, w2, lg0, lgi, lgr, lgl, w54_1, q40, q41, q42, q43, q44, Option.toList_some, Option.toList_none, List.cons_append, List.nil_append, w0, w4, ls00, ls0i, ls0r, ls0l, lsi, lsr, lsl, Option.map_some, w71]
    rw [e1]
    have key := lp_up (n := m) (P := fun i => PW 1 ev mM_ahead 34 [.ref 0, .int (nI w), .int (nI i)] [] (sr (sr σ' 3 (fa_fill (σ.1 1) (σ'.1 3) 120)) 1 (SSq (σ.1 1) (nv (σ.1 1) 2) i)) K) ?_ ?_ 0 (Nat.zero_le _)
    · have e0 : sr (sr σ' 3 (fa_fill (σ.1 1) (σ'.1 3) 120)) 1 (SSq (σ.1 1) (nv (σ.1 1) 2) 0) = sr σ' 3 (fa_fill (σ.1 1) (σ'.1 3) 120) := by
        have : SSq (σ.1 1) (nv (σ.1 1) 2) 0 = (sr σ' 3 (fa_fill (σ.1 1) (σ'.1 3) 120)).1 1 := by rw [n3_1, e1]; rfl
        rw [this, sr_self]
      rw [e0] at key
      exact key
    · refine PW_blk okM_ahead 5 rfl SpM_ok ?_
      simp only [wL0, wLc, true_and, w1, lg0, lgi, lgr, lgl, w2, w33, kM0, w81, n1_0, n3_0, h7]
      refine b3N (nI_nlt (Nat.le_refl _) (by omega)) ?_
      obtain ⟨g1, g2, v2, g3, g4⟩ := ok m (Nat.le_refl _)
      have hv0 : v2 = 0 := by
        have hT := p2le _ hI.1.2
        have := (rst_ok hI hI.2.1.2 hne m hm.2).2.1
        rw [lst_out hI.1.2 (by omega) hm.1] at g3
        exact (Option.some.inj g3).symm
      subst hv0
      have ec : SSq (σ.1 1) (nv (σ.1 1) 2) m 0 = nI (nv (σ.1 1) 0 + v) := by rw [g1.2.2.1.1, show nv (SSq (σ.1 1) (nv (σ.1 1) 2) m) 0 = nv (σ.1 1) 0 + v by omega]
      refine PW_blk okM_ahead 7 rfl SpM_ok ?_
      simp only [wL0, wLc, true_and, w2, lg0, lgi, lgr, lgl, w35, kM0, rM0, kM1, nM1, w0, w39, w4, ls00, ls0i, ls0r, ls0l, lsi, lsr, lsl, Option.map_some, w54_1, q40, q41, q42, q43, q44, Option.toList_some, Option.toList_none, List.cons_append, List.nil_append, w1, tn0, vi0_120, tn1, vi1_120, w83, sr1, ec]
      refine R_laysBack ?_
      simp only [wL0, wLc, true_and, w2, lg0, lgi, lgr, lgl, w35, kM0, rM0, kM1, nM1, w0, w39, w4, ls00, ls0i, ls0r, ls0l, lsi, lsr, lsl, Option.map_some, w54_1, q40, q41, q42, q43, q44, Option.toList_some, Option.toList_none, List.cons_append, List.nil_append, w1, tn0, vi0_120, tn1, vi1_120, w83, sr1, sr_sr, n1_3]
      have eb : fa_fill (fa_fill (σ.1 1) (σ'.1 3) 120) (SSq (σ.1 1) (nv (σ.1 1) 2) m) 120 = σ.1 1 := by
        funext i
        by_cases hi : i < 120
        · rw [fa_fill_in hi, fa_fill_in hi]
        · rw [fa_fill_out (by omega)]
          exact SSq_ag m i (by omega)
      rw [eb]
      have hS2 : Sm σ (sr (sr σ' 3 (fa_fill (σ.1 1) (σ'.1 3) 120)) 1 (σ.1 1)) := by
        have h3 : Sm σ (sr σ' 3 (fa_fill (σ.1 1) (σ'.1 3) 120)) := Sm_sr (by decide) (by decide) hS
        have h4 : (sr σ' 3 (fa_fill (σ.1 1) (σ'.1 3) 120)).1 1 = σ.1 1 := h3.1 1 rfl
        rw [sr_eq h4.symm]
        exact h3
      rw [show (99999 : Int32) = nI 99999 from rfl, nI_lt_iff (by decide) (by omega)]
      by_cases hc : 99999 < nv (σ.1 1) 0 + v
      · refine b3Y hc ?_
        refine PW_blk okM_ahead 8 rfl SpM_ok ?_
        simp only [wL0, wLc, true_and, w2, lg0, lgi, lgr, lgl, w0, w54_2, q40, q41, q42, q43, q44, Option.toList_some, Option.toList_none, List.cons_append, List.nil_append, sp_no, v7_0, v7_1, v7_2, v7_3, v7_4, v7_5, v7_6, w84]
        exact h3 w v hw rfl hv hc _ hS2
      · refine b3N hc ?_
        refine PW_blk okM_ahead 9 rfl SpM_ok ?_
        simp only [wL0, wLc, true_and, w1, lg0, lgi, lgr, lgl, w73]
        rcases (show w = 0 ∨ w = 1 by omega) with rfl | rfl
        · refine b3Y rfl ?_
          refine PW_blk okM_ahead 10 rfl SpM_ok ?_
          simp only [wL0, wLc, true_and, w1, lg0, lgi, lgr, lgl, w70]
          refine PW_blk okM_ahead 12 rfl SpM_ok ?_
          simp only [wL0, w84]
          exact h4 v rfl hv (by omega) _ hS2
        · refine b3N (by decide) ?_
          refine PW_blk okM_ahead 11 rfl SpM_ok ?_
          simp only [wL0, wLc, true_and, w1, lg0, lgi, lgr, lgl, w2, w35, kM0, rM0, kM1, nM1, w0, w39, w12, tn1, vi1_120, w71, sr1]
          refine PW_blk okM_ahead 12 rfl SpM_ok ?_
          simp only [wL0, w84]
          exact h5 v m rfl hv (by omega) hm _ hS2
    · intro i hi ih
      obtain ⟨g1, g2, v2, g3, g4⟩ := ok i (by omega)
      have hT := p2le _ hI.1.2
      obtain ⟨q1, q2, q3, q4⟩ := rst_ok hI hI.2.1.2 hne i (fun j hj => hm.2 j (by omega))
      obtain ⟨hk, -⟩ := pick_ok hI (by omega) q1 (hm.2 i hi)
      refine PW_blk okM_ahead 5 rfl SpM_ok ?_
      simp only [wL0, wLc, true_and, w1, lg0, lgi, lgr, lgl, w2, w33, kM0, w81, n1_0, n3_0, h7]
      refine b3Y (nI_lt hi (by omega)) ?_
      refine PW_blk okM_ahead 6 rfl SpM_ok ?_
      simp only [wL0, wLc, true_and, w2, lg0, lgi, lgr, lgl, w35, kM0, rM6, kM6, nM6, w1, w39, w54_2, q40, q41, q42, q43, q44, Option.toList_some, Option.toList_none, List.cons_append, List.nil_append, w7, ls00, ls0i, ls0r, ls0l, lsi, lsr, lsl, Option.map_some, w70, n1_6, n3_6, eq_true (vp_in_nI (show i < 10 by omega) (by decide)), nI_clamp (show i < 2 ^ 31 by omega), h6 i hi]
      refine R_comesOff (σ := sr (sr σ' 3 _) 1 _) (by rw [sr1]; exact g1) (by rw [sr1, ag_nv (SSq_ag i) (by decide)]; exact hk) ?_
      simp only [wL0, wLc, true_and, w2, lg0, lgi, lgr, lgl, w35, kM0, rM6, kM6, nM6, w1, w39, w54_2, q40, q41, q42, q43, q44, Option.toList_some, Option.toList_none, List.cons_append, List.nil_append, w7, ls00, ls0i, ls0r, ls0l, lsi, lsr, lsl, Option.map_some, w70, sr1, sr_sr]
      rw [show (1 : Int32) = nI 1 from rfl, nI_add]
      exact ih
end MF
end
section
/-! rows counted from a set on: what comes to each set, set by set -/
noncomputable def cif {α : Type} (p : Prop) (a b : α) : α := @ite α p (Classical.propDecidable p) a b
theorem cif_y {α : Type} {p : Prop} {a b : α} (h : p) : cif p a b = a := if_pos h
theorem cif_n {α : Type} {p : Prop} {a b : α} (h : ¬ p) : cif p a b = b := if_neg h
noncomputable def fwK (ok : Nat → Nat → Prop) (W : Nat → Nat) (s m t : Nat) : Nat := W t + cif (∃ k, k < m ∧ t = s ||| 2 ^ k ∧ ok s k) (W s) 0
noncomputable def fw (ok : Nat → Nat → Prop) (fr : Nat) : Nat → Nat → Nat
  | 0 => fun t => if t = fr then 1 else 0
  | s + 1 => fwK ok (fw ok fr s) s 10
def okp (ok : Nat → Nat → Prop) : Prop := ∀ s k, ok s k → s.testBit k = false ∧ k < 10
section FW
variable {ok : Nat → Nat → Prop} {fr : Nat} {W : Nat → Nat}
theorem fwK_0 {s : Nat} : fwK ok W s 0 = W := by
  funext t
  unfold fwK
  rw [cif_n (fun ⟨k, h, _⟩ => absurd h (Nat.not_lt_zero k))]
  rfl
theorem or_inj {s a b : Nat} (ha : s.testBit a = false) (h : s ||| 2 ^ a = s ||| 2 ^ b) : a = b := by
  have h2 := congrArg (fun x => Nat.testBit x a) h
  simp only [bit_or, ha, Bool.false_or] at h2
  by_cases e : a = b
  · exact e
  · simp [e] at h2
theorem fwK_s (ho : okp ok) {s m t : Nat} : fwK ok W s (m + 1) t = fwK ok W s m t + cif (ok s m ∧ t = s ||| 2 ^ m) (W s) 0 := by
  unfold fwK
  by_cases h : ok s m ∧ t = s ||| 2 ^ m
  · rw [cif_y ⟨m, Nat.lt_succ_self m, h.2, h.1⟩, cif_n, cif_y h, Nat.add_zero]
    intro ⟨k, h1, h2, h3⟩
    have := or_inj (ho s m h.1).1 (h.2.symm.trans h2)
    omega
  · rw [cif_n h, Nat.add_zero]
    have e : (∃ k, k < m + 1 ∧ t = s ||| 2 ^ k ∧ ok s k) ↔ (∃ k, k < m ∧ t = s ||| 2 ^ k ∧ ok s k) := by
      constructor
      · intro ⟨k, h1, h2, h3⟩
        by_cases e : k = m
        · subst e; exact absurd ⟨h3, h2⟩ h
        · exact ⟨k, by omega, h2, h3⟩
      · intro ⟨k, h1, h2, h3⟩
        exact ⟨k, by omega, h2, h3⟩
    by_cases h4 : ∃ k, k < m ∧ t = s ||| 2 ^ k ∧ ok s k
    · rw [cif_y h4, cif_y (e.mpr h4)] <;> rfl
    · rw [cif_n h4, cif_n (fun z => h4 (e.mp z))] <;> rfl
theorem fwK_low (ho : okp ok) {s m t : Nat} (h : t ≤ s) : fwK ok W s m t = W t := by
  unfold fwK
  rw [cif_n]
  · rfl
  intro ⟨k, h1, h2, h3⟩
  have := or_gt (ho s k h3).1
  omega
theorem fwK_ext {s m m' : Nat} (h : ∀ k, ok s k → (k < m ↔ k < m')) : fwK ok W s m = fwK ok W s m' := by
  funext t
  unfold fwK
  have e : (∃ k, k < m ∧ t = s ||| 2 ^ k ∧ ok s k) ↔ (∃ k, k < m' ∧ t = s ||| 2 ^ k ∧ ok s k) := by
    constructor
    · intro ⟨k, h1, h2, h3⟩; exact ⟨k, (h k h3).mp h1, h2, h3⟩
    · intro ⟨k, h1, h2, h3⟩; exact ⟨k, (h k h3).mpr h1, h2, h3⟩
  by_cases h4 : ∃ k, k < m ∧ t = s ||| 2 ^ k ∧ ok s k
  · rw [cif_y h4, cif_y (e.mp h4)]
  · rw [cif_n h4, cif_n (fun z => h4 (e.mpr z))]
theorem fwK_zero {s m : Nat} (h : W s = 0) : fwK ok W s m = W := by
  funext t
  unfold fwK
  rw [h]
  by_cases z : ∃ k, k < m ∧ t = s ||| 2 ^ k ∧ ok s k
  · rw [cif_y z]; rfl
  · rw [cif_n z]; rfl
theorem fwK_le {s m t : Nat} : W t ≤ fwK ok W s m t := by unfold fwK; exact Nat.le_add_right _ _
theorem fw_mono {s s' t : Nat} (h : s ≤ s') : fw ok fr s t ≤ fw ok fr s' t := by
  induction s' with
  | zero => rw [show s = 0 by omega]; exact Nat.le_refl _
  | succ s' ih =>
    by_cases e : s = s' + 1
    · subst e; exact Nat.le_refl _
    · exact Nat.le_trans (ih (by omega)) fwK_le
theorem fw_stab (ho : okp ok) {s s' t : Nat} (h : t ≤ s) (h2 : s ≤ s') : fw ok fr s' t = fw ok fr s t := by
  induction s' with
  | zero => rw [show s = 0 by omega]
  | succ s' ih =>
    by_cases e : s = s' + 1
    · subst e; rfl
    · rw [← ih (by omega)]
      exact fwK_low ho (by omega)
/-- who was come to, and over whom -/
theorem fw_from {s t : Nat} (h : fw ok fr s t ≠ 0) : t = fr ∨ ∃ p k, p < s ∧ t = p ||| 2 ^ k ∧ ok p k ∧ fw ok fr p p ≠ 0 := by
  induction s with
  | zero =>
    left
    by_cases e : t = fr
    · exact e
    · exact absurd (if_neg e) h
  | succ s ih =>
    have h2 : fw ok fr s t + cif (∃ k, k < 10 ∧ t = s ||| 2 ^ k ∧ ok s k) (fw ok fr s s) 0 ≠ 0 := h
    by_cases e : fw ok fr s t = 0
    · rw [e, Nat.zero_add] at h2
      by_cases e2 : ∃ k, k < 10 ∧ t = s ||| 2 ^ k ∧ ok s k
      · rw [cif_y e2] at h2
        obtain ⟨k, -, a, b⟩ := e2
        exact Or.inr ⟨s, k, Nat.lt_succ_self s, a, b, h2⟩
      · rw [cif_n e2] at h2
        exact absurd rfl h2
    · rcases ih e with h3 | ⟨p, k, a, b⟩
      · exact Or.inl h3
      · exact Or.inr ⟨p, k, by omega, b⟩
theorem fw_to (ho : okp ok) {p k : Nat} (hk : ok p k) (h : fw ok fr p p ≠ 0) : fw ok fr (p ||| 2 ^ k) (p ||| 2 ^ k) ≠ 0 := by
  have h1 : fw ok fr (p + 1) (p ||| 2 ^ k) = fw ok fr p (p ||| 2 ^ k) + cif (∃ j, j < 10 ∧ p ||| 2 ^ k = p ||| 2 ^ j ∧ ok p j) (fw ok fr p p) 0 := rfl
  rw [cif_y ⟨k, (ho p k hk).2, rfl, hk⟩] at h1
  have h2 := or_gt (ho p k hk).1
  have h3 := fw_mono (ok := ok) (fr := fr) (t := p ||| 2 ^ k) (s := p + 1) (s' := p ||| 2 ^ k) h2
  omega
theorem fw_ind (ho : okp ok) {P : Nat → Prop} (h0 : P fr) (hs : ∀ p k, ok p k → fw ok fr p p ≠ 0 → P p → P (p ||| 2 ^ k)) : ∀ n t, t ≤ n → fw ok fr t t ≠ 0 → P t := by
  intro n
  induction n with
  | zero =>
    intro t ht h
    rcases fw_from h with e | ⟨p, k, a, b, c, d⟩
    · rw [e]; exact h0
    · omega
  | succ n ih =>
    intro t ht h
    rcases fw_from h with e | ⟨p, k, a, b, c, d⟩
    · rw [e]; exact h0
    · rw [b]
      exact hs p k c d (ih p (by omega) d)
theorem sub_or {a b k : Nat} (h : a &&& b = a) : a &&& (b ||| 2 ^ k) = a := by
  rw [Nat.and_or_distrib_left, h]
  apply Nat.eq_of_testBit_eq
  intro j
  rw [Nat.testBit_or, Nat.testBit_and]
  cases a.testBit j <;> simp
theorem fw_sub (ho : okp ok) {t : Nat} (h : fw ok fr t t ≠ 0) : fr &&& t = fr := fw_ind ho (P := fun t => fr &&& t = fr) (Nat.and_self _) (fun _ _ _ _ h => sub_or h) t t (Nat.le_refl _) h
theorem fw_lt (ho : okp ok) {n t : Nat} (hn : ∀ s k, ok s k → k < n) (hf : fr < 2 ^ n) (h : fw ok fr t t ≠ 0) : t < 2 ^ n := fw_ind ho (P := fun t => t < 2 ^ n) hf (fun p k hk _ h => or_lt h (hn p k hk)) t t (Nat.le_refl _) h
theorem fw_first {s : Nat} (ho : okp ok) (h : s ≤ fr) : fw ok fr s = fw ok fr 0 := by
  induction s with
  | zero => rfl
  | succ s ih =>
    have e := ih (by omega)
    show fwK ok (fw ok fr s) s 10 = _
    rw [fwK_zero, e]
    rw [e]
    exact if_neg (by omega)
theorem fw_last {n s : Nat} (ho : okp ok) (hn : ∀ s k, ok s k → k < n) (hf : fr < 2 ^ n) (h : 2 ^ n ≤ s) : fw ok fr s = fw ok fr (2 ^ n) := by
  induction s with
  | zero => rw [show 2 ^ n = 0 by omega]
  | succ s ih =>
    by_cases e : 2 ^ n = s + 1
    · rw [e]
    · have e2 := ih (by omega)
      show fwK ok (fw ok fr s) s 10 = _
      rw [fwK_zero, e2]
      rcases Nat.eq_zero_or_pos (fw ok fr s s) with z | z
      · exact z
      · have := fw_lt ho hn hf (t := s) (by omega)
        omega
def fac : Nat → Nat
  | 0 => 1
  | n + 1 => (n + 1) * fac n
theorem fac_pos : ∀ n, 1 ≤ fac n
  | 0 => Nat.le_refl _
  | n + 1 => Nat.mul_pos (Nat.succ_pos n) (fac_pos n)
theorem fac_mono {a b : Nat} (h : a ≤ b) : fac a ≤ fac b := by
  induction b with
  | zero => rw [show a = 0 by omega]; exact Nat.le_refl _
  | succ b ih =>
    by_cases e : a = b + 1
    · rw [e]; exact Nat.le_refl _
    · exact Nat.le_trans (ih (by omega)) (Nat.le_mul_of_pos_left _ (Nat.succ_pos b))
/-- over how many of its bits below m t is come to from a set below s -/
noncomputable def cnU (s t : Nat) : Nat → Nat
  | 0 => 0
  | m + 1 => cnU s t m + cif (∃ p, p < s ∧ p.testBit m = false ∧ t = p ||| 2 ^ m) 1 0
theorem cnU_le (s t : Nat) : ∀ m, cnU s t m ≤ pcU t m
  | 0 => Nat.le_refl _
  | m + 1 => by
    have := cnU_le s t m
    unfold cnU pcU
    by_cases h : ∃ p, p < s ∧ p.testBit m = false ∧ t = p ||| 2 ^ m
    · have e2 : t.testBit m = true := by
        obtain ⟨p, -, -, e⟩ := h
        rw [e, bit_or]; simp
      rw [cif_y h, if_pos e2]; omega
    · rw [cif_n h]; omega
theorem cnU_mono (s t : Nat) : ∀ m, cnU s t m ≤ cnU (s + 1) t m
  | 0 => Nat.le_refl _
  | m + 1 => by
    have := cnU_mono s t m
    unfold cnU
    by_cases h : ∃ p, p < s ∧ p.testBit m = false ∧ t = p ||| 2 ^ m
    · have h2 : ∃ p, p < s + 1 ∧ p.testBit m = false ∧ t = p ||| 2 ^ m := by
        obtain ⟨p, a, b⟩ := h
        exact ⟨p, by omega, b⟩
      rw [cif_y h, cif_y h2]; omega
    · rw [cif_n h]; omega
theorem or_inj2 {s p k : Nat} (hs : s.testBit k = false) (hp : p.testBit k = false) (h : s ||| 2 ^ k = p ||| 2 ^ k) : s = p := by
  apply Nat.eq_of_testBit_eq
  intro i
  have h2 := congrArg (fun x => Nat.testBit x i) h
  simp only [bit_or] at h2
  by_cases e : i = k
  · subst e; rw [hs, hp]
  · simpa [e] using h2
theorem cnU_up {s k : Nat} (h : s.testBit k = false) : ∀ m, k < m → cnU s (s ||| 2 ^ k) m + 1 ≤ cnU (s + 1) (s ||| 2 ^ k) m
  | 0, hk => by omega
  | m + 1, hk => by
    have hm := cnU_mono s (s ||| 2 ^ k) m
    unfold cnU
    by_cases e : k = m
    · subst e
      rw [cif_n (fun ⟨p, a, b, c⟩ => by have := or_inj2 h b c; omega), cif_y ⟨s, Nat.lt_succ_self s, h, rfl⟩]
      omega
    · have ih := cnU_up h m (by omega)
      by_cases c : ∃ p, p < s ∧ p.testBit m = false ∧ s ||| 2 ^ k = p ||| 2 ^ m
      · have c2 : ∃ p, p < s + 1 ∧ p.testBit m = false ∧ s ||| 2 ^ k = p ||| 2 ^ m := by
          obtain ⟨p, a, b⟩ := c
          exact ⟨p, by omega, b⟩
        rw [cif_y c, cif_y c2]; omega
      · rw [cif_n c]; omega
theorem fw_bnd0 (ho : okp ok) {s : Nat} (hs : s < 1024) (hf : fr < 1024) (h : ∀ t, t < 1024 → t ≠ fr → fw ok fr s t ≤ cnU s t 10 * fac (pcn t - 1)) : fw ok fr s s ≤ fac (pcn s) := by
  by_cases e : s = fr
  · subst e
    have e2 : fw ok s s s = 1 := by rw [fw_first ho (Nat.le_refl _)]; exact if_pos rfl
    rw [e2]; exact fac_pos _
  · have h1 := h s hs e
    have h2 := cnU_le s s 10
    rcases Nat.eq_zero_or_pos (pcn s) with z | z
    · have h3 : cnU s s 10 = 0 := by unfold pcn at z; omega
      rw [h3, Nat.zero_mul] at h1
      omega
    · obtain ⟨p, hp⟩ : ∃ p, pcn s = p + 1 := ⟨pcn s - 1, by omega⟩
      have h4 : cnU s s 10 ≤ p + 1 := by unfold pcn at hp; omega
      rw [hp] at h1 ⊢
      exact Nat.le_trans h1 (Nat.mul_le_mul_right _ h4)
theorem fw_bnd (ho : okp ok) (hf : fr < 1024) : ∀ s, s ≤ 1024 → ∀ t, t < 1024 → t ≠ fr → fw ok fr s t ≤ cnU s t 10 * fac (pcn t - 1)
  | 0, _, t, _, h => by
    have : fw ok fr 0 t = 0 := if_neg h
    omega
  | s + 1, hs, t, ht, h => by
    have ih := fw_bnd ho hf s (by omega)
    have hss := fw_bnd0 ho (by omega) hf ih
    have h1 := ih t ht h
    show fw ok fr s t + cif (∃ k, k < 10 ∧ t = s ||| 2 ^ k ∧ ok s k) (fw ok fr s s) 0 ≤ _
    by_cases e : ∃ k, k < 10 ∧ t = s ||| 2 ^ k ∧ ok s k
    · rw [cif_y e]
      obtain ⟨k, hk, e1, e2⟩ := e
      have hb := (ho s k e2).1
      have hc := cnU_up hb 10 hk
      have hp := pcn_or hk hb
      rw [← e1] at hc hp
      have e3 : pcn t - 1 = pcn s := by omega
      rw [e3] at h1 ⊢
      have h5 : (cnU s t 10 + 1) * fac (pcn s) ≤ cnU (s + 1) t 10 * fac (pcn s) := Nat.mul_le_mul_right _ hc
      rw [Nat.add_mul, Nat.one_mul] at h5
      omega
    · rw [cif_n e]
      have h5 := Nat.mul_le_mul_right (fac (pcn t - 1)) (cnU_mono s t 10)
      omega
theorem fw_small (ho : okp ok) (hf : fr < 1024) {t : Nat} (ht : t < 1024) : fw ok fr t t ≤ 3628800 := by
  have h1 := fw_bnd0 ho ht hf (fw_bnd ho hf t (by omega))
  have h2 := fac_mono (pcn_le t)
  have h3 : fac 10 = 3628800 := by decide
  omega
end FW
end
section
/-! countsWays, ever, states, rows -/
def okW (S : Nat → Int32) (stop : Int32) (s k : Nat) : Prop := k < nv S 3 ∧ mayok S k s ∧ (¬ stop = 0 → ¬ outP S s)
theorem okW_p {S : Nat → Int32} {stop : Int32} (hn : nv S 3 ≤ 10) : okp (okW S stop) := fun s k h => ⟨why_bit h.2.1, by have := h.1; omega⟩
noncomputable def cw (S : Nat → Int32) (stop : Int32) (o t : Nat) : Nat := fw (okW S stop) o t t
def orU (f : Nat → Nat) : Nat → Nat
  | 0 => 0
  | k + 1 => orU f k ||| f k
def suU (f : Nat → Nat) : Nat → Nat
  | 0 => 0
  | k + 1 => suU f k + f k
theorem nI_p0 {n : Nat} (h : n < 2147483648) : (0 : Int32) < nI n ↔ n ≠ 0 := by
  rw [show (0 : Int32) = nI 0 from rfl, nI_lt_iff (by decide) h]
  omega
theorem cw_small {S : Nat → Int32} {stop : Int32} {o t : Nat} (hn : nv S 3 ≤ 10) (ho : o < 1024) (ht : t < 1024) : cw S stop o t ≤ 3628800 := fw_small (okW_p hn) ho ht
theorem m1_pos {n : Nat} (h : 0 < n) : nI n - 1 = nI (n - 1) := by rw [show (1 : Int32) = nI 1 from rfl, pk_sub (by omega)]
section MH
variable {ev : EV} {σ : St2} {K : PO}
theorem R_countsWays {stop : Int32} (hI : Inv (σ.1 1)) (hk : ∀ r, (∀ t, t < 1024 → r t = nI (cw (σ.1 1) stop (nv (σ.1 1) 2) t)) → K none (sr σ 7 r)) : Rn 1 ev mM_countsWays [.ref 0, .int stop] σ K := by
  have hG := hI.2.1.1
  have hn := hI.1.2
  have hT := p2le _ hn
  have hoT := hI.2.1.2
  have hop := okW_p (S := σ.1 1) (stop := stop) hn
  have hokn : ∀ s k, okW (σ.1 1) stop s k → k < nv (σ.1 1) 3 := fun s k h => h.1
  refine Rn_V (by decide) rc6 rfl rfl ?_
  refine PW_blk okM_countsWays 0 rfl SpM_ok ?_
  simp only [wL0, wLc, true_and, w2, lg0, lgi, lgr, lgl, w35, kM0, rM0, kM1, nM1, w0, w39, w4, ls00, ls0i, ls0r, ls0l, lsi, lsr, lsl, Option.map_some, tn0, vi0_120, tn2, vi2_120, w71, hG.1]
  unfold cw at hk
  generalize ho : nv (σ.1 1) 2 = o at *
  have key := lp_up (n := 1024) (P := fun i => ∀ r, (∀ t, t < i → r t = nI (fw (okW (σ.1 1) stop) o 0 t)) → PW 1 ev mM_countsWays 9 [.ref 0, .int stop, .int (nI o), .int (nI i)] [] (sr σ 7 r) K) ?_ ?_ 0 (by decide) (σ.1 7) (fun t h => absurd h (Nat.not_lt_zero t))
  · rw [sr_self] at key
    exact key
  · intro r hr
    refine PW_blk okM_countsWays 1 rfl SpM_ok ?_
    simp only [wL0, wLc, true_and, w1, lg0, lgi, lgr, lgl, w0, w81]
    refine b3N (by decide) ?_
    refine PW_blk okM_countsWays 6 rfl SpM_ok ?_
    simp only [wL0, wLc, true_and, w1, lg0, lgi, lgr, lgl, w4, ls00, ls0i, ls0r, ls0l, lsi, lsr, lsl, Option.map_some, w71]
    have k2 := lp_up (n := 2 ^ nv (σ.1 1) 3) (P := fun s => ∀ r, (∀ t, t < 1024 → r t = nI (fw (okW (σ.1 1) stop) o s t)) → PW 1 ev mM_countsWays 40 [.ref 0, .int stop, .int (nI o), .int (nI s)] [] (sr σ 7 r) K) ?_ ?_ o (by omega) r (fun t ht => by rw [fw_first hop (Nat.le_refl _)]; exact hr t ht)
    · exact k2
    · intro r hr
      refine PW_blk okM_countsWays 7 rfl SpM_ok ?_
      simp only [wL0, wLc, true_and, w1, lg0, lgi, lgr, lgl, w2, w54_1, q40, q41, q42, q43, q44, Option.toList_some, Option.toList_none, List.cons_append, List.nil_append, sp_allLocks, w82, n7_1, hI.1.1]
      rw [alF_n _ (by omega)]
      refine b2Y (nI_lt (by omega) (by omega)) ?_
      refine PW_blk okM_countsWays 20 rfl SpM_ok ?_
      simp only [wL0, w87]
      refine hk r (fun t ht => ?_)
      rw [hr t ht]
      by_cases h : t ≤ 2 ^ nv (σ.1 1) 3
      · rw [fw_stab hop (Nat.le_refl t) h]
      · rw [fw_last hop hokn hoT (s := t) (by omega)]
    · intro s hs ih r hr
      have hs10 : s < 1024 := by omega
      have hsm := fw_small hop (fr := o) (by omega) hs10
      have hv : vp_in (nI s) 1024 := vp_in_nI hs10 (by decide)
      have cl : (nI s).toNatClampNeg = s := nI_clamp (by omega)
      refine PW_blk okM_countsWays 7 rfl SpM_ok ?_
      simp only [wL0, wLc, true_and, w1, lg0, lgi, lgr, lgl, w2, w54_1, q40, q41, q42, q43, q44, Option.toList_some, Option.toList_none, List.cons_append, List.nil_append, sp_allLocks, w82, n7_1, hI.1.1]
      rw [alF_n _ (by omega)]
      refine b2N (nI_nlt (by omega) (by omega)) ?_
      refine PW_blk okM_countsWays 8 rfl SpM_ok ?_
      simp only [wL0, wLc, true_and, w2, lg0, lgi, lgr, lgl, w35, kM0, rM8, kM7, nM7, w1, w39, w72, sr1, eq_true hv, cl, hr s hs10]
      have fin : ∀ M, M < 1024 → (∀ k, k < nv (σ.1 1) 3 → (M.testBit k = true ↔ okW (σ.1 1) stop s k) ∨ fw (okW (σ.1 1) stop) o s s = 0) → PW 1 ev mM_countsWays 78 [.ref 0, .int stop, .int (nI o), .int (nI s)] [.int (nI M)] (sr σ 7 r) K := by
        intro M hM10 hM
        refine PW_blk okM_countsWays 13 rfl SpM_ok ?_
        simp only [wL0, wLc, true_and, w4, ls00, ls0i, ls0r, ls0l, lsi, lsr, lsl, Option.map_some, w0, w71]
        have k3 := lp_up (n := nv (σ.1 1) 3) (P := fun m => ∀ r, (∀ t, t < 1024 → r t = nI (fwK (okW (σ.1 1) stop) (fw (okW (σ.1 1) stop) o s) s m t)) → PW 1 ev mM_countsWays 83 [.ref 0, .int stop, .int (nI o), .int (nI s), .int (nI M), .int (nI m)] [] (sr σ 7 r) K) ?_ ?_ 0 (Nat.zero_le _) r (fun t ht => by rw [fwK_0]; exact hr t ht)
        · exact k3
        · intro r hr
          refine PW_blk okM_countsWays 14 rfl SpM_ok ?_
          simp only [wL0, wLc, true_and, w1, lg0, lgi, lgr, lgl, w2, w35, kM0, rM0, kM1, nM1, w0, w39, tn3, vi3_120, w81, n7_1, hI.1.1]
          refine b3N (nI_nlt (Nat.le_refl _) (by omega)) ?_
          refine PW_blk okM_countsWays 19 rfl SpM_ok ?_
          simp only [wL0, wLc, true_and, w7, lg0, lgi, lgr, lgl, ls00, ls0i, ls0r, ls0l, lsi, lsr, lsl, Option.map_some, w70]
          refine PW_loc 4 ?_
          rw [show (1 : Int32) = nI 1 from rfl, nI_add]
          refine ih r (fun t ht => ?_)
          rw [hr t ht]
          rw [fwK_ext (ok := okW (σ.1 1) stop) (m := nv (σ.1 1) 3) (m' := 10) (fun k hk => ⟨fun _ => (hop s k hk).2, fun _ => hk.1⟩)]
          rfl
        · intro m hm ih3 r hr
          have hm10 : m < 10 := by omega
          have htl : s ||| 2 ^ m < 1024 := or_lt (n := 10) hs10 hm10
          have hv2 : vp_in (nI (s ||| 2 ^ m)) 1024 := vp_in_nI htl (by decide)
          have cl2 : (nI (s ||| 2 ^ m)).toNatClampNeg = s ||| 2 ^ m := nI_clamp (by omega)
          refine PW_blk okM_countsWays 14 rfl SpM_ok ?_
          simp only [wL0, wLc, true_and, w1, lg0, lgi, lgr, lgl, w2, w35, kM0, rM0, kM1, nM1, w0, w39, tn3, vi3_120, w81, n7_1, hI.1.1]
          refine b3Y (nI_lt hm (by omega)) ?_
          refine PW_blk okM_countsWays 15 rfl SpM_ok ?_
          simp only [wL0, wLc, true_and, w2, lg0, lgi, lgr, lgl, w35, kM0, rM8, kM7, nM7, w1, w0, w19, w17, w10i, w10r, w39, w55_2, q40, q41, q42, q43, q44, Option.toList_some, Option.toList_none, List.cons_append, List.nil_append, sp_isIn, tn1, w72, sr1, nI_sh1 m (by omega), fa_or, eq_true hv2, cl2]
          rw [isInF_n (by omega) (by omega)]
          have last : PW 1 ev mM_countsWays 126 [.ref 0, .int stop, .int (nI o), .int (nI s), .int (nI M), .int (nI m)] [.int (nI (if M.testBit m then fw (okW (σ.1 1) stop) o s s else 0)), .int (r (s ||| 2 ^ m)), .int (nI (s ||| 2 ^ m)), .ref 7] (sr σ 7 r) K := by
            refine PW_blk okM_countsWays 18 rfl SpM_ok ?_
            simp only [wL0, wLc, true_and, w11, w40, w7, lg0, lgi, lgr, lgl, ls00, ls0i, ls0r, ls0l, lsi, lsr, lsl, Option.map_some, w70, si_sr, kM7, nM7, eq_true hv2, cl2]
            rw [show (1 : Int32) = nI 1 from rfl, nI_add]
            refine ih3 _ (fun t ht => ?_)
            rw [fwK_s hop]
            by_cases e : t = s ||| 2 ^ m
            · subst e
              rw [updS, hr _ ht, nI_add]
              congr 2
              rcases hM m hm with h | h
              · by_cases hb : M.testBit m = true
                · rw [if_pos hb, cif_y ⟨h.mp hb, rfl⟩]
                · rw [if_neg hb, cif_n (fun z => hb (h.mpr z.1))]
              · rw [h]
                by_cases hb : okW (σ.1 1) stop s m ∧ s ||| 2 ^ m = s ||| 2 ^ m
                · rw [cif_y hb]; split <;> rfl
                · rw [cif_n hb]; split <;> rfl
            · rw [updN e, hr t ht, cif_n (fun z => e z.2)]
              rfl
          by_cases hb : M.testBit m = true
          · rw [if_pos hb] at last ⊢
            refine bY rfl ?_
            refine PW_blk okM_countsWays 16 rfl SpM_ok ?_
            simp only [wL0, wLc, true_and, w2, lg0, lgi, lgr, lgl, w35, kM0, rM8, kM7, nM7, w1, w39, w70, sr1, eq_true hv, cl, hr s hs10]
            rw [fwK_low hop (Nat.le_refl _)]
            exact last
          · rw [if_neg hb] at last ⊢
            refine bN rfl ?_
            refine PW_blk okM_countsWays 17 rfl SpM_ok ?_
            simp only [wL0, wLc, true_and, w0, w71]
            exact last
      have zero : (∀ k, k < nv (σ.1 1) 3 → ¬ okW (σ.1 1) stop s k ∨ fw (okW (σ.1 1) stop) o s s = 0) → PW 1 ev mM_countsWays 69 [.ref 0, .int stop, .int (nI o), .int (nI s)] [] (sr σ 7 r) K := by
        intro hz
        refine PW_blk okM_countsWays 11 rfl SpM_ok ?_
        simp only [wL0, wLc, true_and, w0, w70]
        refine fin 0 (by decide) (fun k hk => ?_)
        rcases hz k hk with h | h
        · exact Or.inl ⟨fun z => by simp at z, fun z => absurd z h⟩
        · exact Or.inr h
      have may : (∀ k, ¬ okW (σ.1 1) stop s k → ¬ (k < nv (σ.1 1) 3 ∧ mayok (σ.1 1) k s)) → PW 1 ev mM_countsWays 73 [.ref 0, .int stop, .int (nI o), .int (nI s)] [] (sr σ 7 r) K := by
        intro hz
        refine PW_blk okM_countsWays 12 rfl SpM_ok ?_
        simp only [wL0, wLc, true_and, w2, lg0, lgi, lgr, lgl, w1, w54_2, q40, q41, q42, q43, q44, Option.toList_some, Option.toList_none, List.cons_append, List.nil_append, w71]
        refine R_mayBy (σ := sr σ 7 r) hI hs10 ?_
        simp only [wL0, wLc, true_and, w2, lg0, lgi, lgr, lgl, w1, w54_2, q40, q41, q42, q43, q44, Option.toList_some, Option.toList_none, List.cons_append, List.nil_append, w71, n7_1]
        refine fin _ (by have := mayN_lt (σ.1 1) s; omega) (fun k hk => Or.inl ?_)
        rw [mayN_bit]
        constructor
        · intro h
          exact Classical.byContradiction (fun h2 => hz k h2 h)
        · intro h
          exact ⟨h.1, h.2.1⟩
      rw [nI_z (by omega)]
      by_cases h0 : fw (okW (σ.1 1) stop) o s s = 0
      · refine b2Y h0 ?_
        exact zero (fun k _ => Or.inr h0)
      refine b2N h0 ?_
      refine PW_blk okM_countsWays 9 rfl SpM_ok ?_
      simp only [wL0, wLc, true_and, w1, lg0, lgi, lgr, lgl, w72]
      by_cases h1 : stop = 0
      · refine b2Y h1 ?_
        exact may (fun k h h2 => h ⟨h2.1, h2.2, fun h3 => absurd h1 h3⟩)
      refine b2N h1 ?_
      refine PW_blk okM_countsWays 10 rfl SpM_ok ?_
      simp only [wL0, wLc, true_and, w2, lg0, lgi, lgr, lgl, w1, w54_2, q40, q41, q42, q43, q44, Option.toList_some, Option.toList_none, List.cons_append, List.nil_append, sp_isOut, w72, n7_1]
      by_cases h2 : outP (σ.1 1) s
      · refine bY (if_pos h2) ?_
        exact zero (fun k _ => Or.inl (fun h3 => h3.2.2 h1 h2))
      · refine bN (if_neg h2) ?_
        exact may (fun k h h3 => h ⟨h3.1, h3.2, fun _ => h2⟩)
  · intro i hi ih r hr
    have hv : vp_in (nI i) 1024 := vp_in_nI hi (by decide)
    have cl : (nI i).toNatClampNeg = i := nI_clamp (by omega)
    refine PW_blk okM_countsWays 1 rfl SpM_ok ?_
    simp only [wL0, wLc, true_and, w1, lg0, lgi, lgr, lgl, w0, w81]
    refine b3Y (nI_lt hi (by decide)) ?_
    refine PW_blk okM_countsWays 2 rfl SpM_ok ?_
    simp only [wL0, wLc, true_and, w2, lg0, lgi, lgr, lgl, w35, kM0, rM8, kM7, nM7, w1, w79]
    rw [nI_eq_iff (by omega) (by omega)]
    have fin : ∀ x, x = nI (fw (okW (σ.1 1) stop) o 0 i) → PW 1 ev mM_countsWays 31 [.ref 0, .int stop, .int (nI o), .int (nI i)] [.int x, .int (nI i), .ref 7] (sr σ 7 r) K := by
      intro x hx
      refine PW_blk okM_countsWays 5 rfl SpM_ok ?_
      simp only [wL0, wLc, true_and, w40, w7, lg0, lgi, lgr, lgl, ls00, ls0i, ls0r, ls0l, lsi, lsr, lsl, Option.map_some, w70, si_sr, kM7, nM7, eq_true hv, cl]
      rw [show (1 : Int32) = nI 1 from rfl, nI_add]
      refine ih _ (fun t ht => ?_)
      by_cases e : t = i
      · subst e; rw [updS]; exact hx
      · rw [updN e]; exact hr t (by omega)
    by_cases e : i = o
    · refine b3Y e ?_
      refine PW_blk okM_countsWays 3 rfl SpM_ok ?_
      simp only [wL0, wLc, true_and, w0, w70]
      exact fin 1 (by rw [show fw (okW (σ.1 1) stop) o 0 i = 1 from if_pos e]; rfl)
    · refine b3N e ?_
      refine PW_blk okM_countsWays 4 rfl SpM_ok ?_
      simp only [wL0, wLc, true_and, w0, w71]
      exact fin 0 (by rw [show fw (okW (σ.1 1) stop) o 0 i = 0 from if_neg e]; rfl)
theorem R_ever (hI : Inv (σ.1 1)) (hk : ∀ σ', Sm σ σ' → K (some (.int (nI (dif (orU (fun t => cif (cw (σ.1 1) 0 (nv (σ.1 1) 2) t ≠ 0) t 0) 1024) (nv (σ.1 1) 2))))) σ') : Rn 1 ev mM_ever [.ref 0] σ K := by
  have hG := hI.2.1.1
  have hoT := hI.2.1.2
  have hT := p2le _ hI.1.2
  refine Rn_V (by decide) rc6 rfl rfl ?_
  refine PW_blk okM_ever 0 rfl SpM_ok ?_
  simp only [wL0, wLc, true_and, w2, lg0, lgi, lgr, lgl, w0, w54_2, q40, q41, q42, q43, q44, Option.toList_some, Option.toList_none, List.cons_append, List.nil_append, w4, ls00, ls0i, ls0r, ls0l, lsi, lsr, lsl, Option.map_some, w71]
  refine R_countsWays hI (fun r hr => ?_)
  simp only [wL0, wLc, true_and, w2, lg0, lgi, lgr, lgl, w0, w54_2, q40, q41, q42, q43, q44, Option.toList_some, Option.toList_none, List.cons_append, List.nil_append, w4, ls00, ls0i, ls0r, ls0l, lsi, lsr, lsl, Option.map_some, w71]
  have key := lp_up (n := 1024) (P := fun i => PW 1 ev mM_ever 9 [.ref 0, .int (nI (orU (fun t => cif (cw (σ.1 1) 0 (nv (σ.1 1) 2) t ≠ 0) t 0) i)), .int (nI i)] [] (sr σ 7 r) K) ?_ ?_ 0 (by decide)
  · exact key
  · refine PW_blk okM_ever 1 rfl SpM_ok ?_
    simp only [wL0, wLc, true_and, w1, lg0, lgi, lgr, lgl, w0, w81]
    refine b3N (by decide) ?_
    refine PW_blk okM_ever 6 rfl SpM_ok ?_
    simp only [wL0, wLc, true_and, w1, lg0, lgi, lgr, lgl, w2, w35, kM0, rM0, kM1, nM1, w0, w39, w18, w16, tn2, vi2_120, w84, n7_1, hG.1]
    rw [dif_I]
    exact hk _ (Sm_sr (by decide) (by decide) Sm_r)
  · intro i hi ih
    have hv : vp_in (nI i) 1024 := vp_in_nI hi (by decide)
    have cl : (nI i).toNatClampNeg = i := nI_clamp (by omega)
    have hsm := cw_small (S := σ.1 1) (stop := 0) (o := nv (σ.1 1) 2) hI.1.2 (by omega) hi
    have e : orU (fun t => cif (cw (σ.1 1) 0 (nv (σ.1 1) 2) t ≠ 0) t 0) (i + 1) = orU (fun t => cif (cw (σ.1 1) 0 (nv (σ.1 1) 2) t ≠ 0) t 0) i ||| cif (cw (σ.1 1) 0 (nv (σ.1 1) 2) i ≠ 0) i 0 := rfl
    rw [e] at ih
    refine PW_blk okM_ever 1 rfl SpM_ok ?_
    simp only [wL0, wLc, true_and, w1, lg0, lgi, lgr, lgl, w0, w81]
    refine b3Y (nI_lt hi (by decide)) ?_
    refine PW_blk okM_ever 2 rfl SpM_ok ?_
    simp only [wL0, wLc, true_and, w1, lg0, lgi, lgr, lgl, w2, w35, kM0, rM8, kM7, nM7, w39, w77, sr1, eq_true hv, cl, hr i hi]
    rw [nI_p0 (by omega)]
    by_cases h : cw (σ.1 1) 0 (nv (σ.1 1) 2) i ≠ 0
    · rw [cif_y h] at ih
      refine b3Y h ?_
      refine PW_blk okM_ever 3 rfl SpM_ok ?_
      simp only [wL0, wLc, true_and, w1, lg0, lgi, lgr, lgl, w70]
      refine PW_blk okM_ever 5 rfl SpM_ok ?_
      simp only [wL0, wLc, true_and, w17, w4, ls00, ls0i, ls0r, ls0l, lsi, lsr, lsl, Option.map_some, w7, lg0, lgi, lgr, lgl, w70]
      rw [show (1 : Int32) = nI 1 from rfl, nI_add, fa_or]
      exact ih
    · rw [cif_n h] at ih
      refine b3N h ?_
      refine PW_blk okM_ever 4 rfl SpM_ok ?_
      simp only [wL0, wLc, true_and, w0, w71]
      refine PW_blk okM_ever 5 rfl SpM_ok ?_
      simp only [wL0, wLc, true_and, w17, w4, ls00, ls0i, ls0r, ls0l, lsi, lsr, lsl, Option.map_some, w7, lg0, lgi, lgr, lgl, w70]
      rw [show (1 : Int32) = nI 1 from rfl, nI_add, show (0 : Int32) = nI 0 from rfl, fa_or]
      exact ih
theorem R_states (hI : Inv (σ.1 1)) (hk : ∀ σ', Sm σ σ' → K (some (.int (nI (suU (fun t => cif (cw (σ.1 1) 0 (nv (σ.1 1) 2) t ≠ 0) 1 0) 1024)))) σ') : Rn 1 ev mM_states [.ref 0] σ K := by
  have hoT := hI.2.1.2
  have hT := p2le _ hI.1.2
  refine Rn_V (by decide) rc6 rfl rfl ?_
  refine PW_blk okM_states 0 rfl SpM_ok ?_
  simp only [wL0, wLc, true_and, w2, lg0, lgi, lgr, lgl, w0, w54_2, q40, q41, q42, q43, q44, Option.toList_some, Option.toList_none, List.cons_append, List.nil_append, w4, ls00, ls0i, ls0r, ls0l, lsi, lsr, lsl, Option.map_some, w71]
  refine R_countsWays hI (fun r hr => ?_)
  simp only [wL0, wLc, true_and, w2, lg0, lgi, lgr, lgl, w0, w54_2, q40, q41, q42, q43, q44, Option.toList_some, Option.toList_none, List.cons_append, List.nil_append, w4, ls00, ls0i, ls0r, ls0l, lsi, lsr, lsl, Option.map_some, w71]
  have key := lp_up (n := 1024) (P := fun i => PW 1 ev mM_states 9 [.ref 0, .int (nI (suU (fun t => cif (cw (σ.1 1) 0 (nv (σ.1 1) 2) t ≠ 0) 1 0) i)), .int (nI i)] [] (sr σ 7 r) K) ?_ ?_ 0 (by decide)
  · exact key
  · refine PW_blk okM_states 1 rfl SpM_ok ?_
    simp only [wL0, wLc, true_and, w1, lg0, lgi, lgr, lgl, w0, w81]
    refine b3N (by decide) ?_
    refine PW_blk okM_states 6 rfl SpM_ok ?_
    simp only [wL0, wLc, true_and, w1, lg0, lgi, lgr, lgl, w84]
    exact hk _ (Sm_sr (by decide) (by decide) Sm_r)
  · intro i hi ih
    have hv : vp_in (nI i) 1024 := vp_in_nI hi (by decide)
    have cl : (nI i).toNatClampNeg = i := nI_clamp (by omega)
    have hsm := cw_small (S := σ.1 1) (stop := 0) (o := nv (σ.1 1) 2) hI.1.2 (by omega) hi
    have e : suU (fun t => cif (cw (σ.1 1) 0 (nv (σ.1 1) 2) t ≠ 0) 1 0) (i + 1) = suU (fun t => cif (cw (σ.1 1) 0 (nv (σ.1 1) 2) t ≠ 0) 1 0) i + cif (cw (σ.1 1) 0 (nv (σ.1 1) 2) i ≠ 0) 1 0 := rfl
    rw [e] at ih
    refine PW_blk okM_states 1 rfl SpM_ok ?_
    simp only [wL0, wLc, true_and, w1, lg0, lgi, lgr, lgl, w0, w81]
    refine b3Y (nI_lt hi (by decide)) ?_
    refine PW_blk okM_states 2 rfl SpM_ok ?_
    simp only [wL0, wLc, true_and, w1, lg0, lgi, lgr, lgl, w2, w35, kM0, rM8, kM7, nM7, w39, w77, sr1, eq_true hv, cl, hr i hi]
    rw [nI_p0 (by omega)]
    by_cases h : cw (σ.1 1) 0 (nv (σ.1 1) 2) i ≠ 0
    · rw [cif_y h] at ih
      refine b3Y h ?_
      refine PW_blk okM_states 3 rfl SpM_ok ?_
      simp only [wL0, wLc, true_and, w0, w70]
      refine PW_blk okM_states 5 rfl SpM_ok ?_
      simp only [wL0, wLc, true_and, w11, w4, ls00, ls0i, ls0r, ls0l, lsi, lsr, lsl, Option.map_some, w7, lg0, lgi, lgr, lgl, w70]
      rw [show (1 : Int32) = nI 1 from rfl, nI_add, nI_add]
      exact ih
    · rw [cif_n h] at ih
      refine b3N h ?_
      refine PW_blk okM_states 4 rfl SpM_ok ?_
      simp only [wL0, wLc, true_and, w0, w71]
      refine PW_blk okM_states 5 rfl SpM_ok ?_
      simp only [wL0, wLc, true_and, w11, w4, ls00, ls0i, ls0r, ls0l, lsi, lsr, lsl, Option.map_some, w7, lg0, lgi, lgr, lgl, w70]
      rw [show (1 : Int32) = nI 1 from rfl, nI_add, show (0 : Int32) = nI 0 from rfl, nI_add]
      exact ih
theorem R_rows (hI : Inv (σ.1 1)) (hk : ∀ σ', Sm σ σ' → K (some (.int (nI (suU (fun t => cif (outP (σ.1 1) t) (cw (σ.1 1) 1 (nv (σ.1 1) 2) t) 0) 1024)))) σ') : Rn 1 ev mM_rows [.ref 0] σ K := by
  refine Rn_V (by decide) rc6 rfl rfl ?_
  refine PW_blk okM_rows 0 rfl SpM_ok ?_
  simp only [wL0, wLc, true_and, w2, lg0, lgi, lgr, lgl, w0, w54_2, q40, q41, q42, q43, q44, Option.toList_some, Option.toList_none, List.cons_append, List.nil_append, w4, ls00, ls0i, ls0r, ls0l, lsi, lsr, lsl, Option.map_some, w71]
  refine R_countsWays hI (fun r hr => ?_)
  simp only [wL0, wLc, true_and, w2, lg0, lgi, lgr, lgl, w0, w54_2, q40, q41, q42, q43, q44, Option.toList_some, Option.toList_none, List.cons_append, List.nil_append, w4, ls00, ls0i, ls0r, ls0l, lsi, lsr, lsl, Option.map_some, w71]
  have key := lp_up (n := 1024) (P := fun i => PW 1 ev mM_rows 9 [.ref 0, .int (nI (suU (fun t => cif (outP (σ.1 1) t) (cw (σ.1 1) 1 (nv (σ.1 1) 2) t) 0) i)), .int (nI i)] [] (sr σ 7 r) K) ?_ ?_ 0 (by decide)
  · exact key
  · refine PW_blk okM_rows 1 rfl SpM_ok ?_
    simp only [wL0, wLc, true_and, w1, lg0, lgi, lgr, lgl, w0, w81]
    refine b3N (by decide) ?_
    refine PW_blk okM_rows 6 rfl SpM_ok ?_
    simp only [wL0, wLc, true_and, w1, lg0, lgi, lgr, lgl, w84]
    exact hk _ (Sm_sr (by decide) (by decide) Sm_r)
  · intro i hi ih
    have hv : vp_in (nI i) 1024 := vp_in_nI hi (by decide)
    have cl : (nI i).toNatClampNeg = i := nI_clamp (by omega)
    have e : suU (fun t => cif (outP (σ.1 1) t) (cw (σ.1 1) 1 (nv (σ.1 1) 2) t) 0) (i + 1) = suU (fun t => cif (outP (σ.1 1) t) (cw (σ.1 1) 1 (nv (σ.1 1) 2) t) 0) i + cif (outP (σ.1 1) i) (cw (σ.1 1) 1 (nv (σ.1 1) 2) i) 0 := rfl
    rw [e] at ih
    refine PW_blk okM_rows 1 rfl SpM_ok ?_
    simp only [wL0, wLc, true_and, w1, lg0, lgi, lgr, lgl, w0, w81]
    refine b3Y (nI_lt hi (by decide)) ?_
    refine PW_blk okM_rows 2 rfl SpM_ok ?_
    simp only [wL0, wLc, true_and, w1, lg0, lgi, lgr, lgl, w2, w54_2, q40, q41, q42, q43, q44, Option.toList_some, Option.toList_none, List.cons_append, List.nil_append, sp_isOut, w72, n7_1]
    by_cases h : outP (σ.1 1) i
    · rw [cif_y h] at ih
      refine bY (if_pos h) ?_
      refine PW_blk okM_rows 3 rfl SpM_ok ?_
      simp only [wL0, wLc, true_and, w2, lg0, lgi, lgr, lgl, w35, kM0, rM8, kM7, nM7, w1, w39, w70, sr1, eq_true hv, cl, hr i hi]
      refine PW_blk okM_rows 5 rfl SpM_ok ?_
      simp only [wL0, wLc, true_and, w11, w4, ls00, ls0i, ls0r, ls0l, lsi, lsr, lsl, Option.map_some, w7, lg0, lgi, lgr, lgl, w70]
      rw [show (1 : Int32) = nI 1 from rfl, nI_add, nI_add]
      exact ih
    · rw [cif_n h] at ih
      refine bN (if_neg h) ?_
      refine PW_blk okM_rows 4 rfl SpM_ok ?_
      simp only [wL0, wLc, true_and, w0, w71]
      refine PW_blk okM_rows 5 rfl SpM_ok ?_
      simp only [wL0, wLc, true_and, w11, w4, ls00, ls0i, ls0r, ls0l, lsi, lsr, lsl, Option.map_some, w7, lg0, lgi, lgr, lgl, w70]
      rw [show (1 : Int32) = nI 1 from rfl, nI_add, show (0 : Int32) = nI 0 from rfl, nI_add]
      exact ih
end MH
end
section
/-! S with one number changed -/
theorem rg_ne {S : Nat → Int32} {i j m : Nat} {v : Int32} (h : j ≠ i) (hr : rg S j m) : rg (upd S i v) j m := by
  unfold rg nv at *
  rw [updN h]
  exact hr
theorem nv_ne {S : Nat → Int32} {i j : Nat} {v : Int32} (h : j ≠ i) : nv (upd S i v) j = nv S j := by
  unfold nv
  rw [updN h]
theorem nv_eq {S : Nat → Int32} {i n : Nat} (h : n < 2147483648) : nv (upd S i (nI n)) i = n := nv_of updS h
theorem rg_eq {S : Nat → Int32} {i n m : Nat} (h : n ≤ m) (hm : m < 2147483648) : rg (upd S i (nI n)) i m := rg_of updS h hm
theorem rg_up {S : Nat → Int32} {i j n m m' : Nat} (hr : rg S j m) (h : j = i → n ≤ m) (hm : m < 2147483648) : rg (upd S i (nI n)) j m := by
  by_cases e : j = i
  · subst e; exact rg_eq (h rfl) hm
  · exact rg_ne e hr
theorem InvK_ne {S : Nat → Int32} {i k : Nat} {v : Int32} (h : ∀ f, f < 10 → tr k f ≠ i) (hk : InvK S k) : InvK (upd S i v) k := by
  obtain ⟨a, ⟨b, b'⟩, c, d, e, f, g, h1, h2, h3⟩ := hk
  exact ⟨rg_ne (h _ (by decide)) a, ⟨rg_ne (h _ (by decide)) b, by rw [nv_ne (h _ (by decide))]; exact b'⟩, rg_ne (h _ (by decide)) c, rg_ne (h _ (by decide)) d, rg_ne (h _ (by decide)) e, rg_ne (h _ (by decide)) f, rg_ne (h _ (by decide)) g, rg_ne (h _ (by decide)) h1, rg_ne (h _ (by decide)) h2, rg_ne (h _ (by decide)) h3⟩
theorem Inv_rule {S : Nat → Int32} (hI : Inv S) {w n : Nat} (hw : w ≤ 4) (hn : n ≤ mostR S w) : Inv (upd S (4 + w) (nI n)) := by
  have h10 := hI.1.2
  have hp := p2le _ h10
  have h1 := Nat.two_pow_pos (nv S 3)
  obtain ⟨a, b, c, d, e, ⟨f, f'⟩, g, h, i, j⟩ := hI
  have e3 : nv (upd S (4 + w) (nI n)) 3 = nv S 3 := nv_ne (by omega)
  unfold mostR at hn
  refine ⟨rg_ne (by omega) a, ⟨rg_ne (by omega) b.1, by rw [e3, nv_ne (by omega)]; exact b.2⟩, rg_ne (by omega) c, ?_, ?_, ⟨?_, ?_⟩, ?_, ?_, ?_, ?_⟩
  · exact rg_up (m' := 0) d (fun z => by rw [if_pos (by omega)] at hn; exact hn) (by decide)
  · exact rg_up (m' := 0) e (fun z => by rw [if_neg (by omega), if_pos (by omega)] at hn; exact hn) (by decide)
  · exact rg_up (m' := 0) f (fun z => by rw [if_neg (by omega), if_neg (by omega), if_pos (by omega)] at hn; omega) (by decide)
  · rw [e3]
    by_cases z : w = 2
    · subst z
      rw [if_neg (by omega), if_neg (by omega), if_pos (by omega)] at hn
      rw [nv_eq (by omega)]; omega
    · rw [nv_ne (by omega)]; exact f'
  · exact rg_up (m' := 0) g (fun z => by rw [if_neg (by omega), if_neg (by omega), if_neg (by omega)] at hn; exact hn) (by decide)
  · exact rg_up (m' := 0) h (fun z => by rw [if_neg (by omega), if_neg (by omega), if_neg (by omega)] at hn; exact hn) (by decide)
  · rw [e3]
    exact fun k hk => InvK_ne (fun q _ => by unfold tr; omega) (i k hk)
  · rw [e3]
    intro q hq
    rw [updN (by omega)]
    exact j q hq
theorem tr_inj {k k' f f' : Nat} (hf : f < 10) (hf' : f' < 10) (h : tr k f = tr k' f') : k = k' ∧ f = f' := by unfold tr at h; omega
def mostB (w : Nat) : Nat := if w = 0 then 6 else if w = 1 then 60 else if w = 2 then 9 else if w = 3 then 40 else if w = 4 then 3 else if w = 5 then 2 else if w = 6 then 4 else if w = 7 then 9 else 1023
theorem InvK_up {S : Nat → Int32} {k w n : Nat} (hw : w ≤ 9) (h1 : leastN w ≤ n) (h2 : n ≤ mostB w) (hk : InvK S k) : InvK (upd S (tr k w) (nI n)) k := by
  have ne : ∀ f, f < 10 → f ≠ w → tr k f ≠ tr k w := fun f hf h e => h (tr_inj hf (by omega) e).2
  obtain ⟨a, ⟨b, b'⟩, c, d, e, f, g, h, i, j⟩ := hk
  unfold mostB at h2
  unfold leastN at h1
  have up : ∀ {x m : Nat}, x < 10 → rg S (tr k x) m → m < 2147483648 → (x = w → n ≤ m) → rg (upd S (tr k w) (nI n)) (tr k x) m := fun {x m} hx hr hm hc => by
    by_cases z : x = w
    · subst z; exact rg_eq (hc rfl) hm
    · exact rg_ne (ne x hx z) hr
  refine ⟨up (by decide) a (by decide) (fun z => ?_), ⟨up (by decide) b (by decide) (fun z => ?_), ?_⟩, up (by decide) c (by decide) (fun z => ?_), up (by decide) d (by decide) (fun z => ?_), up (by decide) e (by decide) (fun z => ?_), up (by decide) f (by decide) (fun z => ?_), up (by decide) g (by decide) (fun z => ?_), up (by decide) h (by decide) (fun z => ?_), up (by decide) i (by decide) (fun z => ?_), up (by decide) j (by decide) (fun z => ?_)⟩
  · subst z; exact h2
  · subst z; exact h2
  · by_cases z : w = 1
    · subst z
      rw [nv_eq (by rw [if_neg (by decide), if_pos rfl] at h2; omega)]
      exact h1
    · rw [nv_ne (fun q => z ((tr_inj (by decide) (by omega) q).2).symm)]
      exact b'
  all_goals subst z
  · exact h2
  · exact h2
  · exact h2
  · exact h2
  · exact h2
  · exact h2
  · exact h2
  · exact h2
theorem Inv_changeB {S : Nat → Int32} (hI : Inv S) {k w n : Nat} (hk : k < nv S 3) (hw : w ≤ 9) (h1 : leastN w ≤ n) (h2 : n ≤ mostB w) : Inv (upd S (tr k w) (nI n)) := by
  have h10 := hI.1.2
  have ne : ∀ i, i < 10 → i ≠ tr k w := fun i hi => by unfold tr; omega
  have ne2 : ∀ i, i < 10 → 110 + i ≠ tr k w := fun i hi => by unfold tr; omega
  obtain ⟨a, b, c, d, e, ⟨f, f'⟩, g, h, i, j⟩ := hI
  have e3 : nv (upd S (tr k w) (nI n)) 3 = nv S 3 := nv_ne (ne 3 (by decide))
  refine ⟨rg_ne (ne _ (by decide)) a, ⟨rg_ne (ne _ (by decide)) b.1, by rw [e3, nv_ne (ne _ (by decide))]; exact b.2⟩, rg_ne (ne _ (by decide)) c, rg_ne (ne _ (by decide)) d, rg_ne (ne _ (by decide)) e, ⟨rg_ne (ne _ (by decide)) f, by rw [e3, nv_ne (ne _ (by decide))]; exact f'⟩, rg_ne (ne _ (by decide)) g, rg_ne (ne _ (by decide)) h, ?_, ?_⟩
  · rw [e3]
    intro q hq
    by_cases z : q = k
    · subst z
      exact InvK_up hw h1 h2 (i q hq)
    · exact InvK_ne (fun x _ => by unfold tr; omega) (i q hq)
  · rw [e3]
    intro q hq
    rw [updN (ne2 q hq)]
    exact j q hq
theorem Inv_change {S : Nat → Int32} (hI : Inv S) {k w n : Nat} (hk : k < nv S 3) (hw : w ≤ 9) (h1 : leastN w ≤ n) (h2 : n ≤ mostN S w) : Inv (upd S (tr k w) (nI n)) := by
  refine Inv_changeB hI hk hw h1 (Nat.le_trans h2 ?_)
  have := p2le _ hI.1.2
  unfold mostN mostB
  repeat' split
  all_goals omega
end
section
/-! what he needs, what smiths should do: searches over changed chests -/
def can (S : Nat → Int32) : Prop := lst S 2 (nv S 2) ≠ none
noncomputable def toolsU (S : Nat → Int32) : Nat → Option Nat
  | 0 => none
  | s + 1 => match toolsU S s with
    | none => cif (can (upd S 4 (nI s))) (some s) none
    | some b => cif (pcn s < pcn b ∧ can (upd S 4 (nI s))) (some s) (some b)
def eB (r : Option Nat) : Int32 := match r with
  | none => -1
  | some b => nI b
def amU (f : Nat → Option Nat) : Nat → Option (Nat × Nat)
  | 0 => none
  | k + 1 => match f k with
    | none => amU f k
    | some v => match amU f k with
      | none => some (k, v)
      | some (b, l) => if v < l then some (k, v) else some (b, l)
def axU (f : Nat → Option Nat) : Nat → Option (Nat × Nat)
  | 0 => none
  | k + 1 => match f k with
    | none => axU f k
    | some v => match axU f k with
      | none => some (k, v)
      | some (b, l) => if l < v then some (k, v) else some (b, l)
def eA (r : Option (Nat × Nat)) : Int32 := match r with
  | none => -1
  | some (b, _) => nI b
def eL (r : Option (Nat × Nat)) : Int32 := match r with
  | none => 99999999
  | some (_, l) => nI l
def eM (r : Option (Nat × Nat)) : Int32 := match r with
  | none => -1
  | some (_, l) => nI l
theorem amU_b {f : Nat → Option Nat} (hf : ∀ k v, f k = some v → v ≤ 133120) : ∀ n b l, amU f n = some (b, l) → b < n ∧ l ≤ 133120
  | 0, b, l, h => by cases h
  | n + 1, b, l, h => by
    have ih := amU_b hf n
    unfold amU at h
    cases e : f n with
    | none => rw [e] at h; have := ih b l h; omega
    | some v =>
      have hv := hf n v e
      rw [e] at h
      cases e2 : amU f n with
      | none => rw [e2] at h; cases h; omega
      | some q =>
        obtain ⟨b', l'⟩ := q
        have hq := ih b' l' e2
        rw [e2] at h
        have h2 : (if v < l' then some (n, v) else some (b', l')) = some (b, l) := h
        split at h2 <;> cases h2 <;> omega
theorem axU_b {f : Nat → Option Nat} (hf : ∀ k v, f k = some v → v ≤ 133120) : ∀ n b l, axU f n = some (b, l) → b < n ∧ l ≤ 133120
  | 0, b, l, h => by cases h
  | n + 1, b, l, h => by
    have ih := axU_b hf n
    unfold axU at h
    cases e : f n with
    | none => rw [e] at h; have := ih b l h; omega
    | some v =>
      have hv := hf n v e
      rw [e] at h
      cases e2 : axU f n with
      | none => rw [e2] at h; cases h; omega
      | some q =>
        obtain ⟨b', l'⟩ := q
        have hq := ih b' l' e2
        rw [e2] at h
        have h2 : (if l' < v then some (n, v) else some (b', l')) = some (b, l) := h
        split at h2 <;> cases h2 <;> omega
theorem eL_FAR {f : Nat → Option Nat} (hf : ∀ k v, f k = some v → v ≤ 133120) {k : Nat} : ¬ (99999999 : Int32) < eL (amU f k) := by
  cases e : amU f k with
  | none => exact (by decide : ¬ (99999999 : Int32) < 99999999)
  | some q =>
    obtain ⟨b, l⟩ := q
    have := amU_b hf k b l e
    show ¬ (99999999 : Int32) < nI l
    rw [show (99999999 : Int32) = nI 99999999 from rfl, nI_lt_iff (by decide) (by omega)]
    omega
theorem am_lt {f : Nat → Option Nat} (hf : ∀ k v, f k = some v → v ≤ 133120) {k : Nat} (h : encF (f k) < eL (amU f k)) : eA (amU f (k + 1)) = nI k ∧ eL (amU f (k + 1)) = encF (f k) := by
  unfold amU
  cases e : f k with
  | none => rw [e] at h; exact absurd h (eL_FAR hf)
  | some v =>
    have hv := hf k v e
    cases e2 : amU f k with
    | none => exact ⟨rfl, rfl⟩
    | some q =>
      obtain ⟨b, l⟩ := q
      have hb := amU_b hf k b l e2
      rw [e, e2] at h
      have h2 : v < l := (nI_lt_iff (by omega) (by omega)).mp h
      show eA (if v < l then some (k, v) else some (b, l)) = _ ∧ eL (if v < l then some (k, v) else some (b, l)) = _
      rw [if_pos h2]
      exact ⟨rfl, rfl⟩
theorem am_nlt {f : Nat → Option Nat} (hf : ∀ k v, f k = some v → v ≤ 133120) {k : Nat} (h : ¬ encF (f k) < eL (amU f k)) : amU f (k + 1) = amU f k := by
  conv => lhs; unfold amU
  cases e : f k with
  | none => rfl
  | some v =>
    have hv := hf k v e
    cases e2 : amU f k with
    | none => rw [e, e2] at h; exact absurd (encF_lt (by omega)) h
    | some q =>
      obtain ⟨b, l⟩ := q
      have hb := amU_b hf k b l e2
      rw [e, e2] at h
      have h2 : ¬ v < l := fun z => h ((nI_lt_iff (by omega) (by omega)).mpr z)
      show (if v < l then some (k, v) else some (b, l)) = _
      rw [if_neg h2]
theorem eA_neg {r : Option (Nat × Nat)} (h : ∀ b l, r = some (b, l) → b < 1024) : eA r < 0 ↔ r = none := by
  cases r with
  | none => exact ⟨fun _ => rfl, fun _ => by decide⟩
  | some q =>
    obtain ⟨b, l⟩ := q
    have := h b l rfl
    exact ⟨fun z => absurd z (nI_nlt (a := b) (b := 0) (Nat.zero_le _) (by omega)), fun z => by cases z⟩
theorem eB_neg {r : Option Nat} (h : ∀ b, r = some b → b < 1024) : eB r < 0 ↔ r = none := by
  cases r with
  | none => exact ⟨fun _ => rfl, fun _ => by decide⟩
  | some b =>
    have := h b rfl
    exact ⟨fun z => absurd z (nI_nlt (a := b) (b := 0) (Nat.zero_le _) (by omega)), fun z => by cases z⟩
theorem toolsU_b {S : Nat → Int32} : ∀ n b, toolsU S n = some b → b < n
  | 0, b, h => by cases h
  | n + 1, b, h => by
    have ih := toolsU_b (S := S) n
    unfold toolsU at h
    cases e : toolsU S n with
    | none =>
      rw [e] at h
      have h2 : cif (can (upd S 4 (nI n))) (some n) none = some b := h
      by_cases c : can (upd S 4 (nI n))
      · rw [cif_y c] at h2; cases h2; omega
      · rw [cif_n c] at h2; cases h2
    | some b' =>
      have := ih b' e
      rw [e] at h
      have h2 : cif (pcn n < pcn b' ∧ can (upd S 4 (nI n))) (some n) (some b') = some b := h
      by_cases c : pcn n < pcn b' ∧ can (upd S 4 (nI n))
      · rw [cif_y c] at h2; cases h2; omega
      · rw [cif_n c] at h2; cases h2; omega
theorem sr_comm {σ : St2} {k k' : Nat} {r r' : Nat → Int32} (h : k ≠ k') : sr (sr σ k r) k' r' = sr (sr σ k' r') k r := by
  unfold sr
  congr 1
  funext a
  unfold upr
  by_cases h1 : a = k'
  · rw [if_pos h1, if_neg (fun e => h (e.symm.trans h1))]
    show r' = if a = k' then r' else _
    rw [if_pos h1]
  · rw [if_neg h1]
    show (if a = k then r else σ.1 a) = if a = k then r else if a = k' then r' else σ.1 a
    by_cases h2 : a = k
    · rw [if_pos h2, if_pos h2]
    · rw [if_neg h2, if_neg h2, if_neg h1]
/-- as Sm, S apart -/
def Sq (σ σ' : St2) : Prop := Sm σ (sr σ' 1 (σ.1 1))
theorem Sq_r {σ : St2} : Sq σ σ := by unfold Sq; rw [sr_self]; exact Sm_r
theorem Sq_sr {σ σ' : St2} {k : Nat} {r : Nat → Int32} (hk : kp k = false) (h0 : k ≠ 0) (h : Sq σ σ') : Sq σ (sr σ' k r) := by
  unfold Sq at *
  rw [sr_comm (fun e => by subst e; exact absurd hk (by decide))]
  exact Sm_sr hk h0 h
theorem Sq_1 {σ σ' : St2} {r : Nat → Int32} (h : Sq σ σ') : Sq σ (sr σ' 1 r) := by
  unfold Sq at *
  rw [sr_sr]
  exact h
theorem Sq_f {σ σ' : St2} {j : Nat} {v : Int32} (h3 : j ≠ 3) (h11 : j ≠ 11) (h : Sq σ σ') : Sq σ (sr σ' 0 (upd (σ'.1 0) j v)) := by
  unfold Sq at *
  rw [sr_comm (by decide)]
  have e : σ'.1 0 = (sr σ' 1 (σ.1 1)).1 0 := by rw [n1_0]
  rw [e]
  exact Sm_f h3 h11 h
theorem Sq_end {σ σ' : St2} {r : Nat → Int32} (h : Sq σ σ') (e : r = σ.1 1) : Sm σ (sr σ' 1 r) := by rw [e]; exact h
def wireF (S : Nat → Int32) (k : Nat) : Prop := True
noncomputable def wireO (S : Nat → Int32) (k : Nat) : Option Nat := if (nv S 2).testBit k then none else lst S 0 (nv S 2 ||| 2 ^ k)
noncomputable def kindO (S : Nat → Int32) (l k : Nat) : Option Nat := lst (upd S (tr l 0) (nI k)) 0 (nv S 2)
noncomputable def linkO (S : Nat → Int32) (p : Nat) : Option Nat := cif (p / 10 ≠ p % 10 ∧ p % 10 < nv S 3 ∧ (nv S (tr (p / 10) 8)).testBit (p % 10) = false) (lst (upd S (tr (p / 10) 8) (nI (nv S (tr (p / 10) 8) ||| 2 ^ (p % 10)))) 0 (nv S 2)) none
noncomputable def sparedO (S : Nat → Int32) (k : Nat) : Option Nat := if (nv S 6).testBit k then lst (upd S 6 (nI (dif (nv S 6) (2 ^ k)))) 0 (nv S 2) else none
section MJ
variable {ev : EV} {σ : St2} {K : PO}
theorem R_leastFrom' {σ : St2} {K : PO} {S : Nat → Int32} {fr b : Nat} (hS : σ.1 1 = S) (hI : Inv S) (hb : b ≤ 2) (hf : fr < 2 ^ nv S 3) (hk : ∀ r, K (some (.int (encF (lst S b fr)))) (sr σ 5 r)) : Rn 1 ev mM_leastFrom [.ref 0, .int (nI fr), .int (nI b)] σ K := by
  subst hS
  exact R_leastFrom hI hb hf (fun r _ => hk r)
theorem R_tools (hI : Inv (σ.1 1)) (h1 : toolsU (σ.1 1) 16 = none → ∀ σ', Sm σ σ' → K (some (.int (-1000004))) (noS σ' 3)) (h2 : ∀ b, toolsU (σ.1 1) 16 = some b → ∀ σ', Sm σ σ' → K (some (.int (nI b))) σ') : Rn 1 ev mM_tools [.ref 0] σ K := by
  have hoT := hI.2.1.2
  refine Rn_V (by decide) rc6 rfl rfl ?_
  refine PW_blk okM_tools 0 rfl SpM_ok ?_
  simp only [wL0, wLc, true_and, w2, lg0, lgi, lgr, lgl, w35, kM0, rM0, kM1, nM1, w0, w39, w4, ls00, ls0i, ls0r, ls0l, lsi, lsr, lsl, Option.map_some, tn0, vi0_120, tn4, vi4_120, w71]
  have key := lp_up (n := 16) (P := fun s => ∀ σ' x, Sq σ σ' → σ'.1 1 = upd (σ.1 1) 4 x → PW 1 ev mM_tools 11 [.ref 0, .int (σ.1 1 4), .int (eB (toolsU (σ.1 1) s)), .int (nI s)] [] σ' K) ?_ ?_ 0 (by decide) σ (σ.1 1 4) Sq_r (fa_upd_same rfl).symm
  · exact key
  · intro σ' x hq hx
    refine PW_blk okM_tools 1 rfl SpM_ok ?_
    simp only [wL0, wLc, true_and, w1, lg0, lgi, lgr, lgl, w0, w81]
    refine b3N (by decide) ?_
    refine PW_blk okM_tools 9 rfl SpM_ok ?_
    simp only [wL0, wLc, true_and, w2, lg0, lgi, lgr, lgl, w35, kM0, rM0, kM1, nM1, w0, w1, w40, tn4, vi4_120, w75, si_is, hx]
    have hS2 : Sm σ (sr σ' 1 (upd (upd (σ.1 1) 4 x) 4 (σ.1 1 4))) := Sq_end hq (by rw [fa_upd_twice]; exact fa_upd_same rfl)
    rw [eB_neg (fun b hb => by have := toolsU_b _ b hb; omega)]
    cases e : toolsU (σ.1 1) 16 with
    | none =>
      refine b3Y rfl ?_
      refine PW_blk okM_tools 10 rfl SpM_ok ?_
      simp only [wL0, wLc, true_and, w2, lg0, lgi, lgr, lgl, w0, w54_2, q40, q41, q42, q43, q44, Option.toList_some, Option.toList_none, List.cons_append, List.nil_append, sp_no, v7_0, v7_1, v7_2, v7_3, v7_4, v7_5, v7_6, w70]
      refine PW_blk okM_tools 12 rfl SpM_ok ?_
      simp only [wL0, w84]
      exact h1 e _ hS2
    | some b =>
      refine b3N (fun z => by cases z) ?_
      refine PW_blk okM_tools 11 rfl SpM_ok ?_
      simp only [wL0, wLc, true_and, w1, lg0, lgi, lgr, lgl, w71]
      refine PW_blk okM_tools 12 rfl SpM_ok ?_
      simp only [wL0, w84]
      exact h2 b e _ hS2
  · intro s hs ih σ' x hq hx
    have hIs : Inv (upd (σ.1 1) 4 (nI s)) := Inv_rule hI (w := 0) (by decide) (show s ≤ 15 by omega)
    have ecan : ∀ y, can (upd (σ.1 1) 4 y) = (lst (upd (σ.1 1) 4 y) 2 (nv (σ.1 1) 2) ≠ none) := fun y => by unfold can; rw [nv_ne (by decide)]
    have next : ∀ σ' x, Sq σ σ' → σ'.1 1 = upd (σ.1 1) 4 x → PW 1 ev mM_tools 61 [.ref 0, .int (σ.1 1 4), .int (eB (toolsU (σ.1 1) (s + 1))), .int (nI s)] [] σ' K := by
      intro σ' x hq hx
      refine PW_blk okM_tools 8 rfl SpM_ok ?_
      simp only [wL0, wLc, true_and, w7, lg0, lgi, lgr, lgl, ls00, ls0i, ls0r, ls0l, lsi, lsr, lsl, Option.map_some, w70]
      rw [show (1 : Int32) = nI 1 from rfl, nI_add]
      exact ih σ' x hq hx
    have try1 : ∀ σ' x, Sq σ σ' → σ'.1 1 = upd (σ.1 1) 4 x → (toolsU (σ.1 1) (s + 1) = cif (can (upd (σ.1 1) 4 (nI s))) (some s) (toolsU (σ.1 1) s)) → PW 1 ev mM_tools 32 [.ref 0, .int (σ.1 1 4), .int (eB (toolsU (σ.1 1) s)), .int (nI s)] [] σ' K := by
      intro σ' x hq hx he
      have eG : upd (upd (σ.1 1) 4 x) 4 (nI s) 2 = nI (nv (σ.1 1) 2) := by rw [updN (by decide), updN (by decide)]; exact hI.2.1.1.1
      refine PW_blk okM_tools 4 rfl SpM_ok ?_
      simp only [wL0, wLc, true_and, w2, lg0, lgi, lgr, lgl, w35, kM0, rM0, kM1, nM1, w0, w1, w40, w39, w54_3, q40, q41, q42, q43, q44, Option.toList_some, Option.toList_none, List.cons_append, List.nil_append, tn2, vi2_120, tn4, vi4_120, w81, si_is, sr1, hx, eG]
      refine R_leastFrom' (S := upd (σ.1 1) 4 (nI s)) (b := 2) (by rw [sr1, fa_upd_twice]) hIs (by decide) (by rw [nv_ne (by decide)]; exact hoT) (fun r => ?_)
      simp only [wL0, wLc, true_and, w2, lg0, lgi, lgr, lgl, w35, kM0, rM0, kM1, nM1, w0, w1, w40, w39, w54_3, q40, q41, q42, q43, q44, Option.toList_some, Option.toList_none, List.cons_append, List.nil_append, tn2, vi2_120, tn4, vi4_120, w81]
      have hq2 : Sq σ (sr (sr σ' 1 (upd (upd (σ.1 1) 4 x) 4 (nI s))) 5 r) := Sq_sr (by decide) (by decide) (Sq_1 hq)
      have hx2 : (sr (sr σ' 1 (upd (upd (σ.1 1) 4 x) 4 (nI s))) 5 r).1 1 = upd (σ.1 1) 4 (nI s) := by rw [n5_1, sr1, fa_upd_twice]
      cases e : lst (upd (σ.1 1) 4 (nI s)) 2 (nv (σ.1 1) 2) with
      | none =>
        refine b3N (show ¬ encF none < 99999999 by decide) ?_
        rw [cif_n (by rw [ecan, e]; exact fun z => z rfl)] at he
        refine PW_blk okM_tools 6 rfl SpM_ok ?_
        simp only [wL0, wLc, true_and, w1, lg0, lgi, lgr, lgl, w71]
        refine PW_blk okM_tools 7 rfl SpM_ok ?_
        simp only [wL0, wLc, true_and, w4, ls00, ls0i, ls0r, ls0l, lsi, lsr, lsl, Option.map_some, w71]
        rw [← he]
        exact next _ _ hq2 hx2
      | some v =>
        have hv := lst_lt hIs (by have := p2le _ hI.1.2; omega) e
        refine b3Y (encF_lt (v := v) (by omega)) ?_
        rw [cif_y (by rw [ecan, e]; exact fun z => by cases z)] at he
        refine PW_blk okM_tools 5 rfl SpM_ok ?_
        simp only [wL0, wLc, true_and, w1, lg0, lgi, lgr, lgl, w70]
        refine PW_blk okM_tools 7 rfl SpM_ok ?_
        simp only [wL0, wLc, true_and, w4, ls00, ls0i, ls0r, ls0l, lsi, lsr, lsl, Option.map_some, w71]
        have nx := next _ _ hq2 hx2
        rw [he] at nx
        exact nx
    refine PW_blk okM_tools 1 rfl SpM_ok ?_
    simp only [wL0, wLc, true_and, w1, lg0, lgi, lgr, lgl, w0, w81]
    refine b3Y (nI_lt hs (by decide)) ?_
    refine PW_blk okM_tools 2 rfl SpM_ok ?_
    simp only [wL0, wLc, true_and, w1, lg0, lgi, lgr, lgl, w74]
    rw [eB_neg (fun b hb => by have := toolsU_b _ b hb; omega)]
    cases e : toolsU (σ.1 1) s with
    | none =>
      refine b2Y rfl ?_
      rw [e] at try1
      refine try1 σ' x hq hx ?_
      show (match toolsU (σ.1 1) s with | none => _ | some b => _) = _
      rw [e]
    | some b =>
      have hb := toolsU_b _ b e
      refine b2N (fun z => by cases z) ?_
      have e2 : toolsU (σ.1 1) (s + 1) = cif (pcn s < pcn b ∧ can (upd (σ.1 1) 4 (nI s))) (some s) (some b) := by
        show (match toolsU (σ.1 1) s with | none => _ | some b => _) = _
        rw [e]
      refine PW_blk okM_tools 3 rfl SpM_ok ?_
      simp only [wL0, wLc, true_and, w1, lg0, lgi, lgr, lgl, w55_1, q40, q41, q42, q43, q44, Option.toList_some, Option.toList_none, List.cons_append, List.nil_append, w81]
      refine R_bits (by omega) ?_
      simp only [wL0, wLc, true_and, w1, lg0, lgi, lgr, lgl, w55_1, q40, q41, q42, q43, q44, Option.toList_some, Option.toList_none, List.cons_append, List.nil_append, w81]
      refine R_bits (a := b) (by omega) ?_
      simp only [wL0, wLc, true_and, w1, lg0, lgi, lgr, lgl, w55_1, q40, q41, q42, q43, q44, Option.toList_some, Option.toList_none, List.cons_append, List.nil_append, w81]
      have p1 := pcn_le s
      have p2 := pcn_le b
      rw [nI_lt_iff (by omega) (by omega)]
      by_cases hc : pcn s < pcn b
      · refine b3Y hc ?_
        rw [e] at try1
        refine try1 σ' x hq hx ?_
        rw [e2]
        by_cases h3 : can (upd (σ.1 1) 4 (nI s))
        · rw [cif_y ⟨hc, h3⟩, cif_y h3]
        · rw [cif_n (fun z => h3 z.2), cif_n h3]
      · refine b3N hc ?_
        rw [cif_n (fun z => hc z.1)] at e2
        rw [e2] at next
        exact next σ' x hq hx
theorem R_spare (hI : Inv (σ.1 1)) (h1 : (∀ v, v ≤ 40 → ¬ can (upd (σ.1 1) 5 (nI v))) → ∀ σ', Sm σ σ' → K (some (.int (-1000004))) (noS σ' 3)) (h2 : ∀ v, v ≤ 40 → can (upd (σ.1 1) 5 (nI v)) → (∀ u, u < v → ¬ can (upd (σ.1 1) 5 (nI u))) → ∀ σ', Sm σ σ' → K (some (.int (nI v))) σ') : Rn 1 ev mM_spare [.ref 0] σ K := by
  have hoT := hI.2.1.2
  refine Rn_V (by decide) rc6 rfl rfl ?_
  refine PW_blk okM_spare 0 rfl SpM_ok ?_
  simp only [wL0, wLc, true_and, w2, lg0, lgi, lgr, lgl, w35, kM0, rM0, kM1, nM1, w0, w39, w4, ls00, ls0i, ls0r, ls0l, lsi, lsr, lsl, Option.map_some, tn0, vi0_120, tn5, vi5_120, w71]
  have key := lp_up (n := 41) (P := fun v => ∀ σ' x, Sq σ σ' → σ'.1 1 = upd (σ.1 1) 5 x → (∀ u, u < v → ¬ can (upd (σ.1 1) 5 (nI u))) → PW 1 ev mM_spare 11 [.ref 0, .int (σ.1 1 5), .int (nI v), .int 0] [] σ' K) ?_ ?_ 0 (by decide) σ (σ.1 1 5) Sq_r (fa_upd_same rfl).symm (fun u hu => absurd hu (Nat.not_lt_zero _))
  · exact key
  · intro σ' x hq hx hno
    refine PW_blk okM_spare 1 rfl SpM_ok ?_
    simp only [wL0, wLc, true_and, w1, lg0, lgi, lgr, lgl, w0, w82]
    refine b2Y (by decide) ?_
    refine PW_blk okM_spare 10 rfl SpM_ok ?_
    simp only [wL0, wLc, true_and, w2, lg0, lgi, lgr, lgl, w35, kM0, rM0, kM1, nM1, w0, w1, w40, tn5, vi5_120, w72, si_is, hx]
    refine b2Y trivial ?_
    have hS2 : Sm σ (sr σ' 1 (upd (upd (σ.1 1) 5 x) 5 (σ.1 1 5))) := Sq_end hq (by rw [fa_upd_twice]; exact fa_upd_same rfl)
    refine PW_blk okM_spare 12 rfl SpM_ok ?_
    simp only [wL0, wLc, true_and, w2, lg0, lgi, lgr, lgl, w0, w54_2, q40, q41, q42, q43, q44, Option.toList_some, Option.toList_none, List.cons_append, List.nil_append, sp_no, v7_0, v7_1, v7_2, v7_3, v7_4, v7_5, v7_6, w71]
    refine PW_blk okM_spare 13 rfl SpM_ok ?_
    simp only [wL0, w84]
    exact h1 (fun v hv => hno v (by omega)) _ hS2
  · intro v hv ih σ' x hq hx hno
    have hIs : Inv (upd (σ.1 1) 5 (nI v)) := Inv_rule hI (w := 1) (by decide) (show v ≤ 40 by omega)
    have ecan : ∀ y, can (upd (σ.1 1) 5 y) = (lst (upd (σ.1 1) 5 y) 2 (nv (σ.1 1) 2) ≠ none) := fun y => by unfold can; rw [nv_ne (by decide)]
    have eG : upd (upd (σ.1 1) 5 x) 5 (nI v) 2 = nI (nv (σ.1 1) 2) := by rw [updN (by decide), updN (by decide)]; exact hI.2.1.1.1
    refine PW_blk okM_spare 1 rfl SpM_ok ?_
    simp only [wL0, wLc, true_and, w1, lg0, lgi, lgr, lgl, w0, w82]
    refine b2N (nI_nlt (a := 40) (b := v) (by omega) (by decide)) ?_
    refine PW_blk okM_spare 2 rfl SpM_ok ?_
    simp only [wL0, wLc, true_and, w1, lg0, lgi, lgr, lgl, w73]
    refine b3Y trivial ?_
    refine PW_blk okM_spare 3 rfl SpM_ok ?_
    simp only [wL0, wLc, true_and, w2, lg0, lgi, lgr, lgl, w35, kM0, rM0, kM1, nM1, w0, w1, w40, w39, w54_3, q40, q41, q42, q43, q44, Option.toList_some, Option.toList_none, List.cons_append, List.nil_append, tn2, vi2_120, tn5, vi5_120, w81, si_is, sr1, hx, eG]
    refine R_leastFrom' (S := upd (σ.1 1) 5 (nI v)) (b := 2) (by rw [sr1, fa_upd_twice]) hIs (by decide) (by rw [nv_ne (by decide)]; exact hoT) (fun r => ?_)
    simp only [wL0, wLc, true_and, w2, lg0, lgi, lgr, lgl, w35, kM0, rM0, kM1, nM1, w0, w1, w40, w39, w54_3, q40, q41, q42, q43, q44, Option.toList_some, Option.toList_none, List.cons_append, List.nil_append, tn2, vi2_120, tn5, vi5_120, w81]
    have hq2 : Sq σ (sr (sr σ' 1 (upd (upd (σ.1 1) 5 x) 5 (nI v))) 5 r) := Sq_sr (by decide) (by decide) (Sq_1 hq)
    have hx2 : (sr (sr σ' 1 (upd (upd (σ.1 1) 5 x) 5 (nI v))) 5 r).1 1 = upd (σ.1 1) 5 (nI v) := by rw [n5_1, sr1, fa_upd_twice]
    cases e : lst (upd (σ.1 1) 5 (nI v)) 2 (nv (σ.1 1) 2) with
    | none =>
      refine b3N (show ¬ encF none < 99999999 by decide) ?_
      refine PW_blk okM_spare 5 rfl SpM_ok ?_
      simp only [wL0, wLc, true_and, w0, w71]
      refine PW_blk okM_spare 6 rfl SpM_ok ?_
      simp only [wL0, wLc, true_and, w4, ls00, ls0i, ls0r, ls0l, lsi, lsr, lsl, Option.map_some, w1, lg0, lgi, lgr, lgl, w72]
      refine b2Y trivial ?_
      refine PW_blk okM_spare 8 rfl SpM_ok ?_
      simp only [wL0, wLc, true_and, w0, w71]
      refine PW_blk okM_spare 9 rfl SpM_ok ?_
      simp only [wL0, wLc, true_and, w11, w4, ls00, ls0i, ls0r, ls0l, lsi, lsr, lsl, Option.map_some, w70]
      rw [show (1 : Int32) = nI 1 from rfl, nI_add]
      refine ih _ _ hq2 hx2 (fun u hu => ?_)
      by_cases c : u = v
      · subst c; rw [ecan, e]; exact fun z => z rfl
      · exact hno u (by omega)
    | some w =>
      have hw := lst_lt hIs (by have := p2le _ hI.1.2; omega) e
      refine b3Y (encF_lt (v := w) (by omega)) ?_
      refine PW_blk okM_spare 4 rfl SpM_ok ?_
      simp only [wL0, wLc, true_and, w0, w70]
      refine PW_blk okM_spare 6 rfl SpM_ok ?_
      simp only [wL0, wLc, true_and, w4, ls00, ls0i, ls0r, ls0l, lsi, lsr, lsl, Option.map_some, w1, lg0, lgi, lgr, lgl, w72]
      refine b2N (by decide) ?_
      refine PW_blk okM_spare 7 rfl SpM_ok ?_
      simp only [wL0, wLc, true_and, w0, w70]
      refine PW_blk okM_spare 9 rfl SpM_ok ?_
      simp only [wL0, wLc, true_and, w11, w4, ls00, ls0i, ls0r, ls0l, lsi, lsr, lsl, Option.map_some, w70]
      rw [show (0 : Int32) = nI 0 from rfl, nI_add, Nat.add_zero]
      refine PW_blk okM_spare 1 rfl SpM_ok ?_
      simp only [wL0, wLc, true_and, w1, lg0, lgi, lgr, lgl, w0, w82]
      refine b2N (nI_nlt (a := 40) (b := v) (by omega) (by decide)) ?_
      refine PW_blk okM_spare 2 rfl SpM_ok ?_
      simp only [wL0, wLc, true_and, w1, lg0, lgi, lgr, lgl, w73]
      refine b3N (by decide) ?_
      refine PW_blk okM_spare 10 rfl SpM_ok ?_
      simp only [wL0, wLc, true_and, w2, lg0, lgi, lgr, lgl, w35, kM0, rM0, kM1, nM1, w0, w1, w40, tn5, vi5_120, w72, si_is, hx2]
      refine b2N (by decide) ?_
      have hS2 : Sm σ (sr (sr (sr σ' 1 (upd (upd (σ.1 1) 5 x) 5 (nI v))) 5 r) 1 (upd (upd (σ.1 1) 5 (nI v)) 5 (σ.1 1 5))) := Sq_end hq2 (by rw [fa_upd_twice]; exact fa_upd_same rfl)
      refine PW_blk okM_spare 11 rfl SpM_ok ?_
      simp only [wL0, wLc, true_and, w1, lg0, lgi, lgr, lgl, w70]
      refine PW_blk okM_spare 13 rfl SpM_ok ?_
      simp only [wL0, w84]
      exact h2 v (by omega) (by rw [ecan, e]; exact fun z => by cases z) hno _ hS2
theorem R_wire (hI : Inv (σ.1 1)) (h1 : amU (wireO (σ.1 1)) (nv (σ.1 1) 3) = none → ∀ σ', Sm σ σ' → K (some (.int (-1000004))) (noS σ' 3)) (h2 : ∀ b l, amU (wireO (σ.1 1)) (nv (σ.1 1) 3) = some (b, l) → ∀ σ', Sm σ σ' → K (some (.int (nI b))) σ') : Rn 1 ev mM_wire [.ref 0] σ K := by
  have hG := hI.2.1.1
  have hoT := hI.2.1.2
  have hn := hI.1.2
  have hT := p2le _ hn
  have hf : ∀ k v, k < nv (σ.1 1) 3 → wireO (σ.1 1) k = some v → v ≤ 133120 := by
    intro k v hk h
    unfold wireO at h
    split at h
    · cases h
    · exact lst_lt hI (by have := or_lt hoT hk; omega) h
  have hfa : ∀ k v, (fun k => if k < nv (σ.1 1) 3 then wireO (σ.1 1) k else none) k = some v → v ≤ 133120 := by
    intro k v h
    dsimp only at h
    split at h
    next hk => exact hf k v hk h
    next => cases h
  have ext : ∀ m, m ≤ nv (σ.1 1) 3 → amU (fun k => if k < nv (σ.1 1) 3 then wireO (σ.1 1) k else none) m = amU (wireO (σ.1 1)) m := by
    intro m
    induction m with
    | zero => intro _; rfl
    | succ m ih => intro hm; unfold amU; rw [ih (by omega), if_pos (by omega)]
  rw [← ext _ (Nat.le_refl _)] at h1 h2
  refine Rn_V (by decide) rc6 rfl rfl ?_
  refine PW_blk okM_wire 0 rfl SpM_ok ?_
  simp only [wL0, wLc, true_and, w0, w4, ls00, ls0i, ls0r, ls0l, lsi, lsr, lsl, Option.map_some, w71]
  generalize hF : (fun k => if k < nv (σ.1 1) 3 then wireO (σ.1 1) k else none) = F at *
  have key := lp_up (n := nv (σ.1 1) 3) (P := fun k => ∀ σ', Sm σ σ' → PW 1 ev mM_wire 7 [.ref 0, .int (eA (amU F k)), .int (eL (amU F k)), .int (nI k)] [] σ' K) ?_ ?_ 0 (Nat.zero_le _) σ Sm_r
  · exact key
  · intro σ' hS
    have e1 : σ'.1 1 = σ.1 1 := hS.1 1 rfl
    refine PW_blk okM_wire 1 rfl SpM_ok ?_
    simp only [wL0, wLc, true_and, w1, lg0, lgi, lgr, lgl, w2, w35, kM0, rM0, kM1, nM1, w0, w39, tn3, vi3_120, w81, e1, hI.1.1]
    refine b3N (nI_nlt (Nat.le_refl _) (by omega)) ?_
    refine PW_blk okM_wire 12 rfl SpM_ok ?_
    simp only [wL0, wLc, true_and, w1, lg0, lgi, lgr, lgl, w75]
    rw [eA_neg (fun b l hb => by have := amU_b hfa _ b l hb; omega)]
    cases e : amU F (nv (σ.1 1) 3) with
    | none =>
      refine b3Y rfl ?_
      refine PW_blk okM_wire 13 rfl SpM_ok ?_
      simp only [wL0, wLc, true_and, w2, lg0, lgi, lgr, lgl, w0, w54_2, q40, q41, q42, q43, q44, Option.toList_some, Option.toList_none, List.cons_append, List.nil_append, sp_no, v7_0, v7_1, v7_2, v7_3, v7_4, v7_5, v7_6, w70]
      refine PW_blk okM_wire 15 rfl SpM_ok ?_
      simp only [wL0, w84]
      exact h1 e _ hS
    | some q =>
      obtain ⟨b, l⟩ := q
      refine b3N (fun z => by cases z) ?_
      refine PW_blk okM_wire 14 rfl SpM_ok ?_
      simp only [wL0, wLc, true_and, w1, lg0, lgi, lgr, lgl, w71]
      refine PW_blk okM_wire 15 rfl SpM_ok ?_
      simp only [wL0, w84]
      exact h2 b l e _ hS
  · intro k hk ih σ' hS
    have e1 : σ'.1 1 = σ.1 1 := hS.1 1 rfl
    have hFk : F k = wireO (σ.1 1) k := by rw [← hF]; exact if_pos hk
    have last : ∀ σ', Sm σ σ' → PW 1 ev mM_wire 50 [.ref 0, .int (eA (amU F k)), .int (eL (amU F k)), .int (nI k)] [.int (encF (F k))] σ' K := by
      intro σ' hS
      refine PW_blk okM_wire 5 rfl SpM_ok ?_
      simp only [wL0, wLc, true_and, w4, ls00, ls0i, ls0r, ls0l, lsi, lsr, lsl, Option.map_some, w1, lg0, lgi, lgr, lgl, w81]
      by_cases c : encF (F k) < eL (amU F k)
      · obtain ⟨a1, a2⟩ := am_lt hfa c
        refine b3Y c ?_
        refine PW_blk okM_wire 6 rfl SpM_ok ?_
        simp only [wL0, wLc, true_and, w1, lg0, lgi, lgr, lgl, w70]
        refine PW_blk okM_wire 8 rfl SpM_ok ?_
        simp only [wL0, wLc, true_and, w4, ls00, ls0i, ls0r, ls0l, lsi, lsr, lsl, Option.map_some, w1, lg0, lgi, lgr, lgl, w81]
        refine b3Y c ?_
        refine PW_blk okM_wire 9 rfl SpM_ok ?_
        simp only [wL0, wLc, true_and, w1, lg0, lgi, lgr, lgl, w70]
        refine PW_blk okM_wire 11 rfl SpM_ok ?_
        simp only [wL0, wLc, true_and, w4, ls00, ls0i, ls0r, ls0l, lsi, lsr, lsl, Option.map_some, w7, lg0, lgi, lgr, lgl, w70]
        refine PW_loc 4 ?_
        rw [show (1 : Int32) = nI 1 from rfl, nI_add, ← a1, ← a2]
        exact ih σ' hS
      · have a1 := am_nlt hfa c
        refine b3N c ?_
        refine PW_blk okM_wire 7 rfl SpM_ok ?_
        simp only [wL0, wLc, true_and, w1, lg0, lgi, lgr, lgl, w71]
        refine PW_blk okM_wire 8 rfl SpM_ok ?_
        simp only [wL0, wLc, true_and, w4, ls00, ls0i, ls0r, ls0l, lsi, lsr, lsl, Option.map_some, w1, lg0, lgi, lgr, lgl, w81]
        refine b3N c ?_
        refine PW_blk okM_wire 10 rfl SpM_ok ?_
        simp only [wL0, wLc, true_and, w1, lg0, lgi, lgr, lgl, w71]
        refine PW_blk okM_wire 11 rfl SpM_ok ?_
        simp only [wL0, wLc, true_and, w4, ls00, ls0i, ls0r, ls0l, lsi, lsr, lsl, Option.map_some, w7, lg0, lgi, lgr, lgl, w70]
        refine PW_loc 4 ?_
        rw [show (1 : Int32) = nI 1 from rfl, nI_add, ← a1]
        exact ih σ' hS
    rw [hFk] at last
    unfold wireO at last
    refine PW_blk okM_wire 1 rfl SpM_ok ?_
    simp only [wL0, wLc, true_and, w1, lg0, lgi, lgr, lgl, w2, w35, kM0, rM0, kM1, nM1, w0, w39, tn3, vi3_120, w81, e1, hI.1.1]
    refine b3Y (nI_lt hk (by omega)) ?_
    refine PW_blk okM_wire 2 rfl SpM_ok ?_
    simp only [wL0, wLc, true_and, w2, lg0, lgi, lgr, lgl, w35, kM0, rM0, kM1, nM1, w0, w39, w1, w55_2, q40, q41, q42, q43, q44, Option.toList_some, Option.toList_none, List.cons_append, List.nil_append, sp_isIn, tn2, vi2_120, w72, e1, hG.1]
    rw [isInF_n (by omega) (by omega)]
    by_cases hb : (nv (σ.1 1) 2).testBit k = true
    · rw [if_pos hb] at last ⊢
      refine b2N (by decide) ?_
      refine PW_blk okM_wire 3 rfl SpM_ok ?_
      simp only [wL0, wLc, true_and, w0, w70]
      exact last σ' hS
    · rw [if_neg hb] at last ⊢
      refine b2Y rfl ?_
      refine PW_blk okM_wire 4 rfl SpM_ok ?_
      simp only [wL0, wLc, true_and, w2, lg0, lgi, lgr, lgl, w35, kM0, rM0, kM1, nM1, w0, w39, w1, w19, w17, w54_3, q40, q41, q42, q43, q44, Option.toList_some, Option.toList_none, List.cons_append, List.nil_append, tn0, vi0_120, tn1, vi1_120, tn2, vi2_120, w71, e1, hG.1, nI_sh1 k (by omega), fa_or]
      refine R_leastFrom' (S := σ.1 1) (b := 0) e1 hI (by decide) (or_lt hoT hk) (fun r => ?_)
      simp only [wL0, wLc, true_and, w2, lg0, lgi, lgr, lgl, w35, kM0, rM0, kM1, nM1, w0, w39, w1, w19, w17, w54_3, q40, q41, q42, q43, q44, Option.toList_some, Option.toList_none, List.cons_append, List.nil_append, tn0, vi0_120, tn1, vi1_120, tn2, vi2_120, w71]
      exact last _ (Sm_sr (by decide) (by decide) hS)
end MJ
end
section
/-! kindFor, link, linked, spared, surest -/
theorem or_self_bit {a b : Nat} (h : a.testBit b = true) : a ||| 2 ^ b = a := by
  apply Nat.eq_of_testBit_eq
  intro i
  rw [bit_or]
  by_cases e : i = b
  · subst e; rw [h]; rfl
  · rw [decide_eq_false e, Bool.or_false]
theorem kindO_b {S : Nat → Int32} (hI : Inv S) {l : Nat} (hl : l < nv S 3) : ∀ k v, k ≤ 6 → kindO S l k = some v → v ≤ 133120 := by
  intro k v hk h
  have hIs : Inv (upd S (tr l 0) (nI k)) := Inv_change hI (w := 0) hl (by decide) (Nat.zero_le _) hk
  exact lst_lt hIs (by have := p2le _ hI.1.2; have := hI.2.1.2; omega) h
theorem Inv_after {S : Nat → Int32} (hI : Inv S) {a b : Nat} (ha : a < nv S 3) (hb : b < 10) : Inv (upd S (tr a 8) (nI (nv S (tr a 8) ||| 2 ^ b))) := by
  have hx := (hI.2.2.2.2.2.2.2.2.1 a ha).2.2.2.2.2.2.2.2.1.2
  have : nv S (tr a 8) ||| 2 ^ b < 2 ^ 10 := or_lt (by omega) hb
  exact Inv_changeB hI (w := 8) ha (by decide) (Nat.zero_le _) (show _ ≤ 1023 by omega)
/-- what is asked of a search whose room ends at n -/
def lim {α : Type} (n : Nat) (f : Nat → Option α) (k : Nat) : Option α := if k < n then f k else none
theorem lim_in {α : Type} {n k : Nat} {f : Nat → Option α} (h : k < n) : lim n f k = f k := if_pos h
theorem lim_b {n : Nat} {f : Nat → Option Nat} (hf : ∀ k v, k < n → f k = some v → v ≤ 133120) : ∀ k v, lim n f k = some v → v ≤ 133120 := by
  intro k v h
  unfold lim at h
  split at h
  next hk => exact hf k v hk h
  next => cases h
theorem am_lim {n : Nat} {f : Nat → Option Nat} : ∀ m, m ≤ n → amU (lim n f) m = amU f m
  | 0, _ => rfl
  | m + 1, h => by unfold amU; rw [am_lim m (by omega), lim_in (by omega)]
theorem ax_lim {n : Nat} {f : Nat → Option Nat} : ∀ m, m ≤ n → axU (lim n f) m = axU f m
  | 0, _ => rfl
  | m + 1, h => by unfold axU; rw [ax_lim m (by omega), lim_in (by omega)]
theorem ax_b {f : Nat → Option Nat} (hf : ∀ k v, f k = some v → v ≤ 133120) {k : Nat} (h : encF (f k) < 99999999 ∧ eM (axU f k) < encF (f k)) : eA (axU f (k + 1)) = nI k ∧ eM (axU f (k + 1)) = encF (f k) := by
  unfold axU
  cases e : f k with
  | none => rw [e] at h; exact absurd h.1 (by decide)
  | some v =>
    have hv := hf k v e
    cases e2 : axU f k with
    | none => exact ⟨rfl, rfl⟩
    | some q =>
      obtain ⟨b, l⟩ := q
      have hb := axU_b hf k b l e2
      rw [e, e2] at h
      have h2 : l < v := (nI_lt_iff (by omega) (by omega)).mp h.2
      show eA (if l < v then some (k, v) else some (b, l)) = _ ∧ eM (if l < v then some (k, v) else some (b, l)) = _
      rw [if_pos h2]
      exact ⟨rfl, rfl⟩
theorem ax_n {f : Nat → Option Nat} (hf : ∀ k v, f k = some v → v ≤ 133120) {k : Nat} (h : ¬ (encF (f k) < 99999999 ∧ eM (axU f k) < encF (f k))) : axU f (k + 1) = axU f k := by
  conv => lhs; unfold axU
  cases e : f k with
  | none => rfl
  | some v =>
    have hv := hf k v e
    have h1 : encF (some v) < 99999999 := encF_lt (by omega)
    cases e2 : axU f k with
    | none =>
      rw [e, e2] at h
      have h3 : eM none < encF (some v) := by
        show (-1 : Int32) < nI v
        rw [fa_lt, nI_toInt (by omega), show (-1 : Int32).toInt = -1 from by decide]
        omega
      exact absurd ⟨h1, h3⟩ h
    | some q =>
      obtain ⟨b, l⟩ := q
      have hb := axU_b hf k b l e2
      rw [e, e2] at h
      have h2 : ¬ l < v := fun z => h ⟨h1, (nI_lt_iff (by omega) (by omega)).mpr z⟩
      show (if l < v then some (k, v) else some (b, l)) = _
      rw [if_neg h2]
section MK
variable {ev : EV} {σ : St2} {K : PO}
theorem R_kindFor {l : Int32} (hI : Inv (σ.1 1)) (h0 : ¬ hasL (σ.1 1) l → K (some (.int (-1000001))) (noS σ 0)) (h1 : ∀ k, k < nv (σ.1 1) 3 → l = nI k → amU (kindO (σ.1 1) k) 7 = none → ∀ σ', Sm σ σ' → K (some (.int (-1000004))) (noS σ' 3)) (h2 : ∀ k b c, k < nv (σ.1 1) 3 → l = nI k → amU (kindO (σ.1 1) k) 7 = some (b, c) → ∀ σ', Sm σ σ' → K (some (.int (nI b))) σ') : Rn 1 ev mM_kindFor [.ref 0, .int l] σ K := by
  have hoT := hI.2.1.2
  have hn := hI.1.2
  have hT := p2le _ hn
  refine Rn_V (by decide) rc6 rfl rfl ?_
  refine PW_blk okM_kindFor 0 rfl SpM_ok ?_
  simp only [wL0, wLc, true_and, w2, lg0, lgi, lgr, lgl, w1, w54_2, q40, q41, q42, q43, q44, Option.toList_some, Option.toList_none, List.cons_append, List.nil_append, sp_isLock, w73]
  by_cases hl : hasL (σ.1 1) l
  rotate_left
  · refine dN (in1LN hI.1 hl) ?_
    refine PW_blk okM_kindFor 1 rfl SpM_ok ?_
    simp only [wL0, wLc, true_and, w2, lg0, lgi, lgr, lgl, w0, w54_2, q40, q41, q42, q43, q44, Option.toList_some, Option.toList_none, List.cons_append, List.nil_append, sp_no, v7_0, v7_1, v7_2, v7_3, v7_4, v7_5, v7_6, w84]
    exact h0 hl
  refine dY (in1LY hI.1 hl) ?_
  obtain ⟨q, hq, rfl⟩ := hl
  have hq10 : q < 10 := by omega
  have h1 := h1 q hq rfl
  have h2 := fun b c => h2 q b c hq rfl
  have hfa := lim_b (n := 7) (f := kindO (σ.1 1) q) (fun k v hk h => kindO_b hI hq k v (by omega) h)
  rw [← am_lim (n := 7) (f := kindO (σ.1 1) q) 7 (Nat.le_refl _)] at h1 h2
  refine PW_blk okM_kindFor 2 rfl SpM_ok ?_
  simp only [wL0, wLc, true_and, w2, lg0, lgi, lgr, lgl, w1, w0, w54_3, q40, q41, q42, q43, q44, Option.toList_some, Option.toList_none, List.cons_append, List.nil_append, sp_get, w4, ls00, ls0i, ls0r, ls0l, lsi, lsr, lsl, Option.map_some, w71, gv0 hq10, gt0 hq10]
  have hFk : ∀ k, k < 7 → lim 7 (kindO (σ.1 1) q) k = lst (upd (σ.1 1) (tr q 0) (nI k)) 0 (nv (σ.1 1) 2) := fun k hk => lim_in hk
  generalize hF : lim 7 (kindO (σ.1 1) q) = F at *
  have key := lp_up (n := 7) (P := fun k => ∀ σ' x, Sq σ σ' → σ'.1 1 = upd (σ.1 1) (tr q 0) x → PW 1 ev mM_kindFor 30 [.ref 0, .int (nI q), .int (σ.1 1 (tr q 0)), .int (eA (amU F k)), .int (eL (amU F k)), .int (nI k)] [] σ' K) ?_ ?_ 0 (by decide) σ _ Sq_r (fa_upd_same rfl).symm
  · exact key
  · intro σ' x hS hx
    refine PW_blk okM_kindFor 3 rfl SpM_ok ?_
    simp only [wL0, wLc, true_and, w1, lg0, lgi, lgr, lgl, w0, w82]
    refine b2Y (by decide) ?_
    refine PW_blk okM_kindFor 11 rfl SpM_ok ?_
    simp only [wL0, wLc, true_and, w2, lg0, lgi, lgr, lgl, w1, w0, w54_4, q40, q41, q42, q43, q44, Option.toList_some, Option.toList_none, List.cons_append, List.nil_append, sp_puts, w75, gv0 hq10, gt0 hq10, si_is, hx]
    have hS2 : Sm σ (sr σ' 1 (upd (upd (σ.1 1) (tr q 0) x) (tr q 0) (σ.1 1 (tr q 0)))) := Sq_end hS (by rw [fa_upd_twice]; exact fa_upd_same rfl)
    rw [eA_neg (fun b l hb => by have := amU_b hfa _ b l hb; omega)]
    cases e : amU F 7 with
    | none =>
      refine b3Y rfl ?_
      refine PW_blk okM_kindFor 12 rfl SpM_ok ?_
      simp only [wL0, wLc, true_and, w2, lg0, lgi, lgr, lgl, w0, w54_2, q40, q41, q42, q43, q44, Option.toList_some, Option.toList_none, List.cons_append, List.nil_append, sp_no, v7_0, v7_1, v7_2, v7_3, v7_4, v7_5, v7_6, w70]
      refine PW_blk okM_kindFor 14 rfl SpM_ok ?_
      simp only [wL0, w84]
      exact h1 e _ hS2
    | some q2 =>
      obtain ⟨b, c⟩ := q2
      refine b3N (fun z => by cases z) ?_
      refine PW_blk okM_kindFor 13 rfl SpM_ok ?_
      simp only [wL0, wLc, true_and, w1, lg0, lgi, lgr, lgl, w71]
      refine PW_blk okM_kindFor 14 rfl SpM_ok ?_
      simp only [wL0, w84]
      exact h2 b c e _ hS2
  · intro k hk ih σ' x hS hx
    have hIs : Inv (upd (σ.1 1) (tr q 0) (nI k)) := Inv_change hI (w := 0) hq (by decide) (Nat.zero_le _) (show k ≤ 6 by omega)
    have eG : upd (upd (σ.1 1) (tr q 0) x) (tr q 0) (nI k) 2 = nI (nv (σ.1 1) 2) := by rw [updN n2_tr, updN n2_tr]; exact hI.2.1.1.1
    have e2 : nv (upd (σ.1 1) (tr q 0) (nI k)) 2 = nv (σ.1 1) 2 := nv_ne n2_tr
    have e3 : nv (upd (σ.1 1) (tr q 0) (nI k)) 3 = nv (σ.1 1) 3 := nv_ne n3_tr
    refine PW_blk okM_kindFor 3 rfl SpM_ok ?_
    simp only [wL0, wLc, true_and, w1, lg0, lgi, lgr, lgl, w0, w82]
    refine b2N (nI_nlt (a := 6) (b := k) (by omega) (by decide)) ?_
    refine PW_blk okM_kindFor 4 rfl SpM_ok ?_
    simp only [wL0, wLc, true_and, w2, lg0, lgi, lgr, lgl, w1, w0, w54_4, q40, q41, q42, q43, q44, Option.toList_some, Option.toList_none, List.cons_append, List.nil_append, sp_puts, w35, kM0, rM0, kM1, nM1, w39, w54_3, w4, ls00, ls0i, ls0r, ls0l, lsi, lsr, lsl, Option.map_some, tn0, vi0_120, tn2, vi2_120, w81, gv0 hq10, gt0 hq10, si_is, hx, sr1, eG]
    refine R_leastFrom' (S := upd (σ.1 1) (tr q 0) (nI k)) (b := 0) (by rw [sr1, fa_upd_twice]) hIs (by decide) (by rw [e3]; exact hoT) (fun r => ?_)
    simp only [wL0, wLc, true_and, w2, lg0, lgi, lgr, lgl, w1, w0, w54_4, q40, q41, q42, q43, q44, Option.toList_some, Option.toList_none, List.cons_append, List.nil_append, sp_puts, w35, kM0, rM0, kM1, nM1, w39, w54_3, w4, ls00, ls0i, ls0r, ls0l, lsi, lsr, lsl, Option.map_some, tn0, vi0_120, tn2, vi2_120, w81]
    have hS2 : Sq σ (sr (sr σ' 1 (upd (upd (σ.1 1) (tr q 0) x) (tr q 0) (nI k))) 5 r) := Sq_sr (by decide) (by decide) (Sq_1 hS)
    have hx2 : (sr (sr σ' 1 (upd (upd (σ.1 1) (tr q 0) x) (tr q 0) (nI k))) 5 r).1 1 = upd (σ.1 1) (tr q 0) (nI k) := by rw [n5_1, sr1, fa_upd_twice]
    rw [← hFk k hk]
    by_cases c : encF (F k) < eL (amU F k)
    · obtain ⟨a1, a2⟩ := am_lt hfa c
      refine b3Y c ?_
      refine PW_blk okM_kindFor 5 rfl SpM_ok ?_
      simp only [wL0, wLc, true_and, w1, lg0, lgi, lgr, lgl, w70]
      refine PW_blk okM_kindFor 7 rfl SpM_ok ?_
      simp only [wL0, wLc, true_and, w4, ls00, ls0i, ls0r, ls0l, lsi, lsr, lsl, Option.map_some, w1, lg0, lgi, lgr, lgl, w81]
      refine b3Y c ?_
      refine PW_blk okM_kindFor 8 rfl SpM_ok ?_
      simp only [wL0, wLc, true_and, w1, lg0, lgi, lgr, lgl, w70]
      refine PW_blk okM_kindFor 10 rfl SpM_ok ?_
      simp only [wL0, wLc, true_and, w4, ls00, ls0i, ls0r, ls0l, lsi, lsr, lsl, Option.map_some, w7, lg0, lgi, lgr, lgl, w70]
      refine PW_loc 6 ?_
      rw [show (1 : Int32) = nI 1 from rfl, nI_add, ← a1, ← a2]
      have nx := ih _ _ hS2 hx2
      rw [a1] at nx ⊢
      exact nx
    · have a1 := am_nlt hfa c
      refine b3N c ?_
      refine PW_blk okM_kindFor 6 rfl SpM_ok ?_
      simp only [wL0, wLc, true_and, w1, lg0, lgi, lgr, lgl, w71]
      refine PW_blk okM_kindFor 7 rfl SpM_ok ?_
      simp only [wL0, wLc, true_and, w4, ls00, ls0i, ls0r, ls0l, lsi, lsr, lsl, Option.map_some, w1, lg0, lgi, lgr, lgl, w81]
      refine b3N c ?_
      refine PW_blk okM_kindFor 9 rfl SpM_ok ?_
      simp only [wL0, wLc, true_and, w1, lg0, lgi, lgr, lgl, w71]
      refine PW_blk okM_kindFor 10 rfl SpM_ok ?_
      simp only [wL0, wLc, true_and, w4, ls00, ls0i, ls0r, ls0l, lsi, lsr, lsl, Option.map_some, w7, lg0, lgi, lgr, lgl, w70]
      refine PW_loc 6 ?_
      rw [show (1 : Int32) = nI 1 from rfl, nI_add, ← a1]
      exact ih _ _ hS2 hx2
theorem R_spared (hI : Inv (σ.1 1)) (h1 : amU (sparedO (σ.1 1)) (nv (σ.1 1) 3) = none → ∀ σ', Sm σ σ' → K (some (.int (-1000004))) (noS σ' 3)) (h2 : ∀ b c, amU (sparedO (σ.1 1)) (nv (σ.1 1) 3) = some (b, c) → ∀ σ', Sm σ σ' → K (some (.int (nI b))) σ') : Rn 1 ev mM_spared [.ref 0] σ K := by
  have hoT := hI.2.1.2
  have hn := hI.1.2
  have hT := p2le _ hn
  have hg := hI.2.2.2.2.2.1
  have hIk : ∀ k, Inv (upd (σ.1 1) 6 (nI (dif (nv (σ.1 1) 6) (2 ^ k)))) := fun k => Inv_rule hI (w := 2) (by decide) (show dif (nv (σ.1 1) 6) (2 ^ k) ≤ 2 ^ nv (σ.1 1) 3 - 1 by have := dif_le (nv (σ.1 1) 6) (2 ^ k); have := hg.2; omega)
  have hfa := lim_b (n := nv (σ.1 1) 3) (f := sparedO (σ.1 1)) (fun k v hk h => by
    unfold sparedO at h
    split at h
    · exact lst_lt (hIk k) (by omega) h
    · cases h)
  rw [← am_lim (n := nv (σ.1 1) 3) (f := sparedO (σ.1 1)) _ (Nat.le_refl _)] at h1 h2
  refine Rn_V (by decide) rc6 rfl rfl ?_
  refine PW_blk okM_spared 0 rfl SpM_ok ?_
  simp only [wL0, wLc, true_and, w2, lg0, lgi, lgr, lgl, w35, kM0, rM0, kM1, nM1, w0, w39, w4, ls00, ls0i, ls0r, ls0l, lsi, lsr, lsl, Option.map_some, tn0, vi0_120, tn6, vi6_120, w71]
  have hFk : ∀ k, k < nv (σ.1 1) 3 → lim (nv (σ.1 1) 3) (sparedO (σ.1 1)) k = if (nv (σ.1 1) 6).testBit k then lst (upd (σ.1 1) 6 (nI (dif (nv (σ.1 1) 6) (2 ^ k)))) 0 (nv (σ.1 1) 2) else none := fun k hk => lim_in hk
  generalize hF : lim (nv (σ.1 1) 3) (sparedO (σ.1 1)) = F at *
  have key := lp_up (n := nv (σ.1 1) 3) (P := fun k => ∀ σ' x, Sq σ σ' → σ'.1 1 = upd (σ.1 1) 6 x → PW 1 ev mM_spared 16 [.ref 0, .int (σ.1 1 6), .int (eA (amU F k)), .int (eL (amU F k)), .int (nI k)] [] σ' K) ?_ ?_ 0 (Nat.zero_le _) σ _ Sq_r (fa_upd_same rfl).symm
  · exact key
  · intro σ' x hS hx
    have ex3 : upd (σ.1 1) 6 x 3 = nI (nv (σ.1 1) 3) := by rw [updN (by decide)]; exact hI.1.1
    refine PW_blk okM_spared 1 rfl SpM_ok ?_
    simp only [wL0, wLc, true_and, w1, lg0, lgi, lgr, lgl, w2, w35, kM0, rM0, kM1, nM1, w0, w39, tn3, vi3_120, w81, hx, ex3]
    refine b3N (nI_nlt (Nat.le_refl _) (by omega)) ?_
    refine PW_blk okM_spared 11 rfl SpM_ok ?_
    simp only [wL0, wLc, true_and, w2, lg0, lgi, lgr, lgl, w35, kM0, rM0, kM1, nM1, w0, w1, w40, tn6, vi6_120, w75, si_is, hx]
    have hS2 : Sm σ (sr σ' 1 (upd (upd (σ.1 1) 6 x) 6 (σ.1 1 6))) := Sq_end hS (by rw [fa_upd_twice]; exact fa_upd_same rfl)
    rw [eA_neg (fun b l hb => by have := amU_b hfa _ b l hb; omega)]
    cases e : amU F (nv (σ.1 1) 3) with
    | none =>
      refine b3Y rfl ?_
      refine PW_blk okM_spared 12 rfl SpM_ok ?_
      simp only [wL0, wLc, true_and, w2, lg0, lgi, lgr, lgl, w0, w54_2, q40, q41, q42, q43, q44, Option.toList_some, Option.toList_none, List.cons_append, List.nil_append, sp_no, v7_0, v7_1, v7_2, v7_3, v7_4, v7_5, v7_6, w70]
      refine PW_blk okM_spared 14 rfl SpM_ok ?_
      simp only [wL0, w84]
      exact h1 e _ hS2
    | some q2 =>
      obtain ⟨b, c⟩ := q2
      refine b3N (fun z => by cases z) ?_
      refine PW_blk okM_spared 13 rfl SpM_ok ?_
      simp only [wL0, wLc, true_and, w1, lg0, lgi, lgr, lgl, w71]
      refine PW_blk okM_spared 14 rfl SpM_ok ?_
      simp only [wL0, w84]
      exact h2 b c e _ hS2
  · intro k hk ih σ' x hS hx
    have ex3 : upd (σ.1 1) 6 x 3 = nI (nv (σ.1 1) 3) := by rw [updN (by decide)]; exact hI.1.1
    have hIs := hIk k
    have eG : upd (upd (σ.1 1) 6 x) 6 (nI (dif (nv (σ.1 1) 6) (2 ^ k))) 2 = nI (nv (σ.1 1) 2) := by rw [updN (by decide), updN (by decide)]; exact hI.2.1.1.1
    have next : ∀ σ' x, Sq σ σ' → σ'.1 1 = upd (σ.1 1) 6 x → PW 1 ev mM_spared 90 [.ref 0, .int (σ.1 1 6), .int (eA (amU F (k + 1))), .int (eL (amU F (k + 1))), .int (nI k)] [] σ' K := by
      intro σ' x hS hx
      refine PW_blk okM_spared 10 rfl SpM_ok ?_
      simp only [wL0, wLc, true_and, w7, lg0, lgi, lgr, lgl, ls00, ls0i, ls0r, ls0l, lsi, lsr, lsl, Option.map_some, w70]
      rw [show (1 : Int32) = nI 1 from rfl, nI_add]
      exact ih σ' x hS hx
    refine PW_blk okM_spared 1 rfl SpM_ok ?_
    simp only [wL0, wLc, true_and, w1, lg0, lgi, lgr, lgl, w2, w35, kM0, rM0, kM1, nM1, w0, w39, tn3, vi3_120, w81, hx, ex3]
    refine b3Y (nI_lt hk (by omega)) ?_
    refine PW_blk okM_spared 2 rfl SpM_ok ?_
    simp only [wL0, wLc, true_and, w1, lg0, lgi, lgr, lgl, w55_2, q40, q41, q42, q43, q44, Option.toList_some, Option.toList_none, List.cons_append, List.nil_append, sp_isIn, w72]
    rw [hg.1.1, isInF_n (by omega) (by omega)]
    rw [hg.1.1] at next
    by_cases hb : (nv (σ.1 1) 6).testBit k = true
    rotate_left
    · rw [if_neg hb]
      refine b2Y rfl ?_
      have e0 : F k = none := by rw [hFk k hk, if_neg hb]
      have e1 : amU F (k + 1) = amU F k := am_nlt hfa (by rw [e0]; exact eL_FAR hfa)
      rw [e1] at next
      exact next σ' x hS hx
    rw [if_pos hb]
    refine b2N (by decide) ?_
    refine PW_blk okM_spared 3 rfl SpM_ok ?_
    simp only [wL0, wLc, true_and, w2, lg0, lgi, lgr, lgl, w35, kM0, rM0, kM1, nM1, w0, w1, w19, w18, w16, w40, w39, w54_3, q40, q41, q42, q43, q44, Option.toList_some, Option.toList_none, List.cons_append, List.nil_append, w4, ls00, ls0i, ls0r, ls0l, lsi, lsr, lsl, Option.map_some, tn0, vi0_120, tn1, vi1_120, tn2, vi2_120, tn6, vi6_120, w81, si_is, hx, sr1, nI_sh1 k (by omega), dif_I, eG]
    refine R_leastFrom' (S := upd (σ.1 1) 6 (nI (dif (nv (σ.1 1) 6) (2 ^ k)))) (b := 0) (by rw [sr1, fa_upd_twice]) hIs (by decide) (by rw [nv_ne (by decide)]; exact hoT) (fun r => ?_)
    simp only [wL0, wLc, true_and, w2, lg0, lgi, lgr, lgl, w35, kM0, rM0, kM1, nM1, w0, w1, w19, w18, w16, w40, w39, w54_3, q40, q41, q42, q43, q44, Option.toList_some, Option.toList_none, List.cons_append, List.nil_append, w4, ls00, ls0i, ls0r, ls0l, lsi, lsr, lsl, Option.map_some, tn0, vi0_120, tn1, vi1_120, tn2, vi2_120, tn6, vi6_120, w81]
    have hS2 : Sq σ (sr (sr σ' 1 (upd (upd (σ.1 1) 6 x) 6 (nI (dif (nv (σ.1 1) 6) (2 ^ k))))) 5 r) := Sq_sr (by decide) (by decide) (Sq_1 hS)
    have hx2 : (sr (sr σ' 1 (upd (upd (σ.1 1) 6 x) 6 (nI (dif (nv (σ.1 1) 6) (2 ^ k))))) 5 r).1 1 = upd (σ.1 1) 6 (nI (dif (nv (σ.1 1) 6) (2 ^ k))) := by rw [n5_1, sr1, fa_upd_twice]
    have eF : lst (upd (σ.1 1) 6 (nI (dif (nv (σ.1 1) 6) (2 ^ k)))) 0 (nv (σ.1 1) 2) = F k := by rw [hFk k hk, if_pos hb]
    rw [eF]
    have nx := next _ _ hS2 hx2
    by_cases c : encF (F k) < eL (amU F k)
    · obtain ⟨a1, a2⟩ := am_lt hfa c
      rw [a1, a2] at nx
      refine b3Y c ?_
      refine PW_blk okM_spared 4 rfl SpM_ok ?_
      simp only [wL0, wLc, true_and, w1, lg0, lgi, lgr, lgl, w70]
      refine PW_blk okM_spared 6 rfl SpM_ok ?_
      simp only [wL0, wLc, true_and, w4, ls00, ls0i, ls0r, ls0l, lsi, lsr, lsl, Option.map_some, w1, lg0, lgi, lgr, lgl, w81]
      refine b3Y c ?_
      refine PW_blk okM_spared 7 rfl SpM_ok ?_
      simp only [wL0, wLc, true_and, w1, lg0, lgi, lgr, lgl, w70]
      refine PW_blk okM_spared 9 rfl SpM_ok ?_
      simp only [wL0, wLc, true_and, w4, ls00, ls0i, ls0r, ls0l, lsi, lsr, lsl, Option.map_some, w71]
      refine PW_loc 5 ?_
      exact nx
    · have a1 := am_nlt hfa c
      rw [a1] at nx
      refine b3N c ?_
      refine PW_blk okM_spared 5 rfl SpM_ok ?_
      simp only [wL0, wLc, true_and, w1, lg0, lgi, lgr, lgl, w71]
      refine PW_blk okM_spared 6 rfl SpM_ok ?_
      simp only [wL0, wLc, true_and, w4, ls00, ls0i, ls0r, ls0l, lsi, lsr, lsl, Option.map_some, w1, lg0, lgi, lgr, lgl, w81]
      refine b3N c ?_
      refine PW_blk okM_spared 8 rfl SpM_ok ?_
      simp only [wL0, wLc, true_and, w1, lg0, lgi, lgr, lgl, w71]
      refine PW_blk okM_spared 9 rfl SpM_ok ?_
      simp only [wL0, wLc, true_and, w4, ls00, ls0i, ls0r, ls0l, lsi, lsr, lsl, Option.map_some, w71]
      refine PW_loc 5 ?_
      exact nx
end MK
end
section
/-! link, linked -/
theorem Sq_of {σ σ' : St2} (h : Sm σ σ') : Sq σ σ' := by unfold Sq; rw [sr_eq (h.1 1 rfl).symm]; exact h
theorem linkO_b {S : Nat → Int32} (hI : Inv S) {p v : Nat} (hp : p < 10 * nv S 3) (h : linkO S p = some v) : v ≤ 133120 := by
  unfold linkO at h
  by_cases c : p / 10 ≠ p % 10 ∧ p % 10 < nv S 3 ∧ (nv S (tr (p / 10) 8)).testBit (p % 10) = false
  · rw [cif_y c] at h
    have := hI.2.1.1.2
    exact lst_lt (Inv_after hI (a := p / 10) (b := p % 10) (by omega) (by omega)) (by omega) h
  · rw [cif_n c] at h
    cases h
section ML
variable {ev : EV} {σ : St2} {K : PO}
theorem R_bestLink (hI : Inv (σ.1 1)) (hk : ∀ σ', Sm σ σ' → σ'.1 0 9 = eM (axU (linkO (σ.1 1)) (10 * nv (σ.1 1) 3)) → K (some (.int (eA (axU (linkO (σ.1 1)) (10 * nv (σ.1 1) 3))))) σ') : Rn 1 ev mM_bestLink [.ref 0] σ K := by
  have hoT := hI.2.1.2
  have hn := hI.1.2
  have hT := p2le _ hn
  have hfa := lim_b (n := 10 * nv (σ.1 1) 3) (f := linkO (σ.1 1)) (fun k v hk h => linkO_b hI hk h)
  rw [← ax_lim (n := 10 * nv (σ.1 1) 3) (f := linkO (σ.1 1)) _ (Nat.le_refl _)] at hk
  have hFk : ∀ p, p < 10 * nv (σ.1 1) 3 → lim (10 * nv (σ.1 1) 3) (linkO (σ.1 1)) p = linkO (σ.1 1) p := fun k hk => lim_in hk
  generalize hF : lim (10 * nv (σ.1 1) 3) (linkO (σ.1 1)) = F at *
  refine Rn_V (by decide) rc6 rfl rfl ?_
  refine PW_blk okM_bestLink 0 rfl SpM_ok ?_
  simp only [wL0, wLc, true_and, w0, w4, ls00, ls0i, ls0r, ls0l, lsi, lsr, lsl, Option.map_some, w2, lg0, lgi, lgr, lgl, w36, kM0, w71, si_is]
  have key := lp_up (n := 10 * nv (σ.1 1) 3) (P := fun p => ∀ σ', Sm σ σ' → σ'.1 0 9 = eM (axU F p) → PW 1 ev mM_bestLink 9 [.ref 0, .int (eA (axU F p)), .int (nI p)] [] σ' K) ?_ ?_ 0 (Nat.zero_le _) _ (Sm_f (j := 9) (v := -1) (by decide) (by decide) (Sm_r (σ := σ))) (by rw [sr1, updS]; rfl)
  · exact key
  · intro σ' hS h9
    have e1 : σ'.1 1 = σ.1 1 := hS.1 1 rfl
    refine PW_blk okM_bestLink 1 rfl SpM_ok ?_
    simp only [wL0, wLc, true_and, w1, lg0, lgi, lgr, lgl, w0, w2, w35, kM0, rM0, kM1, nM1, w39, w13, tn3, vi3_120, tn10, vi10_120, w81, e1, hI.1.1]
    rw [show (10 : Int32) = nI 10 from rfl, pk_mul]
    refine b3N (nI_nlt (Nat.le_refl _) (by omega)) ?_
    refine PW_blk okM_bestLink 17 rfl SpM_ok ?_
    simp only [wL0, wLc, true_and, w1, lg0, lgi, lgr, lgl, w84]
    exact hk σ' hS h9
  · intro p hp ih σ' hS h9
    have e1 : σ'.1 1 = σ.1 1 := hS.1 1 rfl
    have ha : p / 10 < nv (σ.1 1) 3 := by omega
    have ha10 : p / 10 < 10 := by omega
    have hb10 : p % 10 < 10 := by omega
    have hx := (hI.2.2.2.2.2.2.2.2.1 (p / 10) ha).2.2.2.2.2.2.2.2.1
    have hxl := hx.2
    have next : ∀ σ', Sm σ σ' → σ'.1 0 9 = eM (axU F (p + 1)) → PW 1 ev mM_bestLink 157 [.ref 0, .int (eA (axU F (p + 1))), .int (nI p)] [] σ' K := by
      intro σ' hS h9
      refine PW_blk okM_bestLink 16 rfl SpM_ok ?_
      simp only [wL0, wLc, true_and, w7, lg0, lgi, lgr, lgl, ls00, ls0i, ls0r, ls0l, lsi, lsr, lsl, Option.map_some, w70]
      rw [show (1 : Int32) = nI 1 from rfl, nI_add]
      exact ih σ' hS h9
    have no : ¬ (p / 10 ≠ p % 10 ∧ p % 10 < nv (σ.1 1) 3 ∧ (nv (σ.1 1) (tr (p / 10) 8)).testBit (p % 10) = false) → PW 1 ev mM_bestLink 157 [.ref 0, .int (eA (axU F p)), .int (nI p)] [] σ' K := by
      intro c
      have e0 : F p = none := by rw [hFk p hp]; exact cif_n c
      have e2 : axU F (p + 1) = axU F p := ax_n hfa (by rw [e0]; exact fun z => absurd z.1 (by decide))
      rw [e2] at next
      exact next σ' hS h9
    refine PW_blk okM_bestLink 1 rfl SpM_ok ?_
    simp only [wL0, wLc, true_and, w1, lg0, lgi, lgr, lgl, w0, w2, w35, kM0, rM0, kM1, nM1, w39, w13, tn3, vi3_120, tn10, vi10_120, w81, e1, hI.1.1]
    rw [show (10 : Int32) = nI 10 from rfl, pk_mul]
    refine b3Y (nI_lt (by omega) (by omega)) ?_
    refine PW_blk okM_bestLink 2 rfl SpM_ok ?_
    simp only [wL0, wLc, true_and, w1, lg0, lgi, lgr, lgl, w0, w14, w4, ls00, ls0i, ls0r, ls0l, lsi, lsr, lsl, Option.map_some, w15, w2, w54_3, q40, q41, q42, q43, q44, Option.toList_some, Option.toList_none, List.cons_append, List.nil_append, sp_get, w78]
    rw [show (10 : Int32) = nI 10 from rfl, pk_rem (a := p) (d := 10) (by omega) (by decide) (by decide), pk_div (a := p) (d := 10) (by omega) (by decide) (by decide)]
    refine ⟨by decide, by decide, ?_⟩
    simp only [gv8 ha10, gt8 ha10, true_and, e1]
    rw [nI_eq_iff (by omega) (by omega)]
    by_cases c1 : p / 10 = p % 10
    · refine b2Y c1 ?_
      exact PW_loc 3 (no (fun z => z.1 c1))
    refine b2N c1 ?_
    refine PW_blk okM_bestLink 3 rfl SpM_ok ?_
    simp only [wL0, wLc, true_and, w1, lg0, lgi, lgr, lgl, w2, w35, kM0, rM0, kM1, nM1, w0, w39, tn3, vi3_120, w81, e1, hI.1.1]
    by_cases c2 : p % 10 < nv (σ.1 1) 3
    rotate_left
    · refine b3N (nI_nlt (by omega) (by omega)) ?_
      exact PW_loc 3 (no (fun z => c2 z.2.1))
    refine b3Y (nI_lt c2 (by omega)) ?_
    refine PW_blk okM_bestLink 4 rfl SpM_ok ?_
    simp only [wL0, wLc, true_and, w1, lg0, lgi, lgr, lgl, w55_2, q40, q41, q42, q43, q44, Option.toList_some, Option.toList_none, List.cons_append, List.nil_append, sp_isIn, w73, hx.1]
    rw [isInF_n (by omega) (by omega)]
    by_cases c3 : (nv (σ.1 1) (tr (p / 10) 8)).testBit (p % 10) = true
    · rw [if_pos c3]
      refine b3N (by decide) ?_
      exact PW_loc 3 (no (fun z => by rw [c3] at z; exact absurd z.2.2 (by decide)))
    rw [if_neg c3]
    have c3' : (nv (σ.1 1) (tr (p / 10) 8)).testBit (p % 10) = false := by simpa using c3
    refine b3Y rfl ?_
    have hIs := Inv_after hI ha (b := p % 10) hb10
    have eG : upd (σ.1 1) (tr (p / 10) 8) (nI (nv (σ.1 1) (tr (p / 10) 8) ||| 2 ^ (p % 10))) 2 = nI (nv (σ.1 1) 2) := by rw [updN n2_tr]; exact hI.2.1.1.1
    have e2 : nv (upd (σ.1 1) (tr (p / 10) 8) (nI (nv (σ.1 1) (tr (p / 10) 8) ||| 2 ^ (p % 10)))) 2 = nv (σ.1 1) 2 := nv_ne n2_tr
    have e3 : nv (upd (σ.1 1) (tr (p / 10) 8) (nI (nv (σ.1 1) (tr (p / 10) 8) ||| 2 ^ (p % 10)))) 3 = nv (σ.1 1) 3 := nv_ne n3_tr
    refine PW_blk okM_bestLink 5 rfl SpM_ok ?_
    simp only [wL0, wLc, true_and, w2, lg0, lgi, lgr, lgl, w1, w0, w19, w17, w54_4, q40, q41, q42, q43, q44, Option.toList_some, Option.toList_none, List.cons_append, List.nil_append, sp_puts, w35, kM0, rM0, kM1, nM1, w39, w54_3, w4, ls00, ls0i, ls0r, ls0l, lsi, lsr, lsl, Option.map_some, tn0, vi0_120, tn1, vi1_120, tn2, vi2_120, tn8, vi8_120, w81, gv8 ha10, gt8 ha10, si_is, nI_sh1 (p % 10) (by omega), fa_or, sr1, e1, eG]
    refine R_leastFrom' (S := upd (σ.1 1) (tr (p / 10) 8) (nI (nv (σ.1 1) (tr (p / 10) 8) ||| 2 ^ (p % 10)))) (b := 0) (by rw [sr1]) hIs (by decide) (by rw [e3]; exact hoT) (fun r => ?_)
    simp only [wL0, wLc, true_and, w2, lg0, lgi, lgr, lgl, w1, w0, w19, w17, w54_4, q40, q41, q42, q43, q44, Option.toList_some, Option.toList_none, List.cons_append, List.nil_append, sp_puts, w35, kM0, rM0, kM1, nM1, w39, w54_3, w4, ls00, ls0i, ls0r, ls0l, lsi, lsr, lsl, Option.map_some, tn0, vi0_120, tn1, vi1_120, tn2, vi2_120, tn8, vi8_120, w81, gv8 ha10, gt8 ha10, si_is, n5_1, sr1]
    have hS2 : Sm σ (sr (sr (sr σ' 1 (upd (σ.1 1) (tr (p / 10) 8) (nI (nv (σ.1 1) (tr (p / 10) 8) ||| 2 ^ (p % 10))))) 5 r) 1 (upd (upd (σ.1 1) (tr (p / 10) 8) (nI (nv (σ.1 1) (tr (p / 10) 8) ||| 2 ^ (p % 10)))) (tr (p / 10) 8) (nI (nv (σ.1 1) (tr (p / 10) 8))))) := Sq_end (Sq_sr (by decide) (by decide) (Sq_1 (Sq_of hS))) (by rw [fa_upd_twice]; exact fa_upd_same hx.1)
    have h92 : (sr (sr (sr σ' 1 (upd (σ.1 1) (tr (p / 10) 8) (nI (nv (σ.1 1) (tr (p / 10) 8) ||| 2 ^ (p % 10))))) 5 r) 1 (upd (upd (σ.1 1) (tr (p / 10) 8) (nI (nv (σ.1 1) (tr (p / 10) 8) ||| 2 ^ (p % 10)))) (tr (p / 10) 8) (nI (nv (σ.1 1) (tr (p / 10) 8))))).1 0 9 = eM (axU F p) := by rw [n1_0, n5_0, n1_0, h9]
    generalize (sr (sr (sr σ' 1 (upd (σ.1 1) (tr (p / 10) 8) (nI (nv (σ.1 1) (tr (p / 10) 8) ||| 2 ^ (p % 10))))) 5 r) 1 (upd (upd (σ.1 1) (tr (p / 10) 8) (nI (nv (σ.1 1) (tr (p / 10) 8) ||| 2 ^ (p % 10)))) (tr (p / 10) 8) (nI (nv (σ.1 1) (tr (p / 10) 8))))) = σ2 at *
    have eF : lst (upd (σ.1 1) (tr (p / 10) 8) (nI (nv (σ.1 1) (tr (p / 10) 8) ||| 2 ^ (p % 10)))) 0 (nv (σ.1 1) 2) = F p := by rw [hFk p hp]; exact (cif_y ⟨c1, c2, c3'⟩).symm
    rw [eF]
    have keep : ¬ (encF (F p) < 99999999 ∧ eM (axU F p) < encF (F p)) → PW 1 ev mM_bestLink 125 [.ref 0, .int (eA (axU F p)), .int (nI p), .int (nI (p / 10)), .int (nI (p % 10)), .int (nI (nv (σ.1 1) (tr (p / 10) 8))), .int (encF (F p))] [] σ2 K := by
      intro c
      have a1 := ax_n hfa c
      refine PW_blk okM_bestLink 8 rfl SpM_ok ?_
      simp only [wL0, wLc, true_and, w0, w71]
      refine PW_blk okM_bestLink 9 rfl SpM_ok ?_
      simp only [wL0, wLc, true_and, w4, ls00, ls0i, ls0r, ls0l, lsi, lsr, lsl, Option.map_some, w1, lg0, lgi, lgr, lgl, w72]
      refine b2Y trivial ?_
      refine PW_blk okM_bestLink 11 rfl SpM_ok ?_
      simp only [wL0, wLc, true_and, w1, lg0, lgi, lgr, lgl, w71]
      refine PW_blk okM_bestLink 12 rfl SpM_ok ?_
      simp only [wL0, wLc, true_and, w4, ls00, ls0i, ls0r, ls0l, lsi, lsr, lsl, Option.map_some, w2, lg0, lgi, lgr, lgl, w1, w72]
      refine b2Y trivial ?_
      refine PW_blk okM_bestLink 14 rfl SpM_ok ?_
      simp only [wL0, wLc, true_and, w2, lg0, lgi, lgr, lgl, w33, kM0, w71]
      refine PW_blk okM_bestLink 15 rfl SpM_ok ?_
      simp only [wL0, wLc, true_and, w36, kM0, w71, si_is]
      refine PW_loc 3 ?_
      have nx := next (sr σ2 0 (upd (σ2.1 0) 9 (σ2.1 0 9))) (Sm_f (by decide) (by decide) hS2) (by rw [sr1, updS, h92, a1])
      rw [a1] at nx
      exact nx
    by_cases c : encF (F p) < 99999999
    rotate_left
    · refine b3N c ?_
      exact keep (fun z => c z.1)
    refine b3Y c ?_
    refine PW_blk okM_bestLink 6 rfl SpM_ok ?_
    simp only [wL0, wLc, true_and, w1, lg0, lgi, lgr, lgl, w2, w33, kM0, w83, h92]
    by_cases c4 : eM (axU F p) < encF (F p)
    rotate_left
    · refine b3N c4 ?_
      exact keep (fun z => c4 z.2)
    refine b3Y c4 ?_
    obtain ⟨a1, a2⟩ := ax_b hfa ⟨c, c4⟩
    refine PW_blk okM_bestLink 7 rfl SpM_ok ?_
    simp only [wL0, wLc, true_and, w0, w70]
    refine PW_blk okM_bestLink 9 rfl SpM_ok ?_
    simp only [wL0, wLc, true_and, w4, ls00, ls0i, ls0r, ls0l, lsi, lsr, lsl, Option.map_some, w1, lg0, lgi, lgr, lgl, w72]
    refine b2N (by decide) ?_
    refine PW_blk okM_bestLink 10 rfl SpM_ok ?_
    simp only [wL0, wLc, true_and, w1, lg0, lgi, lgr, lgl, w70]
    refine PW_blk okM_bestLink 12 rfl SpM_ok ?_
    simp only [wL0, wLc, true_and, w4, ls00, ls0i, ls0r, ls0l, lsi, lsr, lsl, Option.map_some, w2, lg0, lgi, lgr, lgl, w1, w72]
    refine b2N (by decide) ?_
    refine PW_blk okM_bestLink 13 rfl SpM_ok ?_
    simp only [wL0, wLc, true_and, w1, lg0, lgi, lgr, lgl, w70]
    refine PW_blk okM_bestLink 15 rfl SpM_ok ?_
    simp only [wL0, wLc, true_and, w36, kM0, w71, si_is]
    refine PW_loc 3 ?_
    have nx := next (sr σ2 0 (upd (σ2.1 0) 9 (encF (F p)))) (Sm_f (by decide) (by decide) hS2) (by rw [sr1, updS, a2])
    rw [a1] at nx
    exact nx
theorem R_link (hI : Inv (σ.1 1)) (h1 : axU (linkO (σ.1 1)) (10 * nv (σ.1 1) 3) = none → ∀ σ', Sm σ σ' → K (some (.int (-1000004))) (noS σ' 3)) (h2 : ∀ b c, axU (linkO (σ.1 1)) (10 * nv (σ.1 1) 3) = some (b, c) → ∀ σ', Sm σ σ' → K (some (.int (nI b))) σ') : Rn 1 ev mM_link [.ref 0] σ K := by
  have hn := hI.1.2
  refine Rn_V (by decide) rc6 rfl rfl ?_
  refine PW_blk okM_link 0 rfl SpM_ok ?_
  simp only [wL0, wLc, true_and, w2, lg0, lgi, lgr, lgl, w54_1, q40, q41, q42, q43, q44, Option.toList_some, Option.toList_none, List.cons_append, List.nil_append, w4, ls00, ls0i, ls0r, ls0l, lsi, lsr, lsl, Option.map_some, w1, w75]
  refine R_bestLink hI (fun σ' hS h9 => ?_)
  simp only [wL0, wLc, true_and, w2, lg0, lgi, lgr, lgl, w54_1, q40, q41, q42, q43, q44, Option.toList_some, Option.toList_none, List.cons_append, List.nil_append, w4, ls00, ls0i, ls0r, ls0l, lsi, lsr, lsl, Option.map_some, w1, w75]
  rw [eA_neg (fun b l hb => by
    rw [← ax_lim (n := 10 * nv (σ.1 1) 3) _ (Nat.le_refl _)] at hb
    have := axU_b (lim_b (n := 10 * nv (σ.1 1) 3) (f := linkO (σ.1 1)) (fun k v hk h => linkO_b hI hk h)) _ b l hb; omega)]
  cases e : axU (linkO (σ.1 1)) (10 * nv (σ.1 1) 3) with
  | none =>
    refine b3Y rfl ?_
    refine PW_blk okM_link 1 rfl SpM_ok ?_
    simp only [wL0, wLc, true_and, w2, lg0, lgi, lgr, lgl, w0, w54_2, q40, q41, q42, q43, q44, Option.toList_some, Option.toList_none, List.cons_append, List.nil_append, sp_no, v7_0, v7_1, v7_2, v7_3, v7_4, v7_5, v7_6, w70]
    refine PW_blk okM_link 3 rfl SpM_ok ?_
    simp only [wL0, w84]
    exact h1 e _ hS
  | some q =>
    obtain ⟨b, c⟩ := q
    refine b3N (fun z => by cases z) ?_
    refine PW_blk okM_link 2 rfl SpM_ok ?_
    simp only [wL0, wLc, true_and, w1, lg0, lgi, lgr, lgl, w71]
    refine PW_blk okM_link 3 rfl SpM_ok ?_
    simp only [wL0, w84]
    exact h2 b c e _ hS
theorem R_linked (hI : Inv (σ.1 1)) (h1 : axU (linkO (σ.1 1)) (10 * nv (σ.1 1) 3) = none → ∀ σ', Sm σ σ' → K (some (.int (-1000004))) (noS σ' 3)) (h2 : ∀ b c, axU (linkO (σ.1 1)) (10 * nv (σ.1 1) 3) = some (b, c) → ∀ σ', Sm σ σ' → K (some (.int (nI c))) σ') : Rn 1 ev mM_linked [.ref 0] σ K := by
  have hn := hI.1.2
  refine Rn_V (by decide) rc6 rfl rfl ?_
  refine PW_blk okM_linked 0 rfl SpM_ok ?_
  simp only [wL0, wLc, true_and, w2, lg0, lgi, lgr, lgl, w54_1, q40, q41, q42, q43, q44, Option.toList_some, Option.toList_none, List.cons_append, List.nil_append, w4, ls00, ls0i, ls0r, ls0l, lsi, lsr, lsl, Option.map_some, w1, w75]
  refine R_bestLink hI (fun σ' hS h9 => ?_)
  simp only [wL0, wLc, true_and, w2, lg0, lgi, lgr, lgl, w54_1, q40, q41, q42, q43, q44, Option.toList_some, Option.toList_none, List.cons_append, List.nil_append, w4, ls00, ls0i, ls0r, ls0l, lsi, lsr, lsl, Option.map_some, w1, w75]
  rw [eA_neg (fun b l hb => by
    rw [← ax_lim (n := 10 * nv (σ.1 1) 3) _ (Nat.le_refl _)] at hb
    have := axU_b (lim_b (n := 10 * nv (σ.1 1) 3) (f := linkO (σ.1 1)) (fun k v hk h => linkO_b hI hk h)) _ b l hb; omega)]
  cases e : axU (linkO (σ.1 1)) (10 * nv (σ.1 1) 3) with
  | none =>
    refine b3Y rfl ?_
    refine PW_blk okM_linked 1 rfl SpM_ok ?_
    simp only [wL0, wLc, true_and, w2, lg0, lgi, lgr, lgl, w0, w54_2, q40, q41, q42, q43, q44, Option.toList_some, Option.toList_none, List.cons_append, List.nil_append, sp_no, v7_0, v7_1, v7_2, v7_3, v7_4, v7_5, v7_6, w70]
    refine PW_blk okM_linked 3 rfl SpM_ok ?_
    simp only [wL0, w84]
    exact h1 e _ hS
  | some q =>
    obtain ⟨b, c⟩ := q
    rw [e] at h9
    refine b3N (fun z => by cases z) ?_
    refine PW_blk okM_linked 2 rfl SpM_ok ?_
    simp only [wL0, wLc, true_and, w2, lg0, lgi, lgr, lgl, w33, kM0, w71, h9]
    refine PW_blk okM_linked 3 rfl SpM_ok ?_
    simp only [wL0, w84]
    exact h2 b c e _ hS
end ML
end
section
/-! surest: odds in longs, and their gcd -/
theorem lN_ti63 {n : Nat} (h : n < 9223372036854775808) : (lN n).toInt = n := Int64.toInt_ofNat_of_lt h
theorem lN_e63 {a b : Nat} (ha : a < 9223372036854775808) (hb : b < 9223372036854775808) : lN a = lN b ↔ a = b := by
  rw [fa_eq64, lN_ti63 ha, lN_ti63 hb]; omega
theorem lN_l63 {a b : Nat} (ha : a < 9223372036854775808) (hb : b < 9223372036854775808) : lN a < lN b ↔ a < b := by
  rw [fa_lt64, lN_ti63 ha, lN_ti63 hb]; omega
theorem lN_div {a d : Nat} (ha : a < 9223372036854775808) (hd : d < 9223372036854775808) : lN a / lN d = lN (a / d) := by
  have hn : lN d ≠ -1 := by
    intro e
    have h2 := congrArg Int64.toInt e
    rw [lN_ti63 hd, show (-1 : Int64).toInt = -1 from by decide] at h2
    omega
  rw [fa_eq64, Int64.toInt_div_of_ne_right _ _ hn, lN_ti63 ha, lN_ti63 hd, lN_ti63 (Nat.lt_of_le_of_lt (Nat.div_le_self a d) ha)]
  rfl
theorem lN_rem {a d : Nat} (ha : a < 9223372036854775808) (hd : d < 9223372036854775808) : lN a - lN a / lN d * lN d = lN (a % d) := by
  rw [lN_div ha hd, lN_mul, lN_sub (Nat.div_mul_le_self a d)]
  exact congrArg lN (by have := Nat.div_add_mod' a d; omega)
theorem cmp_pos {a b : Nat} (ha : a < 9223372036854775808) (hb : b < 9223372036854775808) : 0 < lg_cmp (lN a) (lN b) ↔ b < a := by
  unfold lg_cmp
  by_cases h : b < a
  · rw [if_pos ((lN_l63 hb ha).mpr h)]
    exact ⟨fun _ => h, fun _ => by decide⟩
  · rw [if_neg (fun z => h ((lN_l63 hb ha).mp z))]
    refine ⟨fun z => ?_, fun z => absurd z h⟩
    split at z
    · exact absurd z (by decide)
    · exact absurd z (by decide)
theorem cmp_z {a b : Nat} (ha : a < 9223372036854775808) (hb : b < 9223372036854775808) : lg_cmp (lN a) (lN b) = 0 ↔ a = b := by
  unfold lg_cmp
  by_cases h : b < a
  · rw [if_pos ((lN_l63 hb ha).mpr h)]
    exact ⟨fun z => absurd z (by decide), fun z => by omega⟩
  · rw [if_neg (fun z => h ((lN_l63 hb ha).mp z))]
    by_cases e : a = b
    · rw [if_pos ((lN_e63 ha hb).mpr e)]
      exact ⟨fun _ => e, fun _ => rfl⟩
    · rw [if_neg (fun z => e ((lN_e63 ha hb).mp z))]
      exact ⟨fun z => absurd z (by decide), fun z => absurd z e⟩
def odU (S : Nat → Int32) (x : Nat) : Nat → Nat
  | 0 => 10000000000
  | k + 1 => if x.testBit k then odU S x k / 10 * (10 - nv S (tr k 7)) else odU S x k
def odN (S : Nat → Int32) (x : Nat) : Nat := odU S x (nv S 3)
theorem odU_le (S : Nat → Int32) (x : Nat) : ∀ k, odU S x k ≤ 10000000000
  | 0 => Nat.le_refl _
  | k + 1 => by
    have := odU_le S x k
    unfold odU
    split
    · have h2 : odU S x k / 10 * (10 - nv S (tr k 7)) ≤ odU S x k / 10 * 10 := Nat.mul_le_mul_left _ (by omega)
      omega
    · exact this
noncomputable def bsU (S : Nat → Int32) (o : Nat) : Nat → Nat
  | 0 => 0
  | t + 1 => cif (cw S 0 o t ≠ 0 ∧ outP S t ∧ bsU S o t < odN S (dif t o)) (odN S (dif t o)) (bsU S o t)
theorem bsU_le (S : Nat → Int32) (o : Nat) : ∀ t, bsU S o t ≤ 10000000000
  | 0 => Nat.zero_le _
  | t + 1 => by
    have := bsU_le S o t
    unfold bsU
    by_cases h : cw S 0 o t ≠ 0 ∧ outP S t ∧ bsU S o t < odN S (dif t o)
    · rw [cif_y h]; exact odU_le _ _ _
    · rw [cif_n h]; exact this
noncomputable def sureN (S : Nat → Int32) : Nat := bsU S (nv S 2) 1024
theorem ls_il {x : Int32} {y : Int64} {l : List Value} : lvSet (.int x :: l) 0 (.long y) = some [.long y] := rfl
section MM
variable {ev : EV} {σ : St2} {K : PO}
theorem R_surest {what : Int32} (hI : Inv (σ.1 1)) (h0 : ¬ rgI what 0 1 → K (some (.long (Int32.toInt64 (-1000001)))) (noS σ 0)) (h1 : rgI what 0 1 → sureN (σ.1 1) = 0 → ∀ σ', Sm σ σ' → K (some (.long (Int32.toInt64 (-1000004)))) (noS σ' 3)) (h2 : what = nI 0 → sureN (σ.1 1) ≠ 0 → ∀ σ', Sm σ σ' → K (some (.long (lN (sureN (σ.1 1) / Nat.gcd (sureN (σ.1 1)) 10000000000)))) σ') (h3 : what = nI 1 → sureN (σ.1 1) ≠ 0 → ∀ σ', Sm σ σ' → K (some (.long (lN (10000000000 / Nat.gcd (sureN (σ.1 1)) 10000000000)))) σ') : Rn 1 ev mM_surest [.ref 0, .int what] σ K := by
  have hG := hI.2.1.1
  have hoT := hI.2.1.2
  have hn := hI.1.2
  have hT := p2le _ hn
  refine Rn_V (by decide) rc6 rfl rfl ?_
  refine PW_blk okM_surest 0 rfl SpM_ok ?_
  simp only [wL0, wLc, true_and, w1, lg0, lgi, lgr, lgl, w0, w55_3, q40, q41, q42, q43, q44, Option.toList_some, Option.toList_none, List.cons_append, List.nil_append, sp_in1, w73]
  by_cases hr : rgI what 0 1
  rotate_left
  · refine dN (in1N (by decide) (by decide) hr) ?_
    refine PW_blk okM_surest 1 rfl SpM_ok ?_
    simp only [wL0, wLc, true_and, w2, lg0, lgi, lgr, lgl, w0, w54_2, q40, q41, q42, q43, q44, Option.toList_some, Option.toList_none, List.cons_append, List.nil_append, sp_no, v7_0, v7_1, v7_2, v7_3, v7_4, v7_5, v7_6, w28, w86]
    exact h0 hr
  refine dY (in1Y (by decide) hr) ?_
  obtain ⟨w, -, hw, rfl⟩ := hr
  refine PW_blk okM_surest 2 rfl SpM_ok ?_
  simp only [wL0, wLc, true_and, w2, lg0, lgi, lgr, lgl, w0, w54_2, q40, q41, q42, q43, q44, Option.toList_some, Option.toList_none, List.cons_append, List.nil_append, w53, w6, ls00, ls0i, ls0r, ls0l, lsi, lsr, lsl, Option.map_some, w4, w71]
  refine R_countsWays hI (fun r hr => ?_)
  simp only [wL0, wLc, true_and, w2, lg0, lgi, lgr, lgl, w0, w54_2, q40, q41, q42, q43, q44, Option.toList_some, Option.toList_none, List.cons_append, List.nil_append, w53, w6, ls00, ls0i, ls0r, ls0l, lsi, lsr, lsl, Option.map_some, w4, w71]
  have hSm : Sm σ (sr σ 7 r) := Sm_sr (by decide) (by decide) Sm_r
  have k1 := lp_up (n := 10) (P := fun k => PW 1 ev mM_surest 26 [.ref 0, .int (nI w), .long (lN (10 ^ k)), .int (nI k)] [] (sr σ 7 r) K) ?_ ?_ 0 (by decide)
  · exact k1
  · refine PW_blk okM_surest 3 rfl SpM_ok ?_
    simp only [wL0, wLc, true_and, w1, lg0, lgi, lgr, lgl, w0, w81]
    refine b3N (by decide) ?_
    refine PW_blk okM_surest 5 rfl SpM_ok ?_
    simp only [wL0, wLc, true_and, w53, w6, ls00, ls0i, ls0r, ls0l, lsi, lsr, lsl, Option.map_some, w0, w4, w71, ls_il]
    have k2 := lp_up (n := 1024) (P := fun t => PW 1 ev mM_surest 51 [.ref 0, .int (nI w), .long (lN 10000000000), .long (lN (bsU (σ.1 1) (nv (σ.1 1) 2) t)), .int (nI t)] [] (sr σ 7 r) K) ?_ ?_ 0 (by decide)
    · exact k2
    · refine PW_blk okM_surest 6 rfl SpM_ok ?_
      simp only [wL0, wLc, true_and, w1, lg0, lgi, lgr, lgl, w0, w81]
      refine b3N (by decide) ?_
      refine PW_blk okM_surest 19 rfl SpM_ok ?_
      simp only [wL0, wLc, true_and, w3, lg0, lgi, lgr, lgl, w53, w27, w73]
      have hsl := bsU_le (σ.1 1) (nv (σ.1 1) 2) 1024
      rw [cmp_z (by omega) (by decide)]
      by_cases hz : bsU (σ.1 1) (nv (σ.1 1) 2) 1024 = 0
      · refine b3Y hz ?_
        refine PW_blk okM_surest 20 rfl SpM_ok ?_
        simp only [wL0, wLc, true_and, w2, lg0, lgi, lgr, lgl, w0, w54_2, q40, q41, q42, q43, q44, Option.toList_some, Option.toList_none, List.cons_append, List.nil_append, sp_no, v7_0, v7_1, v7_2, v7_3, v7_4, v7_5, v7_6, w28, w86]
        exact h1 ⟨w, Nat.zero_le _, hw, rfl⟩ hz _ hSm
      refine b3N hz ?_
      refine PW_blk okM_surest 21 rfl SpM_ok ?_
      simp only [wL0, wLc, true_and, w3, lg0, lgi, lgr, lgl, w6, ls00, ls0i, ls0r, ls0l, lsi, lsr, lsl, Option.map_some, w71, ls_il]
      have k3 : ∀ n b a, b ≤ n → a < 9223372036854775808 → b < 9223372036854775808 → Nat.gcd a b = Nat.gcd (sureN (σ.1 1)) 10000000000 → PW 1 ev mM_surest 190 [.ref 0, .int (nI w), .long (lN 10000000000), .long (lN (sureN (σ.1 1))), .long (lN a), .long (lN b)] [] (sr σ 7 r) K := by
        intro n
        induction n with
        | zero =>
          intro b a hb ha hb2 hg
          have e : b = 0 := Nat.le_zero.mp hb
          subst e
          refine PW_blk okM_surest 22 rfl SpM_ok ?_
          simp only [wL0, wLc, true_and, w3, lg0, lgi, lgr, lgl, w53, w27, w72]
          rw [cmp_z (by omega) (by decide)]
          refine b2Y rfl ?_
          rw [Nat.gcd_zero_right] at hg
          have hapos : 0 < a := by
            rw [hg]
            exact Nat.gcd_pos_of_pos_right _ (by decide)
          refine PW_blk okM_surest 24 rfl SpM_ok ?_
          simp only [wL0, wLc, true_and, w1, lg0, lgi, lgr, lgl, w73]
          rcases (show w = 0 ∨ w = 1 by omega) with rfl | rfl
          · refine b3Y rfl ?_
            refine PW_blk okM_surest 25 rfl SpM_ok ?_
            simp only [wL0, wLc, true_and, w3, lg0, lgi, lgr, lgl, w25, w70]
            refine ⟨fun z => ?_, ?_⟩
            · have := (lN_e63 ha (by decide)).mp (show lN a = lN 0 from z); omega
            refine PW_blk okM_surest 27 rfl SpM_ok ?_
            simp only [wL0, w86]
            rw [lN_div (by unfold sureN; omega) ha, hg]
            exact h2 rfl hz _ hSm
          · refine b3N (by decide) ?_
            refine PW_blk okM_surest 26 rfl SpM_ok ?_
            simp only [wL0, wLc, true_and, w3, lg0, lgi, lgr, lgl, w25, w71]
            refine ⟨fun z => ?_, ?_⟩
            · have := (lN_e63 ha (by decide)).mp (show lN a = lN 0 from z); omega
            refine PW_blk okM_surest 27 rfl SpM_ok ?_
            simp only [wL0, w86]
            rw [lN_div (by decide) ha, hg]
            exact h3 rfl hz _ hSm
        | succ n ih =>
          intro b a hb ha hb2 hg
          by_cases e : b = 0
          · exact ih b a (by omega) ha hb2 hg
          refine PW_blk okM_surest 22 rfl SpM_ok ?_
          simp only [wL0, wLc, true_and, w3, lg0, lgi, lgr, lgl, w53, w27, w72]
          rw [cmp_z (by omega) (by decide)]
          refine b2N e ?_
          refine PW_blk okM_surest 23 rfl SpM_ok ?_
          simp only [wL0, wLc, true_and, w3, lg0, lgi, lgr, lgl, w26, w6, ls00, ls0i, ls0r, ls0l, lsi, lsr, lsl, Option.map_some, w70]
          rw [lN_rem ha hb2]
          refine ⟨fun z => e ((lN_e63 hb2 (by decide)).mp (show lN b = lN 0 from z)), ?_⟩
          have hlt := Nat.mod_lt a (Nat.pos_of_ne_zero e)
          refine PW_loc 6 ?_
          refine ih (a % b) b (by omega) hb2 (by omega) ?_
          rw [← hg, Nat.gcd_comm a b, Nat.gcd_rec b a, Nat.gcd_comm]
      exact k3 10000000000 10000000000 (sureN (σ.1 1)) (Nat.le_refl _) (by unfold sureN; omega) (by decide) rfl
    · intro t ht ih
      have hv : vp_in (nI t) 1024 := vp_in_nI ht (by decide)
      have cl : (nI t).toNatClampNeg = t := nI_clamp (by omega)
      have hsm := cw_small (S := σ.1 1) (stop := 0) (o := nv (σ.1 1) 2) hn (by omega) ht
      have hsl := bsU_le (σ.1 1) (nv (σ.1 1) 2) t
      have hol : odN (σ.1 1) (dif t (nv (σ.1 1) 2)) ≤ 10000000000 := odU_le _ _ _
      have hdl := dif_le t (nv (σ.1 1) 2)
      refine PW_blk okM_surest 6 rfl SpM_ok ?_
      simp only [wL0, wLc, true_and, w1, lg0, lgi, lgr, lgl, w0, w81]
      refine b3Y (nI_lt ht (by decide)) ?_
      refine PW_blk okM_surest 7 rfl SpM_ok ?_
      simp only [wL0, wLc, true_and, w3, lg0, lgi, lgr, lgl, w6, ls00, ls0i, ls0r, ls0l, lsi, lsr, lsl, Option.map_some, w0, w4, w71, ls_il]
      have k4 := lp_up (n := nv (σ.1 1) 3) (P := fun k => PW 1 ev mM_surest 65 [.ref 0, .int (nI w), .long (lN 10000000000), .long (lN (bsU (σ.1 1) (nv (σ.1 1) 2) t)), .int (nI t), .long (lN (odU (σ.1 1) (dif t (nv (σ.1 1) 2)) k)), .int (nI k)] [] (sr σ 7 r) K) ?_ ?_ 0 (Nat.zero_le _)
      · exact k4
      · refine PW_blk okM_surest 8 rfl SpM_ok ?_
        simp only [wL0, wLc, true_and, w1, lg0, lgi, lgr, lgl, w2, w35, kM0, rM0, kM1, nM1, w0, w39, tn3, vi3_120, w81, n7_1, hI.1.1]
        refine b3N (nI_nlt (Nat.le_refl _) (by omega)) ?_
        rw [show odU (σ.1 1) (dif t (nv (σ.1 1) 2)) (nv (σ.1 1) 3) = odN (σ.1 1) (dif t (nv (σ.1 1) 2)) from rfl]
        have e2 : bsU (σ.1 1) (nv (σ.1 1) 2) (t + 1) = cif (cw (σ.1 1) 0 (nv (σ.1 1) 2) t ≠ 0 ∧ outP (σ.1 1) t ∧ bsU (σ.1 1) (nv (σ.1 1) 2) t < odN (σ.1 1) (dif t (nv (σ.1 1) 2))) (odN (σ.1 1) (dif t (nv (σ.1 1) 2))) (bsU (σ.1 1) (nv (σ.1 1) 2) t) := rfl
        have last : ∀ x : Nat, x = bsU (σ.1 1) (nv (σ.1 1) 2) (t + 1) → PW 1 ev mM_surest 161 [.ref 0, .int (nI w), .long (lN 10000000000), .long (lN (bsU (σ.1 1) (nv (σ.1 1) 2) t)), .int (nI t), .long (lN (odN (σ.1 1) (dif t (nv (σ.1 1) 2)))), .int (nI (nv (σ.1 1) 3))] [.long (lN x)] (sr σ 7 r) K := by
          intro x hx
          subst hx
          refine PW_blk okM_surest 18 rfl SpM_ok ?_
          simp only [wL0, wLc, true_and, w6, ls00, ls0i, ls0r, ls0l, lsi, lsr, lsl, Option.map_some, w7, lg0, lgi, lgr, lgl, w70]
          refine PW_loc 5 ?_
          rw [show (1 : Int32) = nI 1 from rfl, nI_add]
          exact ih
        have no : ¬ (cw (σ.1 1) 0 (nv (σ.1 1) 2) t ≠ 0 ∧ outP (σ.1 1) t ∧ bsU (σ.1 1) (nv (σ.1 1) 2) t < odN (σ.1 1) (dif t (nv (σ.1 1) 2))) → PW 1 ev mM_surest 159 [.ref 0, .int (nI w), .long (lN 10000000000), .long (lN (bsU (σ.1 1) (nv (σ.1 1) 2) t)), .int (nI t), .long (lN (odN (σ.1 1) (dif t (nv (σ.1 1) 2)))), .int (nI (nv (σ.1 1) 3))] [] (sr σ 7 r) K := by
          intro hc
          refine PW_blk okM_surest 17 rfl SpM_ok ?_
          simp only [wL0, wLc, true_and, w3, lg0, lgi, lgr, lgl, w71]
          exact last _ (by rw [e2, cif_n hc])
        refine PW_blk okM_surest 13 rfl SpM_ok ?_
        simp only [wL0, wLc, true_and, w2, lg0, lgi, lgr, lgl, w35, kM0, rM8, kM7, nM7, w1, w39, w77, sr1, eq_true hv, cl, hr t ht]
        rw [nI_p0 (by omega)]
        by_cases c1 : cw (σ.1 1) 0 (nv (σ.1 1) 2) t ≠ 0
        rotate_left
        · exact b3N c1 (no (fun z => c1 z.1))
        refine b3Y c1 ?_
        refine PW_blk okM_surest 14 rfl SpM_ok ?_
        simp only [wL0, wLc, true_and, w2, lg0, lgi, lgr, lgl, w1, w54_2, q40, q41, q42, q43, q44, Option.toList_some, Option.toList_none, List.cons_append, List.nil_append, sp_isOut, w72, n7_1]
        by_cases c2 : outP (σ.1 1) t
        rotate_left
        · exact bN (if_neg c2) (no (fun z => c2 z.2.1))
        refine bY (if_pos c2) ?_
        refine PW_blk okM_surest 15 rfl SpM_ok ?_
        simp only [wL0, wLc, true_and, w3, lg0, lgi, lgr, lgl, w27, w77]
        rw [cmp_pos (by omega) (by omega)]
        by_cases c3 : bsU (σ.1 1) (nv (σ.1 1) 2) t < odN (σ.1 1) (dif t (nv (σ.1 1) 2))
        rotate_left
        · exact b3N c3 (no (fun z => c3 z.2.2))
        refine b3Y c3 ?_
        refine PW_blk okM_surest 16 rfl SpM_ok ?_
        simp only [wL0, wLc, true_and, w3, lg0, lgi, lgr, lgl, w70]
        exact last _ (by rw [e2, cif_y ⟨c1, c2, c3⟩])
      · intro k hk ih2
        have hk10 : k < 10 := by omega
        have hw7 := (hI.2.2.2.2.2.2.2.2.1 k hk).2.2.2.2.2.2.2.1
        have hol2 := odU_le (σ.1 1) (dif t (nv (σ.1 1) 2)) k
        have e2 : odU (σ.1 1) (dif t (nv (σ.1 1) 2)) (k + 1) = if (dif t (nv (σ.1 1) 2)).testBit k then odU (σ.1 1) (dif t (nv (σ.1 1) 2)) k / 10 * (10 - nv (σ.1 1) (tr k 7)) else odU (σ.1 1) (dif t (nv (σ.1 1) 2)) k := rfl
        rw [e2] at ih2
        refine PW_blk okM_surest 8 rfl SpM_ok ?_
        simp only [wL0, wLc, true_and, w1, lg0, lgi, lgr, lgl, w2, w35, kM0, rM0, kM1, nM1, w0, w39, tn3, vi3_120, w81, n7_1, hI.1.1]
        refine b3Y (nI_lt hk (by omega)) ?_
        refine PW_blk okM_surest 9 rfl SpM_ok ?_
        simp only [wL0, wLc, true_and, w1, lg0, lgi, lgr, lgl, w2, w35, kM0, rM0, kM1, nM1, w0, w39, w18, w16, w55_2, q40, q41, q42, q43, q44, Option.toList_some, Option.toList_none, List.cons_append, List.nil_append, sp_isIn, tn2, vi2_120, w72, n7_1, hG.1, dif_I]
        rw [isInF_n (by omega) (by omega)]
        by_cases hb : (dif t (nv (σ.1 1) 2)).testBit k = true
        · rw [if_pos hb] at ih2 ⊢
          refine bY rfl ?_
          have hle7 := hw7.2
          have e10 : (10 : Int32) - nI (nv (σ.1 1) (tr k 7)) = nI (10 - nv (σ.1 1) (tr k 7)) := by
            rw [show (10 : Int32) = nI 10 from rfl, pk_sub (by omega)]
          refine PW_blk okM_surest 10 rfl SpM_ok ?_
          simp only [wL0, wLc, true_and, w3, lg0, lgi, lgr, lgl, w53, w25, w0, w2, w1, w54_3, q40, q41, q42, q43, q44, Option.toList_some, Option.toList_none, List.cons_append, List.nil_append, sp_get, w12, w28, w24, w70, n7_1, gv7 hk10, gt7 hk10, hw7.1, e10]
          refine ⟨by decide, ?_⟩
          refine PW_blk okM_surest 12 rfl SpM_ok ?_
          simp only [wL0, wLc, true_and, w6, ls00, ls0i, ls0r, ls0l, lsi, lsr, lsl, Option.map_some, w7, lg0, lgi, lgr, lgl, w70]
          rw [nI_l (by omega), lN_div (by omega) (by decide), lN_mul, show (1 : Int32) = nI 1 from rfl, nI_add]
          exact ih2
        · rw [if_neg hb] at ih2 ⊢
          refine bN rfl ?_
          refine PW_blk okM_surest 11 rfl SpM_ok ?_
          simp only [wL0, wLc, true_and, w3, lg0, lgi, lgr, lgl, w71]
          refine PW_blk okM_surest 12 rfl SpM_ok ?_
          simp only [wL0, wLc, true_and, w6, ls00, ls0i, ls0r, ls0l, lsi, lsr, lsl, Option.map_some, w7, lg0, lgi, lgr, lgl, w70]
          rw [show (1 : Int32) = nI 1 from rfl, nI_add]
          exact ih2
  · intro k hk ih
    refine PW_blk okM_surest 3 rfl SpM_ok ?_
    simp only [wL0, wLc, true_and, w1, lg0, lgi, lgr, lgl, w0, w81]
    refine b3Y (nI_lt hk (by decide)) ?_
    refine PW_blk okM_surest 4 rfl SpM_ok ?_
    simp only [wL0, wLc, true_and, w3, lg0, lgi, lgr, lgl, w53, w24, w6, ls00, ls0i, ls0r, ls0l, lsi, lsr, lsl, Option.map_some, w7, w70]
    rw [lN_mul, show (1 : Int32) = nI 1 from rfl, nI_add, ← Nat.pow_succ]
    exact ih
end MM
end
section
/-! sounds: rows that sound as told -/
noncomputable def biU (P : Nat → Prop) : Nat → Nat
  | 0 => 0
  | k + 1 => biU P k ||| cif (P k) (2 ^ k) 0
theorem biU_bit (P : Nat → Prop) : ∀ n k, (biU P n).testBit k = true ↔ k < n ∧ P k
  | 0, k => by simp [biU]
  | n + 1, k => by
    have ih := biU_bit P n k
    unfold biU
    rw [Nat.testBit_or, Bool.or_eq_true, ih]
    by_cases h : P n
    · rw [cif_y h, Nat.testBit_two_pow]
      constructor
      · intro z
        rcases z with z | z
        · exact ⟨by omega, z.2⟩
        · have e : n = k := of_decide_eq_true z
          subst e
          exact ⟨by omega, h⟩
      · intro z
        by_cases e : n = k
        · exact Or.inr (decide_eq_true e)
        · exact Or.inl ⟨by omega, z.2⟩
    · rw [cif_n h, Nat.zero_testBit]
      constructor
      · intro z
        rcases z with z | z
        · exact ⟨by omega, z.2⟩
        · cases z
      · intro z
        by_cases e : n = k
        · subst e; exact absurd z.2 h
        · exact Or.inl ⟨by omega, z.2⟩
theorem biU_lt (P : Nat → Prop) : ∀ n, biU P n < 2 ^ n
  | 0 => by simp [biU]
  | n + 1 => by
    have ih := biU_lt P n
    unfold biU
    refine Nat.or_lt_two_pow (Nat.lt_of_lt_of_le ih (Nat.pow_le_pow_right (by decide) (by omega))) ?_
    by_cases h : P n
    · rw [cif_y h]; exact Nat.pow_lt_pow_right (by decide) (by omega)
    · rw [cif_n h]; exact Nat.two_pow_pos _
def hlP (S : Nat → Int32) (v : Int32) (s k : Nat) : Prop := mayok S k s ∧ nI (soundN S k) = v
noncomputable def hlN (S : Nat → Int32) (v : Int32) (s : Nat) : Nat := biU (hlP S v s) (nv S 3)
/-- may this lock come off here, sounding as told? C: what is told, m of it -/
def okH (S : Nat → Int32) (C : Nat → Int32) (m : Nat) (s k : Nat) : Prop := k < nv S 3 ∧ mayok S k s ∧ pcn (nv S 2) ≤ pcn s ∧ pcn s - pcn (nv S 2) < m ∧ nI (soundN S k) = C (pcn s - pcn (nv S 2))
theorem okH_p {S : Nat → Int32} {C : Nat → Int32} {m : Nat} (hn : nv S 3 ≤ 10) : okp (okH S C m) := fun s k h => ⟨why_bit h.2.1, by have := h.1; omega⟩
noncomputable def hc (S : Nat → Int32) (C : Nat → Int32) (m t : Nat) : Nat := fw (okH S C m) (nv S 2) t t
noncomputable def hcL (S : Nat → Int32) (C : Nat → Int32) (m i t : Nat) : Nat := cif (pcn t = pcn (nv S 2) + i) (hc S C m t) 0
/-- what comes to t over p -/
noncomputable def ctr (S : Nat → Int32) (C : Nat → Int32) (m t p : Nat) : Nat := cif (∃ k, k < 10 ∧ t = p ||| 2 ^ k ∧ okH S C m p k) (hc S C m p) 0
theorem hc_sum {S : Nat → Int32} {C : Nat → Int32} {m t : Nat} : ∀ s, fw (okH S C m) (nv S 2) s t = (if t = nv S 2 then 1 else 0) + suU (ctr S C m t) s
  | 0 => rfl
  | s + 1 => by
    have ih := hc_sum (S := S) (C := C) (m := m) (t := t) s
    show fw (okH S C m) (nv S 2) s t + cif (∃ k, k < 10 ∧ t = s ||| 2 ^ k ∧ okH S C m s k) (fw (okH S C m) (nv S 2) s s) 0 = _
    rw [ih]
    show _ = _ + (suU (ctr S C m t) s + ctr S C m t s)
    unfold ctr hc
    omega
theorem hc_all {S : Nat → Int32} {C : Nat → Int32} {m t T : Nat} (hn : nv S 3 ≤ 10) (ht : t ≠ nv S 2) (hT : 2 ^ nv S 3 ≤ T) (ho : nv S 2 < 2 ^ nv S 3) : hc S C m t = suU (ctr S C m t) T := by
  have h1 := hc_sum (S := S) (C := C) (m := m) (t := t) T
  rw [if_neg ht, Nat.zero_add] at h1
  rw [← h1]
  unfold hc
  by_cases h : t ≤ T
  · exact (fw_stab (okH_p hn) (Nat.le_refl t) h).symm
  · rw [fw_last (okH_p hn) (n := nv S 3) (fun s k h => h.1) ho (s := t) (by omega), fw_last (okH_p hn) (n := nv S 3) (fun s k h => h.1) ho (s := T) hT]
theorem suU_mono {f : Nat → Nat} {a b : Nat} (h : a ≤ b) : suU f a ≤ suU f b := by
  induction b with
  | zero => rw [show a = 0 by omega]; exact Nat.le_refl _
  | succ b ih =>
    by_cases e : a = b + 1
    · rw [e]; exact Nat.le_refl _
    · exact Nat.le_trans (ih (by omega)) (Nat.le_add_right _ _)
/-- the table in the midst of round i: the sets from s on have passed theirs on -/
noncomputable def rnd (S : Nat → Int32) (C : Nat → Int32) (m i T s t : Nat) : Nat := hcL S C m i t + cif (pcn t = pcn (nv S 2) + i + 1) (suU (ctr S C m t) T - suU (ctr S C m t) s) 0
theorem rnd_T {S : Nat → Int32} {C : Nat → Int32} {m i T : Nat} : rnd S C m i T T = hcL S C m i := by
  funext t
  unfold rnd
  rw [Nat.sub_self]
  by_cases h : pcn t = pcn (nv S 2) + i + 1
  · rw [cif_y h]; rfl
  · rw [cif_n h]; rfl
theorem ctr_lv {S : Nat → Int32} {C : Nat → Int32} {m t p : Nat} (hn : nv S 3 ≤ 10) (h : ctr S C m t p ≠ 0) : pcn t = pcn p + 1 ∧ p < t := by
  unfold ctr at h
  by_cases c : ∃ k, k < 10 ∧ t = p ||| 2 ^ k ∧ okH S C m p k
  · obtain ⟨k, hk, e, ho⟩ := c
    have hb := (okH_p hn p k ho).1
    rw [e]
    exact ⟨pcn_or hk hb, or_gt hb⟩
  · rw [cif_n c] at h; exact absurd rfl h
theorem rnd_skip {S : Nat → Int32} {C : Nat → Int32} {m i T s : Nat} (hn : nv S 3 ≤ 10) (h : pcn s ≠ pcn (nv S 2) + i ∨ hc S C m s = 0) : rnd S C m i T s = rnd S C m i T (s + 1) := by
  funext t
  unfold rnd
  congr 1
  by_cases c : pcn t = pcn (nv S 2) + i + 1
  · rw [cif_y c, cif_y c]
    have e : ctr S C m t s = 0 := by
      rcases h with h | h
      · rcases Nat.eq_zero_or_pos (ctr S C m t s) with z | z
        · exact z
        · have := (ctr_lv hn (show ctr S C m t s ≠ 0 by omega)).1; omega
      · unfold ctr
        rw [h]
        by_cases z : ∃ k, k < 10 ∧ t = s ||| 2 ^ k ∧ okH S C m s k
        · rw [cif_y z]
        · rw [cif_n z]
    show _ = suU (ctr S C m t) T - (suU (ctr S C m t) s + ctr S C m t s)
    rw [e, Nat.add_zero]
  · rw [cif_n c, cif_n c]
theorem rnd_step {S : Nat → Int32} {C : Nat → Int32} {m i T s : Nat} (hn : nv S 3 ≤ 10) (hs : s < T) (h : pcn s = pcn (nv S 2) + i) : fwK (okH S C m) (rnd S C m i T (s + 1)) s 10 = rnd S C m i T s := by
  have e1 : rnd S C m i T (s + 1) s = hc S C m s := by
    unfold rnd hcL
    rw [cif_y h, cif_n (by omega)]
    rfl
  funext t
  unfold fwK
  rw [e1]
  unfold rnd
  rw [Nat.add_assoc]
  congr 1
  have hm := suU_mono (f := ctr S C m t) (a := s + 1) (b := T) hs
  have hs1 : suU (ctr S C m t) (s + 1) = suU (ctr S C m t) s + ctr S C m t s := rfl
  by_cases c : pcn t = pcn (nv S 2) + i + 1
  · rw [cif_y c, cif_y c, show cif (∃ k, k < 10 ∧ t = s ||| 2 ^ k ∧ okH S C m s k) (hc S C m s) 0 = ctr S C m t s from rfl]
    omega
  · rw [cif_n c, cif_n c, cif_n]
    intro ⟨k, hk, e, ho⟩
    have hb := (okH_p hn s k ho).1
    have := pcn_or hk hb
    rw [← e] at this
    omega
theorem rnd_0 {S : Nat → Int32} {C : Nat → Int32} {m i t : Nat} (hn : nv S 3 ≤ 10) (ho : nv S 2 < 2 ^ nv S 3) : (if pcn t = pcn (nv S 2) + i then 0 else rnd S C m i (2 ^ nv S 3) 0 t) = hcL S C m (i + 1) t := by
  unfold rnd hcL
  by_cases c : pcn t = pcn (nv S 2) + i
  · rw [if_pos c, cif_n (by omega)]
  · rw [if_neg c, cif_n c]
    by_cases c2 : pcn t = pcn (nv S 2) + i + 1
    · rw [cif_y c2, cif_y (by omega), hc_all hn (fun e => by rw [e] at c2; omega) (Nat.le_refl _) ho]
      show 0 + (_ - 0) = _
      omega
    · rw [cif_n c2, cif_n (by omega)]
def ShI (W N : Nat → Int32) : Prop := ∀ i, i < 4 → (W i = 0 ∨ W i = 8 ∨ W i = 16 ∨ W i = 32) ∧ rg N i 40
def m8 (n : Nat) : Nat := if n < 8 then n else 8
section MN
variable {ev : EV} {σ : St2} {K : PO}
theorem R_heardLocks {v : Int32} {s : Nat} (hI : Inv (σ.1 1)) (hs : s < 1024) (hk : K (some (.int (nI (hlN (σ.1 1) v s)))) σ) : Rn 1 ev mM_heardLocks [.ref 0, .int v, .int (nI s)] σ K := by
  have hn := hI.1.2
  have hT := p2le _ hn
  refine Rn_V (by decide) rc6 rfl rfl ?_
  refine PW_blk okM_heardLocks 0 rfl SpM_ok ?_
  simp only [wL0, wLc, true_and, w2, lg0, lgi, lgr, lgl, w1, w54_2, q40, q41, q42, q43, q44, Option.toList_some, Option.toList_none, List.cons_append, List.nil_append, w4, ls00, ls0i, ls0r, ls0l, lsi, lsr, lsl, Option.map_some, w0, w71]
  refine R_mayBy hI hs ?_
  simp only [wL0, wLc, true_and, w2, lg0, lgi, lgr, lgl, w1, w54_2, q40, q41, q42, q43, q44, Option.toList_some, Option.toList_none, List.cons_append, List.nil_append, w4, ls00, ls0i, ls0r, ls0l, lsi, lsr, lsl, Option.map_some, w0, w71]
  have hml := mayN_lt (σ.1 1) s
  have key := lp_up (n := nv (σ.1 1) 3) (P := fun k => PW 1 ev mM_heardLocks 12 [.ref 0, .int v, .int (nI s), .int (nI (mayN (σ.1 1) s)), .int (nI (biU (hlP (σ.1 1) v s) k)), .int (nI k)] [] σ K) ?_ ?_ 0 (Nat.zero_le _)
  · exact key
  · refine PW_blk okM_heardLocks 1 rfl SpM_ok ?_
    simp only [wL0, wLc, true_and, w1, lg0, lgi, lgr, lgl, w2, w35, kM0, rM0, kM1, nM1, w0, w39, tn3, vi3_120, w81, hI.1.1]
    refine b3N (nI_nlt (Nat.le_refl _) (by omega)) ?_
    refine PW_blk okM_heardLocks 7 rfl SpM_ok ?_
    simp only [wL0, wLc, true_and, w1, lg0, lgi, lgr, lgl, w84]
    exact hk
  · intro k hk2 ih
    have e : biU (hlP (σ.1 1) v s) (k + 1) = biU (hlP (σ.1 1) v s) k ||| cif (hlP (σ.1 1) v s k) (2 ^ k) 0 := rfl
    rw [e] at ih
    have no : ¬ hlP (σ.1 1) v s k → PW 1 ev mM_heardLocks 51 [.ref 0, .int v, .int (nI s), .int (nI (mayN (σ.1 1) s)), .int (nI (biU (hlP (σ.1 1) v s) k)), .int (nI k)] [.int (nI (biU (hlP (σ.1 1) v s) k))] σ K := by
      intro c
      rw [cif_n c] at ih
      refine PW_blk okM_heardLocks 5 rfl SpM_ok ?_
      simp only [wL0, wLc, true_and, w0, w71]
      refine PW_blk okM_heardLocks 6 rfl SpM_ok ?_
      simp only [wL0, wLc, true_and, w17, w4, ls00, ls0i, ls0r, ls0l, lsi, lsr, lsl, Option.map_some, w7, lg0, lgi, lgr, lgl, w70]
      rw [show (1 : Int32) = nI 1 from rfl, nI_add, show (0 : Int32) = nI 0 from rfl, fa_or]
      exact ih
    refine PW_blk okM_heardLocks 1 rfl SpM_ok ?_
    simp only [wL0, wLc, true_and, w1, lg0, lgi, lgr, lgl, w2, w35, kM0, rM0, kM1, nM1, w0, w39, tn3, vi3_120, w81, hI.1.1]
    refine b3Y (nI_lt hk2 (by omega)) ?_
    refine PW_blk okM_heardLocks 2 rfl SpM_ok ?_
    simp only [wL0, wLc, true_and, w1, lg0, lgi, lgr, lgl, w55_2, q40, q41, q42, q43, q44, Option.toList_some, Option.toList_none, List.cons_append, List.nil_append, sp_isIn, w72]
    rw [isInF_n (by omega) (by omega)]
    by_cases hb : (mayN (σ.1 1) s).testBit k = true
    rotate_left
    · refine bN (if_neg hb) ?_
      exact no (fun z => hb (mayN_bit.mpr ⟨hk2, z.1⟩))
    refine bY (if_pos hb) ?_
    refine PW_blk okM_heardLocks 3 rfl SpM_ok ?_
    simp only [wL0, wLc, true_and, w2, lg0, lgi, lgr, lgl, w1, w54_2, q40, q41, q42, q43, q44, Option.toList_some, Option.toList_none, List.cons_append, List.nil_append, w79]
    refine R_soundsOf hI hk2 ?_
    simp only [wL0, wLc, true_and, w2, lg0, lgi, lgr, lgl, w1, w54_2, q40, q41, q42, q43, q44, Option.toList_some, Option.toList_none, List.cons_append, List.nil_append, w79]
    by_cases c : nI (soundN (σ.1 1) k) = v
    · refine b3Y c ?_
      rw [cif_y ⟨(mayN_bit.mp hb).2, c⟩] at ih
      refine PW_blk okM_heardLocks 4 rfl SpM_ok ?_
      simp only [wL0, wLc, true_and, w0, w1, lg0, lgi, lgr, lgl, w19, w70]
      refine PW_blk okM_heardLocks 6 rfl SpM_ok ?_
      simp only [wL0, wLc, true_and, w17, w4, ls00, ls0i, ls0r, ls0l, lsi, lsr, lsl, Option.map_some, w7, lg0, lgi, lgr, lgl, w70]
      rw [nI_sh1 k (by omega), show (1 : Int32) = nI 1 from rfl, nI_add, fa_or]
      exact ih
    · refine b3N c ?_
      exact no (fun z => c z.2)
theorem R_countsHeard {j : Nat} (hI : Inv (σ.1 1)) (hj : j < 4) (hN : rg (σ.1 14) j 40) (hk : ∀ r, (∀ t, t < 1024 → r t = nI (hcL (σ.1 1) (fun i => σ.1 15 (40 * j + i)) (m8 (nv (σ.1 14) j)) (m8 (nv (σ.1 14) j)) t)) → K none (sr σ 7 r)) : Rn 1 ev mM_countsHeard [.ref 0, .int (nI j)] σ K := by
  have hG := hI.2.1.1
  have hn := hI.1.2
  have hT := p2le _ hn
  have hoT := hI.2.1.2
  have hvj : vp_in (nI j) 4 := vp_in_nI hj (by decide)
  have clj : (nI j).toNatClampNeg = j := nI_clamp (by omega)
  have hm8 : m8 (nv (σ.1 14) j) ≤ 8 := by unfold m8; split <;> omega
  have hN2 := hN.2
  have main : PW 1 ev mM_countsHeard 22 [.ref 0, .int (nI j)] [.int (nI (m8 (nv (σ.1 14) j)))] σ K := by
    generalize hm : m8 (nv (σ.1 14) j) = m at *
    generalize hC : (fun i => σ.1 15 (40 * j + i)) = C at *
    have hop := okH_p (S := σ.1 1) (C := C) (m := m) hn
    have hsmall : ∀ t, t < 1024 → hc (σ.1 1) C m t ≤ 3628800 := fun t ht => fw_small hop (by omega) ht
    have hlv : ∀ i t, i = 0 → (if t = nv (σ.1 1) 2 then 1 else 0) = hcL (σ.1 1) C m i t := by
      intro i t hi
      subst hi
      unfold hcL hc
      by_cases e : t = nv (σ.1 1) 2
      · subst e
        rw [if_pos rfl, cif_y (show pcn (nv (σ.1 1) 2) = pcn (nv (σ.1 1) 2) + 0 from rfl), fw_first hop (Nat.le_refl _)]
        exact (if_pos rfl).symm
      · rw [if_neg e]
        by_cases c : pcn t = pcn (nv (σ.1 1) 2) + 0
        · rw [cif_y c]
          rcases Nat.eq_zero_or_pos (fw (okH (σ.1 1) C m) (nv (σ.1 1) 2) t t) with z | z
          · exact z.symm
          · have hp : ∀ t, fw (okH (σ.1 1) C m) (nv (σ.1 1) 2) t t ≠ 0 → t = nv (σ.1 1) 2 ∨ pcn (nv (σ.1 1) 2) < pcn t := by
              intro t ht
              refine fw_ind hop (P := fun t => t = nv (σ.1 1) 2 ∨ pcn (nv (σ.1 1) 2) < pcn t) (Or.inl rfl) (fun p k hk _ hp => Or.inr ?_) t t (Nat.le_refl _) ht
              have := pcn_or (hop p k hk).2 (hop p k hk).1
              rcases hp with hp | hp
              · rw [hp] at this ⊢; omega
              · omega
            rcases hp t (by omega) with q | q
            · exact absurd q e
            · omega
        · rw [cif_n c]
    refine PW_blk okM_countsHeard 3 rfl SpM_ok ?_
    simp only [wL0, wLc, true_and, w4, ls00, ls0i, ls0r, ls0l, lsi, lsr, lsl, Option.map_some, w0, w71]
    have k1 := lp_up (n := 1024) (P := fun i => ∀ r, (∀ t, t < i → r t = nI (hcL (σ.1 1) C m 0 t)) → PW 1 ev mM_countsHeard 25 [.ref 0, .int (nI j), .int (nI m), .int (nI i)] [] (sr σ 7 r) K) ?_ ?_ 0 (by decide) (σ.1 7) (fun t h => absurd h (Nat.not_lt_zero t))
    · rw [sr_self] at k1
      exact k1
    · intro r hr
      refine PW_blk okM_countsHeard 4 rfl SpM_ok ?_
      simp only [wL0, wLc, true_and, w1, lg0, lgi, lgr, lgl, w0, w81]
      refine b3N (by decide) ?_
      refine PW_blk okM_countsHeard 9 rfl SpM_ok ?_
      simp only [wL0, wLc, true_and, w2, lg0, lgi, lgr, lgl, w35, kM0, rM0, kM1, nM1, w0, w39, w55_1, q40, q41, q42, q43, q44, Option.toList_some, Option.toList_none, List.cons_append, List.nil_append, w4, ls00, ls0i, ls0r, ls0l, lsi, lsr, lsl, Option.map_some, tn0, vi0_120, tn2, vi2_120, w71, n7_1, hG.1]
      refine R_bits (by omega) ?_
      simp only [wL0, wLc, true_and, w2, lg0, lgi, lgr, lgl, w35, kM0, rM0, kM1, nM1, w0, w39, w55_1, q40, q41, q42, q43, q44, Option.toList_some, Option.toList_none, List.cons_append, List.nil_append, w4, ls00, ls0i, ls0r, ls0l, lsi, lsr, lsl, Option.map_some, tn0, vi0_120, tn2, vi2_120, w71]
      have k2 := lp_up (n := m) (P := fun i => ∀ r, (∀ t, t < 1024 → r t = nI (hcL (σ.1 1) C m i t)) → PW 1 ev mM_countsHeard 72 [.ref 0, .int (nI j), .int (nI m), .int (nI (pcn (nv (σ.1 1) 2))), .int (nI i)] [] (sr σ 7 r) K) ?_ ?_ 0 (Nat.zero_le _) r hr
      · exact k2
      · intro r hr
        refine PW_blk okM_countsHeard 10 rfl SpM_ok ?_
        simp only [wL0, wLc, true_and, w1, lg0, lgi, lgr, lgl, w81]
        refine b3N (nI_nlt (Nat.le_refl _) (by omega)) ?_
        refine PW_blk okM_countsHeard 31 rfl SpM_ok ?_
        simp only [wL0, w87]
        exact hk r hr
      · intro i hi ih r hr
        have hpo := pcn_le (nv (σ.1 1) 2)
        refine PW_blk okM_countsHeard 10 rfl SpM_ok ?_
        simp only [wL0, wLc, true_and, w1, lg0, lgi, lgr, lgl, w81]
        refine b3Y (nI_lt hi (by omega)) ?_
        refine PW_blk okM_countsHeard 11 rfl SpM_ok ?_
        simp only [wL0, wLc, true_and, w2, lg0, lgi, lgr, lgl, w54_1, q40, q41, q42, q43, q44, Option.toList_some, Option.toList_none, List.cons_append, List.nil_append, sp_allLocks, w4, ls00, ls0i, ls0r, ls0l, lsi, lsr, lsl, Option.map_some, w71, n7_1, hI.1.1]
        rw [alF_n _ (by omega)]
        have k3 := lp_dn (a := 0) (P := fun s => s ≤ 2 ^ nv (σ.1 1) 3 → ∀ r, (∀ t, t < 1024 → r t = nI (rnd (σ.1 1) C m i (2 ^ nv (σ.1 1) 3) s t)) → PW 1 ev mM_countsHeard 84 [.ref 0, .int (nI j), .int (nI m), .int (nI (pcn (nv (σ.1 1) 2))), .int (nI i), .int (nI s - 1)] [] (sr σ 7 r) K) ?_ ?_ (2 ^ nv (σ.1 1) 3) (Nat.zero_le _) (Nat.le_refl _) r (fun t ht => by rw [rnd_T]; exact hr t ht)
        · rw [← m1_pos (n := 2 ^ nv (σ.1 1) 3) (Nat.two_pow_pos _)]
          exact k3
        · intro _ r hr
          refine PW_blk okM_countsHeard 12 rfl SpM_ok ?_
          simp only [wL0, wLc, true_and, w1, lg0, lgi, lgr, lgl, w74]
          refine b2Y (by decide) ?_
          refine PW_blk okM_countsHeard 24 rfl SpM_ok ?_
          simp only [wL0, wLc, true_and, w0, w4, ls00, ls0i, ls0r, ls0l, lsi, lsr, lsl, Option.map_some, w71]
          have k4 := lp_up (n := 1024) (P := fun q => ∀ r, (∀ t, t < 1024 → r t = nI (if t < q then hcL (σ.1 1) C m (i + 1) t else rnd (σ.1 1) C m i (2 ^ nv (σ.1 1) 3) 0 t)) → PW 1 ev mM_countsHeard 200 [.ref 0, .int (nI j), .int (nI m), .int (nI (pcn (nv (σ.1 1) 2))), .int (nI i), .int (nI q)] [] (sr σ 7 r) K) ?_ ?_ 0 (by decide) r (fun t ht => by rw [if_neg (Nat.not_lt_zero t)]; exact hr t ht)
          · exact k4
          · intro r hr
            refine PW_blk okM_countsHeard 25 rfl SpM_ok ?_
            simp only [wL0, wLc, true_and, w1, lg0, lgi, lgr, lgl, w0, w81]
            refine b3N (by decide) ?_
            refine PW_blk okM_countsHeard 30 rfl SpM_ok ?_
            simp only [wL0, wLc, true_and, w7, lg0, lgi, lgr, lgl, ls00, ls0i, ls0r, ls0l, lsi, lsr, lsl, Option.map_some, w70]
            refine PW_loc 5 ?_
            rw [show (1 : Int32) = nI 1 from rfl, nI_add]
            exact ih r (fun t ht => by rw [hr t ht, if_pos ht])
          · intro q hq ih4 r hr
            have hv : vp_in (nI q) 1024 := vp_in_nI hq (by decide)
            have cl : (nI q).toNatClampNeg = q := nI_clamp (by omega)
            have hpq := pcn_le q
            refine PW_blk okM_countsHeard 25 rfl SpM_ok ?_
            simp only [wL0, wLc, true_and, w1, lg0, lgi, lgr, lgl, w0, w81]
            refine b3Y (nI_lt hq (by decide)) ?_
            refine PW_blk okM_countsHeard 26 rfl SpM_ok ?_
            simp only [wL0, wLc, true_and, w2, lg0, lgi, lgr, lgl, w35, kM0, rM8, kM7, nM7, w1, w55_1, q40, q41, q42, q43, q44, Option.toList_some, Option.toList_none, List.cons_append, List.nil_append, w11, w79]
            refine R_bits (by omega) ?_
            simp only [wL0, wLc, true_and, w2, lg0, lgi, lgr, lgl, w35, kM0, rM8, kM7, nM7, w1, w55_1, q40, q41, q42, q43, q44, Option.toList_some, Option.toList_none, List.cons_append, List.nil_append, w11, w79]
            rw [nI_add, nI_eq_iff (by omega) (by omega)]
            have last : ∀ x, x = nI (if pcn q = pcn (nv (σ.1 1) 2) + i then 0 else rnd (σ.1 1) C m i (2 ^ nv (σ.1 1) 3) 0 q) → PW 1 ev mM_countsHeard 237 [.ref 0, .int (nI j), .int (nI m), .int (nI (pcn (nv (σ.1 1) 2))), .int (nI i), .int (nI q)] [.int x, .int (nI q), .ref 7] (sr σ 7 r) K := by
              intro x hx
              rw [rnd_0 hn hoT] at hx
              refine PW_blk okM_countsHeard 29 rfl SpM_ok ?_
              simp only [wL0, wLc, true_and, w40, w7, lg0, lgi, lgr, lgl, ls00, ls0i, ls0r, ls0l, lsi, lsr, lsl, Option.map_some, w70, si_sr, kM7, nM7, eq_true hv, cl]
              rw [show (1 : Int32) = nI 1 from rfl, nI_add]
              refine ih4 _ (fun t ht => ?_)
              by_cases e : t = q
              · subst e; rw [updS, if_pos (by omega)]; exact hx
              · rw [updN e, hr t ht]
                by_cases c : t < q
                · rw [if_pos c, if_pos (by omega)]
                · rw [if_neg c, if_neg (by omega)]
            by_cases c : pcn q = pcn (nv (σ.1 1) 2) + i
            · refine b3Y c ?_
              refine PW_blk okM_countsHeard 27 rfl SpM_ok ?_
              simp only [wL0, wLc, true_and, w0, w70]
              exact last 0 (by rw [if_pos c]; rfl)
            · refine b3N c ?_
              refine PW_blk okM_countsHeard 28 rfl SpM_ok ?_
              simp only [wL0, wLc, true_and, w2, lg0, lgi, lgr, lgl, w35, kM0, rM8, kM7, nM7, w1, w39, w71, sr1, eq_true hv, cl]
              exact last _ (by rw [if_neg c, hr q hq, if_neg (Nat.lt_irrefl q)])
        · intro s hs ih3 hle r hr
          have hs10 : s < 1024 := by omega
          have hv : vp_in (nI s) 1024 := vp_in_nI hs10 (by decide)
          have cl : (nI s).toNatClampNeg = s := nI_clamp (by omega)
          have hpq := pcn_le s
          have hsm := hsmall s hs10
          rw [m1_s]
          refine PW_blk okM_countsHeard 12 rfl SpM_ok ?_
          simp only [wL0, wLc, true_and, w1, lg0, lgi, lgr, lgl, w74]
          refine b2N (nI_nlt (a := s) (b := 0) (Nat.zero_le _) (by omega)) ?_
          refine PW_blk okM_countsHeard 13 rfl SpM_ok ?_
          simp only [wL0, wLc, true_and, w2, lg0, lgi, lgr, lgl, w35, kM0, rM8, kM7, nM7, w1, w39, w72, sr1, eq_true hv, cl, hr s hs10]
          have fin : ∀ M, M < 1024 → (∀ k, k < nv (σ.1 1) 3 → ((M.testBit k = true ↔ okH (σ.1 1) C m s k) ∧ pcn s = pcn (nv (σ.1 1) 2) + i) ∨ (M.testBit k = false ∧ (pcn s ≠ pcn (nv (σ.1 1) 2) + i ∨ hc (σ.1 1) C m s = 0))) → PW 1 ev mM_countsHeard 133 [.ref 0, .int (nI j), .int (nI m), .int (nI (pcn (nv (σ.1 1) 2))), .int (nI i), .int (nI s)] [.int (nI M)] (sr σ 7 r) K := by
            intro M hM10 hM
            have nxt : ∀ r, (∀ t, t < 1024 → r t = nI (rnd (σ.1 1) C m i (2 ^ nv (σ.1 1) 3) s t)) → PW 1 ev mM_countsHeard 191 [.ref 0, .int (nI j), .int (nI m), .int (nI (pcn (nv (σ.1 1) 2))), .int (nI i), .int (nI s)] [] (sr σ 7 r) K := by
              intro r hr
              refine PW_blk okM_countsHeard 23 rfl SpM_ok ?_
              simp only [wL0, wLc, true_and, w7, lg0, lgi, lgr, lgl, ls00, ls0i, ls0r, ls0l, lsi, lsr, lsl, Option.map_some, w70, m1_add]
              exact ih3 (by omega) r hr
            refine PW_blk okM_countsHeard 17 rfl SpM_ok ?_
            simp only [wL0, wLc, true_and, w4, ls00, ls0i, ls0r, ls0l, lsi, lsr, lsl, Option.map_some, w0, w71]
            by_cases hlev : pcn s = pcn (nv (σ.1 1) 2) + i ∧ hc (σ.1 1) C m s ≠ 0
            · have hM2 : ∀ k, k < nv (σ.1 1) 3 → (M.testBit k = true ↔ okH (σ.1 1) C m s k) := by
                intro k hk
                rcases hM k hk with h | h
                · exact h.1
                · rcases h.2 with z | z
                  · exact absurd hlev.1 z
                  · exact absurd z hlev.2
              have e1 : rnd (σ.1 1) C m i (2 ^ nv (σ.1 1) 3) (s + 1) s = hc (σ.1 1) C m s := by
                unfold rnd hcL
                rw [cif_y hlev.1, cif_n (by omega)]
                rfl
              have k5 := lp_up (n := nv (σ.1 1) 3) (P := fun k => ∀ r, (∀ t, t < 1024 → r t = nI (fwK (okH (σ.1 1) C m) (rnd (σ.1 1) C m i (2 ^ nv (σ.1 1) 3) (s + 1)) s k t)) → PW 1 ev mM_countsHeard 138 [.ref 0, .int (nI j), .int (nI m), .int (nI (pcn (nv (σ.1 1) 2))), .int (nI i), .int (nI s), .int (nI M), .int (nI k)] [] (sr σ 7 r) K) ?_ ?_ 0 (Nat.zero_le _) r (fun t ht => by rw [fwK_0]; exact hr t ht)
              · exact k5
              · intro r hr
                refine PW_blk okM_countsHeard 18 rfl SpM_ok ?_
                simp only [wL0, wLc, true_and, w1, lg0, lgi, lgr, lgl, w2, w35, kM0, rM0, kM1, nM1, w0, w39, tn3, vi3_120, w81, n7_1, hI.1.1]
                refine b3N (nI_nlt (Nat.le_refl _) (by omega)) ?_
                refine PW_loc 6 ?_
                refine nxt r (fun t ht => ?_)
                rw [hr t ht, fwK_ext (ok := okH (σ.1 1) C m) (m := nv (σ.1 1) 3) (m' := 10) (fun k hk => ⟨fun _ => (hop s k hk).2, fun _ => hk.1⟩), rnd_step hn (by omega) hlev.1]
              · intro k hk ih5 r hr
                have hk10 : k < 10 := by omega
                have htl : s ||| 2 ^ k < 1024 := or_lt (n := 10) hs10 hk10
                have hv2 : vp_in (nI (s ||| 2 ^ k)) 1024 := vp_in_nI htl (by decide)
                have cl2 : (nI (s ||| 2 ^ k)).toNatClampNeg = s ||| 2 ^ k := nI_clamp (by omega)
                refine PW_blk okM_countsHeard 18 rfl SpM_ok ?_
                simp only [wL0, wLc, true_and, w1, lg0, lgi, lgr, lgl, w2, w35, kM0, rM0, kM1, nM1, w0, w39, tn3, vi3_120, w81, n7_1, hI.1.1]
                refine b3Y (nI_lt hk (by omega)) ?_
                refine PW_blk okM_countsHeard 19 rfl SpM_ok ?_
                simp only [wL0, wLc, true_and, w2, lg0, lgi, lgr, lgl, w35, kM0, rM8, kM7, nM7, w1, w0, w19, w17, w10i, w10r, w39, w55_2, q40, q41, q42, q43, q44, Option.toList_some, Option.toList_none, List.cons_append, List.nil_append, sp_isIn, tn1, w72, sr1, nI_sh1 k (by omega), fa_or, eq_true hv2, cl2]
                rw [isInF_n (by omega) (by omega)]
                have last : PW 1 ev mM_countsHeard 183 [.ref 0, .int (nI j), .int (nI m), .int (nI (pcn (nv (σ.1 1) 2))), .int (nI i), .int (nI s), .int (nI M), .int (nI k)] [.int (nI (if M.testBit k then hc (σ.1 1) C m s else 0)), .int (r (s ||| 2 ^ k)), .int (nI (s ||| 2 ^ k)), .ref 7] (sr σ 7 r) K := by
                  refine PW_blk okM_countsHeard 22 rfl SpM_ok ?_
                  simp only [wL0, wLc, true_and, w11, w40, w7, lg0, lgi, lgr, lgl, ls00, ls0i, ls0r, ls0l, lsi, lsr, lsl, Option.map_some, w70, si_sr, kM7, nM7, eq_true hv2, cl2]
                  rw [show (1 : Int32) = nI 1 from rfl, nI_add]
                  refine ih5 _ (fun t ht => ?_)
                  rw [fwK_s hop, e1]
                  by_cases e : t = s ||| 2 ^ k
                  · subst e
                    rw [updS, hr _ ht, nI_add]
                    congr 2
                    by_cases hb : M.testBit k = true
                    · rw [if_pos hb, cif_y ⟨(hM2 k hk).mp hb, rfl⟩]
                    · rw [if_neg hb, cif_n (fun z => hb ((hM2 k hk).mpr z.1))]
                  · rw [updN e, hr t ht, cif_n (fun z => e z.2)]
                    rfl
                by_cases hb : M.testBit k = true
                · rw [if_pos hb] at last ⊢
                  refine bY rfl ?_
                  refine PW_blk okM_countsHeard 20 rfl SpM_ok ?_
                  simp only [wL0, wLc, true_and, w2, lg0, lgi, lgr, lgl, w35, kM0, rM8, kM7, nM7, w1, w39, w70, sr1, eq_true hv, cl, hr s hs10]
                  rw [fwK_low hop (Nat.le_refl _), e1]
                  exact last
                · rw [if_neg hb] at last ⊢
                  refine bN rfl ?_
                  refine PW_blk okM_countsHeard 21 rfl SpM_ok ?_
                  simp only [wL0, wLc, true_and, w0, w71]
                  exact last
            · have hsk : pcn s ≠ pcn (nv (σ.1 1) 2) + i ∨ hc (σ.1 1) C m s = 0 := by
                by_cases z : pcn s = pcn (nv (σ.1 1) 2) + i
                · exact Or.inr (Classical.byContradiction (fun q => hlev ⟨z, q⟩))
                · exact Or.inl z
              have esk := rnd_skip (T := 2 ^ nv (σ.1 1) 3) hn hsk
              rw [← esk] at hr
              have ev0 : ∀ k, k < nv (σ.1 1) 3 → M.testBit k = true → r s = nI 0 := by
                intro k hk hb
                rw [hr s hs10]
                rcases hM k hk with h | h
                · have ez : hc (σ.1 1) C m s = 0 := by
                    rcases hsk with z | z
                    · exact absurd h.2 z
                    · exact z
                  unfold rnd hcL
                  rw [cif_y h.2, cif_n (by omega), ez]
                · rw [hb] at h; exact absurd h.1 (by decide)
              have k5 := lp_up (n := nv (σ.1 1) 3) (P := fun k => ∀ r', (∀ t, t < 1024 → r' t = r t) → PW 1 ev mM_countsHeard 138 [.ref 0, .int (nI j), .int (nI m), .int (nI (pcn (nv (σ.1 1) 2))), .int (nI i), .int (nI s), .int (nI M), .int (nI k)] [] (sr σ 7 r') K) ?_ ?_ 0 (Nat.zero_le _) r (fun t ht => rfl)
              · exact k5
              · intro r' hr'
                refine PW_blk okM_countsHeard 18 rfl SpM_ok ?_
                simp only [wL0, wLc, true_and, w1, lg0, lgi, lgr, lgl, w2, w35, kM0, rM0, kM1, nM1, w0, w39, tn3, vi3_120, w81, n7_1, hI.1.1]
                refine b3N (nI_nlt (Nat.le_refl _) (by omega)) ?_
                refine PW_loc 6 ?_
                exact nxt r' (fun t ht => by rw [hr' t ht]; exact hr t ht)
              · intro k hk ih5 r' hr'
                have hk10 : k < 10 := by omega
                have htl : s ||| 2 ^ k < 1024 := or_lt (n := 10) hs10 hk10
                have hv2 : vp_in (nI (s ||| 2 ^ k)) 1024 := vp_in_nI htl (by decide)
                have cl2 : (nI (s ||| 2 ^ k)).toNatClampNeg = s ||| 2 ^ k := nI_clamp (by omega)
                refine PW_blk okM_countsHeard 18 rfl SpM_ok ?_
                simp only [wL0, wLc, true_and, w1, lg0, lgi, lgr, lgl, w2, w35, kM0, rM0, kM1, nM1, w0, w39, tn3, vi3_120, w81, n7_1, hI.1.1]
                refine b3Y (nI_lt hk (by omega)) ?_
                refine PW_blk okM_countsHeard 19 rfl SpM_ok ?_
                simp only [wL0, wLc, true_and, w2, lg0, lgi, lgr, lgl, w35, kM0, rM8, kM7, nM7, w1, w0, w19, w17, w10i, w10r, w39, w55_2, q40, q41, q42, q43, q44, Option.toList_some, Option.toList_none, List.cons_append, List.nil_append, sp_isIn, tn1, w72, sr1, nI_sh1 k (by omega), fa_or, eq_true hv2, cl2]
                rw [isInF_n (by omega) (by omega)]
                have last : PW 1 ev mM_countsHeard 183 [.ref 0, .int (nI j), .int (nI m), .int (nI (pcn (nv (σ.1 1) 2))), .int (nI i), .int (nI s), .int (nI M), .int (nI k)] [.int (nI 0), .int (r' (s ||| 2 ^ k)), .int (nI (s ||| 2 ^ k)), .ref 7] (sr σ 7 r') K := by
                  refine PW_blk okM_countsHeard 22 rfl SpM_ok ?_
                  simp only [wL0, wLc, true_and, w11, w40, w7, lg0, lgi, lgr, lgl, ls00, ls0i, ls0r, ls0l, lsi, lsr, lsl, Option.map_some, w70, si_sr, kM7, nM7, eq_true hv2, cl2]
                  rw [show (1 : Int32) = nI 1 from rfl, nI_add]
                  refine ih5 _ (fun t ht => ?_)
                  by_cases e : t = s ||| 2 ^ k
                  · subst e
                    rw [updS, hr' _ ht, hr _ ht, nI_add]
                    rfl
                  · rw [updN e, hr' t ht]
                by_cases hb : M.testBit k = true
                · rw [if_pos hb]
                  refine bY rfl ?_
                  have e0 := ev0 k hk hb
                  rw [← hr' s hs10] at e0
                  refine PW_blk okM_countsHeard 20 rfl SpM_ok ?_
                  simp only [wL0, wLc, true_and, w2, lg0, lgi, lgr, lgl, w35, kM0, rM8, kM7, nM7, w1, w39, w70, sr1, eq_true hv, cl, e0]
                  exact last
                · rw [if_neg hb]
                  refine bN rfl ?_
                  refine PW_blk okM_countsHeard 21 rfl SpM_ok ?_
                  simp only [wL0, wLc, true_and, w0, w71]
                  exact last
          have zero : (pcn s ≠ pcn (nv (σ.1 1) 2) + i ∨ hc (σ.1 1) C m s = 0) → PW 1 ev mM_countsHeard 111 [.ref 0, .int (nI j), .int (nI m), .int (nI (pcn (nv (σ.1 1) 2))), .int (nI i), .int (nI s)] [] (sr σ 7 r) K := by
            intro hz
            refine PW_blk okM_countsHeard 15 rfl SpM_ok ?_
            simp only [wL0, wLc, true_and, w0, w70]
            exact fin 0 (by decide) (fun k hk => Or.inr ⟨Nat.zero_testBit k, hz⟩)
          have hrz : rnd (σ.1 1) C m i (2 ^ nv (σ.1 1) 3) (s + 1) s = 0 → (pcn s ≠ pcn (nv (σ.1 1) 2) + i ∨ hc (σ.1 1) C m s = 0) := by
            intro h
            by_cases c : pcn s = pcn (nv (σ.1 1) 2) + i
            · right
              unfold rnd hcL at h
              rw [cif_y c, cif_n (by omega)] at h
              omega
            · exact Or.inl c
          by_cases h0 : nI (rnd (σ.1 1) C m i (2 ^ nv (σ.1 1) 3) (s + 1) s) = 0
          · refine b2Y h0 ?_
            by_cases c : pcn s = pcn (nv (σ.1 1) 2) + i
            · refine zero (Or.inr ?_)
              have e1 : rnd (σ.1 1) C m i (2 ^ nv (σ.1 1) 3) (s + 1) s = hc (σ.1 1) C m s := by
                unfold rnd hcL
                rw [cif_y c, cif_n (by omega)]
                rfl
              rw [e1, nI_z (by omega)] at h0
              exact h0
            · exact zero (Or.inl c)
          refine b2N h0 ?_
          refine PW_blk okM_countsHeard 14 rfl SpM_ok ?_
          simp only [wL0, wLc, true_and, w1, lg0, lgi, lgr, lgl, w55_1, q40, q41, q42, q43, q44, Option.toList_some, Option.toList_none, List.cons_append, List.nil_append, w11, w78]
          refine R_bits (by omega) ?_
          simp only [wL0, wLc, true_and, w1, lg0, lgi, lgr, lgl, w55_1, q40, q41, q42, q43, q44, Option.toList_some, Option.toList_none, List.cons_append, List.nil_append, w11, w78]
          rw [nI_add, nI_eq_iff (by omega) (by omega)]
          by_cases c : pcn s = pcn (nv (σ.1 1) 2) + i
          rotate_left
          · refine b2N c ?_
            exact zero (Or.inl c)
          refine b2Y c ?_
          have hvc : vp_in (nI (40 * j + i)) 160 := vp_in_nI (by omega) (by decide)
          have clc : (nI (40 * j + i)).toNatClampNeg = 40 * j + i := nI_clamp (by omega)
          refine PW_blk okM_countsHeard 16 rfl SpM_ok ?_
          simp only [wL0, wLc, true_and, w2, lg0, lgi, lgr, lgl, w35, kM0, rM22, kM15, nM15, w0, w1, w13, w11, w39, w54_3, q40, q41, q42, q43, q44, Option.toList_some, Option.toList_none, List.cons_append, List.nil_append, w71, n7_15]
          rw [show (40 : Int32) = nI 40 from rfl, pk_mul, nI_add, clc]
          refine ⟨hvc, ?_⟩
          rw [show σ.1 15 (40 * j + i) = C i by rw [← hC]]
          refine R_heardLocks (σ := sr σ 7 r) hI hs10 ?_
          simp only [wL0, wLc, true_and, w2, lg0, lgi, lgr, lgl, w35, kM0, rM22, kM15, nM15, w0, w1, w13, w11, w39, w54_3, q40, q41, q42, q43, q44, Option.toList_some, Option.toList_none, List.cons_append, List.nil_append, w71, n7_1]
          refine fin _ (by have := biU_lt (hlP (σ.1 1) (C i) s) (nv (σ.1 1) 3); unfold hlN; omega) (fun k hk => Or.inl ⟨?_, c⟩)
          unfold hlN
          rw [biU_bit]
          have ei : pcn s - pcn (nv (σ.1 1) 2) = i := by omega
          unfold okH hlP
          rw [ei]
          constructor
          · intro h
            exact ⟨h.1, h.2.1, by omega, hi, h.2.2⟩
          · intro h
            exact ⟨h.1, h.2.1, h.2.2.2.2⟩
    · intro q hq ih r hr
      have hv : vp_in (nI q) 1024 := vp_in_nI hq (by decide)
      have cl : (nI q).toNatClampNeg = q := nI_clamp (by omega)
      refine PW_blk okM_countsHeard 4 rfl SpM_ok ?_
      simp only [wL0, wLc, true_and, w1, lg0, lgi, lgr, lgl, w0, w81]
      refine b3Y (nI_lt hq (by decide)) ?_
      refine PW_blk okM_countsHeard 5 rfl SpM_ok ?_
      simp only [wL0, wLc, true_and, w2, lg0, lgi, lgr, lgl, w35, kM0, rM8, kM7, nM7, w1, rM0, kM1, nM1, w0, w39, tn2, vi2_120, w79, n7_1, hG.1]
      rw [nI_eq_iff (by omega) (by omega)]
      have fin : ∀ x, x = nI (hcL (σ.1 1) C m 0 q) → PW 1 ev mM_countsHeard 52 [.ref 0, .int (nI j), .int (nI m), .int (nI q)] [.int x, .int (nI q), .ref 7] (sr σ 7 r) K := by
        intro x hx
        refine PW_blk okM_countsHeard 8 rfl SpM_ok ?_
        simp only [wL0, wLc, true_and, w40, w7, lg0, lgi, lgr, lgl, ls00, ls0i, ls0r, ls0l, lsi, lsr, lsl, Option.map_some, w70, si_sr, kM7, nM7, eq_true hv, cl]
        rw [show (1 : Int32) = nI 1 from rfl, nI_add]
        refine ih _ (fun t ht => ?_)
        by_cases e : t = q
        · subst e; rw [updS]; exact hx
        · rw [updN e]; exact hr t (by omega)
      by_cases e : q = nv (σ.1 1) 2
      · refine b3Y e ?_
        refine PW_blk okM_countsHeard 6 rfl SpM_ok ?_
        simp only [wL0, wLc, true_and, w0, w70]
        exact fin 1 (by rw [← hlv 0 q rfl, if_pos e]; rfl)
      · refine b3N e ?_
        refine PW_blk okM_countsHeard 7 rfl SpM_ok ?_
        simp only [wL0, wLc, true_and, w0, w71]
        exact fin 0 (by rw [← hlv 0 q rfl, if_neg e]; rfl)
  refine Rn_V (by decide) rc6 rfl rfl ?_
  refine PW_blk okM_countsHeard 0 rfl SpM_ok ?_
  simp only [wL0, wLc, true_and, w2, lg0, lgi, lgr, lgl, w35, kM0, rM21, kM14, nM14, w1, w39, w0, tn8, w81, eq_true hvj, clj, hN.1]
  unfold m8 at main
  by_cases c : nv (σ.1 14) j < 8
  · rw [if_pos c] at main
    refine b3Y (nI_lt c (by decide)) ?_
    refine PW_blk okM_countsHeard 1 rfl SpM_ok ?_
    simp only [wL0, wLc, true_and, w2, lg0, lgi, lgr, lgl, w35, kM0, rM21, kM14, nM14, w1, w39, w70, eq_true hvj, clj, hN.1]
    exact main
  · rw [if_neg c] at main
    refine b3N (nI_nlt (a := nv (σ.1 14) j) (b := 8) (by omega) (by omega)) ?_
    refine PW_blk okM_countsHeard 2 rfl SpM_ok ?_
    simp only [wL0, wLc, true_and, w0, w71]
    exact main
end MN
end
section
/-! fits, maybe, surely, hear; draws, friday, seed -/
noncomputable def alU (a : Nat) (P : Nat → Prop) : Nat → Nat
  | 0 => a
  | t + 1 => cif (P t) (alU a P t &&& t) (alU a P t)
def hcC (σ : St2) (j : Nat) : Nat → Int32 := fun i => σ.1 15 (40 * j + i)
noncomputable def hcT (σ : St2) (j t : Nat) : Nat := hcL (σ.1 1) (hcC σ j) (m8 (nv (σ.1 14) j)) (m8 (nv (σ.1 14) j)) t
theorem hcL_small {S : Nat → Int32} {C : Nat → Int32} {m i t : Nat} (hI : Inv S) (ht : t < 1024) : hcL S C m i t ≤ 3628800 := by
  have h := hI.2.1.1.2
  unfold hcL hc
  by_cases c : pcn t = pcn (nv S 2) + i
  · rw [cif_y c]; exact fw_small (okH_p hI.1.2) (by omega) ht
  · rw [cif_n c]; exact Nat.zero_le _
def clF (m : Nat) : Nat → Nat
  | 0 => m
  | i + 1 => clF m i &&& (clF m i - 1)
def loU (m : Nat) : Nat → Nat → Nat
  | 0, k => k
  | f + 1, k => if m.testBit k then k else loU m f (k + 1)
def nthF (m n : Nat) : Nat := loU (clF m n) 10 0
theorem clF_ok {m : Nat} (hm : m < 1024) : ∀ i, i ≤ pcn m → clF m i < 1024 ∧ pcn (clF m i) + i = pcn m ∧ (∀ k, (clF m i).testBit k = true → m.testBit k = true)
  | 0, _ => ⟨hm, rfl, fun _ h => h⟩
  | i + 1, h => by
    obtain ⟨h1, h2, h3⟩ := clF_ok hm i (by omega)
    have hp : 0 < clF m i := by
      rcases Nat.eq_zero_or_pos (clF m i) with z | z
      · rw [z, pcn_0] at h2; omega
      · exact z
    obtain ⟨q1, q2⟩ := pcn_drop (clF m i) h1 hp
    refine ⟨q2, ?_, fun k hk => h3 k ?_⟩
    · show pcn (clF m i &&& (clF m i - 1)) + (i + 1) = _
      omega
    · have hk2 : (clF m i &&& (clF m i - 1)).testBit k = true := hk
      rw [Nat.testBit_and] at hk2
      exact (Bool.and_eq_true _ _ ▸ hk2).1
theorem loU_ok {m : Nat} : ∀ f k, (∃ j, k ≤ j ∧ j < k + f ∧ m.testBit j = true) → m.testBit (loU m f k) = true ∧ loU m f k < k + f
  | 0, k, ⟨j, a, b, c⟩ => by omega
  | f + 1, k, ⟨j, a, b, c⟩ => by
    unfold loU
    by_cases h : m.testBit k = true
    · rw [if_pos h]; exact ⟨h, by omega⟩
    · rw [if_neg h]
      have hj : j ≠ k := fun e => h (e ▸ c)
      have := loU_ok f (k + 1) ⟨j, by omega, by omega, c⟩
      exact ⟨this.1, by omega⟩
theorem bit_ex {m : Nat} (hm : m < 1024) (h0 : m ≠ 0) : ∃ j, j < 10 ∧ m.testBit j = true := by
  refine Classical.byContradiction (fun h => h0 ?_)
  apply Nat.eq_of_testBit_eq
  intro i
  rw [Nat.zero_testBit]
  by_cases hi : i < 10
  · cases e : m.testBit i with
    | false => rfl
    | true => exact absurd ⟨i, hi, e⟩ h
  · exact Nat.testBit_lt_two_pow (Nat.lt_of_lt_of_le hm (Nat.le_trans (by decide : 1024 ≤ 2 ^ 10) (Nat.pow_le_pow_right (by decide) (by omega))))
theorem nthF_ok {m n : Nat} (hm : m < 1024) (hn : n < pcn m) : m.testBit (nthF m n) = true ∧ nthF m n < 10 := by
  obtain ⟨h1, h2, h3⟩ := clF_ok hm n (by omega)
  obtain ⟨j, a, b⟩ := bit_ex h1 (fun z => by rw [z, pcn_0] at h2; omega)
  have := loU_ok (m := clF m n) 10 0 ⟨j, Nat.zero_le _, by omega, b⟩
  exact ⟨h3 _ this.1, by unfold nthF; omega⟩
def drZ (z : Int32) : Int32 := z * 1103515245 + 12345
def drN (z : Int32) : Nat := z.toBitVec.toNat / 256
theorem nI_tb (x : Int32) : nI x.toBitVec.toNat = x := by
  apply Int32.toBitVec_inj.mp
  show BitVec.ofNat 32 x.toBitVec.toNat = x.toBitVec
  rw [BitVec.ofNat_toNat, BitVec.setWidth_eq]
theorem drN_I (z : Int32) : (z.toUInt32 >>> ((8 : Int32).toUInt32 &&& Int32.toUInt32 31)).toInt32 = nI (drN z) := by
  have h := pk_ushr z 8 8 (by decide)
  rw [← nI_tb ((z.toUInt32 >>> ((8 : Int32).toUInt32 &&& Int32.toUInt32 31)).toInt32), h]
  rfl
theorem drN_lt (z : Int32) : drN z < 16777216 := by
  have := z.toBitVec.isLt
  unfold drN
  omega
noncomputable def friU : Nat → (Nat → Int32) → Nat × (Nat → Int32)
  | 0, S => (0, S)
  | f + 1, S => cif (mayN S (nv S 2) = 0 ∨ outP S (nv S 2)) (0, S)
      (if drN (drZ (drZ (S 9))) % 10 < nv S (tr (nthF (mayN S (nv S 2)) (drN (drZ (S 9)) % pcn (mayN S (nv S 2)))) 7) then friU f (upd S 9 (drZ (drZ (S 9))))
        else ((friU f (stS (upd S 9 (drZ (drZ (S 9)))) (nthF (mayN S (nv S 2)) (drN (drZ (S 9)) % pcn (mayN S (nv S 2)))))).1 + 1, (friU f (stS (upd S 9 (drZ (drZ (S 9)))) (nthF (mayN S (nv S 2)) (drN (drZ (S 9)) % pcn (mayN S (nv S 2)))))).2))
theorem Inv_9 {S : Nat → Int32} {v : Int32} (hI : Inv S) : Inv (upd S 9 v) := by
  have e3 : nv (upd S 9 v) 3 = nv S 3 := nv_ne (by decide)
  obtain ⟨a, b, c, d, e, ⟨f, f'⟩, g, h, i, j⟩ := hI
  refine ⟨rg_ne (by decide) a, ⟨rg_ne (by decide) b.1, by rw [e3, nv_ne (by decide)]; exact b.2⟩, rg_ne (by decide) c, rg_ne (by decide) d, rg_ne (by decide) e, ⟨rg_ne (by decide) f, by rw [e3, nv_ne (by decide)]; exact f'⟩, rg_ne (by decide) g, rg_ne (by decide) h, ?_, ?_⟩
  · rw [e3]
    exact fun k hk => InvK_ne (fun q _ => by unfold tr; omega) (i k hk)
  · rw [e3]
    intro q hq
    rw [updN (by omega)]
    exact j q hq
def shS (S : Nat → Int32) : Nat → Int32 := upd (upd (upd S 2 0) 0 0) 1 0
theorem Inv_sh {S : Nat → Int32} (hI : Inv S) : Inv (shS S) := by
  have hag : ag3 S (shS S) := fun i hi => by unfold shS; rw [updN (by omega), updN (by omega), updN (by omega)]
  have h0 : shS S 0 = nI 0 := by unfold shS; rw [updN (by decide), updS]; rfl
  have h2 : shS S 2 = nI 0 := by unfold shS; rw [updN (by decide), updN (by decide), updS]; rfl
  exact Inv_ag hag hI (rg_of h0 (Nat.zero_le _)) ⟨rg_of h2 (Nat.zero_le _), by rw [nv_of h2 (by decide)]; exact Nat.two_pow_pos _⟩
section MO
variable {ev : EV} {σ : St2} {K : PO}
theorem R_wrongSheet {s : Int32} (h1 : ¬ rgI s 0 3 → K (some (.int 0)) σ) (h2 : ∀ j, j < 4 → s = nI j → σ.1 13 j = 0 → K (some (.int 5)) σ) (h3 : ∀ j, j < 4 → s = nI j → ¬ σ.1 13 j = 0 → K (some (.int (-1))) σ) : Rn 1 ev mM_wrongSheet [.ref 0, .int s] σ K := by
  refine Rn_V (by decide) rc6 rfl rfl ?_
  refine PW_blk okM_wrongSheet 0 rfl SpM_ok ?_
  simp only [wL0, wLc, true_and, w1, lg0, lgi, lgr, lgl, w55_1, q40, q41, q42, q43, q44, Option.toList_some, Option.toList_none, List.cons_append, List.nil_append, sp_isSheet, w73]
  by_cases hr : rgI s 0 3
  rotate_left
  · refine dN (in1N (by decide) (by decide) hr) ?_
    refine PW_blk okM_wrongSheet 1 rfl SpM_ok ?_
    simp only [wL0, wLc, true_and, w0, w70]
    refine PW_blk okM_wrongSheet 5 rfl SpM_ok ?_
    simp only [wL0, w84]
    exact h1 hr
  refine dY (in1Y (by decide) hr) ?_
  obtain ⟨j, -, hj, rfl⟩ := hr
  refine PW_blk okM_wrongSheet 2 rfl SpM_ok ?_
  simp only [wL0, wLc, true_and, w2, lg0, lgi, lgr, lgl, w35, kM0, rM20, kM13, nM13, w1, w39, w73, eq_true (vp_in_nI (show j < 4 by omega) (by decide)), nI_clamp (show j < 2 ^ 31 by omega)]
  by_cases h : σ.1 13 j = 0
  · refine b3Y h ?_
    refine PW_blk okM_wrongSheet 3 rfl SpM_ok ?_
    simp only [wL0, wLc, true_and, w0, w70]
    refine PW_blk okM_wrongSheet 5 rfl SpM_ok ?_
    simp only [wL0, w84]
    exact h2 j (by omega) rfl h
  · refine b3N h ?_
    refine PW_blk okM_wrongSheet 4 rfl SpM_ok ?_
    simp only [wL0, wLc, true_and, w0, w71]
    refine PW_blk okM_wrongSheet 5 rfl SpM_ok ?_
    simp only [wL0, w84]
    exact h3 j (by omega) rfl h
theorem R_fits {s : Int32} (hI : Inv (σ.1 1)) (hSh : ShI (σ.1 13) (σ.1 14)) (h1 : ¬ rgI s 0 3 → K (some (.int (-1000001))) (noS σ 0)) (h2 : ∀ j, j < 4 → s = nI j → σ.1 13 j = 0 → K (some (.int (-1000006))) (noS σ 5)) (h3 : ∀ j, j < 4 → s = nI j → ¬ σ.1 13 j = 0 → ∀ σ', Sm σ σ' → K (some (.int (nI (suU (hcT σ j) 1024)))) σ') : Rn 1 ev mM_fits [.ref 0, .int s] σ K := by
  refine Rn_V (by decide) rc6 rfl rfl ?_
  refine PW_blk okM_fits 0 rfl SpM_ok ?_
  simp only [wL0, wLc, true_and, w2, lg0, lgi, lgr, lgl, w1, w54_2, q40, q41, q42, q43, q44, Option.toList_some, Option.toList_none, List.cons_append, List.nil_append, w4, ls00, ls0i, ls0r, ls0l, lsi, lsr, lsl, Option.map_some, w74]
  refine R_wrongSheet (fun a => ?_) (fun j a b c => ?_) (fun j hj e c => ?_)
  · simp only [wL0, wLc, true_and, w2, lg0, lgi, lgr, lgl, w1, w54_2, q40, q41, q42, q43, q44, Option.toList_some, Option.toList_none, List.cons_append, List.nil_append, w4, ls00, ls0i, ls0r, ls0l, lsi, lsr, lsl, Option.map_some, w74]
    refine b2N (by decide) ?_
    refine PW_blk okM_fits 1 rfl SpM_ok ?_
    simp only [wL0, wLc, true_and, w2, lg0, lgi, lgr, lgl, w1, w54_2, q40, q41, q42, q43, q44, Option.toList_some, Option.toList_none, List.cons_append, List.nil_append, sp_no, v7_0, v7_1, v7_2, v7_3, v7_4, v7_5, v7_6, w84]
    exact h1 a
  · simp only [wL0, wLc, true_and, w2, lg0, lgi, lgr, lgl, w1, w54_2, q40, q41, q42, q43, q44, Option.toList_some, Option.toList_none, List.cons_append, List.nil_append, w4, ls00, ls0i, ls0r, ls0l, lsi, lsr, lsl, Option.map_some, w74]
    refine b2N (by decide) ?_
    refine PW_blk okM_fits 1 rfl SpM_ok ?_
    simp only [wL0, wLc, true_and, w2, lg0, lgi, lgr, lgl, w1, w54_2, q40, q41, q42, q43, q44, Option.toList_some, Option.toList_none, List.cons_append, List.nil_append, sp_no, v7_0, v7_1, v7_2, v7_3, v7_4, v7_5, v7_6, w84]
    exact h2 j a b c
  · subst e
    simp only [wL0, wLc, true_and, w2, lg0, lgi, lgr, lgl, w1, w54_2, q40, q41, q42, q43, q44, Option.toList_some, Option.toList_none, List.cons_append, List.nil_append, w4, ls00, ls0i, ls0r, ls0l, lsi, lsr, lsl, Option.map_some, w74]
    refine b2Y (by decide) ?_
    refine PW_blk okM_fits 2 rfl SpM_ok ?_
    simp only [wL0, wLc, true_and, w2, lg0, lgi, lgr, lgl, w1, w54_2, q40, q41, q42, q43, q44, Option.toList_some, Option.toList_none, List.cons_append, List.nil_append, w0, w4, ls00, ls0i, ls0r, ls0l, lsi, lsr, lsl, Option.map_some, w71]
    refine R_countsHeard hI hj (hSh j hj).2 (fun r hr => ?_)
    simp only [wL0, wLc, true_and, w2, lg0, lgi, lgr, lgl, w1, w54_2, q40, q41, q42, q43, q44, Option.toList_some, Option.toList_none, List.cons_append, List.nil_append, w0, w4, ls00, ls0i, ls0r, ls0l, lsi, lsr, lsl, Option.map_some, w71]
    have hr : ∀ t, t < 1024 → r t = nI (hcT σ j t) := hr
    have key := lp_up (n := 1024) (P := fun i => PW 1 ev mM_fits 26 [.ref 0, .int (nI j), .int (-1), .int (nI (suU (hcT σ j) i)), .int (nI i)] [] (sr σ 7 r) K) ?_ ?_ 0 (by decide)
    · exact key
    · refine PW_blk okM_fits 3 rfl SpM_ok ?_
      simp only [wL0, wLc, true_and, w1, lg0, lgi, lgr, lgl, w0, w81]
      refine b3N (by decide) ?_
      refine PW_blk okM_fits 5 rfl SpM_ok ?_
      simp only [wL0, wLc, true_and, w1, lg0, lgi, lgr, lgl, w84]
      exact h3 j hj rfl c _ (Sm_sr (by decide) (by decide) Sm_r)
    · intro i hi ih
      refine PW_blk okM_fits 3 rfl SpM_ok ?_
      simp only [wL0, wLc, true_and, w1, lg0, lgi, lgr, lgl, w0, w81]
      refine b3Y (nI_lt hi (by decide)) ?_
      refine PW_blk okM_fits 4 rfl SpM_ok ?_
      simp only [wL0, wLc, true_and, w1, lg0, lgi, lgr, lgl, w2, w35, kM0, rM8, kM7, nM7, w39, w11, w4, ls00, ls0i, ls0r, ls0l, lsi, lsr, lsl, Option.map_some, w7, w70, sr1, eq_true (vp_in_nI hi (by decide)), nI_clamp (show i < 2 ^ 31 by omega), hr i hi]
      rw [show (1 : Int32) = nI 1 from rfl, nI_add, nI_add]
      exact ih
theorem R_heardSet {j : Nat} {q : Int32} (hI : Inv (σ.1 1)) (hj : j < 4) (hN : rg (σ.1 14) j 40) (h1 : (¬ ∃ t, t < 1024 ∧ hcT σ j t ≠ 0) → ∀ σ', Sm σ σ' → K (some (.int (-1))) σ') (h2 : (∃ t, t < 1024 ∧ hcT σ j t ≠ 0) → q = 0 → ∀ σ', Sm σ σ' → K (some (.int (nI (orU (fun t => cif (hcT σ j t ≠ 0) t 0) 1024)))) σ') (h3 : (∃ t, t < 1024 ∧ hcT σ j t ≠ 0) → ¬ q = 0 → ∀ σ', Sm σ σ' → K (some (.int (nI (alU 1023 (fun t => hcT σ j t ≠ 0) 1024)))) σ') : Rn 1 ev mM_heardSet [.ref 0, .int (nI j), .int q] σ K := by
  refine Rn_V (by decide) rc6 rfl rfl ?_
  refine PW_blk okM_heardSet 0 rfl SpM_ok ?_
  simp only [wL0, wLc, true_and, w2, lg0, lgi, lgr, lgl, w1, w54_2, q40, q41, q42, q43, q44, Option.toList_some, Option.toList_none, List.cons_append, List.nil_append, w0, w4, ls00, ls0i, ls0r, ls0l, lsi, lsr, lsl, Option.map_some, w71]
  refine R_countsHeard hI hj hN (fun r hr => ?_)
  have hr : ∀ t, t < 1024 → r t = nI (hcT σ j t) := hr
  simp only [wL0, wLc, true_and, w2, lg0, lgi, lgr, lgl, w1, w54_2, q40, q41, q42, q43, q44, Option.toList_some, Option.toList_none, List.cons_append, List.nil_append, w0, w4, ls00, ls0i, ls0r, ls0l, lsi, lsr, lsl, Option.map_some, w71]
  have hS : Sm σ (sr σ 7 r) := Sm_sr (by decide) (by decide) Sm_r
  have key := lp_up (n := 1024) (P := fun i => ∀ f : Int32, (f = 0 ∨ f = 1) → (f = 1 ↔ ∃ t, t < i ∧ hcT σ j t ≠ 0) → PW 1 ev mM_heardSet 18 [.ref 0, .int (nI j), .int q, .int (nI (orU (fun t => cif (hcT σ j t ≠ 0) t 0) i)), .int (nI (alU 1023 (fun t => hcT σ j t ≠ 0) i)), .int f, .int (nI i)] [] (sr σ 7 r) K) ?_ ?_ 0 (by decide) 0 (Or.inl rfl) ⟨fun z => absurd z (by decide), fun ⟨t, h, _⟩ => absurd h (Nat.not_lt_zero t)⟩
  · exact key
  · intro f hf01 hf
    refine PW_blk okM_heardSet 1 rfl SpM_ok ?_
    simp only [wL0, wLc, true_and, w1, lg0, lgi, lgr, lgl, w0, w81]
    refine b3N (by decide) ?_
    refine PW_blk okM_heardSet 13 rfl SpM_ok ?_
    simp only [wL0, wLc, true_and, w1, lg0, lgi, lgr, lgl, w73]
    rcases hf01 with e | e
    · subst e
      have hno : ¬ ∃ t, t < 1024 ∧ hcT σ j t ≠ 0 := fun z => absurd (hf.mpr z) (by decide)
      refine b3Y rfl ?_
      refine PW_blk okM_heardSet 14 rfl SpM_ok ?_
      simp only [wL0, wLc, true_and, w0, w70]
      refine PW_blk okM_heardSet 18 rfl SpM_ok ?_
      simp only [wL0, w84]
      exact h1 hno _ hS
    · subst e
      have hy := hf.mp rfl
      refine b3N (by decide) ?_
      refine PW_blk okM_heardSet 15 rfl SpM_ok ?_
      simp only [wL0, wLc, true_and, w1, lg0, lgi, lgr, lgl, w72]
      by_cases hq : q = 0
      · refine b2Y hq ?_
        refine PW_blk okM_heardSet 17 rfl SpM_ok ?_
        simp only [wL0, wLc, true_and, w1, lg0, lgi, lgr, lgl, w71]
        refine PW_blk okM_heardSet 18 rfl SpM_ok ?_
        simp only [wL0, w84]
        exact h2 hy hq _ hS
      · refine b2N hq ?_
        refine PW_blk okM_heardSet 16 rfl SpM_ok ?_
        simp only [wL0, wLc, true_and, w1, lg0, lgi, lgr, lgl, w70]
        refine PW_blk okM_heardSet 18 rfl SpM_ok ?_
        simp only [wL0, w84]
        exact h3 hy hq _ hS
  · intro i hi ih f hf01 hf
    have hv : vp_in (nI i) 1024 := vp_in_nI hi (by decide)
    have cl : (nI i).toNatClampNeg = i := nI_clamp (by omega)
    have hsm : hcT σ j i ≤ 3628800 := hcL_small hI hi
    have e1 : orU (fun t => cif (hcT σ j t ≠ 0) t 0) (i + 1) = orU (fun t => cif (hcT σ j t ≠ 0) t 0) i ||| cif (hcT σ j i ≠ 0) i 0 := rfl
    have e2 : alU 1023 (fun t => hcT σ j t ≠ 0) (i + 1) = cif (hcT σ j i ≠ 0) (alU 1023 (fun t => hcT σ j t ≠ 0) i &&& i) (alU 1023 (fun t => hcT σ j t ≠ 0) i) := rfl
    have hex : (∃ t, t < i + 1 ∧ hcT σ j t ≠ 0) ↔ (∃ t, t < i ∧ hcT σ j t ≠ 0) ∨ hcT σ j i ≠ 0 := by
      constructor
      · intro ⟨t, a, b⟩
        by_cases e : t = i
        · subst e; exact Or.inr b
        · exact Or.inl ⟨t, by omega, b⟩
      · intro z
        rcases z with ⟨t, a, b⟩ | z
        · exact ⟨t, by omega, b⟩
        · exact ⟨i, by omega, z⟩
    rw [e1, e2, hex] at ih
    refine PW_blk okM_heardSet 1 rfl SpM_ok ?_
    simp only [wL0, wLc, true_and, w1, lg0, lgi, lgr, lgl, w0, w81]
    refine b3Y (nI_lt hi (by decide)) ?_
    refine PW_blk okM_heardSet 2 rfl SpM_ok ?_
    simp only [wL0, wLc, true_and, w1, lg0, lgi, lgr, lgl, w2, w35, kM0, rM8, kM7, nM7, w39, w77, sr1, eq_true hv, cl, hr i hi]
    rw [nI_p0 (by omega)]
    by_cases c : hcT σ j i ≠ 0
    · rw [cif_y c, cif_y c] at ih
      refine b3Y c ?_
      refine PW_blk okM_heardSet 3 rfl SpM_ok ?_
      simp only [wL0, wLc, true_and, w1, lg0, lgi, lgr, lgl, w70]
      refine PW_blk okM_heardSet 5 rfl SpM_ok ?_
      simp only [wL0, wLc, true_and, w17, w4, ls00, ls0i, ls0r, ls0l, lsi, lsr, lsl, Option.map_some, w1, lg0, lgi, lgr, lgl, w2, w35, kM0, rM8, kM7, nM7, w39, w77, sr1, eq_true hv, cl, hr i hi]
      rw [nI_p0 (by omega)]
      refine b3Y c ?_
      refine PW_blk okM_heardSet 6 rfl SpM_ok ?_
      simp only [wL0, wLc, true_and, w1, lg0, lgi, lgr, lgl, w70]
      have nx := ih 1 (Or.inr rfl) ⟨fun _ => Or.inr c, fun _ => rfl⟩
      have l87 : PW 1 ev mM_heardSet 87 [.ref 0, .int (nI j), .int q, .int (nI (orU (fun t => cif (hcT σ j t ≠ 0) t 0) i ||| i)), .int (nI (alU 1023 (fun t => hcT σ j t ≠ 0) i &&& i)), .int f, .int (nI i)] [.int 1] (sr σ 7 r) K := by
        refine PW_blk okM_heardSet 12 rfl SpM_ok ?_
        simp only [wL0, wLc, true_and, w4, ls00, ls0i, ls0r, ls0l, lsi, lsr, lsl, Option.map_some, w7, lg0, lgi, lgr, lgl, w70]
        rw [show (1 : Int32) = nI 1 from rfl, nI_add]
        exact nx
      refine PW_blk okM_heardSet 8 rfl SpM_ok ?_
      simp only [wL0, wLc, true_and, w16, w4, ls00, ls0i, ls0r, ls0l, lsi, lsr, lsl, Option.map_some, w1, lg0, lgi, lgr, lgl, w73]
      rw [fa_or, fa_and]
      rcases hf01 with e | e
      · subst e
        refine b3Y rfl ?_
        refine PW_blk okM_heardSet 9 rfl SpM_ok ?_
        simp only [wL0, wLc, true_and, w2, lg0, lgi, lgr, lgl, w35, kM0, rM8, kM7, nM7, w1, w39, w77, sr1, eq_true hv, cl, hr i hi]
        rw [nI_p0 (by omega)]
        refine b3Y c ?_
        refine PW_blk okM_heardSet 10 rfl SpM_ok ?_
        simp only [wL0, wLc, true_and, w0, w70]
        exact l87
      · subst e
        refine b3N (by decide) ?_
        refine PW_blk okM_heardSet 10 rfl SpM_ok ?_
        simp only [wL0, wLc, true_and, w0, w70]
        exact l87
    · rw [cif_n c, cif_n c] at ih
      refine b3N c ?_
      refine PW_blk okM_heardSet 4 rfl SpM_ok ?_
      simp only [wL0, wLc, true_and, w0, w71]
      refine PW_blk okM_heardSet 5 rfl SpM_ok ?_
      simp only [wL0, wLc, true_and, w17, w4, ls00, ls0i, ls0r, ls0l, lsi, lsr, lsl, Option.map_some, w1, lg0, lgi, lgr, lgl, w2, w35, kM0, rM8, kM7, nM7, w39, w77, sr1, eq_true hv, cl, hr i hi]
      rw [nI_p0 (by omega)]
      refine b3N c ?_
      refine PW_blk okM_heardSet 7 rfl SpM_ok ?_
      simp only [wL0, wLc, true_and, w1, lg0, lgi, lgr, lgl, w71]
      have nx := ih f hf01 (by rw [hf]; exact ⟨fun z => Or.inl z, fun z => z.resolve_right c⟩)
      have l87 : ∀ x, x = f → PW 1 ev mM_heardSet 87 [.ref 0, .int (nI j), .int q, .int (nI (orU (fun t => cif (hcT σ j t ≠ 0) t 0) i ||| 0)), .int (nI (alU 1023 (fun t => hcT σ j t ≠ 0) i)), .int f, .int (nI i)] [.int x] (sr σ 7 r) K := by
        intro x hx
        subst hx
        refine PW_blk okM_heardSet 12 rfl SpM_ok ?_
        simp only [wL0, wLc, true_and, w4, ls00, ls0i, ls0r, ls0l, lsi, lsr, lsl, Option.map_some, w7, lg0, lgi, lgr, lgl, w70]
        rw [show (1 : Int32) = nI 1 from rfl, nI_add]
        exact nx
      refine PW_blk okM_heardSet 8 rfl SpM_ok ?_
      simp only [wL0, wLc, true_and, w16, w4, ls00, ls0i, ls0r, ls0l, lsi, lsr, lsl, Option.map_some, w1, lg0, lgi, lgr, lgl, w73]
      rw [show (0 : Int32) = nI 0 from rfl, fa_or, fa_and, Nat.and_self]
      rcases hf01 with e | e
      · subst e
        refine b3Y rfl ?_
        refine PW_blk okM_heardSet 9 rfl SpM_ok ?_
        simp only [wL0, wLc, true_and, w2, lg0, lgi, lgr, lgl, w35, kM0, rM8, kM7, nM7, w1, w39, w77, sr1, eq_true hv, cl, hr i hi]
        rw [nI_p0 (by omega)]
        refine b3N c ?_
        refine PW_blk okM_heardSet 11 rfl SpM_ok ?_
        simp only [wL0, wLc, true_and, w0, w71]
        exact l87 0 rfl
      · subst e
        refine b3N (by decide) ?_
        refine PW_blk okM_heardSet 10 rfl SpM_ok ?_
        simp only [wL0, wLc, true_and, w0, w70]
        exact l87 1 rfl
theorem R_heardTold {s q : Int32} (hI : Inv (σ.1 1)) (hSh : ShI (σ.1 13) (σ.1 14)) (h1 : ¬ rgI s 0 3 → K (some (.int (-1000001))) (noS σ 0)) (h2 : ∀ j, j < 4 → s = nI j → σ.1 13 j = 0 → K (some (.int (-1000006))) (noS σ 5)) (h3 : ∀ j, j < 4 → s = nI j → ¬ σ.1 13 j = 0 → (¬ ∃ t, t < 1024 ∧ hcT σ j t ≠ 0) → ∀ σ', Sm σ σ' → K (some (.int (-1000004))) (noS σ' 3)) (h4 : ∀ j, j < 4 → s = nI j → ¬ σ.1 13 j = 0 → (∃ t, t < 1024 ∧ hcT σ j t ≠ 0) → q = 0 → ∀ σ', Sm σ σ' → K (some (.int (nI (orU (fun t => cif (hcT σ j t ≠ 0) t 0) 1024)))) σ') (h5 : ∀ j, j < 4 → s = nI j → ¬ σ.1 13 j = 0 → (∃ t, t < 1024 ∧ hcT σ j t ≠ 0) → ¬ q = 0 → ∀ σ', Sm σ σ' → K (some (.int (nI (alU 1023 (fun t => hcT σ j t ≠ 0) 1024)))) σ') : Rn 1 ev mM_heardTold [.ref 0, .int s, .int q] σ K := by
  have oU : ∀ f : Nat → Nat, (∀ t, f t < 1024) → ∀ n, orU f n < 1024 := by
    intro f hf n
    induction n with
    | zero => exact (by decide : 0 < 1024)
    | succ n ih => exact Nat.or_lt_two_pow (n := 10) ih (hf n)
  have oU2 : ∀ f : Nat → Nat, (∀ t, t < 1024 → f t < 1024) → ∀ n, n ≤ 1024 → orU f n < 1024 := by
    intro f hf n
    induction n with
    | zero => intro _; exact (by decide : 0 < 1024)
    | succ n ih => intro h; exact Nat.or_lt_two_pow (n := 10) (ih (by omega)) (hf n (by omega))
  have aU : ∀ P n, alU 1023 P n < 1024 := by
    intro P n
    induction n with
    | zero => exact (by decide : 1023 < 1024)
    | succ n ih =>
      unfold alU
      by_cases c : P n
      · rw [cif_y c]; exact Nat.lt_of_le_of_lt Nat.and_le_left ih
      · rw [cif_n c]; exact ih
  refine Rn_V (by decide) rc6 rfl rfl ?_
  refine PW_blk okM_heardTold 0 rfl SpM_ok ?_
  simp only [wL0, wLc, true_and, w2, lg0, lgi, lgr, lgl, w1, w54_2, q40, q41, q42, q43, q44, Option.toList_some, Option.toList_none, List.cons_append, List.nil_append, w4, ls00, ls0i, ls0r, ls0l, lsi, lsr, lsl, Option.map_some, w74]
  refine R_wrongSheet (fun a => ?_) (fun j a b c => ?_) (fun j hj e c => ?_)
  · simp only [wL0, wLc, true_and, w2, lg0, lgi, lgr, lgl, w1, w54_2, q40, q41, q42, q43, q44, Option.toList_some, Option.toList_none, List.cons_append, List.nil_append, w4, ls00, ls0i, ls0r, ls0l, lsi, lsr, lsl, Option.map_some, w74]
    refine b2N (by decide) ?_
    refine PW_blk okM_heardTold 1 rfl SpM_ok ?_
    simp only [wL0, wLc, true_and, w0, w70]
    refine PW_blk okM_heardTold 3 rfl SpM_ok ?_
    simp only [wL0, wLc, true_and, w4, ls00, ls0i, ls0r, ls0l, lsi, lsr, lsl, Option.map_some, w1, lg0, lgi, lgr, lgl, w74]
    refine b2N (by decide) ?_
    refine PW_blk okM_heardTold 4 rfl SpM_ok ?_
    simp only [wL0, wLc, true_and, w2, lg0, lgi, lgr, lgl, w1, w54_2, q40, q41, q42, q43, q44, Option.toList_some, Option.toList_none, List.cons_append, List.nil_append, sp_no, v7_0, v7_1, v7_2, v7_3, v7_4, v7_5, v7_6, w70]
    refine PW_blk okM_heardTold 8 rfl SpM_ok ?_
    simp only [wL0, w84]
    exact h1 a
  · simp only [wL0, wLc, true_and, w2, lg0, lgi, lgr, lgl, w1, w54_2, q40, q41, q42, q43, q44, Option.toList_some, Option.toList_none, List.cons_append, List.nil_append, w4, ls00, ls0i, ls0r, ls0l, lsi, lsr, lsl, Option.map_some, w74]
    refine b2N (by decide) ?_
    refine PW_blk okM_heardTold 1 rfl SpM_ok ?_
    simp only [wL0, wLc, true_and, w0, w70]
    refine PW_blk okM_heardTold 3 rfl SpM_ok ?_
    simp only [wL0, wLc, true_and, w4, ls00, ls0i, ls0r, ls0l, lsi, lsr, lsl, Option.map_some, w1, lg0, lgi, lgr, lgl, w74]
    refine b2N (by decide) ?_
    refine PW_blk okM_heardTold 4 rfl SpM_ok ?_
    simp only [wL0, wLc, true_and, w2, lg0, lgi, lgr, lgl, w1, w54_2, q40, q41, q42, q43, q44, Option.toList_some, Option.toList_none, List.cons_append, List.nil_append, sp_no, v7_0, v7_1, v7_2, v7_3, v7_4, v7_5, v7_6, w70]
    refine PW_blk okM_heardTold 8 rfl SpM_ok ?_
    simp only [wL0, w84]
    exact h2 j a b c
  · subst e
    have out : ∀ σ' x, x < 1024 → K (some (.int (nI x))) σ' → PW 1 ev mM_heardTold 20 [.ref 0, .int (nI j), .int q, .int (-1)] [.int (nI x)] σ' K := by
      intro σ' x hx hk
      refine PW_blk okM_heardTold 3 rfl SpM_ok ?_
      simp only [wL0, wLc, true_and, w4, ls00, ls0i, ls0r, ls0l, lsi, lsr, lsl, Option.map_some, w1, lg0, lgi, lgr, lgl, w74]
      refine b2Y (by decide) ?_
      refine PW_blk okM_heardTold 5 rfl SpM_ok ?_
      simp only [wL0, wLc, true_and, w1, lg0, lgi, lgr, lgl, w75]
      refine b3N (nI_nlt (a := x) (b := 0) (Nat.zero_le _) (by omega)) ?_
      refine PW_blk okM_heardTold 7 rfl SpM_ok ?_
      simp only [wL0, wLc, true_and, w1, lg0, lgi, lgr, lgl, w71]
      refine PW_blk okM_heardTold 8 rfl SpM_ok ?_
      simp only [wL0, w84]
      exact hk
    simp only [wL0, wLc, true_and, w2, lg0, lgi, lgr, lgl, w1, w54_2, q40, q41, q42, q43, q44, Option.toList_some, Option.toList_none, List.cons_append, List.nil_append, w4, ls00, ls0i, ls0r, ls0l, lsi, lsr, lsl, Option.map_some, w74]
    refine b2Y (by decide) ?_
    refine PW_blk okM_heardTold 2 rfl SpM_ok ?_
    simp only [wL0, wLc, true_and, w2, lg0, lgi, lgr, lgl, w1, w54_3, q40, q41, q42, q43, q44, Option.toList_some, Option.toList_none, List.cons_append, List.nil_append, w71]
    refine R_heardSet hI hj (hSh j hj).2 (fun a σ' hS => ?_) (fun a b σ' hS => ?_) (fun a b σ' hS => ?_)
    · simp only [wL0, wLc, true_and, w2, lg0, lgi, lgr, lgl, w1, w54_3, q40, q41, q42, q43, q44, Option.toList_some, Option.toList_none, List.cons_append, List.nil_append, w71]
      refine PW_blk okM_heardTold 3 rfl SpM_ok ?_
      simp only [wL0, wLc, true_and, w4, ls00, ls0i, ls0r, ls0l, lsi, lsr, lsl, Option.map_some, w1, lg0, lgi, lgr, lgl, w74]
      refine b2Y (by decide) ?_
      refine PW_blk okM_heardTold 5 rfl SpM_ok ?_
      simp only [wL0, wLc, true_and, w1, lg0, lgi, lgr, lgl, w75]
      refine b3Y (by decide) ?_
      refine PW_blk okM_heardTold 6 rfl SpM_ok ?_
      simp only [wL0, wLc, true_and, w2, lg0, lgi, lgr, lgl, w0, w54_2, q40, q41, q42, q43, q44, Option.toList_some, Option.toList_none, List.cons_append, List.nil_append, sp_no, v7_0, v7_1, v7_2, v7_3, v7_4, v7_5, v7_6, w70]
      refine PW_blk okM_heardTold 8 rfl SpM_ok ?_
      simp only [wL0, w84]
      exact h3 j hj rfl c a σ' hS
    · simp only [wL0, wLc, true_and, w2, lg0, lgi, lgr, lgl, w1, w54_3, q40, q41, q42, q43, q44, Option.toList_some, Option.toList_none, List.cons_append, List.nil_append, w71]
      refine out σ' _ (oU2 _ (fun t ht => ?_) 1024 (Nat.le_refl _)) (h4 j hj rfl c a b σ' hS)
      by_cases z : hcT σ j t ≠ 0
      · rw [cif_y z]; exact ht
      · rw [cif_n z]; decide
    · simp only [wL0, wLc, true_and, w2, lg0, lgi, lgr, lgl, w1, w54_3, q40, q41, q42, q43, q44, Option.toList_some, Option.toList_none, List.cons_append, List.nil_append, w71]
      exact out σ' _ (aU _ 1024) (h5 j hj rfl c a b σ' hS)
theorem R_maybe {s : Int32} (hI : Inv (σ.1 1)) (hSh : ShI (σ.1 13) (σ.1 14)) (h1 : ¬ rgI s 0 3 → K (some (.int (-1000001))) (noS σ 0)) (h2 : ∀ j, j < 4 → s = nI j → σ.1 13 j = 0 → K (some (.int (-1000006))) (noS σ 5)) (h3 : ∀ j, j < 4 → s = nI j → ¬ σ.1 13 j = 0 → (¬ ∃ t, t < 1024 ∧ hcT σ j t ≠ 0) → ∀ σ', Sm σ σ' → K (some (.int (-1000004))) (noS σ' 3)) (h4 : ∀ j, j < 4 → s = nI j → ¬ σ.1 13 j = 0 → (∃ t, t < 1024 ∧ hcT σ j t ≠ 0) → ∀ σ', Sm σ σ' → K (some (.int (nI (orU (fun t => cif (hcT σ j t ≠ 0) t 0) 1024)))) σ') : Rn 1 ev mM_maybe [.ref 0, .int s] σ K := by
  refine Rn_V (by decide) rc6 rfl rfl ?_
  refine PW_blk okM_maybe 0 rfl SpM_ok ?_
  simp only [wL0, wLc, true_and, w2, lg0, lgi, lgr, lgl, w1, w0, w54_3, q40, q41, q42, q43, q44, Option.toList_some, Option.toList_none, List.cons_append, List.nil_append, w84]
  refine R_heardTold hI hSh (fun a => ?_) (fun j a b c => ?_) (fun j a b c d σ' hS => ?_) (fun j a b c d e σ' hS => ?_) (fun j a b c d e σ' hS => ?_)
  · simp only [wL0, wLc, true_and, w2, lg0, lgi, lgr, lgl, w1, w0, w54_3, q40, q41, q42, q43, q44, Option.toList_some, Option.toList_none, List.cons_append, List.nil_append, w84]
    exact h1 a
  · simp only [wL0, wLc, true_and, w2, lg0, lgi, lgr, lgl, w1, w0, w54_3, q40, q41, q42, q43, q44, Option.toList_some, Option.toList_none, List.cons_append, List.nil_append, w84]
    exact h2 j a b c
  · simp only [wL0, wLc, true_and, w2, lg0, lgi, lgr, lgl, w1, w0, w54_3, q40, q41, q42, q43, q44, Option.toList_some, Option.toList_none, List.cons_append, List.nil_append, w84]
    exact h3 j a b c d σ' hS
  · simp only [wL0, wLc, true_and, w2, lg0, lgi, lgr, lgl, w1, w0, w54_3, q40, q41, q42, q43, q44, Option.toList_some, Option.toList_none, List.cons_append, List.nil_append, w84]
    exact h4 j a b c d σ' hS
  · exact absurd rfl e
theorem R_surely {s : Int32} (hI : Inv (σ.1 1)) (hSh : ShI (σ.1 13) (σ.1 14)) (h1 : ¬ rgI s 0 3 → K (some (.int (-1000001))) (noS σ 0)) (h2 : ∀ j, j < 4 → s = nI j → σ.1 13 j = 0 → K (some (.int (-1000006))) (noS σ 5)) (h3 : ∀ j, j < 4 → s = nI j → ¬ σ.1 13 j = 0 → (¬ ∃ t, t < 1024 ∧ hcT σ j t ≠ 0) → ∀ σ', Sm σ σ' → K (some (.int (-1000004))) (noS σ' 3)) (h4 : ∀ j, j < 4 → s = nI j → ¬ σ.1 13 j = 0 → (∃ t, t < 1024 ∧ hcT σ j t ≠ 0) → ∀ σ', Sm σ σ' → K (some (.int (nI (alU 1023 (fun t => hcT σ j t ≠ 0) 1024)))) σ') : Rn 1 ev mM_surely [.ref 0, .int s] σ K := by
  refine Rn_V (by decide) rc6 rfl rfl ?_
  refine PW_blk okM_surely 0 rfl SpM_ok ?_
  simp only [wL0, wLc, true_and, w2, lg0, lgi, lgr, lgl, w1, w0, w54_3, q40, q41, q42, q43, q44, Option.toList_some, Option.toList_none, List.cons_append, List.nil_append, w84]
  refine R_heardTold hI hSh (fun a => ?_) (fun j a b c => ?_) (fun j a b c d σ' hS => ?_) (fun j a b c d e σ' hS => ?_) (fun j a b c d e σ' hS => ?_)
  · simp only [wL0, wLc, true_and, w2, lg0, lgi, lgr, lgl, w1, w0, w54_3, q40, q41, q42, q43, q44, Option.toList_some, Option.toList_none, List.cons_append, List.nil_append, w84]
    exact h1 a
  · simp only [wL0, wLc, true_and, w2, lg0, lgi, lgr, lgl, w1, w0, w54_3, q40, q41, q42, q43, q44, Option.toList_some, Option.toList_none, List.cons_append, List.nil_append, w84]
    exact h2 j a b c
  · simp only [wL0, wLc, true_and, w2, lg0, lgi, lgr, lgl, w1, w0, w54_3, q40, q41, q42, q43, q44, Option.toList_some, Option.toList_none, List.cons_append, List.nil_append, w84]
    exact h3 j a b c d σ' hS
  · exact absurd e (by decide)
  · simp only [wL0, wLc, true_and, w2, lg0, lgi, lgr, lgl, w1, w0, w54_3, q40, q41, q42, q43, q44, Option.toList_some, Option.toList_none, List.cons_append, List.nil_append, w84]
    exact h4 j a b c d σ' hS
theorem R_hear {v : Int32} (hI : Inv (σ.1 1)) (h1 : ¬ rgI v 0 99 → K (some (.int (-1000001))) (noS σ 0)) (h2 : rgI v 0 99 → K (some (.int (nI (hlN (σ.1 1) v (nv (σ.1 1) 2))))) σ) : Rn 1 ev mM_hear [.ref 0, .int v] σ K := by
  have hG := hI.2.1.1
  have hG2 := hG.2
  refine Rn_V (by decide) rc6 rfl rfl ?_
  refine PW_blk okM_hear 0 rfl SpM_ok ?_
  simp only [wL0, wLc, true_and, w1, lg0, lgi, lgr, lgl, w0, w55_3, q40, q41, q42, q43, q44, Option.toList_some, Option.toList_none, List.cons_append, List.nil_append, sp_in1, w72]
  by_cases hr : rgI v 0 99
  · refine bY (in1Y (by decide) hr) ?_
    refine PW_blk okM_hear 1 rfl SpM_ok ?_
    simp only [wL0, wLc, true_and, w2, lg0, lgi, lgr, lgl, w1, w35, kM0, rM0, kM1, nM1, w0, w39, w54_3, q40, q41, q42, q43, q44, Option.toList_some, Option.toList_none, List.cons_append, List.nil_append, tn2, vi2_120, w70, hG.1]
    refine R_heardLocks hI (by omega) ?_
    simp only [wL0, wLc, true_and, w2, lg0, lgi, lgr, lgl, w1, w35, kM0, rM0, kM1, nM1, w0, w39, w54_3, q40, q41, q42, q43, q44, Option.toList_some, Option.toList_none, List.cons_append, List.nil_append, tn2, vi2_120, w70]
    refine PW_blk okM_hear 3 rfl SpM_ok ?_
    simp only [wL0, w84]
    exact h2 hr
  · refine bN (in1N (by decide) (by decide) hr) ?_
    refine PW_blk okM_hear 2 rfl SpM_ok ?_
    simp only [wL0, wLc, true_and, w2, lg0, lgi, lgr, lgl, w0, w54_2, q40, q41, q42, q43, q44, Option.toList_some, Option.toList_none, List.cons_append, List.nil_append, sp_no, v7_0, v7_1, v7_2, v7_3, v7_4, v7_5, v7_6, w71]
    refine PW_blk okM_hear 3 rfl SpM_ok ?_
    simp only [wL0, w84]
    exact h1 hr
theorem R_draw (hk : K (some (.int (nI (drN (drZ (σ.1 1 9)))))) (sr σ 1 (upd (σ.1 1) 9 (drZ (σ.1 1 9))))) : Rn 1 ev mM_draw [.ref 0] σ K := by
  refine Rn_V (by decide) rc6 rfl rfl ?_
  refine PW_blk okM_draw 0 rfl SpM_ok ?_
  simp only [wL0, wLc, true_and, w2, lg0, lgi, lgr, lgl, w35, kM0, rM0, kM1, nM1, w0, w39, w13, w11, w40, w21, tn8, vi8_120, tn9, vi9_120, w84, si_is, sr1, updS]
  rw [show σ.1 1 9 * 1103515245 + 12345 = drZ (σ.1 1 9) from rfl, drN_I]
  exact hk
theorem R_nthOf {m n : Nat} (hm : m < 1024) (hn : n < pcn m) (hk : K (some (.int (nI (nthF m n)))) σ) : Rn 1 ev mM_nthOf [.ref 0, .int (nI m), .int (nI n)] σ K := by
  have hp := pcn_le m
  refine Rn_V (by decide) rc6 rfl rfl ?_
  refine PW_blk okM_nthOf 0 rfl SpM_ok ?_
  simp only [wL0, wLc, true_and, w1, lg0, lgi, lgr, lgl, w4, ls00, ls0i, ls0r, ls0l, lsi, lsr, lsl, Option.map_some, w0, w71]
  have key := lp_up (n := n) (P := fun i => PW 1 ev mM_nthOf 5 [.ref 0, .int (nI m), .int (nI n), .int (nI (clF m i)), .int (nI i)] [] σ K) ?_ ?_ 0 (Nat.zero_le _)
  · exact key
  · refine PW_blk okM_nthOf 1 rfl SpM_ok ?_
    simp only [wL0, wLc, true_and, w1, lg0, lgi, lgr, lgl, w81]
    refine b3N (nI_nlt (Nat.le_refl _) (by omega)) ?_
    refine PW_blk okM_nthOf 3 rfl SpM_ok ?_
    simp only [wL0, wLc, true_and, w0, w4, ls00, ls0i, ls0r, ls0l, lsi, lsr, lsl, Option.map_some, w71]
    obtain ⟨h1, h2, h3⟩ := clF_ok hm n (by omega)
    obtain ⟨j, hj, hb⟩ := bit_ex h1 (fun z => by rw [z, pcn_0] at h2; omega)
    have k2 := lp_up (n := 10) (P := fun k => (∀ q, q < k → (clF m n).testBit q = false) → loU (clF m n) (10 - k) k = nthF m n → PW 1 ev mM_nthOf 26 [.ref 0, .int (nI m), .int (nI n), .int (nI (clF m n)), .int (nI k)] [] σ K) ?_ ?_ 0 (by decide) (fun q h => absurd h (Nat.not_lt_zero q)) rfl
    · exact k2
    · intro hno _
      rw [hno j hj] at hb
      cases hb
    · intro k hk2 ih hno hlo
      rw [show 10 - k = (10 - (k + 1)) + 1 by omega] at hlo
      unfold loU at hlo
      refine PW_blk okM_nthOf 4 rfl SpM_ok ?_
      simp only [wL0, wLc, true_and, w1, lg0, lgi, lgr, lgl, w55_2, q40, q41, q42, q43, q44, Option.toList_some, Option.toList_none, List.cons_append, List.nil_append, sp_isIn, w73]
      rw [isInF_n (by omega) (by omega)]
      by_cases hc : (clF m n).testBit k = true
      · rw [if_pos hc] at hlo
        rw [if_pos hc, ]
        refine b3N (by decide) ?_
        refine PW_blk okM_nthOf 6 rfl SpM_ok ?_
        simp only [wL0, wLc, true_and, w1, lg0, lgi, lgr, lgl, w84]
        rw [hlo]
        exact hk
      · rw [if_neg hc] at hlo
        rw [if_neg hc]
        refine b3Y rfl ?_
        refine PW_blk okM_nthOf 5 rfl SpM_ok ?_
        simp only [wL0, wLc, true_and, w7, lg0, lgi, lgr, lgl, ls00, ls0i, ls0r, ls0l, lsi, lsr, lsl, Option.map_some, w70]
        rw [show (1 : Int32) = nI 1 from rfl, nI_add]
        refine ih (fun q hq => ?_) hlo
        by_cases e : q = k
        · subst e; simpa using hc
        · exact hno q (by omega)
  · intro i hi ih
    obtain ⟨h1, h2, h3⟩ := clF_ok hm i (by omega)
    have hpos : 0 < clF m i := by
      rcases Nat.eq_zero_or_pos (clF m i) with z | z
      · rw [z, pcn_0] at h2; omega
      · exact z
    refine PW_blk okM_nthOf 1 rfl SpM_ok ?_
    simp only [wL0, wLc, true_and, w1, lg0, lgi, lgr, lgl, w81]
    refine b3Y (nI_lt hi (by omega)) ?_
    refine PW_blk okM_nthOf 2 rfl SpM_ok ?_
    simp only [wL0, wLc, true_and, w1, lg0, lgi, lgr, lgl, w0, w12, w16, w4, ls00, ls0i, ls0r, ls0l, lsi, lsr, lsl, Option.map_some, w7, w70]
    rw [m1_pos hpos, fa_and, show (1 : Int32) = nI 1 from rfl, nI_add]
    exact ih
theorem R_seed {v : Int32} (hk : K (some (.int (σ.1 1 9))) (sr σ 1 (upd (σ.1 1) 9 v))) : Rn 1 ev mM_seed [.ref 0, .int v] σ K := by
  refine Rn_V (by decide) rc6 rfl rfl ?_
  refine PW_blk okM_seed 0 rfl SpM_ok ?_
  simp only [wL0, wLc, true_and, w2, lg0, lgi, lgr, lgl, w35, kM0, rM0, kM1, nM1, w0, w39, w4, ls00, ls0i, ls0r, ls0l, lsi, lsr, lsl, Option.map_some, w1, w40, tn9, vi9_120, w84, si_is]
  exact hk
theorem R_friday {v : Int32} (hI : Inv (σ.1 1)) (h1 : ¬ rgI v 1 20 → K (some (.int (-1000001))) (noS σ 0)) (h2 : rgI v 1 20 → nv (σ.1 1) 3 = 0 → K (some (.int (-1000005))) (noS σ 4)) (h3 : ∀ n, 1 ≤ n → n ≤ 20 → v = nI n → nv (σ.1 1) 3 ≠ 0 → K (some (.int (nI (friU n (shS (σ.1 1))).1))) (sr σ 1 (friU n (shS (σ.1 1))).2)) : Rn 1 ev mM_friday [.ref 0, .int v] σ K := by
  have hn := hI.1.2
  refine Rn_V (by decide) rc6 rfl rfl ?_
  refine PW_blk okM_friday 0 rfl SpM_ok ?_
  simp only [wL0, wLc, true_and, w1, lg0, lgi, lgr, lgl, w0, w55_3, q40, q41, q42, q43, q44, Option.toList_some, Option.toList_none, List.cons_append, List.nil_append, sp_in1, w73]
  by_cases hr : rgI v 1 20
  rotate_left
  · refine dN (in1N (a := 1) (by decide) (by decide) hr) ?_
    refine PW_blk okM_friday 1 rfl SpM_ok ?_
    simp only [wL0, wLc, true_and, w2, lg0, lgi, lgr, lgl, w0, w54_2, q40, q41, q42, q43, q44, Option.toList_some, Option.toList_none, List.cons_append, List.nil_append, sp_no, v7_0, v7_1, v7_2, v7_3, v7_4, v7_5, v7_6, w84]
    exact h1 hr
  refine dY (in1Y (a := 1) (by decide) hr) ?_
  refine PW_blk okM_friday 2 rfl SpM_ok ?_
  simp only [wL0, wLc, true_and, w2, lg0, lgi, lgr, lgl, w35, kM0, rM0, kM1, nM1, w0, w39, tn3, vi3_120, w73, hI.1.1]
  rw [nI_z (by omega)]
  by_cases hz : nv (σ.1 1) 3 = 0
  · refine b3Y hz ?_
    refine PW_blk okM_friday 3 rfl SpM_ok ?_
    simp only [wL0, wLc, true_and, w2, lg0, lgi, lgr, lgl, w0, w54_2, q40, q41, q42, q43, q44, Option.toList_some, Option.toList_none, List.cons_append, List.nil_append, sp_no, v7_0, v7_1, v7_2, v7_3, v7_4, v7_5, v7_6, w84]
    exact h2 hr hz
  refine b3N hz ?_
  obtain ⟨n, hn1, hn2, rfl⟩ := hr
  have hkk := h3 n hn1 hn2 rfl hz
  have hIs := Inv_sh hI
  have hp := pcn_le (nv (σ.1 1) 2)
  have e2 : nv (shS (σ.1 1)) 2 = 0 := by
    have : shS (σ.1 1) 2 = nI 0 := by unfold shS; rw [updN (by decide), updN (by decide), updS]; rfl
    exact nv_of this (by decide)
  have e0 : nv (shS (σ.1 1)) 0 = 0 := by
    have : shS (σ.1 1) 0 = nI 0 := by unfold shS; rw [updN (by decide), updS]; rfl
    exact nv_of this (by decide)
  refine PW_blk okM_friday 4 rfl SpM_ok ?_
  simp only [wL0, wLc, true_and, w2, lg0, lgi, lgr, lgl, w54_1, q40, q41, q42, q43, q44, Option.toList_some, Option.toList_none, List.cons_append, List.nil_append, w4, ls00, ls0i, ls0r, ls0l, lsi, lsr, lsl, Option.map_some, w1, w75]
  refine R_shut hI ?_
  simp only [wL0, wLc, true_and, w2, lg0, lgi, lgr, lgl, w54_1, q40, q41, q42, q43, q44, Option.toList_some, Option.toList_none, List.cons_append, List.nil_append, w4, ls00, ls0i, ls0r, ls0l, lsi, lsr, lsl, Option.map_some, w1, w75]
  rw [show upd (upd (upd (σ.1 1) 2 0) 0 0) 1 0 = shS (σ.1 1) from rfl]
  refine b3N (nI_nlt (a := pcn (nv (σ.1 1) 2)) (b := 0) (Nat.zero_le _) (by omega)) ?_
  refine PW_blk okM_friday 6 rfl SpM_ok ?_
  simp only [wL0, wLc, true_and, w0, w71]
  refine PW_blk okM_friday 7 rfl SpM_ok ?_
  simp only [wL0, wLc, true_and, w4, ls00, ls0i, ls0r, ls0l, lsi, lsr, lsl, Option.map_some, w2, lg0, lgi, lgr, lgl, w0, w54_2, q40, q41, q42, q43, q44, Option.toList_some, Option.toList_none, List.cons_append, List.nil_append, w71]
  refine R_mayBy (σ := sr σ 1 (shS (σ.1 1))) (o := 0) hIs (by decide) ?_
  simp only [wL0, wLc, true_and, w4, ls00, ls0i, ls0r, ls0l, lsi, lsr, lsl, Option.map_some, w2, lg0, lgi, lgr, lgl, w0, w54_2, q40, q41, q42, q43, q44, Option.toList_some, Option.toList_none, List.cons_append, List.nil_append, w71, sr1]
  generalize hw : pcn (nv (σ.1 1) 2) = were at *
  have key : ∀ f i c S, i + f = n → Inv S → nv S 3 = nv (σ.1 1) 3 → nv S 0 ≤ 130 * i → K (some (.int (nI (c + (friU f S).1)))) (sr σ 1 (friU f S).2) → PW 1 ev mM_friday 56 [.ref 0, .int (nI n), .int (nI were), .int (nI c), .int (nI (mayN S (nv S 2))), .int (nI i)] [] (sr σ 1 S) K := by
    intro f
    induction f with
    | zero =>
      intro i c S hi hIS h3S h0S hk
      have e : i = n := by omega
      subst e
      refine PW_blk okM_friday 8 rfl SpM_ok ?_
      simp only [wL0, wLc, true_and, w1, lg0, lgi, lgr, lgl, w81]
      refine b3N (nI_nlt (Nat.le_refl _) (by omega)) ?_
      refine PW_blk okM_friday 17 rfl SpM_ok ?_
      simp only [wL0, wLc, true_and, w1, lg0, lgi, lgr, lgl, w84]
      exact hk
    | succ f ih =>
      intro i c S hi hIS h3S h0S hk
      have hG := hIS.2.1.1
      have hG2 := hG.2
      have hn3 := hIS.1.2
      have hT := p2le _ hn3
      have hml := mayN_lt S (nv S 2)
      unfold friU at hk
      refine PW_blk okM_friday 8 rfl SpM_ok ?_
      simp only [wL0, wLc, true_and, w1, lg0, lgi, lgr, lgl, w81]
      refine b3Y (nI_lt (by omega) (by omega)) ?_
      refine PW_blk okM_friday 9 rfl SpM_ok ?_
      simp only [wL0, wLc, true_and, w1, lg0, lgi, lgr, lgl, w72]
      rw [nI_z (by omega)]
      by_cases c1 : mayN S (nv S 2) = 0
      · rw [cif_y (Or.inl c1)] at hk
        refine b2Y c1 ?_
        refine PW_blk okM_friday 17 rfl SpM_ok ?_
        simp only [wL0, wLc, true_and, w1, lg0, lgi, lgr, lgl, w84]
        exact hk
      refine b2N c1 ?_
      refine PW_blk okM_friday 10 rfl SpM_ok ?_
      simp only [wL0, wLc, true_and, w2, lg0, lgi, lgr, lgl, w35, kM0, rM0, kM1, nM1, w0, w39, w54_2, q40, q41, q42, q43, q44, Option.toList_some, Option.toList_none, List.cons_append, List.nil_append, sp_isOut, tn2, vi2_120, w73, sr1]
      rw [hG.1]
      by_cases c2 : outP S (nv S 2)
      · rw [cif_y (Or.inr c2)] at hk
        refine dY (if_pos c2) ?_
        refine PW_blk okM_friday 17 rfl SpM_ok ?_
        simp only [wL0, wLc, true_and, w1, lg0, lgi, lgr, lgl, w84]
        exact hk
      refine dN (if_neg c2) ?_
      rw [cif_n (fun z => z.elim c1 c2)] at hk
      obtain ⟨j, hj, hb⟩ := bit_ex (show mayN S (nv S 2) < 1024 by omega) c1
      have hpp : 0 < pcn (mayN S (nv S 2)) := by
        rcases Nat.eq_zero_or_pos (pcn (mayN S (nv S 2))) with z | z
        · have hpb : ∀ m, j < m → 0 < pcU (mayN S (nv S 2)) m := by
            intro m
            induction m with
            | zero => intro h; omega
            | succ m ihm =>
              intro h
              unfold pcU
              by_cases e : j = m
              · subst e; rw [if_pos hb]; omega
              · have := ihm (by omega); omega
          have := hpb 10 hj
          unfold pcn at z
          omega
        · exact z
      have hple := pcn_le (mayN S (nv S 2))
      have hmod := Nat.mod_lt (drN (drZ (S 9))) hpp
      have hd1 := drN_lt (drZ (S 9))
      have hd2 := drN_lt (drZ (drZ (S 9)))
      obtain ⟨hkb, hk10⟩ := nthF_ok (show mayN S (nv S 2) < 1024 by omega) hmod
      have hkn := (mayN_bit.mp hkb).1
      refine PW_blk okM_friday 11 rfl SpM_ok ?_
      simp only [wL0, wLc, true_and, w2, lg0, lgi, lgr, lgl, w1, w54_1, q40, q41, q42, q43, q44, Option.toList_some, Option.toList_none, List.cons_append, List.nil_append, w55_1, w15, w54_3, w4, ls00, ls0i, ls0r, ls0l, lsi, lsr, lsl, Option.map_some, w0, sp_get, w81]
      refine R_draw ?_
      simp only [wL0, wLc, true_and, w2, lg0, lgi, lgr, lgl, w1, w54_1, q40, q41, q42, q43, q44, Option.toList_some, Option.toList_none, List.cons_append, List.nil_append, w55_1, w15, w54_3, w4, ls00, ls0i, ls0r, ls0l, lsi, lsr, lsl, Option.map_some, w0, sp_get, w81, sr1, sr_sr]
      refine R_bits (by omega) ?_
      simp only [wL0, wLc, true_and, w2, lg0, lgi, lgr, lgl, w1, w54_1, q40, q41, q42, q43, q44, Option.toList_some, Option.toList_none, List.cons_append, List.nil_append, w55_1, w15, w54_3, w4, ls00, ls0i, ls0r, ls0l, lsi, lsr, lsl, Option.map_some, w0, sp_get, w81]
      refine ⟨fun z => ?_, ?_⟩
      · rw [nI_z (by omega)] at z; omega
      rw [pk_rem (by omega) hpp (by omega)]
      refine R_nthOf (by omega) hmod ?_
      simp only [wL0, wLc, true_and, w2, lg0, lgi, lgr, lgl, w1, w54_1, q40, q41, q42, q43, q44, Option.toList_some, Option.toList_none, List.cons_append, List.nil_append, w55_1, w15, w54_3, w4, ls00, ls0i, ls0r, ls0l, lsi, lsr, lsl, Option.map_some, w0, sp_get, w81]
      refine R_draw ?_
      simp only [wL0, wLc, true_and, w2, lg0, lgi, lgr, lgl, w1, w54_1, q40, q41, q42, q43, q44, Option.toList_some, Option.toList_none, List.cons_append, List.nil_append, w55_1, w15, w54_3, w4, ls00, ls0i, ls0r, ls0l, lsi, lsr, lsl, Option.map_some, w0, sp_get, w81, sr1, sr_sr, updS, gv7 hk10, gt7 hk10]
      refine ⟨by decide, ?_⟩
      rw [show (10 : Int32) = nI 10 from rfl, pk_rem (by omega) (by decide) (by decide), fa_upd_twice]
      have hI9 := Inv_9 (v := drZ (drZ (S 9))) hIS
      have et7 : upd S 9 (drZ (drZ (S 9))) (tr (nthF (mayN S (nv S 2)) (drN (drZ (S 9)) % pcn (mayN S (nv S 2)))) 7) = S (tr (nthF (mayN S (nv S 2)) (drN (drZ (S 9)) % pcn (mayN S (nv S 2)))) 7) := updN (by unfold tr; omega)
      have hw7 := (hIS.2.2.2.2.2.2.2.2.1 _ hkn).2.2.2.2.2.2.2.1
      have hw7l := hw7.2
      have n2 : nv (upd S 9 (drZ (drZ (S 9)))) 2 = nv S 2 := nv_ne (by decide)
      have n3 : nv (upd S 9 (drZ (drZ (S 9)))) 3 = nv S 3 := nv_ne (by decide)
      have n0 : nv (upd S 9 (drZ (drZ (S 9)))) 0 = nv S 0 := nv_ne (by decide)
      rw [et7, hw7.1, nI_lt_iff (by omega) (by omega)]
      generalize hkk : nthF (mayN S (nv S 2)) (drN (drZ (S 9)) % pcn (mayN S (nv S 2))) = k at *
      generalize hS1 : upd S 9 (drZ (drZ (S 9))) = S1 at *
      have fin : ∀ c S2 old x, Inv S2 → nv S2 3 = nv (σ.1 1) 3 → nv S2 0 ≤ 130 * (i + 1) → K (some (.int (nI (c + (friU f S2).1)))) (sr σ 1 (friU f S2).2) → PW 1 ev mM_friday 137 [.ref 0, .int (nI n), .int (nI were), .int (nI c), .int old, .int (nI i), .int (nI k), .int x] [] (sr σ 1 S2) K := by
        intro c S2 old x hI2 h32 h02 hk
        have hG' := hI2.2.1.1
        have hG2' := hG'.2
        refine PW_blk okM_friday 16 rfl SpM_ok ?_
        simp only [wL0, wLc, true_and, w2, lg0, lgi, lgr, lgl, w35, kM0, rM0, kM1, nM1, w0, w39, w54_2, q40, q41, q42, q43, q44, Option.toList_some, Option.toList_none, List.cons_append, List.nil_append, w4, ls00, ls0i, ls0r, ls0l, lsi, lsr, lsl, Option.map_some, w7, tn2, vi2_120, w70, sr1, hG'.1]
        refine R_mayBy (σ := sr σ 1 S2) (o := nv S2 2) hI2 (by omega) ?_
        simp only [wL0, wLc, true_and, w2, lg0, lgi, lgr, lgl, w35, kM0, rM0, kM1, nM1, w0, w39, w54_2, q40, q41, q42, q43, q44, Option.toList_some, Option.toList_none, List.cons_append, List.nil_append, w4, ls00, ls0i, ls0r, ls0l, lsi, lsr, lsl, Option.map_some, w7, tn2, vi2_120, w70, sr1]
        refine PW_loc 6 ?_
        rw [show (1 : Int32) = nI 1 from rfl, nI_add]
        exact ih (i + 1) c S2 (by omega) hI2 h32 h02 hk
      by_cases c3 : drN (drZ (drZ (S 9))) % 10 < nv S (tr k 7)
      · rw [if_pos c3] at hk
        refine b3Y c3 ?_
        refine PW_blk okM_friday 12 rfl SpM_ok ?_
        simp only [wL0, wLc, true_and, w0, w70]
        refine PW_blk okM_friday 14 rfl SpM_ok ?_
        simp only [wL0, wLc, true_and, w4, ls00, ls0i, ls0r, ls0l, lsi, lsr, lsl, Option.map_some, w1, lg0, lgi, lgr, lgl, w73]
        refine b3N (by decide) ?_
        exact fin c S1 _ _ hI9 (by rw [n3, h3S]) (by rw [n0]; omega) hk
      · rw [if_neg c3] at hk
        refine b3N c3 ?_
        refine PW_blk okM_friday 13 rfl SpM_ok ?_
        simp only [wL0, wLc, true_and, w0, w71]
        refine PW_blk okM_friday 14 rfl SpM_ok ?_
        simp only [wL0, wLc, true_and, w4, ls00, ls0i, ls0r, ls0l, lsi, lsr, lsl, Option.map_some, w1, lg0, lgi, lgr, lgl, w73]
        refine b3Y trivial ?_
        have htk := takes_le hI9 (k := k) (o := nv S1 2) (by rw [n3]; exact hkn)
        obtain ⟨g1, g2, g3⟩ := Inv_stS hI9 (k := k) (by rw [n3]; exact hkn) (by rw [n0]; omega)
        refine PW_blk okM_friday 15 rfl SpM_ok ?_
        simp only [wL0, wLc, true_and, w2, lg0, lgi, lgr, lgl, w1, w54_2, q40, q41, q42, q43, q44, Option.toList_some, Option.toList_none, List.cons_append, List.nil_append, w7, ls00, ls0i, ls0r, ls0l, lsi, lsr, lsl, Option.map_some, w71]
        refine R_comesOff (σ := sr σ 1 S1) hI9 (by rw [sr1, n3]; exact hkn) ?_
        simp only [wL0, wLc, true_and, w2, lg0, lgi, lgr, lgl, w1, w54_2, q40, q41, q42, q43, q44, Option.toList_some, Option.toList_none, List.cons_append, List.nil_append, w7, ls00, ls0i, ls0r, ls0l, lsi, lsr, lsl, Option.map_some, w71, sr1, sr_sr]
        rw [show (1 : Int32) = nI 1 from rfl, nI_add]
        refine fin (c + 1) _ _ _ g1 (by rw [ag_nv stS_ag (by decide), n3, h3S]) (by rw [g3, n0]; omega) ?_
        rw [show c + 1 + (friU f (stS S1 k)).1 = c + ((friU f (stS S1 k)).1 + 1) by omega]
        exact hk
  have nx := key n 0 0 (shS (σ.1 1)) (by omega) hIs (ag_nv (S := σ.1 1) (S' := shS (σ.1 1)) (fun i hi => by unfold shS; rw [updN (by omega), updN (by omega), updN (by omega)]) (by decide)) (by omega) (by rw [Nat.zero_add]; exact hkk)
  rw [e2] at nx
  exact nx
end MO
end
section
/-! feed, wipe, spots, sheets, images, count, status -/
def fdU (T : Nat → Int32) (τ : Nat) (b : Int32) (n : Nat) : Nat → Nat → Int32
  | 0 => T
  | i + 1 => upd (fdU T τ b n i) (τ + i) ((b >>> (nI (8 * (n - 1 - i)) &&& 31)) &&& 255)
theorem c80 {σ : St2} {r q r' : Nat → Int32} : sr (sr (sr σ 8 r) 0 q) 8 r' = sr (sr σ 8 r') 0 q := by rw [sr_comm (k := 0) (k' := 8) (by decide), sr_sr]
def upF (s : Nat) : Nat := if s = 5 then 1 else if s = 4 then 3 else if s = 3 then 2 else 0
def isU : Nat → Nat → Nat → Bool
  | 0, s, k => s == k
  | f + 1, s, k => s == k || (s != 0 && isU f (upF s) k)
theorem isU_s : ∀ s, s < 7 → ∀ k, k < 7 → s ≠ 0 → s ≠ k → isU 3 s k = isU 3 (upF s) k := by decide +kernel
theorem isU_e : ∀ k, k < 7 → isU 3 k k = true := by decide +kernel
theorem isU_0 : ∀ k, k < 7 → k ≠ 0 → isU 3 0 k = false := by decide +kernel
theorem abF_n : ∀ s, s < 7 → abF (nI s) = nI (upF s) := by decide +kernel
def nrw (w v : Int32) : Int32 := if w = 8 then v.toInt8.toInt32 else if w = 16 then v.toInt16.toInt32 else v
def clC (C : Nat → Int32) (a n : Nat) : Nat → Int32 := fun q => if a ≤ q ∧ q < a + n then 0 else C q
theorem clC_0 {C : Nat → Int32} {a : Nat} : clC C a 0 = C := by
  funext q
  unfold clC
  rw [if_neg (by omega)]
theorem clC_s {C : Nat → Int32} {a n : Nat} : upd (clC C a n) (a + n) 0 = clC C a (n + 1) := by
  funext q
  rw [updI]
  by_cases h : q = a + n
  · rw [if_pos h]
    unfold clC
    rw [if_pos (by omega)]
  · rw [if_neg h]
    unfold clC
    by_cases h2 : a ≤ q ∧ q < a + n
    · rw [if_pos h2, if_pos (by omega)]
    · rw [if_neg h2, if_neg (by omega)]
/-- n of D, from d on, laid into C from a on -/
def cpC (C D : Nat → Int32) (a d n : Nat) : Nat → Int32 := fun q => if a ≤ q ∧ q < a + n then D (d + (q - a)) else C q
theorem cpC_0 {C D : Nat → Int32} {a d : Nat} : cpC C D a d 0 = C := by
  funext q
  unfold cpC
  rw [if_neg (by omega)]
theorem cpC_s {C D : Nat → Int32} {a d n : Nat} : upd (cpC C D a d n) (a + n) (D (d + n)) = cpC C D a d (n + 1) := by
  funext q
  rw [updI]
  by_cases h : q = a + n
  · rw [if_pos h]
    unfold cpC
    rw [if_pos (by omega), show d + (q - a) = d + n by omega]
  · rw [if_neg h]
    unfold cpC
    by_cases h2 : a ≤ q ∧ q < a + n
    · rw [if_pos h2, if_pos (by omega)]
    · rw [if_neg h2, if_neg (by omega)]
def okL (S N C : Nat → Int32) (j n : Nat) : Prop := n < nv N j ∧ n < nv S 3 ∧ rgI (C (40 * j + n)) 1 60
def ldS (S C : Nat → Int32) (j : Nat) : Nat → Nat → Int32
  | 0 => S
  | i + 1 => upd (ldS S C j i) (tr i 1) (C (40 * j + i))
def jdU (C : Nat → Int32) (j o : Nat) : Nat → Nat
  | 0 => o
  | i + 1 => jdU C j o i ||| 2 ^ (C (40 * j + i)).toNatClampNeg
def okJ (S N C : Nat → Int32) (j n : Nat) : Prop := n < nv N j ∧ ∃ k, k < nv S 3 ∧ C (40 * j + n) = nI k ∧ (mayN S (jdU C j (nv S 2) n)).testBit k = true
def fsU (F : Nat → Int32) : Nat → Int32
  | 0 => 0
  | k + 1 => fsU F k + F k
theorem m1_ne {n : Nat} (h : n < 2147483648) : ¬ nI n = -1 := by
  intro e
  have h2 := nI_toInt (n := n) h
  rw [e, show (-1 : Int32).toInt = -1 from by decide] at h2
  omega
theorem lt0 {n : Nat} (h : n < 2147483648) : ¬ nI n < 0 := nI_nlt (a := n) (b := 0) (Nat.zero_le _) h
theorem ge0 {v : Int32} (h : ¬ v < 0) : ∃ n, n < 2147483648 ∧ v = nI n := by
  rw [fa_lt, show (0 : Int32).toInt = 0 from by decide] at h
  have h2 := Int32.toInt_lt v
  obtain ⟨n, -, h3, h4⟩ := rgI_toInt (v := v) (a := 0) (m := 2147483647) (by omega) (by omega)
  exact ⟨n, by omega, h4⟩
theorem sub_lt {a n c : Nat} (ha : a < 2147483648) (hn : n ≤ 40) (hc : c < 2147483648) : nI n - nI c < nI a ↔ n < a + c := by
  rw [fa_lt, nI_toInt ha, Int32.toInt_sub, nI_toInt (by omega), nI_toInt hc, Int.bmod_eq_of_le (by omega) (by omega)]
  omega
section MP
variable {ev : EV} {σ : St2} {K : PO}
theorem R_feed {b c : Int32} {τ : Nat} (ht : σ.1 0 11 = nI τ) (hτ : τ ≤ 120) (h1 : ¬ rgI c 1 4 → K (some (.int (-1000001))) (noS σ 0)) (h2 : ∀ n, 1 ≤ n → n ≤ 4 → c = nI n → 120 < τ + n → K (some (.int (-1000002))) (noS σ 1)) (h3 : ∀ n, 1 ≤ n → n ≤ 4 → c = nI n → τ + n ≤ 120 → K (some (.int (nI (τ + n)))) (sr (sr σ 8 (fdU (σ.1 8) τ b n n)) 0 (upd (σ.1 0) 11 (nI (τ + n))))) : Rn 1 ev mM_feed [.ref 0, .int b, .int c] σ K := by
  refine Rn_V (by decide) rc6 rfl rfl ?_
  refine PW_blk okM_feed 0 rfl SpM_ok ?_
  simp only [wL0, wLc, true_and, w1, lg0, lgi, lgr, lgl, w0, w55_3, q40, q41, q42, q43, q44, Option.toList_some, Option.toList_none, List.cons_append, List.nil_append, sp_in1, w73]
  by_cases hr : rgI c 1 4
  rotate_left
  · refine dN (in1N (a := 1) (by decide) (by decide) hr) ?_
    refine PW_blk okM_feed 1 rfl SpM_ok ?_
    simp only [wL0, wLc, true_and, w2, lg0, lgi, lgr, lgl, w0, w54_2, q40, q41, q42, q43, q44, Option.toList_some, Option.toList_none, List.cons_append, List.nil_append, sp_no, v7_0, v7_1, v7_2, v7_3, v7_4, v7_5, v7_6, w84]
    exact h1 hr
  refine dY (in1Y (a := 1) (by decide) hr) ?_
  obtain ⟨n, hn1, hn2, rfl⟩ := hr
  refine PW_blk okM_feed 2 rfl SpM_ok ?_
  simp only [wL0, wLc, true_and, w2, lg0, lgi, lgr, lgl, w33, kM0, w1, w11, w0, w83, ht]
  rw [nI_add, show (120 : Int32) = nI 120 from rfl, nI_lt_iff (by decide) (by omega)]
  by_cases hf : 120 < τ + n
  · refine b3Y hf ?_
    refine PW_blk okM_feed 3 rfl SpM_ok ?_
    simp only [wL0, wLc, true_and, w2, lg0, lgi, lgr, lgl, w0, w54_2, q40, q41, q42, q43, q44, Option.toList_some, Option.toList_none, List.cons_append, List.nil_append, sp_no, v7_0, v7_1, v7_2, v7_3, v7_4, v7_5, v7_6, w84]
    exact h2 n hn1 hn2 rfl hf
  refine b3N hf ?_
  refine PW_blk okM_feed 4 rfl SpM_ok ?_
  simp only [wL0, wLc, true_and, w1, lg0, lgi, lgr, lgl, w0, w12, w4, ls00, ls0i, ls0r, ls0l, lsi, lsr, lsl, Option.map_some, w71]
  have key := lp_up (n := n) (P := fun i => PW 1 ev mM_feed 36 [.ref 0, .int b, .int (nI n), .int (nI (n - i) - 1)] [] (sr (sr σ 8 (fdU (σ.1 8) τ b n i)) 0 (upd (σ.1 0) 11 (nI (τ + i)))) K) ?_ ?_ 0 (Nat.zero_le _)
  · have e : sr (sr σ 8 (fdU (σ.1 8) τ b n 0)) 0 (upd (σ.1 0) 11 (nI (τ + 0))) = σ := by
      rw [show fdU (σ.1 8) τ b n 0 = σ.1 8 from rfl, sr_self, Nat.add_zero, fa_upd_same ht, sr_self]
    rw [e] at key
    exact key
  · refine PW_blk okM_feed 5 rfl SpM_ok ?_
    simp only [wL0, wLc, true_and, w1, lg0, lgi, lgr, lgl, w74]
    refine b2Y (by rw [Nat.sub_self]; decide) ?_
    refine PW_blk okM_feed 7 rfl SpM_ok ?_
    simp only [wL0, wLc, true_and, w2, lg0, lgi, lgr, lgl, w33, kM0, w84, sr1, updS]
    exact h3 n hn1 hn2 rfl (by omega)
  · intro i hi ih
    obtain ⟨m, hm⟩ : ∃ m, n - i = m + 1 := ⟨n - i - 1, by omega⟩
    rw [hm, m1_s]
    refine PW_blk okM_feed 5 rfl SpM_ok ?_
    simp only [wL0, wLc, true_and, w1, lg0, lgi, lgr, lgl, w74]
    refine b2N (lt0 (by omega)) ?_
    have hv : vp_in (nI (τ + i)) 120 := vp_in_nI (by omega) (by decide)
    have cl : (nI (τ + i)).toNatClampNeg = τ + i := nI_clamp (by omega)
    have e1 : (1 : Int32) = nI 1 := rfl
    have e2 : n - (i + 1) = m := by omega
    have e3 : (b >>> ((8 : Int32) * nI m &&& 31)) &&& 255 = (b >>> (nI (8 * (n - 1 - i)) &&& 31)) &&& 255 := by
      rw [show (8 : Int32) = nI 8 from rfl, pk_mul, show n - 1 - i = m by omega]
    refine PW_blk okM_feed 6 rfl SpM_ok ?_
    simp only [wL0, wLc, true_and, w2, lg0, lgi, lgr, lgl, w35, kM0, rM10, kM8, nM8, w33, w1, w0, w13, w20, w16, w40, w8i, w8r, w11, w36, w7, ls00, ls0i, ls0r, ls0l, lsi, lsr, lsl, Option.map_some, tn1, tn8, w70, si_is, sr1, updS, n0_8, eq_true hv, cl, c80, sr_sr, e3, m1_add, fa_upd_twice]
    rw [e1, nI_add]
    rw [e2] at ih
    rw [← e1]
    exact ih
theorem R_wipe (hk : K (some (.int (σ.1 0 11))) (sr σ 0 (upd (σ.1 0) 11 0))) : Rn 1 ev mM_wipe [.ref 0] σ K := by
  refine Rn_V (by decide) rc6 rfl rfl ?_
  refine PW_blk okM_wipe 0 rfl SpM_ok ?_
  simp only [wL0, wLc, true_and, w2, lg0, lgi, lgr, lgl, w33, kM0, w4, ls00, ls0i, ls0r, ls0l, lsi, lsr, lsl, Option.map_some, w0, w36, w1, w84, si_is]
  exact hk
theorem R_hold {s l : Int32} (hI : Inv (σ.1 1)) (h1 : ¬ (rgI s 0 9 ∧ (l = -1 ∨ hasL (σ.1 1) l)) → K (some (.int (-1000001))) (noS σ 0)) (h2 : ∀ i, i ≤ 9 → s = nI i → (l = -1 ∨ hasL (σ.1 1) l) → K (some (.int 1)) (sr σ 1 (upd (σ.1 1) (110 + i) l))) : Rn 1 ev mM_hold [.ref 0, .int s, .int l] σ K := by
  refine Rn_V (by decide) rc6 rfl rfl ?_
  refine PW_blk okM_hold 0 rfl SpM_ok ?_
  simp only [wL0, wLc, true_and, w1, lg0, lgi, lgr, lgl, w55_1, q40, q41, q42, q43, q44, Option.toList_some, Option.toList_none, List.cons_append, List.nil_append, sp_isSpot, w72]
  by_cases hr : rgI s 0 9
  rotate_left
  · refine bN (in1N (a := 0) (by decide) (by decide) hr) ?_
    refine PW_blk okM_hold 3 rfl SpM_ok ?_
    simp only [wL0, wLc, true_and, w2, lg0, lgi, lgr, lgl, w0, w54_2, q40, q41, q42, q43, q44, Option.toList_some, Option.toList_none, List.cons_append, List.nil_append, sp_no, v7_0, v7_1, v7_2, v7_3, v7_4, v7_5, v7_6, w84]
    exact h1 (fun z => hr z.1)
  refine bY (in1Y (a := 0) (by decide) hr) ?_
  obtain ⟨i, -, hi, rfl⟩ := hr
  have ok : (l = -1 ∨ hasL (σ.1 1) l) → PW 1 ev mM_hold 26 [.ref 0, .int (nI i), .int l] [] σ K := by
    intro h
    refine PW_blk okM_hold 4 rfl SpM_ok ?_
    simp only [wL0, wLc, true_and, w2, lg0, lgi, lgr, lgl, w35, kM0, rM0, kM1, nM1, w0, w1, w11, w40, tn1, vi1_120, w84, si_is]
    rw [show (110 : Int32) = nI 110 from rfl, nI_add, nI_clamp (show 110 + i < 2 ^ 31 by omega)]
    exact ⟨vp_in_nI (by omega) (by decide), h2 i hi rfl h⟩
  refine PW_blk okM_hold 1 rfl SpM_ok ?_
  simp only [wL0, wLc, true_and, w1, lg0, lgi, lgr, lgl, w0, w78]
  by_cases h : l = -1
  · refine b2Y h ?_
    exact ok (Or.inl h)
  refine b2N h ?_
  refine PW_blk okM_hold 2 rfl SpM_ok ?_
  simp only [wL0, wLc, true_and, w2, lg0, lgi, lgr, lgl, w1, w54_2, q40, q41, q42, q43, q44, Option.toList_some, Option.toList_none, List.cons_append, List.nil_append, sp_isLock, w73]
  by_cases hl : hasL (σ.1 1) l
  · exact dY (in1LY hI.1 hl) (ok (Or.inr hl))
  · refine dN (in1LN hI.1 hl) ?_
    refine PW_blk okM_hold 3 rfl SpM_ok ?_
    simp only [wL0, wLc, true_and, w2, lg0, lgi, lgr, lgl, w0, w54_2, q40, q41, q42, q43, q44, Option.toList_some, Option.toList_none, List.cons_append, List.nil_append, sp_no, v7_0, v7_1, v7_2, v7_3, v7_4, v7_5, v7_6, w84]
    exact h1 (fun z => z.2.elim h hl)
theorem R_as {s c : Int32} (hI : Inv (σ.1 1)) (h1 : ¬ (rgI s 0 9 ∧ rgI c 0 6) → K (some (.int (-1000001))) (noS σ 0)) (h2 : ∀ i, i ≤ 9 → s = nI i → rgI c 0 6 → σ.1 1 (110 + i) = -1 → K (some (.int (-1000006))) (noS σ 5)) (h3 : ∀ i k d, i ≤ 9 → s = nI i → d ≤ 6 → c = nI d → k < nv (σ.1 1) 3 → σ.1 1 (110 + i) = nI k → isU 3 (nv (σ.1 1) (tr k 0)) d = true → K (some (.int (nI k))) σ) (h4 : ∀ i k d, i ≤ 9 → s = nI i → d ≤ 6 → c = nI d → k < nv (σ.1 1) 3 → σ.1 1 (110 + i) = nI k → isU 3 (nv (σ.1 1) (tr k 0)) d = false → K (some (.int (-1000003))) (noS σ 2)) : Rn 1 ev mM_as [.ref 0, .int s, .int c] σ K := by
  have hn := hI.1.2
  refine Rn_V (by decide) rc6 rfl rfl ?_
  refine PW_blk okM_as 0 rfl SpM_ok ?_
  simp only [wL0, wLc, true_and, w1, lg0, lgi, lgr, lgl, w55_1, q40, q41, q42, q43, q44, Option.toList_some, Option.toList_none, List.cons_append, List.nil_append, sp_isSpot, w72]
  by_cases hr : rgI s 0 9
  rotate_left
  · refine bN (in1N (a := 0) (by decide) (by decide) hr) ?_
    refine PW_blk okM_as 2 rfl SpM_ok ?_
    simp only [wL0, wLc, true_and, w2, lg0, lgi, lgr, lgl, w0, w54_2, q40, q41, q42, q43, q44, Option.toList_some, Option.toList_none, List.cons_append, List.nil_append, sp_no, v7_0, v7_1, v7_2, v7_3, v7_4, v7_5, v7_6, w84]
    exact h1 (fun z => hr z.1)
  refine bY (in1Y (a := 0) (by decide) hr) ?_
  refine PW_blk okM_as 1 rfl SpM_ok ?_
  simp only [wL0, wLc, true_and, w1, lg0, lgi, lgr, lgl, w0, w55_3, q40, q41, q42, q43, q44, Option.toList_some, Option.toList_none, List.cons_append, List.nil_append, sp_in1, w73]
  by_cases hd : rgI c 0 6
  rotate_left
  · refine dN (in1N (a := 0) (by decide) (by decide) hd) ?_
    refine PW_blk okM_as 2 rfl SpM_ok ?_
    simp only [wL0, wLc, true_and, w2, lg0, lgi, lgr, lgl, w0, w54_2, q40, q41, q42, q43, q44, Option.toList_some, Option.toList_none, List.cons_append, List.nil_append, sp_no, v7_0, v7_1, v7_2, v7_3, v7_4, v7_5, v7_6, w84]
    exact h1 (fun z => hd z.2)
  refine dY (in1Y (a := 0) (by decide) hd) ?_
  obtain ⟨i, -, hi, rfl⟩ := hr
  refine PW_blk okM_as 3 rfl SpM_ok ?_
  simp only [wL0, wLc, true_and, w2, lg0, lgi, lgr, lgl, w35, kM0, rM0, kM1, nM1, w0, w1, w11, w39, w4, ls00, ls0i, ls0r, ls0l, lsi, lsr, lsl, Option.map_some, w75]
  rw [show (110 : Int32) = nI 110 from rfl, nI_add, nI_clamp (show 110 + i < 2 ^ 31 by omega)]
  refine ⟨vp_in_nI (by omega) (by decide), ?_⟩
  rcases hI.2.2.2.2.2.2.2.2.2 i (by omega) with e | ⟨k, hk, e⟩
  · rw [e]
    refine b3Y (by decide) ?_
    refine PW_blk okM_as 4 rfl SpM_ok ?_
    simp only [wL0, wLc, true_and, w2, lg0, lgi, lgr, lgl, w0, w54_2, q40, q41, q42, q43, q44, Option.toList_some, Option.toList_none, List.cons_append, List.nil_append, sp_no, v7_0, v7_1, v7_2, v7_3, v7_4, v7_5, v7_6, w84]
    exact h2 i hi rfl hd e
  obtain ⟨d, -, hd, rfl⟩ := hd
  have h3 := h3 i k d hi rfl hd rfl hk e
  have h4 := h4 i k d hi rfl hd rfl hk e
  have hk10 : k < 10 := by omega
  have hs := (hI.2.2.2.2.2.2.2.2.1 k hk).1
  rw [e]
  refine b3N (lt0 (by omega)) ?_
  refine PW_blk okM_as 5 rfl SpM_ok ?_
  simp only [wL0, wLc, true_and, w2, lg0, lgi, lgr, lgl, w1, w0, w54_3, q40, q41, q42, q43, q44, Option.toList_some, Option.toList_none, List.cons_append, List.nil_append, sp_get, w4, ls00, ls0i, ls0r, ls0l, lsi, lsr, lsl, Option.map_some, w71, gv0 hk10, gt0 hk10, hs.1]
  have stop : ∀ a, a < 7 → (a = d ∨ a = 0) → isU 3 (nv (σ.1 1) (tr k 0)) d = isU 3 a d → PW 1 ev mM_as 72 [.ref 0, .int (nI i), .int (nI d), .int (nI k), .int (nI a)] [] σ K := by
    intro a ha hor he
    refine PW_blk okM_as 9 rfl SpM_ok ?_
    simp only [wL0, wLc, true_and, w1, lg0, lgi, lgr, lgl, w79]
    rw [nI_eq_iff (by omega) (by omega)]
    by_cases c : a = d
    · refine b3Y c ?_
      refine PW_blk okM_as 10 rfl SpM_ok ?_
      simp only [wL0, wLc, true_and, w1, lg0, lgi, lgr, lgl, w70]
      refine PW_blk okM_as 12 rfl SpM_ok ?_
      simp only [wL0, w84]
      subst c
      exact h3 (by rw [he]; exact isU_e a (by omega))
    · refine b3N c ?_
      refine PW_blk okM_as 11 rfl SpM_ok ?_
      simp only [wL0, wLc, true_and, w2, lg0, lgi, lgr, lgl, w0, w54_2, q40, q41, q42, q43, q44, Option.toList_some, Option.toList_none, List.cons_append, List.nil_append, sp_no, v7_0, v7_1, v7_2, v7_3, v7_4, v7_5, v7_6, w71]
      refine PW_blk okM_as 12 rfl SpM_ok ?_
      simp only [wL0, w84]
      have a0 := hor.resolve_left c
      subst a0
      exact h4 (by rw [he]; exact isU_0 d (by omega) (fun z => c z.symm))
  have step : ∀ a, a < 7 → (a ≠ 0 → isU 3 (nv (σ.1 1) (tr k 0)) d = isU 3 (upF a) d → PW 1 ev mM_as 51 [.ref 0, .int (nI i), .int (nI d), .int (nI k), .int (nI (upF a))] [] σ K) → isU 3 (nv (σ.1 1) (tr k 0)) d = isU 3 a d → PW 1 ev mM_as 51 [.ref 0, .int (nI i), .int (nI d), .int (nI k), .int (nI a)] [] σ K := by
    intro a ha nx he
    refine PW_blk okM_as 6 rfl SpM_ok ?_
    simp only [wL0, wLc, true_and, w1, lg0, lgi, lgr, lgl, w78]
    rw [nI_eq_iff (by omega) (by omega)]
    by_cases c : a = d
    · exact b2Y c (stop a ha (Or.inl c) he)
    refine b2N c ?_
    refine PW_blk okM_as 7 rfl SpM_ok ?_
    simp only [wL0, wLc, true_and, w1, lg0, lgi, lgr, lgl, w72]
    rw [nI_z (by omega)]
    by_cases c2 : a = 0
    · exact b2Y c2 (stop a ha (Or.inr c2) he)
    refine b2N c2 ?_
    refine PW_blk okM_as 8 rfl SpM_ok ?_
    simp only [wL0, wLc, true_and, w1, lg0, lgi, lgr, lgl, w55_1, q40, q41, q42, q43, q44, Option.toList_some, Option.toList_none, List.cons_append, List.nil_append, sp_above, w4, ls00, ls0i, ls0r, ls0l, lsi, lsr, lsl, Option.map_some, w70]
    rw [abF_n a ha]
    exact nx c2 (by rw [he]; exact isU_s a ha d (by omega) c2 c)
  have l0 := step 0 (by decide) (fun z => absurd rfl z)
  have l1 := step 1 (by decide) (fun _ => l0)
  have l2 := step 2 (by decide) (fun _ => l0)
  have l3 := step 3 (by decide) (fun _ => l2)
  have l4 := step 4 (by decide) (fun _ => l3)
  have l5 := step 5 (by decide) (fun _ => l1)
  have l6 := step 6 (by decide) (fun _ => l0)
  have hs6 := hs.2
  generalize nv (σ.1 1) (tr k 0) = a at *
  rcases (show a = 0 ∨ a = 1 ∨ a = 2 ∨ a = 3 ∨ a = 4 ∨ a = 5 ∨ a = 6 by omega) with rfl | rfl | rfl | rfl | rfl | rfl | rfl
  · exact l0 rfl
  · exact l1 rfl
  · exact l2 rfl
  · exact l3 rfl
  · exact l4 rfl
  · exact l5 rfl
  · exact l6 rfl
theorem R_sheet {s b n : Int32} (h1 : ¬ (rgI s 0 3 ∧ (b = 0 ∨ b = 8 ∨ b = 16 ∨ b = 32)) → K (some (.int (-1000001))) (noS σ 0)) (h2 : rgI s 0 3 → (b = 0 ∨ b = 8 ∨ b = 16 ∨ b = 32) → n < 0 → K (some (.int (-1000007))) (noS σ 6)) (h3 : rgI s 0 3 → (b = 0 ∨ b = 8 ∨ b = 16 ∨ b = 32) → 40 < n → K (some (.int (-1000001))) (noS σ 0)) (h4 : ∀ j m, j ≤ 3 → s = nI j → (b = 0 ∨ b = 8 ∨ b = 16 ∨ b = 32) → m ≤ 40 → n = nI m → K (some (.int (if b = 0 then 0 else nI m))) (sr (sr (sr σ 13 (upd (σ.1 13) j b)) 14 (upd (σ.1 14) j (if b = 0 then 0 else nI m))) 15 (clC (σ.1 15) (40 * j) 40))) : Rn 1 ev mM_sheet [.ref 0, .int s, .int b, .int n] σ K := by
  refine Rn_V (by decide) rc6 rfl rfl ?_
  refine PW_blk okM_sheet 0 rfl SpM_ok ?_
  simp only [wL0, wLc, true_and, w1, lg0, lgi, lgr, lgl, w55_1, q40, q41, q42, q43, q44, Option.toList_some, Option.toList_none, List.cons_append, List.nil_append, sp_isSheet, w72]
  by_cases hr : rgI s 0 3
  rotate_left
  · refine bN (in1N (a := 0) (by decide) (by decide) hr) ?_
    refine PW_blk okM_sheet 5 rfl SpM_ok ?_
    simp only [wL0, wLc, true_and, w2, lg0, lgi, lgr, lgl, w0, w54_2, q40, q41, q42, q43, q44, Option.toList_some, Option.toList_none, List.cons_append, List.nil_append, sp_no, v7_0, v7_1, v7_2, v7_3, v7_4, v7_5, v7_6, w84]
    exact h1 (fun z => hr z.1)
  refine bY (in1Y (a := 0) (by decide) hr) ?_
  have ok : (b = 0 ∨ b = 8 ∨ b = 16 ∨ b = 32) → PW 1 ev mM_sheet 35 [.ref 0, .int s, .int b, .int n] [] σ K := by
    intro hb
    refine PW_blk okM_sheet 6 rfl SpM_ok ?_
    simp only [wL0, wLc, true_and, w1, lg0, lgi, lgr, lgl, w75]
    by_cases c1 : n < 0
    · refine b3Y c1 ?_
      refine PW_blk okM_sheet 7 rfl SpM_ok ?_
      simp only [wL0, wLc, true_and, w2, lg0, lgi, lgr, lgl, w0, w54_2, q40, q41, q42, q43, q44, Option.toList_some, Option.toList_none, List.cons_append, List.nil_append, sp_no, v7_0, v7_1, v7_2, v7_3, v7_4, v7_5, v7_6, w84]
      exact h2 hr hb c1
    refine b3N c1 ?_
    refine PW_blk okM_sheet 8 rfl SpM_ok ?_
    simp only [wL0, wLc, true_and, w1, lg0, lgi, lgr, lgl, w0, w83]
    by_cases c2 : 40 < n
    · refine b3Y c2 ?_
      refine PW_blk okM_sheet 9 rfl SpM_ok ?_
      simp only [wL0, wLc, true_and, w2, lg0, lgi, lgr, lgl, w0, w54_2, q40, q41, q42, q43, q44, Option.toList_some, Option.toList_none, List.cons_append, List.nil_append, sp_no, v7_0, v7_1, v7_2, v7_3, v7_4, v7_5, v7_6, w84]
      exact h3 hr hb c2
    refine b3N c2 ?_
    obtain ⟨m, hm, rfl⟩ := ge0 c1
    rw [show (40 : Int32) = nI 40 from rfl, nI_lt_iff (by decide) hm] at c2
    obtain ⟨j, -, hj, rfl⟩ := hr
    have hkk := h4 j m hj rfl hb (by omega) rfl
    have hv : vp_in (nI j) 4 := vp_in_nI (by omega) (by decide)
    have cl : (nI j).toNatClampNeg = j := nI_clamp (by omega)
    have fin : ∀ x, x = (if b = 0 then 0 else nI m) → PW 1 ev mM_sheet 79 [.ref 0, .int (nI j), .int b, .int (nI m)] [.int x, .int (nI j), .ref 14] (sr σ 13 (upd (σ.1 13) j b)) K := by
      intro x hx
      subst hx
      refine PW_blk okM_sheet 13 rfl SpM_ok ?_
      simp only [wL0, wLc, true_and, w40, w0, w4, ls00, ls0i, ls0r, ls0l, lsi, lsr, lsl, Option.map_some, tn0, w71, si_is, kM14, nM14, eq_true hv, cl, n13_14]
      have key := lp_up (n := 40) (P := fun i => PW 1 ev mM_sheet 83 [.ref 0, .int (nI j), .int b, .int (nI m), .int (nI i)] [] (sr (sr (sr σ 13 (upd (σ.1 13) j b)) 14 (upd (σ.1 14) j (if b = 0 then 0 else nI m))) 15 (clC (σ.1 15) (40 * j) i)) K) ?_ ?_ 0 (by decide)
      · rw [clC_0] at key
        have e : sr (sr (sr σ 13 (upd (σ.1 13) j b)) 14 (upd (σ.1 14) j (if b = 0 then 0 else nI m))) 15 (σ.1 15) = sr (sr σ 13 (upd (σ.1 13) j b)) 14 (upd (σ.1 14) j (if b = 0 then 0 else nI m)) := sr_eq (by rw [n14_15, n13_15])
        rw [e] at key
        exact key
      · refine PW_blk okM_sheet 14 rfl SpM_ok ?_
        simp only [wL0, wLc, true_and, w1, lg0, lgi, lgr, lgl, w0, w81]
        refine b3N (by decide) ?_
        refine PW_blk okM_sheet 16 rfl SpM_ok ?_
        simp only [wL0, wLc, true_and, w2, lg0, lgi, lgr, lgl, w35, kM0, rM21, kM14, nM14, w1, w39, w84, n15_14, sr1, eq_true hv, cl, updS]
        exact hkk
      · intro i hi ih
        have hv2 : vp_in (nI (40 * j + i)) 160 := vp_in_nI (by omega) (by decide)
        have cl2 : (nI (40 * j + i)).toNatClampNeg = 40 * j + i := nI_clamp (by omega)
        have e40 : (40 : Int32) * nI j + nI i = nI (40 * j + i) := by rw [show (40 : Int32) = nI 40 from rfl, pk_mul, nI_add]
        refine PW_blk okM_sheet 14 rfl SpM_ok ?_
        simp only [wL0, wLc, true_and, w1, lg0, lgi, lgr, lgl, w0, w81]
        refine b3Y (nI_lt hi (by decide)) ?_
        refine PW_blk okM_sheet 15 rfl SpM_ok ?_
        simp only [wL0, wLc, true_and, w2, lg0, lgi, lgr, lgl, w35, kM0, rM22, kM15, nM15, w0, w1, w13, w11, w40, w7, ls00, ls0i, ls0r, ls0l, lsi, lsr, lsl, Option.map_some, tn0, w70, e40, eq_true hv2, cl2, si_sr, clC_s]
        rw [show (1 : Int32) = nI 1 from rfl, nI_add]
        exact ih
    refine PW_blk okM_sheet 10 rfl SpM_ok ?_
    simp only [wL0, wLc, true_and, w2, lg0, lgi, lgr, lgl, w35, kM0, rM20, kM13, nM13, w1, w40, rM21, kM14, nM14, w73, si_is, sr1, eq_true hv, cl]
    by_cases c3 : b = 0
    · refine b3Y c3 ?_
      refine PW_blk okM_sheet 11 rfl SpM_ok ?_
      simp only [wL0, wLc, true_and, w0, w70]
      exact fin 0 (by rw [if_pos c3])
    · refine b3N c3 ?_
      refine PW_blk okM_sheet 12 rfl SpM_ok ?_
      simp only [wL0, wLc, true_and, w1, lg0, lgi, lgr, lgl, w71]
      exact fin (nI m) (by rw [if_neg c3])
  refine PW_blk okM_sheet 1 rfl SpM_ok ?_
  simp only [wL0, wLc, true_and, w1, lg0, lgi, lgr, lgl, w72]
  by_cases d0 : b = 0
  · exact b2Y d0 (ok (Or.inl d0))
  refine b2N d0 ?_
  refine PW_blk okM_sheet 2 rfl SpM_ok ?_
  simp only [wL0, wLc, true_and, w1, lg0, lgi, lgr, lgl, w0, w78]
  by_cases d1 : b = 8
  · exact b2Y d1 (ok (Or.inr (Or.inl d1)))
  refine b2N d1 ?_
  refine PW_blk okM_sheet 3 rfl SpM_ok ?_
  simp only [wL0, wLc, true_and, w1, lg0, lgi, lgr, lgl, w0, w78]
  by_cases d2 : b = 16
  · exact b2Y d2 (ok (Or.inr (Or.inr (Or.inl d2))))
  refine b2N d2 ?_
  refine PW_blk okM_sheet 4 rfl SpM_ok ?_
  simp only [wL0, wLc, true_and, w1, lg0, lgi, lgr, lgl, w0, w78]
  by_cases d3 : b = 32
  · exact b2Y d3 (ok (Or.inr (Or.inr (Or.inr d3))))
  refine b2N d3 ?_
  refine PW_blk okM_sheet 5 rfl SpM_ok ?_
  simp only [wL0, wLc, true_and, w2, lg0, lgi, lgr, lgl, w0, w54_2, q40, q41, q42, q43, q44, Option.toList_some, Option.toList_none, List.cons_append, List.nil_append, sp_no, v7_0, v7_1, v7_2, v7_3, v7_4, v7_5, v7_6, w84]
  exact h1 (fun z => by rcases z.2 with z | z | z | z; exact d0 z; exact d1 z; exact d2 z; exact d3 z)
theorem R_write {s i v : Int32} (hSh : ShI (σ.1 13) (σ.1 14)) (h1 : ¬ rgI s 0 3 → K (some (.int (-1000001))) (noS σ 0)) (h2 : ∀ j, j < 4 → s = nI j → σ.1 13 j = 0 → K (some (.int (-1000006))) (noS σ 5)) (h3 : ∀ j, j < 4 → s = nI j → ¬ σ.1 13 j = 0 → (¬ ∃ q, q < nv (σ.1 14) j ∧ i = nI q) → K (some (.int (-1000001))) (noS σ 0)) (h4 : ∀ j q, j < 4 → s = nI j → ¬ σ.1 13 j = 0 → q < nv (σ.1 14) j → i = nI q → K (some (.int 1)) (sr σ 15 (upd (σ.1 15) (40 * j + q) (nrw (σ.1 13 j) v)))) : Rn 1 ev mM_write [.ref 0, .int s, .int i, .int v] σ K := by
  refine Rn_V (by decide) rc6 rfl rfl ?_
  refine PW_blk okM_write 0 rfl SpM_ok ?_
  simp only [wL0, wLc, true_and, w2, lg0, lgi, lgr, lgl, w1, w54_2, q40, q41, q42, q43, q44, Option.toList_some, Option.toList_none, List.cons_append, List.nil_append, w4, ls00, ls0i, ls0r, ls0l, lsi, lsr, lsl, Option.map_some, w75]
  refine R_wrongSheet (fun a => ?_) (fun j a b c => ?_) (fun j hj e c => ?_)
  · simp only [wL0, wLc, true_and, w2, lg0, lgi, lgr, lgl, w1, w54_2, q40, q41, q42, q43, q44, Option.toList_some, Option.toList_none, List.cons_append, List.nil_append, w4, ls00, ls0i, ls0r, ls0l, lsi, lsr, lsl, Option.map_some, w75]
    refine b3N (by decide) ?_
    refine PW_blk okM_write 3 rfl SpM_ok ?_
    simp only [wL0, wLc, true_and, w1, lg0, lgi, lgr, lgl, w74]
    refine b2N (by decide) ?_
    refine PW_blk okM_write 4 rfl SpM_ok ?_
    simp only [wL0, wLc, true_and, w2, lg0, lgi, lgr, lgl, w1, w54_2, q40, q41, q42, q43, q44, Option.toList_some, Option.toList_none, List.cons_append, List.nil_append, sp_no, v7_0, v7_1, v7_2, v7_3, v7_4, v7_5, v7_6, w84]
    exact h1 a
  · simp only [wL0, wLc, true_and, w2, lg0, lgi, lgr, lgl, w1, w54_2, q40, q41, q42, q43, q44, Option.toList_some, Option.toList_none, List.cons_append, List.nil_append, w4, ls00, ls0i, ls0r, ls0l, lsi, lsr, lsl, Option.map_some, w75]
    refine b3N (by decide) ?_
    refine PW_blk okM_write 3 rfl SpM_ok ?_
    simp only [wL0, wLc, true_and, w1, lg0, lgi, lgr, lgl, w74]
    refine b2N (by decide) ?_
    refine PW_blk okM_write 4 rfl SpM_ok ?_
    simp only [wL0, wLc, true_and, w2, lg0, lgi, lgr, lgl, w1, w54_2, q40, q41, q42, q43, q44, Option.toList_some, Option.toList_none, List.cons_append, List.nil_append, sp_no, v7_0, v7_1, v7_2, v7_3, v7_4, v7_5, v7_6, w84]
    exact h2 j a b c
  · subst e
    simp only [wL0, wLc, true_and, w2, lg0, lgi, lgr, lgl, w1, w54_2, q40, q41, q42, q43, q44, Option.toList_some, Option.toList_none, List.cons_append, List.nil_append, w4, ls00, ls0i, ls0r, ls0l, lsi, lsr, lsl, Option.map_some, w75]
    refine b3Y (by decide) ?_
    have hN := (hSh j hj).2
    have hN2 := hN.2
    have hv : vp_in (nI j) 4 := vp_in_nI hj (by decide)
    have cl : (nI j).toNatClampNeg = j := nI_clamp (by omega)
    refine PW_blk okM_write 1 rfl SpM_ok ?_
    simp only [wL0, wLc, true_and, w1, lg0, lgi, lgr, lgl, w0, w2, w35, kM0, rM21, kM14, nM14, w39, w12, w55_3, q40, q41, q42, q43, q44, Option.toList_some, Option.toList_none, List.cons_append, List.nil_append, sp_in1, tn0, tn1, w73, eq_true hv, cl]
    have hS3 : rg (fun q => if q = 3 then σ.1 14 j else 0) 3 10 ∨ True := Or.inr trivial
    by_cases hq : ∃ q, q < nv (σ.1 14) j ∧ i = nI q
    rotate_left
    · refine dN (by
        rw [hN.1]
        rcases Nat.eq_zero_or_pos (nv (σ.1 14) j) with z | z
        · rw [z]
          unfold in1F
          by_cases q1 : i < 0
          · rw [if_pos q1]
          · rw [if_neg q1, if_pos]
            rw [fa_lt] at q1 ⊢
            have e0 : (0 : Int32).toInt = 0 := by decide
            have e1 : (nI 0 - 1).toInt = -1 := by decide
            omega
        · rw [m1_pos z]
          refine in1N (a := 0) (by omega) (by decide) (fun hh => ?_)
          obtain ⟨n, a1, a2, e⟩ := hh
          exact hq ⟨n, by omega, e⟩) ?_
      refine PW_blk okM_write 2 rfl SpM_ok ?_
      simp only [wL0, wLc, true_and, w0, w4, ls00, ls0i, ls0r, ls0l, lsi, lsr, lsl, Option.map_some, w71]
      refine PW_blk okM_write 3 rfl SpM_ok ?_
      simp only [wL0, wLc, true_and, w1, lg0, lgi, lgr, lgl, w74]
      refine b2N (by decide) ?_
      refine PW_blk okM_write 4 rfl SpM_ok ?_
      simp only [wL0, wLc, true_and, w2, lg0, lgi, lgr, lgl, w1, w54_2, q40, q41, q42, q43, q44, Option.toList_some, Option.toList_none, List.cons_append, List.nil_append, sp_no, v7_0, v7_1, v7_2, v7_3, v7_4, v7_5, v7_6, w84]
      exact h3 j hj rfl c hq
    · obtain ⟨q, hq1, rfl⟩ := hq
      refine dY (by
        rw [hN.1, m1_pos (by omega)]
        exact in1Y (a := 0) (by omega) ⟨q, Nat.zero_le _, by omega, rfl⟩) ?_
      have hkk := h4 j q hj rfl c hq1 rfl
      unfold nrw at hkk
      have hv2 : vp_in (nI (40 * j + q)) 160 := vp_in_nI (by omega) (by decide)
      have cl2 : (nI (40 * j + q)).toNatClampNeg = 40 * j + q := nI_clamp (by omega)
      have e40 : (40 : Int32) * nI j + nI q = nI (40 * j + q) := by rw [show (40 : Int32) = nI 40 from rfl, pk_mul, nI_add]
      have fin : ∀ x, K (some (.int 1)) (sr σ 15 (upd (σ.1 15) (40 * j + q) x)) → PW 1 ev mM_write 86 [.ref 0, .int (nI j), .int (nI q), .int v, .int (-1)] [.int x, .int (nI (40 * j + q)), .ref 15] σ K := by
        intro x hx
        refine PW_blk okM_write 10 rfl SpM_ok ?_
        simp only [wL0, wLc, true_and, w40, w0, tn1, w84, si_is, kM15, nM15, eq_true hv2, cl2]
        exact hx
      refine PW_blk okM_write 3 rfl SpM_ok ?_
      simp only [wL0, wLc, true_and, w1, lg0, lgi, lgr, lgl, w74]
      refine b2Y (by decide) ?_
      refine PW_blk okM_write 5 rfl SpM_ok ?_
      simp only [wL0, wLc, true_and, w2, lg0, lgi, lgr, lgl, w35, kM0, rM22, kM15, nM15, w0, w1, w13, w11, rM20, kM13, nM13, w39, tn8, w79, e40, eq_true hv, cl]
      by_cases ew8 : σ.1 13 j = 8
      · rw [if_pos ew8] at hkk
        refine b3Y ew8 ?_
        refine PW_blk okM_write 6 rfl SpM_ok ?_
        simp only [wL0, wLc, true_and, w1, lg0, lgi, lgr, lgl, w30, w70]
        exact fin _ hkk
      rw [if_neg ew8] at hkk
      refine b3N ew8 ?_
      refine PW_blk okM_write 7 rfl SpM_ok ?_
      simp only [wL0, wLc, true_and, w2, lg0, lgi, lgr, lgl, w35, kM0, rM20, kM13, nM13, w1, w39, w0, w79, eq_true hv, cl]
      by_cases ew16 : σ.1 13 j = 16
      · rw [if_pos ew16] at hkk
        refine b3Y ew16 ?_
        refine PW_blk okM_write 8 rfl SpM_ok ?_
        simp only [wL0, wLc, true_and, w1, lg0, lgi, lgr, lgl, w31, w70]
        exact fin _ hkk
      rw [if_neg ew16] at hkk
      refine b3N ew16 ?_
      refine PW_blk okM_write 9 rfl SpM_ok ?_
      simp only [wL0, wLc, true_and, w1, lg0, lgi, lgr, lgl, w71]
      exact fin _ hkk
theorem R_copy {s a t b n : Int32} (hSh : ShI (σ.1 13) (σ.1 14)) (h1 : ¬ (rgI s 0 3 ∧ rgI t 0 3) → K (some (.int (-1000001))) (noS σ 0)) (h2 : ∀ j l, j < 4 → l < 4 → s = nI j → t = nI l → (σ.1 13 j = 0 ∨ σ.1 13 l = 0) → K (some (.int (-1000006))) (noS σ 5)) (h3 : ∀ j l, j < 4 → l < 4 → s = nI j → t = nI l → ¬ (σ.1 13 j = 0 ∨ σ.1 13 l = 0) → ¬ σ.1 13 j = σ.1 13 l → K (some (.int (-1000003))) (noS σ 2)) (h4 : ∀ j l, j < 4 → l < 4 → s = nI j → t = nI l → ¬ (σ.1 13 j = 0 ∨ σ.1 13 l = 0) → σ.1 13 j = σ.1 13 l → (¬ ∃ p q c, a = nI p ∧ b = nI q ∧ n = nI c ∧ p + c ≤ nv (σ.1 14) j ∧ q + c ≤ nv (σ.1 14) l) → K (some (.int (-1000001))) (noS σ 0)) (h5 : ∀ j l p q c, j < 4 → l < 4 → s = nI j → t = nI l → ¬ (σ.1 13 j = 0 ∨ σ.1 13 l = 0) → σ.1 13 j = σ.1 13 l → a = nI p → b = nI q → n = nI c → p + c ≤ nv (σ.1 14) j → q + c ≤ nv (σ.1 14) l → ∀ r, K (some (.int (nI c))) (sr (sr σ 16 r) 15 (cpC (σ.1 15) (σ.1 15) (40 * l + q) (40 * j + p) c))) : Rn 1 ev mM_copy [.ref 0, .int s, .int a, .int t, .int b, .int n] σ K := by
  refine Rn_V (by decide) rc6 rfl rfl ?_
  refine PW_blk okM_copy 0 rfl SpM_ok ?_
  simp only [wL0, wLc, true_and, w1, lg0, lgi, lgr, lgl, w55_1, q40, q41, q42, q43, q44, Option.toList_some, Option.toList_none, List.cons_append, List.nil_append, sp_isSheet, w72]
  by_cases hr : rgI s 0 3
  rotate_left
  · refine bN (in1N (a := 0) (by decide) (by decide) hr) ?_
    refine PW_blk okM_copy 2 rfl SpM_ok ?_
    simp only [wL0, wLc, true_and, w2, lg0, lgi, lgr, lgl, w0, w54_2, q40, q41, q42, q43, q44, Option.toList_some, Option.toList_none, List.cons_append, List.nil_append, sp_no, v7_0, v7_1, v7_2, v7_3, v7_4, v7_5, v7_6, w84]
    exact h1 (fun z => hr z.1)
  refine bY (in1Y (a := 0) (by decide) hr) ?_
  refine PW_blk okM_copy 1 rfl SpM_ok ?_
  simp only [wL0, wLc, true_and, w1, lg0, lgi, lgr, lgl, w55_1, q40, q41, q42, q43, q44, Option.toList_some, Option.toList_none, List.cons_append, List.nil_append, sp_isSheet, w73]
  by_cases hr2 : rgI t 0 3
  rotate_left
  · refine dN (in1N (a := 0) (by decide) (by decide) hr2) ?_
    refine PW_blk okM_copy 2 rfl SpM_ok ?_
    simp only [wL0, wLc, true_and, w2, lg0, lgi, lgr, lgl, w0, w54_2, q40, q41, q42, q43, q44, Option.toList_some, Option.toList_none, List.cons_append, List.nil_append, sp_no, v7_0, v7_1, v7_2, v7_3, v7_4, v7_5, v7_6, w84]
    exact h1 (fun z => hr2 z.2)
  refine dY (in1Y (a := 0) (by decide) hr2) ?_
  obtain ⟨j, -, hj, rfl⟩ := hr
  obtain ⟨l, -, hl, rfl⟩ := hr2
  have h2 := h2 j l (by omega) (by omega) rfl rfl
  have h3 := h3 j l (by omega) (by omega) rfl rfl
  have h4 := h4 j l (by omega) (by omega) rfl rfl
  have h5 := fun p q c => h5 j l p q c (by omega) (by omega) rfl rfl
  have hvj : vp_in (nI j) 4 := vp_in_nI (by omega) (by decide)
  have clj : (nI j).toNatClampNeg = j := nI_clamp (by omega)
  have hvl : vp_in (nI l) 4 := vp_in_nI (by omega) (by decide)
  have cll : (nI l).toNatClampNeg = l := nI_clamp (by omega)
  have hNj := (hSh j (by omega)).2
  have hNl := (hSh l (by omega)).2
  have hNj2 := hNj.2
  have hNl2 := hNl.2
  refine PW_blk okM_copy 3 rfl SpM_ok ?_
  simp only [wL0, wLc, true_and, w2, lg0, lgi, lgr, lgl, w35, kM0, rM20, kM13, nM13, w1, w39, w72, eq_true hvj, clj]
  by_cases ew1 : σ.1 13 j = 0
  · refine b2Y ew1 ?_
    refine PW_blk okM_copy 5 rfl SpM_ok ?_
    simp only [wL0, wLc, true_and, w2, lg0, lgi, lgr, lgl, w0, w54_2, q40, q41, q42, q43, q44, Option.toList_some, Option.toList_none, List.cons_append, List.nil_append, sp_no, v7_0, v7_1, v7_2, v7_3, v7_4, v7_5, v7_6, w84]
    exact h2 (Or.inl ew1)
  refine b2N ew1 ?_
  refine PW_blk okM_copy 4 rfl SpM_ok ?_
  simp only [wL0, wLc, true_and, w2, lg0, lgi, lgr, lgl, w35, kM0, rM20, kM13, nM13, w1, w39, w73, eq_true hvl, cll]
  by_cases ew2 : σ.1 13 l = 0
  · refine b3Y ew2 ?_
    refine PW_blk okM_copy 5 rfl SpM_ok ?_
    simp only [wL0, wLc, true_and, w2, lg0, lgi, lgr, lgl, w0, w54_2, q40, q41, q42, q43, q44, Option.toList_some, Option.toList_none, List.cons_append, List.nil_append, sp_no, v7_0, v7_1, v7_2, v7_3, v7_4, v7_5, v7_6, w84]
    exact h2 (Or.inr ew2)
  refine b3N ew2 ?_
  have hw : ¬ (σ.1 13 j = 0 ∨ σ.1 13 l = 0) := fun z => z.elim ew1 ew2
  refine PW_blk okM_copy 6 rfl SpM_ok ?_
  simp only [wL0, wLc, true_and, w2, lg0, lgi, lgr, lgl, w35, kM0, rM20, kM13, nM13, w1, w39, w78, eq_true hvl, eq_true hvj, cll, clj]
  by_cases ew3 : σ.1 13 j = σ.1 13 l
  rotate_left
  · refine b2N ew3 ?_
    refine PW_blk okM_copy 7 rfl SpM_ok ?_
    simp only [wL0, wLc, true_and, w2, lg0, lgi, lgr, lgl, w0, w54_2, q40, q41, q42, q43, q44, Option.toList_some, Option.toList_none, List.cons_append, List.nil_append, sp_no, v7_0, v7_1, v7_2, v7_3, v7_4, v7_5, v7_6, w84]
    exact h3 hw ew3
  refine b2Y ew3 ?_
  have bad : (¬ ∃ p q c, a = nI p ∧ b = nI q ∧ n = nI c ∧ p + c ≤ nv (σ.1 14) j ∧ q + c ≤ nv (σ.1 14) l) → PW 1 ev mM_copy 106 [.ref 0, .int (nI j), .int a, .int (nI l), .int b, .int n] [] σ K := by
    intro h
    refine PW_blk okM_copy 13 rfl SpM_ok ?_
    simp only [wL0, wLc, true_and, w2, lg0, lgi, lgr, lgl, w0, w54_2, q40, q41, q42, q43, q44, Option.toList_some, Option.toList_none, List.cons_append, List.nil_append, sp_no, v7_0, v7_1, v7_2, v7_3, v7_4, v7_5, v7_6, w84]
    exact h4 hw ew3 h
  have fit : ∀ p c x, p + c ≤ x → x ≤ 40 → p < 2147483648 ∧ c < 2147483648 := fun p c x h h2 => ⟨by omega, by omega⟩
  refine PW_blk okM_copy 8 rfl SpM_ok ?_
  simp only [wL0, wLc, true_and, w1, lg0, lgi, lgr, lgl, w74]
  by_cases c1 : n < 0
  · refine b2Y c1 ?_
    exact bad (fun ⟨p, q, c, x, y, z, u, v⟩ => by rw [z] at c1; exact lt0 (by omega) c1)
  refine b2N c1 ?_
  refine PW_blk okM_copy 9 rfl SpM_ok ?_
  simp only [wL0, wLc, true_and, w1, lg0, lgi, lgr, lgl, w74]
  by_cases c2 : a < 0
  · refine b2Y c2 ?_
    exact bad (fun ⟨p, q, c, x, y, z, u, v⟩ => by rw [x] at c2; exact lt0 (by omega) c2)
  refine b2N c2 ?_
  refine PW_blk okM_copy 10 rfl SpM_ok ?_
  simp only [wL0, wLc, true_and, w1, lg0, lgi, lgr, lgl, w74]
  by_cases c3 : b < 0
  · refine b2Y c3 ?_
    exact bad (fun ⟨p, q, c, x, y, z, u, v⟩ => by rw [y] at c3; exact lt0 (by omega) c3)
  refine b2N c3 ?_
  obtain ⟨c, hc, rfl⟩ := ge0 c1
  obtain ⟨p, hp, rfl⟩ := ge0 c2
  obtain ⟨q, hq, rfl⟩ := ge0 c3
  refine PW_blk okM_copy 11 rfl SpM_ok ?_
  simp only [wL0, wLc, true_and, w1, lg0, lgi, lgr, lgl, w2, w35, kM0, rM21, kM14, nM14, w39, w12, w82, eq_true hvj, clj, hNj.1]
  rw [sub_lt hp hNj2 hc]
  by_cases c4 : nv (σ.1 14) j < p + c
  · refine b2Y c4 ?_
    refine bad (fun ⟨p', q', c', x, y, z, u, v⟩ => ?_)
    rw [nI_eq_iff hp (by omega)] at x
    rw [nI_eq_iff hc (by omega)] at z
    omega
  refine b2N c4 ?_
  refine PW_blk okM_copy 12 rfl SpM_ok ?_
  simp only [wL0, wLc, true_and, w1, lg0, lgi, lgr, lgl, w2, w35, kM0, rM21, kM14, nM14, w39, w12, w83, eq_true hvl, cll, hNl.1]
  rw [sub_lt hq hNl2 hc]
  by_cases c5 : nv (σ.1 14) l < q + c
  · refine b3Y c5 ?_
    refine bad (fun ⟨p', q', c', x, y, z, u, v⟩ => ?_)
    rw [nI_eq_iff hq (by omega)] at y
    rw [nI_eq_iff hc (by omega)] at z
    omega
  refine b3N c5 ?_
  have h5 := h5 p q c hw ew3 rfl rfl rfl (by omega) (by omega)
  have eJ : ∀ i, (40 : Int32) * nI j + nI p + nI i = nI (40 * j + p + i) := fun i => by rw [show (40 : Int32) = nI 40 from rfl, pk_mul, nI_add, nI_add]
  have eL : ∀ i, (40 : Int32) * nI l + nI q + nI i = nI (40 * l + q + i) := fun i => by rw [show (40 : Int32) = nI 40 from rfl, pk_mul, nI_add, nI_add]
  refine PW_blk okM_copy 14 rfl SpM_ok ?_
  simp only [wL0, wLc, true_and, w0, w4, ls00, ls0i, ls0r, ls0l, lsi, lsr, lsl, Option.map_some, w71]
  have key := lp_up (n := c) (P := fun i => ∀ r, (∀ u, u < i → r u = σ.1 15 (40 * j + p + u)) → PW 1 ev mM_copy 115 [.ref 0, .int (nI j), .int (nI p), .int (nI l), .int (nI q), .int (nI c), .int (nI i)] [] (sr σ 16 r) K) ?_ ?_ 0 (Nat.zero_le _) (σ.1 16) (fun u h => absurd h (Nat.not_lt_zero u))
  · rw [sr_self] at key
    exact key
  · intro r hr
    refine PW_blk okM_copy 15 rfl SpM_ok ?_
    simp only [wL0, wLc, true_and, w1, lg0, lgi, lgr, lgl, w81]
    refine b3N (nI_nlt (Nat.le_refl _) (by omega)) ?_
    refine PW_blk okM_copy 17 rfl SpM_ok ?_
    simp only [wL0, wLc, true_and, w0, w4, ls00, ls0i, ls0r, ls0l, lsi, lsr, lsl, Option.map_some, w71]
    have k2 := lp_up (n := c) (P := fun i => PW 1 ev mM_copy 152 [.ref 0, .int (nI j), .int (nI p), .int (nI l), .int (nI q), .int (nI c), .int (nI i)] [] (sr (sr σ 16 r) 15 (cpC (σ.1 15) (σ.1 15) (40 * l + q) (40 * j + p) i)) K) ?_ ?_ 0 (Nat.zero_le _)
    · rw [cpC_0, sr_eq (σ := sr σ 16 r) (by rw [n16_15])] at k2
      exact k2
    · refine PW_blk okM_copy 18 rfl SpM_ok ?_
      simp only [wL0, wLc, true_and, w1, lg0, lgi, lgr, lgl, w81]
      refine b3N (nI_nlt (Nat.le_refl _) (by omega)) ?_
      refine PW_blk okM_copy 20 rfl SpM_ok ?_
      simp only [wL0, wLc, true_and, w1, lg0, lgi, lgr, lgl, w84]
      exact h5 r
    · intro i hi ih
      have hv : vp_in (nI i) 40 := vp_in_nI (by omega) (by decide)
      have cl : (nI i).toNatClampNeg = i := nI_clamp (by omega)
      have hv2 : vp_in (nI (40 * l + q + i)) 160 := vp_in_nI (by omega) (by decide)
      have cl2 : (nI (40 * l + q + i)).toNatClampNeg = 40 * l + q + i := nI_clamp (by omega)
      refine PW_blk okM_copy 18 rfl SpM_ok ?_
      simp only [wL0, wLc, true_and, w1, lg0, lgi, lgr, lgl, w81]
      refine b3Y (nI_lt hi (by omega)) ?_
      refine PW_blk okM_copy 19 rfl SpM_ok ?_
      simp only [wL0, wLc, true_and, w2, lg0, lgi, lgr, lgl, w35, kM0, rM22, kM15, nM15, w0, w1, w13, w11, rM23, kM16, nM16, w39, w40, w7, ls00, ls0i, ls0r, ls0l, lsi, lsr, lsl, Option.map_some, w70, eL i, eq_true hv, eq_true hv2, cl, cl2, n15_16, sr1, hr i hi, si_sr, cpC_s]
      rw [show (1 : Int32) = nI 1 from rfl, nI_add]
      exact ih
  · intro i hi ih r hr
    have hv : vp_in (nI i) 40 := vp_in_nI (by omega) (by decide)
    have cl : (nI i).toNatClampNeg = i := nI_clamp (by omega)
    have hv2 : vp_in (nI (40 * j + p + i)) 160 := vp_in_nI (by omega) (by decide)
    have cl2 : (nI (40 * j + p + i)).toNatClampNeg = 40 * j + p + i := nI_clamp (by omega)
    refine PW_blk okM_copy 15 rfl SpM_ok ?_
    simp only [wL0, wLc, true_and, w1, lg0, lgi, lgr, lgl, w81]
    refine b3Y (nI_lt hi (by omega)) ?_
    refine PW_blk okM_copy 16 rfl SpM_ok ?_
    simp only [wL0, wLc, true_and, w2, lg0, lgi, lgr, lgl, w35, kM0, rM23, kM16, nM16, w1, rM22, kM15, nM15, w0, w13, w11, w39, w40, w7, ls00, ls0i, ls0r, ls0l, lsi, lsr, lsl, Option.map_some, w70, eJ i, eq_true hv, eq_true hv2, cl, cl2, n16_15, si_sr]
    rw [show (1 : Int32) = nI 1 from rfl, nI_add]
    refine ih _ (fun u hu => ?_)
    by_cases e : u = i
    · subst e; exact updS
    · rw [updN e]; exact hr u (by omega)
end MP
end
section
/-! load, judge, images, count, status -/
theorem ldS_ag {S C : Nat → Int32} {j : Nat} : ∀ i x, (∀ k, k < i → x ≠ tr k 1) → ldS S C j i x = S x
  | 0, _, _ => rfl
  | i + 1, x, h => by
    unfold ldS
    rw [updN (h i (by omega))]
    exact ldS_ag i x (fun k hk => h k (by omega))
theorem jdU_ok {S N C : Nat → Int32} {j : Nat} (hI : Inv S) : ∀ c, (∀ i, i < c → okJ S N C j i) → jdU C j (nv S 2) c < 2 ^ nv S 3
  | 0, _ => hI.2.1.2
  | c + 1, h => by
    have hn := hI.1.2
    have ih := jdU_ok (j := j) hI c (fun i hi => h i (by omega))
    obtain ⟨-, k, hk, e, -⟩ := h c (by omega)
    unfold jdU
    rw [e, nI_clamp (show k < 2 ^ 31 by omega)]
    exact or_lt ih hk
theorem in1m {v : Int32} {m : Nat} (hm : m < 2147483648) (h : v = -1 ∨ rgI v 0 m) : in1F v (-1) (nI m) = 1 := by
  unfold in1F
  rcases h with h | ⟨n, -, hn, h⟩
  · subst h
    rw [if_neg (by decide), if_neg]
    rw [fa_lt, nI_toInt hm, show (-1 : Int32).toInt = -1 from by decide]
    omega
  · subst h
    rw [if_neg, if_neg (nI_nlt hn hm)]
    rw [fa_lt, nI_toInt (by omega), show (-1 : Int32).toInt = -1 from by decide]
    omega
theorem in1m' {v : Int32} {m : Nat} (hm : m < 2147483648) (h : ¬ (v = -1 ∨ rgI v 0 m)) : in1F v (-1) (nI m) = 0 := by
  unfold in1F
  by_cases h1 : v < -1
  · rw [if_pos h1]
  · rw [if_neg h1]
    by_cases h2 : nI m < v
    · rw [if_pos h2]
    · exfalso
      rw [fa_lt, show (-1 : Int32).toInt = -1 from by decide] at h1
      rw [fa_lt, nI_toInt hm] at h2
      by_cases e : v = -1
      · exact h (Or.inl e)
      · have e2 : v.toInt ≠ -1 := fun z => e ((fa_eq v (-1)).mpr (by rw [z]; decide))
        exact h (Or.inr (rgI_toInt (by omega) (by omega)))
section MQ
variable {ev : EV} {σ : St2} {K : PO}
theorem R_load {s : Int32} (hI : Inv (σ.1 1)) (hSh : ShI (σ.1 13) (σ.1 14)) (h1 : ¬ rgI s 0 3 → K (some (.int (-1000001))) (noS σ 0)) (h2 : ∀ j, j < 4 → s = nI j → σ.1 13 j = 0 → K (some (.int (-1000006))) (noS σ 5)) (h3 : ∀ j c, j < 4 → s = nI j → ¬ σ.1 13 j = 0 → (∀ i, i < c → okL (σ.1 1) (σ.1 14) (σ.1 15) j i) → ¬ okL (σ.1 1) (σ.1 14) (σ.1 15) j c → K (some (.int (nI c))) (sr σ 1 (ldS (σ.1 1) (σ.1 15) j c))) : Rn 1 ev mM_load [.ref 0, .int s] σ K := by
  have hn := hI.1.2
  refine Rn_V (by decide) rc6 rfl rfl ?_
  refine PW_blk okM_load 0 rfl SpM_ok ?_
  simp only [wL0, wLc, true_and, w2, lg0, lgi, lgr, lgl, w1, w54_2, q40, q41, q42, q43, q44, Option.toList_some, Option.toList_none, List.cons_append, List.nil_append, w4, ls00, ls0i, ls0r, ls0l, lsi, lsr, lsl, Option.map_some, w74]
  refine R_wrongSheet (fun a => ?_) (fun j a b c => ?_) (fun j hj e c => ?_)
  · simp only [wL0, wLc, true_and, w2, lg0, lgi, lgr, lgl, w1, w54_2, q40, q41, q42, q43, q44, Option.toList_some, Option.toList_none, List.cons_append, List.nil_append, w4, ls00, ls0i, ls0r, ls0l, lsi, lsr, lsl, Option.map_some, w74]
    refine b2N (by decide) ?_
    refine PW_blk okM_load 1 rfl SpM_ok ?_
    simp only [wL0, wLc, true_and, w2, lg0, lgi, lgr, lgl, w1, w54_2, q40, q41, q42, q43, q44, Option.toList_some, Option.toList_none, List.cons_append, List.nil_append, sp_no, v7_0, v7_1, v7_2, v7_3, v7_4, v7_5, v7_6, w84]
    exact h1 a
  · simp only [wL0, wLc, true_and, w2, lg0, lgi, lgr, lgl, w1, w54_2, q40, q41, q42, q43, q44, Option.toList_some, Option.toList_none, List.cons_append, List.nil_append, w4, ls00, ls0i, ls0r, ls0l, lsi, lsr, lsl, Option.map_some, w74]
    refine b2N (by decide) ?_
    refine PW_blk okM_load 1 rfl SpM_ok ?_
    simp only [wL0, wLc, true_and, w2, lg0, lgi, lgr, lgl, w1, w54_2, q40, q41, q42, q43, q44, Option.toList_some, Option.toList_none, List.cons_append, List.nil_append, sp_no, v7_0, v7_1, v7_2, v7_3, v7_4, v7_5, v7_6, w84]
    exact h2 j a b c
  · subst e
    simp only [wL0, wLc, true_and, w2, lg0, lgi, lgr, lgl, w1, w54_2, q40, q41, q42, q43, q44, Option.toList_some, Option.toList_none, List.cons_append, List.nil_append, w4, ls00, ls0i, ls0r, ls0l, lsi, lsr, lsl, Option.map_some, w74]
    refine b2Y (by decide) ?_
    have hN := (hSh j hj).2
    have hN2 := hN.2
    have hv : vp_in (nI j) 4 := vp_in_nI hj (by decide)
    have cl : (nI j).toNatClampNeg = j := nI_clamp (by omega)
    refine PW_blk okM_load 2 rfl SpM_ok ?_
    simp only [wL0, wLc, true_and, w0, w4, ls00, ls0i, ls0r, ls0l, lsi, lsr, lsl, Option.map_some, w71]
    have key := lp_up (n := 11) (P := fun i => (∀ q, q < i → okL (σ.1 1) (σ.1 14) (σ.1 15) j q) → PW 1 ev mM_load 18 [.ref 0, .int (nI j), .int (-1), .int (nI i)] [] (sr σ 1 (ldS (σ.1 1) (σ.1 15) j i)) K) ?_ ?_ 0 (by decide) (fun q h => absurd h (Nat.not_lt_zero q))
    · rw [show ldS (σ.1 1) (σ.1 15) j 0 = σ.1 1 from rfl, sr_self] at key
      exact key
    · intro h
      have := (h 10 (by decide)).2.1
      omega
    · intro i hi ih h
      have e3 : ldS (σ.1 1) (σ.1 15) j i 3 = nI (nv (σ.1 1) 3) := by rw [ldS_ag i 3 (fun k _ => n3_tr)]; exact hI.1.1
      have n3 : nv (ldS (σ.1 1) (σ.1 15) j i) 3 = nv (σ.1 1) 3 := nv_of e3 (by omega)
      have hr3 : rg (ldS (σ.1 1) (σ.1 15) j i) 3 10 := ⟨by rw [n3]; exact e3, by rw [n3]; exact hn⟩
      have stop : ¬ okL (σ.1 1) (σ.1 14) (σ.1 15) j i → PW 1 ev mM_load 79 [.ref 0, .int (nI j), .int (-1), .int (nI i)] [] (sr σ 1 (ldS (σ.1 1) (σ.1 15) j i)) K := by
        intro hno
        refine PW_blk okM_load 7 rfl SpM_ok ?_
        simp only [wL0, wLc, true_and, w1, lg0, lgi, lgr, lgl, w84]
        exact h3 j i hj rfl c h hno
      refine PW_blk okM_load 3 rfl SpM_ok ?_
      simp only [wL0, wLc, true_and, w1, lg0, lgi, lgr, lgl, w2, w35, kM0, rM21, kM14, nM14, w39, w81, n1_14, eq_true hv, cl, hN.1]
      by_cases c1 : i < nv (σ.1 14) j
      rotate_left
      · exact b3N (nI_nlt (by omega) (by omega)) (stop (fun z => c1 z.1))
      refine b3Y (nI_lt c1 (by omega)) ?_
      refine PW_blk okM_load 4 rfl SpM_ok ?_
      simp only [wL0, wLc, true_and, w2, lg0, lgi, lgr, lgl, w1, w54_2, q40, q41, q42, q43, q44, Option.toList_some, Option.toList_none, List.cons_append, List.nil_append, sp_isLock, w72, sr1]
      by_cases c2 : i < nv (σ.1 1) 3
      rotate_left
      · refine bN (in1LN hr3 (fun ⟨k, a, b⟩ => ?_)) (stop (fun z => c2 z.2.1))
        rw [nI_eq_iff (by omega) (by omega)] at b
        omega
      refine bY (in1LY hr3 ⟨i, by omega, rfl⟩) ?_
      have hv2 : vp_in (nI (40 * j + i)) 160 := vp_in_nI (by omega) (by decide)
      have cl2 : (nI (40 * j + i)).toNatClampNeg = 40 * j + i := nI_clamp (by omega)
      have e40 : (40 : Int32) * nI j + nI i = nI (40 * j + i) := by rw [show (40 : Int32) = nI 40 from rfl, pk_mul, nI_add]
      refine PW_blk okM_load 5 rfl SpM_ok ?_
      simp only [wL0, wLc, true_and, w2, lg0, lgi, lgr, lgl, w35, kM0, rM22, kM15, nM15, w0, w1, w13, w11, w39, w55_3, q40, q41, q42, q43, q44, Option.toList_some, Option.toList_none, List.cons_append, List.nil_append, sp_in1, tn1, w72, n1_15, e40, eq_true hv2, cl2]
      by_cases c3 : rgI (σ.1 15 (40 * j + i)) 1 60
      rotate_left
      · exact bN (in1N (a := 1) (by decide) (by decide) c3) (stop (fun z => c3 z.2.2))
      refine bY (in1Y (a := 1) (by decide) c3) ?_
      have hi10 : i < 10 := by omega
      refine PW_blk okM_load 6 rfl SpM_ok ?_
      simp only [wL0, wLc, true_and, w2, lg0, lgi, lgr, lgl, w1, w0, w35, kM0, rM22, kM15, nM15, w13, w11, w39, w54_4, q40, q41, q42, q43, q44, Option.toList_some, Option.toList_none, List.cons_append, List.nil_append, sp_puts, w7, ls00, ls0i, ls0r, ls0l, lsi, lsr, lsl, Option.map_some, tn1, w70, n1_15, e40, eq_true hv2, cl2, gv1 hi10, gt1 hi10, si_sr]
      rw [show (1 : Int32) = nI 1 from rfl, nI_add]
      refine ih (fun q hq => ?_)
      by_cases e : q = i
      · subst e; exact ⟨c1, c2, c3⟩
      · exact h q (by omega)
theorem R_judge {s : Int32} (hI : Inv (σ.1 1)) (hSh : ShI (σ.1 13) (σ.1 14)) (h1 : ¬ rgI s 0 3 → K (some (.int (-1000001))) (noS σ 0)) (h2 : ∀ j, j < 4 → s = nI j → σ.1 13 j = 0 → K (some (.int (-1000006))) (noS σ 5)) (h3 : ∀ j c, j < 4 → s = nI j → ¬ σ.1 13 j = 0 → (∀ i, i < c → okJ (σ.1 1) (σ.1 14) (σ.1 15) j i) → ¬ okJ (σ.1 1) (σ.1 14) (σ.1 15) j c → K (some (.int (if c = nv (σ.1 14) j then 0 else nI (1 + c)))) σ) : Rn 1 ev mM_judge [.ref 0, .int s] σ K := by
  have hn := hI.1.2
  have hT := p2le _ hn
  have hG := hI.2.1.1
  refine Rn_V (by decide) rc6 rfl rfl ?_
  refine PW_blk okM_judge 0 rfl SpM_ok ?_
  simp only [wL0, wLc, true_and, w2, lg0, lgi, lgr, lgl, w1, w54_2, q40, q41, q42, q43, q44, Option.toList_some, Option.toList_none, List.cons_append, List.nil_append, w4, ls00, ls0i, ls0r, ls0l, lsi, lsr, lsl, Option.map_some, w74]
  refine R_wrongSheet (fun a => ?_) (fun j a b c => ?_) (fun j hj e c => ?_)
  · simp only [wL0, wLc, true_and, w2, lg0, lgi, lgr, lgl, w1, w54_2, q40, q41, q42, q43, q44, Option.toList_some, Option.toList_none, List.cons_append, List.nil_append, w4, ls00, ls0i, ls0r, ls0l, lsi, lsr, lsl, Option.map_some, w74]
    refine b2N (by decide) ?_
    refine PW_blk okM_judge 1 rfl SpM_ok ?_
    simp only [wL0, wLc, true_and, w2, lg0, lgi, lgr, lgl, w1, w54_2, q40, q41, q42, q43, q44, Option.toList_some, Option.toList_none, List.cons_append, List.nil_append, sp_no, v7_0, v7_1, v7_2, v7_3, v7_4, v7_5, v7_6, w84]
    exact h1 a
  · simp only [wL0, wLc, true_and, w2, lg0, lgi, lgr, lgl, w1, w54_2, q40, q41, q42, q43, q44, Option.toList_some, Option.toList_none, List.cons_append, List.nil_append, w4, ls00, ls0i, ls0r, ls0l, lsi, lsr, lsl, Option.map_some, w74]
    refine b2N (by decide) ?_
    refine PW_blk okM_judge 1 rfl SpM_ok ?_
    simp only [wL0, wLc, true_and, w2, lg0, lgi, lgr, lgl, w1, w54_2, q40, q41, q42, q43, q44, Option.toList_some, Option.toList_none, List.cons_append, List.nil_append, sp_no, v7_0, v7_1, v7_2, v7_3, v7_4, v7_5, v7_6, w84]
    exact h2 j a b c
  · subst e
    simp only [wL0, wLc, true_and, w2, lg0, lgi, lgr, lgl, w1, w54_2, q40, q41, q42, q43, q44, Option.toList_some, Option.toList_none, List.cons_append, List.nil_append, w4, ls00, ls0i, ls0r, ls0l, lsi, lsr, lsl, Option.map_some, w74]
    refine b2Y (by decide) ?_
    have hN := (hSh j hj).2
    have hN2 := hN.2
    have hv : vp_in (nI j) 4 := vp_in_nI hj (by decide)
    have cl : (nI j).toNatClampNeg = j := nI_clamp (by omega)
    refine PW_blk okM_judge 2 rfl SpM_ok ?_
    simp only [wL0, wLc, true_and, w2, lg0, lgi, lgr, lgl, w35, kM0, rM0, kM1, nM1, w0, w39, w4, ls00, ls0i, ls0r, ls0l, lsi, lsr, lsl, Option.map_some, tn0, vi0_120, tn2, vi2_120, w71, hG.1]
    have key := lp_up (n := 41) (P := fun i => (∀ q, q < i → okJ (σ.1 1) (σ.1 14) (σ.1 15) j q) → PW 1 ev mM_judge 26 [.ref 0, .int (nI j), .int (-1), .int (nI (jdU (σ.1 15) j (nv (σ.1 1) 2) i)), .int (nI i)] [] σ K) ?_ ?_ 0 (by decide) (fun q h => absurd h (Nat.not_lt_zero q))
    · exact key
    · intro h
      have := (h 40 (by decide)).1
      omega
    · intro i hi ih h
      have hjd := jdU_ok (j := j) hI i h
      have stop : ¬ okJ (σ.1 1) (σ.1 14) (σ.1 15) j i → PW 1 ev mM_judge 102 [.ref 0, .int (nI j), .int (-1), .int (nI (jdU (σ.1 15) j (nv (σ.1 1) 2) i)), .int (nI i)] [] σ K := by
        intro hno
        have hkk := h3 j i hj rfl c h hno
        refine PW_blk okM_judge 7 rfl SpM_ok ?_
        simp only [wL0, wLc, true_and, w1, lg0, lgi, lgr, lgl, w2, w35, kM0, rM21, kM14, nM14, w39, w79, eq_true hv, cl, hN.1]
        rw [nI_eq_iff (by omega) (by omega)]
        by_cases e : i = nv (σ.1 14) j
        · rw [if_pos e] at hkk
          refine b3Y e ?_
          refine PW_blk okM_judge 8 rfl SpM_ok ?_
          simp only [wL0, wLc, true_and, w0, w70]
          refine PW_blk okM_judge 10 rfl SpM_ok ?_
          simp only [wL0, w84]
          exact hkk
        · rw [if_neg e] at hkk
          refine b3N e ?_
          refine PW_blk okM_judge 9 rfl SpM_ok ?_
          simp only [wL0, wLc, true_and, w0, w1, lg0, lgi, lgr, lgl, w11, w71]
          refine PW_blk okM_judge 10 rfl SpM_ok ?_
          simp only [wL0, w84]
          rw [show (1 : Int32) = nI 1 from rfl, nI_add]
          exact hkk
      refine PW_blk okM_judge 3 rfl SpM_ok ?_
      simp only [wL0, wLc, true_and, w1, lg0, lgi, lgr, lgl, w2, w35, kM0, rM21, kM14, nM14, w39, w81, eq_true hv, cl, hN.1]
      by_cases c1 : i < nv (σ.1 14) j
      rotate_left
      · exact b3N (nI_nlt (by omega) (by omega)) (stop (fun z => c1 z.1))
      refine b3Y (nI_lt c1 (by omega)) ?_
      have hv2 : vp_in (nI (40 * j + i)) 160 := vp_in_nI (by omega) (by decide)
      have cl2 : (nI (40 * j + i)).toNatClampNeg = 40 * j + i := nI_clamp (by omega)
      have e40 : (40 : Int32) * nI j + nI i = nI (40 * j + i) := by rw [show (40 : Int32) = nI 40 from rfl, pk_mul, nI_add]
      refine PW_blk okM_judge 4 rfl SpM_ok ?_
      simp only [wL0, wLc, true_and, w2, lg0, lgi, lgr, lgl, w35, kM0, rM22, kM15, nM15, w0, w1, w13, w11, w39, w54_2, q40, q41, q42, q43, q44, Option.toList_some, Option.toList_none, List.cons_append, List.nil_append, sp_isLock, w72, e40, eq_true hv2, cl2]
      by_cases c2 : hasL (σ.1 1) (σ.1 15 (40 * j + i))
      rotate_left
      · exact bN (in1LN hI.1 c2) (stop (fun ⟨_, k, a, b, _⟩ => c2 ⟨k, a, b⟩))
      refine bY (in1LY hI.1 c2) ?_
      obtain ⟨k, hk, ek⟩ := c2
      have hml := mayN_lt (σ.1 1) (jdU (σ.1 15) j (nv (σ.1 1) 2) i)
      refine PW_blk okM_judge 5 rfl SpM_ok ?_
      simp only [wL0, wLc, true_and, w2, lg0, lgi, lgr, lgl, w1, w54_2, q40, q41, q42, q43, q44, Option.toList_some, Option.toList_none, List.cons_append, List.nil_append, w35, kM0, rM22, kM15, nM15, w0, w13, w11, w39, w55_2, sp_isIn, w72]
      refine R_mayBy hI (by omega) ?_
      simp only [wL0, wLc, true_and, w2, lg0, lgi, lgr, lgl, w1, w54_2, q40, q41, q42, q43, q44, Option.toList_some, Option.toList_none, List.cons_append, List.nil_append, w35, kM0, rM22, kM15, nM15, w0, w13, w11, w39, w55_2, sp_isIn, w72, e40, eq_true hv2, cl2, ek]
      rw [isInF_n (by omega) (by omega)]
      by_cases c3 : (mayN (σ.1 1) (jdU (σ.1 15) j (nv (σ.1 1) 2) i)).testBit k = true
      rotate_left
      · refine bN (if_neg c3) (stop (fun ⟨_, k', a, b, d⟩ => ?_))
        rw [ek, nI_eq_iff (by omega) (by omega)] at b
        subst b
        exact c3 d
      refine bY (if_pos c3) ?_
      have ej : jdU (σ.1 15) j (nv (σ.1 1) 2) (i + 1) = jdU (σ.1 15) j (nv (σ.1 1) 2) i ||| 2 ^ k := by
        show _ ||| 2 ^ (σ.1 15 (40 * j + i)).toNatClampNeg = _
        rw [ek, nI_clamp (show k < 2 ^ 31 by omega)]
      rw [ej] at ih
      refine PW_blk okM_judge 6 rfl SpM_ok ?_
      simp only [wL0, wLc, true_and, w1, lg0, lgi, lgr, lgl, w0, w2, w35, kM0, rM22, kM15, nM15, w13, w11, w39, w19, w17, w4, ls00, ls0i, ls0r, ls0l, lsi, lsr, lsl, Option.map_some, w7, tn1, w70, e40, eq_true hv2, cl2, ek, nI_sh1 k (by omega), fa_or]
      rw [show (1 : Int32) = nI 1 from rfl, nI_add]
      refine ih (fun q hq => ?_)
      by_cases e : q = i
      · subst e; exact ⟨c1, k, hk, ek, c3⟩
      · exact h q (by omega)
theorem R_image (hk : K (some (.int 1)) (sr (sr σ 2 (fa_fill (σ.1 1) (σ.1 2) 120)) 0 (upd (σ.1 0) 3 1))) : Rn 1 ev mM_image [.ref 0] σ K := by
  refine Rn_V (by decide) rc6 rfl rfl ?_
  refine PW_blk okM_image 0 rfl SpM_ok ?_
  simp only [wL0, wLc, true_and, w0, w4, ls00, ls0i, ls0r, ls0l, lsi, lsr, lsl, Option.map_some, w71]
  have key := lp_up (n := 120) (P := fun i => PW 1 ev mM_image 2 [.ref 0, .int (nI i)] [] (sr σ 2 (fa_fill (σ.1 1) (σ.1 2) i)) K) ?_ ?_ 0 (by decide)
  · rw [fa_fill_0, sr_self] at key
    exact key
  · refine PW_blk okM_image 1 rfl SpM_ok ?_
    simp only [wL0, wLc, true_and, w1, lg0, lgi, lgr, lgl, w0, w81]
    refine b3N (by decide) ?_
    refine PW_blk okM_image 3 rfl SpM_ok ?_
    simp only [wL0, wLc, true_and, w2, lg0, lgi, lgr, lgl, w0, w37, kM0, w84, si_is, n2_0]
    exact ⟨Or.inr trivial, hk⟩
  · intro i hi ih
    refine PW_blk okM_image 1 rfl SpM_ok ?_
    simp only [wL0, wLc, true_and, w1, lg0, lgi, lgr, lgl, w0, w81]
    refine b3Y (nI_lt hi (by decide)) ?_
    refine PW_blk okM_image 2 rfl SpM_ok ?_
    simp only [wL0, wLc, true_and, w2, lg0, lgi, lgr, lgl, w35, kM0, rM1, kM2, nM2, w1, rM0, kM1, nM1, w39, w40, w7, ls00, ls0i, ls0r, ls0l, lsi, lsr, lsl, Option.map_some, w70, n2_1, eq_true (vp_in_nI (show i < 120 by omega) (by decide)), nI_clamp (show i < 2 ^ 31 by omega), si_sr, fa_fill_succ]
    rw [show (1 : Int32) = nI 1 from rfl, nI_add]
    exact ih
theorem R_undo (h1 : σ.1 0 3 = 0 → K (some (.int (-1000004))) (noS σ 3)) (h2 : ¬ σ.1 0 3 = 0 → K (some (.int (σ.1 2 0))) (sr σ 1 (fa_fill (σ.1 2) (σ.1 1) 120))) : Rn 1 ev mM_undo [.ref 0] σ K := by
  refine Rn_V (by decide) rc6 rfl rfl ?_
  refine PW_blk okM_undo 0 rfl SpM_ok ?_
  simp only [wL0, wLc, true_and, w2, lg0, lgi, lgr, lgl, w33, kM0, w73]
  by_cases h : σ.1 0 3 = 0
  · refine b3Y h ?_
    refine PW_blk okM_undo 1 rfl SpM_ok ?_
    simp only [wL0, wLc, true_and, w2, lg0, lgi, lgr, lgl, w0, w54_2, q40, q41, q42, q43, q44, Option.toList_some, Option.toList_none, List.cons_append, List.nil_append, sp_no, v7_0, v7_1, v7_2, v7_3, v7_4, v7_5, v7_6, w84]
    exact h1 h
  refine b3N h ?_
  refine PW_blk okM_undo 2 rfl SpM_ok ?_
  simp only [wL0, wLc, true_and, w0, w4, ls00, ls0i, ls0r, ls0l, lsi, lsr, lsl, Option.map_some, w71]
  have key := lp_up (n := 120) (P := fun i => PW 1 ev mM_undo 15 [.ref 0, .int (nI i)] [] (sr σ 1 (fa_fill (σ.1 2) (σ.1 1) i)) K) ?_ ?_ 0 (by decide)
  · rw [fa_fill_0, sr_self] at key
    exact key
  · refine PW_blk okM_undo 3 rfl SpM_ok ?_
    simp only [wL0, wLc, true_and, w1, lg0, lgi, lgr, lgl, w0, w81]
    refine b3N (by decide) ?_
    refine PW_blk okM_undo 5 rfl SpM_ok ?_
    simp only [wL0, wLc, true_and, w2, lg0, lgi, lgr, lgl, w35, kM0, rM0, kM1, nM1, w0, w39, tn0, vi0_120, w84, sr1]
    rw [fa_fill_in (by decide)]
    exact h2 h
  · intro i hi ih
    refine PW_blk okM_undo 3 rfl SpM_ok ?_
    simp only [wL0, wLc, true_and, w1, lg0, lgi, lgr, lgl, w0, w81]
    refine b3Y (nI_lt hi (by decide)) ?_
    refine PW_blk okM_undo 4 rfl SpM_ok ?_
    simp only [wL0, wLc, true_and, w2, lg0, lgi, lgr, lgl, w35, kM0, rM0, kM1, nM1, w1, rM1, kM2, nM2, w39, w40, w7, ls00, ls0i, ls0r, ls0l, lsi, lsr, lsl, Option.map_some, w70, n1_2, eq_true (vp_in_nI (show i < 120 by omega) (by decide)), nI_clamp (show i < 2 ^ 31 by omega), si_sr, fa_fill_succ]
    rw [show (1 : Int32) = nI 1 from rfl, nI_add]
    exact ih
theorem R_tear (hk : K (some (.int (if σ.1 0 3 = 0 then 0 else 1))) (sr σ 0 (upd (σ.1 0) 3 0))) : Rn 1 ev mM_tear [.ref 0] σ K := by
  refine Rn_V (by decide) rc6 rfl rfl ?_
  refine PW_blk okM_tear 0 rfl SpM_ok ?_
  simp only [wL0, wLc, true_and, w2, lg0, lgi, lgr, lgl, w33, kM0, w72]
  by_cases h : σ.1 0 3 = 0
  · rw [if_pos h] at hk
    refine b2Y h ?_
    refine PW_blk okM_tear 2 rfl SpM_ok ?_
    simp only [wL0, wLc, true_and, w0, w71]
    refine PW_blk okM_tear 3 rfl SpM_ok ?_
    simp only [wL0, wLc, true_and, w4, ls00, ls0i, ls0r, ls0l, lsi, lsr, lsl, Option.map_some, w2, lg0, lgi, lgr, lgl, w0, w37, kM0, w1, w84, si_is]
    exact ⟨Or.inl trivial, hk⟩
  · rw [if_neg h] at hk
    refine b2N h ?_
    refine PW_blk okM_tear 1 rfl SpM_ok ?_
    simp only [wL0, wLc, true_and, w0, w70]
    refine PW_blk okM_tear 3 rfl SpM_ok ?_
    simp only [wL0, wLc, true_and, w4, ls00, ls0i, ls0r, ls0l, lsi, lsr, lsl, Option.map_some, w2, lg0, lgi, lgr, lgl, w0, w37, kM0, w1, w84, si_is]
    exact ⟨Or.inl trivial, hk⟩
noncomputable def cntF (S : Nat → Int32) (tp : Int32) (w : Nat) : Int32 := if w = 0 then S 0 else if w = 1 then S 3 else if w = 2 then nI (pcn (nv S 2)) else if w = 3 then S 1 else if w = 4 then nI (suU (fun k => nv S (tr k 1)) (nv S 3)) else if w = 5 then tp else if w = 6 then S 9 else nI (suU (fun k => if S (110 + k) < 0 then 0 else 1) 10)
theorem R_count {v : Int32} (hI : Inv (σ.1 1)) (h1 : ¬ rgI v 0 7 → K (some (.int (-1000001))) (noS σ 0)) (h2 : ∀ w, w ≤ 7 → v = nI w → K (some (.int (cntF (σ.1 1) (σ.1 0 11) w))) σ) : Rn 1 ev mM_count [.ref 0, .int v] σ K := by
  have hG := hI.2.1.1
  have hG2 := hG.2
  have hn := hI.1.2
  refine Rn_V (by decide) rc6 rfl rfl ?_
  refine PW_blk okM_count 0 rfl SpM_ok ?_
  simp only [wL0, wLc, true_and, w0, w4, ls00, ls0i, ls0r, ls0l, lsi, lsr, lsl, Option.map_some, w1, lg0, lgi, lgr, lgl, w90, wS0, wSc]
  by_cases hw : rgI v 0 7
  rotate_left
  · have hw' := h1 hw
    refine ⟨fun h => absurd ⟨0, by decide, by decide, h⟩ hw, fun _ => ?_⟩
    refine ⟨fun h => absurd ⟨1, by decide, by decide, h⟩ hw, fun _ => ?_⟩
    refine ⟨fun h => absurd ⟨2, by decide, by decide, h⟩ hw, fun _ => ?_⟩
    refine ⟨fun h => absurd ⟨3, by decide, by decide, h⟩ hw, fun _ => ?_⟩
    refine ⟨fun h => absurd ⟨4, by decide, by decide, h⟩ hw, fun _ => ?_⟩
    refine ⟨fun h => absurd ⟨5, by decide, by decide, h⟩ hw, fun _ => ?_⟩
    refine ⟨fun h => absurd ⟨6, by decide, by decide, h⟩ hw, fun _ => ?_⟩
    refine ⟨fun h => absurd ⟨7, by decide, by decide, h⟩ hw, fun _ => ?_⟩
    refine PW_blk okM_count 18 rfl SpM_ok ?_
    simp only [wL0, wLc, true_and, w2, lg0, lgi, lgr, lgl, w0, w54_2, q40, q41, q42, q43, q44, Option.toList_some, Option.toList_none, List.cons_append, List.nil_append, sp_no, v7_0, v7_1, v7_2, v7_3, v7_4, v7_5, v7_6, w84]
    exact hw'
  obtain ⟨w, -, hw, rfl⟩ := hw
  have hkk := h2 w hw rfl
  rcases (show w = 0 ∨ w = 1 ∨ w = 2 ∨ w = 3 ∨ w = 4 ∨ w = 5 ∨ w = 6 ∨ w = 7 by omega) with rfl | rfl | rfl | rfl | rfl | rfl | rfl | rfl
  · refine ⟨fun _ => ?_, fun h => absurd rfl h⟩
    refine PW_blk okM_count 1 rfl SpM_ok ?_
    simp only [wL0, wLc, true_and, w2, lg0, lgi, lgr, lgl, w35, kM0, rM0, kM1, nM1, w0, w39, tn0, vi0_120, w84]
    exact hkk
  · refine ⟨fun h => absurd h (by decide), fun _ => ?_⟩
    refine ⟨fun _ => ?_, fun h => absurd rfl h⟩
    refine PW_blk okM_count 2 rfl SpM_ok ?_
    simp only [wL0, wLc, true_and, w2, lg0, lgi, lgr, lgl, w35, kM0, rM0, kM1, nM1, w0, w39, tn3, vi3_120, w84]
    exact hkk
  · refine ⟨fun h => absurd h (by decide), fun _ => ?_⟩
    refine ⟨fun h => absurd h (by decide), fun _ => ?_⟩
    refine ⟨fun _ => ?_, fun h => absurd rfl h⟩
    refine PW_blk okM_count 3 rfl SpM_ok ?_
    simp only [wL0, wLc, true_and, w2, lg0, lgi, lgr, lgl, w35, kM0, rM0, kM1, nM1, w0, w39, w55_1, q40, q41, q42, q43, q44, Option.toList_some, Option.toList_none, List.cons_append, List.nil_append, tn2, vi2_120, w84, hG.1]
    refine R_bits (by omega) ?_
    simp only [wL0, wLc, true_and, w2, lg0, lgi, lgr, lgl, w35, kM0, rM0, kM1, nM1, w0, w39, w55_1, q40, q41, q42, q43, q44, Option.toList_some, Option.toList_none, List.cons_append, List.nil_append, tn2, vi2_120, w84]
    exact hkk
  · refine ⟨fun h => absurd h (by decide), fun _ => ?_⟩
    refine ⟨fun h => absurd h (by decide), fun _ => ?_⟩
    refine ⟨fun h => absurd h (by decide), fun _ => ?_⟩
    refine ⟨fun _ => ?_, fun h => absurd rfl h⟩
    refine PW_blk okM_count 4 rfl SpM_ok ?_
    simp only [wL0, wLc, true_and, w2, lg0, lgi, lgr, lgl, w35, kM0, rM0, kM1, nM1, w0, w39, tn1, vi1_120, w84]
    exact hkk
  · refine ⟨fun h => absurd h (by decide), fun _ => ?_⟩
    refine ⟨fun h => absurd h (by decide), fun _ => ?_⟩
    refine ⟨fun h => absurd h (by decide), fun _ => ?_⟩
    refine ⟨fun h => absurd h (by decide), fun _ => ?_⟩
    refine ⟨fun _ => ?_, fun h => absurd rfl h⟩
    have hkk : K (some (.int (nI (suU (fun k => nv (σ.1 1) (tr k 1)) (nv (σ.1 1) 3))))) σ := hkk
    refine PW_blk okM_count 5 rfl SpM_ok ?_
    simp only [wL0, wLc, true_and, w0, w4, ls00, ls0i, ls0r, ls0l, lsi, lsr, lsl, Option.map_some, w71]
    have key := lp_up (n := nv (σ.1 1) 3) (P := fun i => PW 1 ev mM_count 81 [.ref 0, .int (nI 4), .int (nI (suU (fun k => nv (σ.1 1) (tr k 1)) i)), .int (nI i)] [] σ K) ?_ ?_ 0 (Nat.zero_le _)
    · exact key
    · refine PW_blk okM_count 6 rfl SpM_ok ?_
      simp only [wL0, wLc, true_and, w1, lg0, lgi, lgr, lgl, w2, w35, kM0, rM0, kM1, nM1, w0, w39, tn3, vi3_120, w81, hI.1.1]
      refine b3N (nI_nlt (Nat.le_refl _) (by omega)) ?_
      refine PW_blk okM_count 8 rfl SpM_ok ?_
      simp only [wL0, wLc, true_and, w1, lg0, lgi, lgr, lgl, w84]
      exact hkk
    · intro i hi ih
      have hi10 : i < 10 := by omega
      have ht := (hI.2.2.2.2.2.2.2.2.1 i hi).2.1.1
      refine PW_blk okM_count 6 rfl SpM_ok ?_
      simp only [wL0, wLc, true_and, w1, lg0, lgi, lgr, lgl, w2, w35, kM0, rM0, kM1, nM1, w0, w39, tn3, vi3_120, w81, hI.1.1]
      refine b3Y (nI_lt hi (by omega)) ?_
      refine PW_blk okM_count 7 rfl SpM_ok ?_
      simp only [wL0, wLc, true_and, w1, lg0, lgi, lgr, lgl, w2, w0, w54_3, q40, q41, q42, q43, q44, Option.toList_some, Option.toList_none, List.cons_append, List.nil_append, sp_get, w11, w4, ls00, ls0i, ls0r, ls0l, lsi, lsr, lsl, Option.map_some, w7, w70, gv1 hi10, gt1 hi10, ht.1]
      rw [show (1 : Int32) = nI 1 from rfl, nI_add, nI_add]
      exact ih
  · refine ⟨fun h => absurd h (by decide), fun _ => ?_⟩
    refine ⟨fun h => absurd h (by decide), fun _ => ?_⟩
    refine ⟨fun h => absurd h (by decide), fun _ => ?_⟩
    refine ⟨fun h => absurd h (by decide), fun _ => ?_⟩
    refine ⟨fun h => absurd h (by decide), fun _ => ?_⟩
    refine ⟨fun _ => ?_, fun h => absurd rfl h⟩
    refine PW_blk okM_count 9 rfl SpM_ok ?_
    simp only [wL0, wLc, true_and, w2, lg0, lgi, lgr, lgl, w33, kM0, w84]
    exact hkk
  · refine ⟨fun h => absurd h (by decide), fun _ => ?_⟩
    refine ⟨fun h => absurd h (by decide), fun _ => ?_⟩
    refine ⟨fun h => absurd h (by decide), fun _ => ?_⟩
    refine ⟨fun h => absurd h (by decide), fun _ => ?_⟩
    refine ⟨fun h => absurd h (by decide), fun _ => ?_⟩
    refine ⟨fun h => absurd h (by decide), fun _ => ?_⟩
    refine ⟨fun _ => ?_, fun h => absurd rfl h⟩
    refine PW_blk okM_count 10 rfl SpM_ok ?_
    simp only [wL0, wLc, true_and, w2, lg0, lgi, lgr, lgl, w35, kM0, rM0, kM1, nM1, w0, w39, tn9, vi9_120, w84]
    exact hkk
  · refine ⟨fun h => absurd h (by decide), fun _ => ?_⟩
    refine ⟨fun h => absurd h (by decide), fun _ => ?_⟩
    refine ⟨fun h => absurd h (by decide), fun _ => ?_⟩
    refine ⟨fun h => absurd h (by decide), fun _ => ?_⟩
    refine ⟨fun h => absurd h (by decide), fun _ => ?_⟩
    refine ⟨fun h => absurd h (by decide), fun _ => ?_⟩
    refine ⟨fun h => absurd h (by decide), fun _ => ?_⟩
    refine ⟨fun _ => ?_, fun h => absurd rfl h⟩
    have hkk : K (some (.int (nI (suU (fun k => if (σ.1 1) (110 + k) < 0 then 0 else 1) 10)))) σ := hkk
    refine PW_blk okM_count 11 rfl SpM_ok ?_
    simp only [wL0, wLc, true_and, w0, w4, ls00, ls0i, ls0r, ls0l, lsi, lsr, lsl, Option.map_some, w71]
    have key := lp_up (n := 10) (P := fun i => PW 1 ev mM_count 123 [.ref 0, .int (nI 7), .int (nI (suU (fun k => if (σ.1 1) (110 + k) < 0 then 0 else 1) i)), .int (nI i)] [] σ K) ?_ ?_ 0 (Nat.zero_le _)
    · exact key
    · refine PW_blk okM_count 12 rfl SpM_ok ?_
      simp only [wL0, wLc, true_and, w1, lg0, lgi, lgr, lgl, w0, w81]
      refine b3N (by decide) ?_
      refine PW_blk okM_count 17 rfl SpM_ok ?_
      simp only [wL0, wLc, true_and, w1, lg0, lgi, lgr, lgl, w84]
      exact hkk
    · intro i hi ih
      have e : suU (fun k => if (σ.1 1) (110 + k) < 0 then 0 else 1) (i + 1) = suU (fun k => if (σ.1 1) (110 + k) < 0 then 0 else 1) i + (if (σ.1 1) (110 + i) < 0 then 0 else 1) := rfl
      rw [e] at ih
      refine PW_blk okM_count 12 rfl SpM_ok ?_
      simp only [wL0, wLc, true_and, w1, lg0, lgi, lgr, lgl, w0, w81]
      refine b3Y (nI_lt hi (by decide)) ?_
      refine PW_blk okM_count 13 rfl SpM_ok ?_
      simp only [wL0, wLc, true_and, w1, lg0, lgi, lgr, lgl, w2, w35, kM0, rM0, kM1, nM1, w0, w11, w39, w74]
      rw [show (110 : Int32) = nI 110 from rfl, nI_add, nI_clamp (show 110 + i < 2 ^ 31 by omega)]
      refine ⟨vp_in_nI (by omega) (by decide), ?_⟩
      by_cases c : σ.1 1 (110 + i) < 0
      · rw [if_pos c] at ih
        refine b2Y c ?_
        refine PW_blk okM_count 15 rfl SpM_ok ?_
        simp only [wL0, wLc, true_and, w0, w71]
        refine PW_blk okM_count 16 rfl SpM_ok ?_
        simp only [wL0, wLc, true_and, w11, w4, ls00, ls0i, ls0r, ls0l, lsi, lsr, lsl, Option.map_some, w7, lg0, lgi, lgr, lgl, w70]
        rw [show (1 : Int32) = nI 1 from rfl, nI_add, show (0 : Int32) = nI 0 from rfl, nI_add]
        exact ih
      · rw [if_neg c] at ih
        refine b2N c ?_
        refine PW_blk okM_count 14 rfl SpM_ok ?_
        simp only [wL0, wLc, true_and, w0, w70]
        refine PW_blk okM_count 16 rfl SpM_ok ?_
        simp only [wL0, wLc, true_and, w11, w4, ls00, ls0i, ls0r, ls0l, lsi, lsr, lsl, Option.map_some, w7, lg0, lgi, lgr, lgl, w70]
        rw [show (1 : Int32) = nI 1 from rfl, nI_add, nI_add]
        exact ih
theorem R_status {v : Int32} (h1 : ¬ (v = -1 ∨ rgI v 0 6) → K (some (.int (-1000001))) (noS σ 0)) (h2 : v = -1 → K (some (.int (fsU (σ.1 4) 7))) σ) (h3 : ∀ w, w ≤ 6 → v = nI w → K (some (.int (σ.1 4 w))) σ) : Rn 1 ev mM_status [.ref 0, .int v] σ K := by
  refine Rn_V (by decide) rc6 rfl rfl ?_
  refine PW_blk okM_status 0 rfl SpM_ok ?_
  simp only [wL0, wLc, true_and, w1, lg0, lgi, lgr, lgl, w0, w55_3, q40, q41, q42, q43, q44, Option.toList_some, Option.toList_none, List.cons_append, List.nil_append, sp_in1, w73]
  by_cases hr : v = -1 ∨ rgI v 0 6
  rotate_left
  · refine dN (in1m' (m := 6) (by decide) hr) ?_
    refine PW_blk okM_status 1 rfl SpM_ok ?_
    simp only [wL0, wLc, true_and, w2, lg0, lgi, lgr, lgl, w0, w54_2, q40, q41, q42, q43, q44, Option.toList_some, Option.toList_none, List.cons_append, List.nil_append, sp_no, v7_0, v7_1, v7_2, v7_3, v7_4, v7_5, v7_6, w84]
    exact h1 hr
  refine dY (in1m (m := 6) (by decide) hr) ?_
  refine PW_blk okM_status 2 rfl SpM_ok ?_
  simp only [wL0, wLc, true_and, w0, w4, ls00, ls0i, ls0r, ls0l, lsi, lsr, lsl, Option.map_some, w71]
  rcases hr with e | ⟨w, -, hw, e⟩
  · subst e
    have key := lp_up (n := 7) (P := fun i => PW 1 ev mM_status 20 [.ref 0, .int (-1), .int (fsU (σ.1 4) i), .int (nI i)] [] σ K) ?_ ?_ 0 (by decide)
    · exact key
    · refine PW_blk okM_status 3 rfl SpM_ok ?_
      simp only [wL0, wLc, true_and, w1, lg0, lgi, lgr, lgl, w0, w81]
      refine b3N (by decide) ?_
      refine PW_blk okM_status 9 rfl SpM_ok ?_
      simp only [wL0, wLc, true_and, w1, lg0, lgi, lgr, lgl, w84]
      exact h2 rfl
    · intro i hi ih
      refine PW_blk okM_status 3 rfl SpM_ok ?_
      simp only [wL0, wLc, true_and, w1, lg0, lgi, lgr, lgl, w0, w81]
      refine b3Y (nI_lt hi (by decide)) ?_
      refine PW_blk okM_status 4 rfl SpM_ok ?_
      simp only [wL0, wLc, true_and, w1, lg0, lgi, lgr, lgl, w0, w78]
      refine b2Y trivial ?_
      refine PW_blk okM_status 6 rfl SpM_ok ?_
      simp only [wL0, wLc, true_and, w2, lg0, lgi, lgr, lgl, w35, kM0, rM4, kM4, nM4, w1, w39, w70, eq_true (vp_in_nI (show i < 7 by omega) (by decide)), nI_clamp (show i < 2 ^ 31 by omega)]
      refine PW_blk okM_status 8 rfl SpM_ok ?_
      simp only [wL0, wLc, true_and, w11, w4, ls00, ls0i, ls0r, ls0l, lsi, lsr, lsl, Option.map_some, w7, lg0, lgi, lgr, lgl, w70]
      rw [show (1 : Int32) = nI 1 from rfl, nI_add]
      exact ih
  · subst e
    have key := lp_up (n := 7) (P := fun i => PW 1 ev mM_status 20 [.ref 0, .int (nI w), .int (if w < i then σ.1 4 w else 0), .int (nI i)] [] σ K) ?_ ?_ 0 (by decide)
    · rw [if_neg (Nat.not_lt_zero w)] at key
      exact key
    · refine PW_blk okM_status 3 rfl SpM_ok ?_
      simp only [wL0, wLc, true_and, w1, lg0, lgi, lgr, lgl, w0, w81]
      refine b3N (by decide) ?_
      refine PW_blk okM_status 9 rfl SpM_ok ?_
      simp only [wL0, wLc, true_and, w1, lg0, lgi, lgr, lgl, w84]
      rw [if_pos (by omega)]
      exact h3 w hw rfl
    · intro i hi ih
      refine PW_blk okM_status 3 rfl SpM_ok ?_
      simp only [wL0, wLc, true_and, w1, lg0, lgi, lgr, lgl, w0, w81]
      refine b3Y (nI_lt hi (by decide)) ?_
      refine PW_blk okM_status 4 rfl SpM_ok ?_
      simp only [wL0, wLc, true_and, w1, lg0, lgi, lgr, lgl, w0, w78]
      refine b2N (m1_ne (by omega)) ?_
      refine PW_blk okM_status 5 rfl SpM_ok ?_
      simp only [wL0, wLc, true_and, w1, lg0, lgi, lgr, lgl, w79]
      rw [nI_eq_iff (by omega) (by omega)]
      by_cases c : w = i
      · subst c
        rw [if_pos (by omega)] at ih
        refine b3Y rfl ?_
        refine PW_blk okM_status 6 rfl SpM_ok ?_
        simp only [wL0, wLc, true_and, w2, lg0, lgi, lgr, lgl, w35, kM0, rM4, kM4, nM4, w1, w39, w70, eq_true (vp_in_nI (show w < 7 by omega) (by decide)), nI_clamp (show w < 2 ^ 31 by omega)]
        refine PW_blk okM_status 8 rfl SpM_ok ?_
        simp only [wL0, wLc, true_and, w11, w4, ls00, ls0i, ls0r, ls0l, lsi, lsr, lsl, Option.map_some, w7, lg0, lgi, lgr, lgl, w70]
        rw [if_neg (Nat.lt_irrefl w), show (1 : Int32) = nI 1 from rfl, nI_add, Int32.zero_add]
        exact ih
      · refine b3N c ?_
        refine PW_blk okM_status 7 rfl SpM_ok ?_
        simp only [wL0, wLc, true_and, w0, w71]
        refine PW_blk okM_status 8 rfl SpM_ok ?_
        simp only [wL0, wLc, true_and, w11, w4, ls00, ls0i, ls0r, ls0l, lsi, lsr, lsl, Option.map_some, w7, lg0, lgi, lgr, lgl, w70]
        rw [show (1 : Int32) = nI 1 from rfl, nI_add, Int32.add_zero]
        by_cases c2 : w < i
        · rw [if_pos c2]
          rw [if_pos (by omega)] at ih
          exact ih
        · rw [if_neg c2]
          rw [if_neg (by omega)] at ih
          exact ih
end MQ
end
section
/-! THE TAPE: words of a text, read from a place on -/
def runU (P : Int32 → Bool) (T : Nat → Int32) (τ : Nat) : Nat → Nat → Nat
  | 0, p => p
  | f + 1, p => if p < τ ∧ P (T p) = true then runU P T τ f (p + 1) else p
def run (P : Int32 → Bool) (T : Nat → Int32) (τ p : Nat) : Nat := runU P T τ (τ - p) p
theorem run_y {P : Int32 → Bool} {T : Nat → Int32} {τ p : Nat} (h : p < τ) (hp : P (T p) = true) : run P T τ p = run P T τ (p + 1) := by
  unfold run
  rw [show τ - p = (τ - (p + 1)) + 1 by omega]
  exact if_pos ⟨h, hp⟩
theorem run_n {P : Int32 → Bool} {T : Nat → Int32} {τ p : Nat} (h : ¬ (p < τ ∧ P (T p) = true)) : run P T τ p = p := by
  unfold run
  cases e : τ - p with
  | zero => rfl
  | succ f => exact if_neg h
theorem runU_le {P : Int32 → Bool} {T : Nat → Int32} {τ : Nat} : ∀ f p, p ≤ runU P T τ f p ∧ (p ≤ τ → runU P T τ f p ≤ τ)
  | 0, p => ⟨Nat.le_refl _, fun h => h⟩
  | f + 1, p => by
    have ih := runU_le (P := P) (T := T) (τ := τ) f (p + 1)
    unfold runU
    by_cases h : p < τ ∧ P (T p) = true
    · rw [if_pos h]; exact ⟨by omega, fun _ => ih.2 (by omega)⟩
    · rw [if_neg h]; exact ⟨Nat.le_refl _, fun h => h⟩
theorem run_le {P : Int32 → Bool} {T : Nat → Int32} {τ p : Nat} : p ≤ run P T τ p := (runU_le _ _).1
theorem run_le2 {P : Int32 → Bool} {T : Nat → Int32} {τ p : Nat} (h : p ≤ τ) : run P T τ p ≤ τ := (runU_le _ _).2 h
theorem runU_in {P : Int32 → Bool} {T : Nat → Int32} {τ : Nat} : ∀ f p i, p ≤ i → i < runU P T τ f p → i < τ ∧ P (T i) = true
  | 0, p, i, h, h2 => absurd h2 (by unfold runU; omega)
  | f + 1, p, i, h, h2 => by
    unfold runU at h2
    by_cases c : p < τ ∧ P (T p) = true
    · rw [if_pos c] at h2
      by_cases e : i = p
      · subst e; exact c
      · exact runU_in f (p + 1) i (by omega) h2
    · rw [if_neg c] at h2
      omega
theorem run_in {P : Int32 → Bool} {T : Nat → Int32} {τ p i : Nat} (h : p ≤ i) (h2 : i < run P T τ p) : i < τ ∧ P (T i) = true := runU_in _ _ _ h h2
def isSp (x : Int32) : Bool := x == 32
def isLt (x : Int32) : Bool := in1F x 97 122 == 1
def isDg (x : Int32) : Bool := in1F x 48 57 == 1
def dgN (x : Int32) : Nat := x.toNatClampNeg
def nvU (T : Nat → Int32) (b : Nat) : Nat → Nat
  | 0 => 0
  | i + 1 => if 10 * nvU T b i + (dgN (T (b + i)) - 48) < 1024 then 10 * nvU T b i + (dgN (T (b + i)) - 48) else 1024
theorem nvU_le (T : Nat → Int32) (b : Nat) : ∀ i, nvU T b i ≤ 1024
  | 0 => Nat.zero_le _
  | i + 1 => by unfold nvU; split <;> omega
theorem isLt_n {x : Int32} : isLt x = true ↔ ∃ n, 97 ≤ n ∧ n ≤ 122 ∧ x = nI n := by
  unfold isLt
  rw [beq_iff_eq]
  constructor
  · intro h
    refine Classical.byContradiction (fun c => ?_)
    rw [show (97 : Int32) = nI 97 from rfl, show (122 : Int32) = nI 122 from rfl, in1N (by decide) (by decide) c] at h
    exact absurd h (by decide)
  · intro h
    exact in1Y (a := 97) (m := 122) (by decide) h
theorem isDg_n {x : Int32} : isDg x = true ↔ ∃ n, 48 ≤ n ∧ n ≤ 57 ∧ x = nI n := by
  unfold isDg
  rw [beq_iff_eq]
  constructor
  · intro h
    refine Classical.byContradiction (fun c => ?_)
    rw [show (48 : Int32) = nI 48 from rfl, show (57 : Int32) = nI 57 from rfl, in1N (by decide) (by decide) c] at h
    exact absurd h (by decide)
  · intro h
    exact in1Y (a := 48) (m := 57) (by decide) h
/-- the token from p on: its sort, where it begins, where it ends, its number -/
abbrev Tk : Type := Nat × Nat × Nat × Nat
def tokB (T : Nat → Int32) (τ b : Nat) : Tk :=
  if τ ≤ b then (0, b, b, 0) else if isLt (T b) = true then (1, b, run isLt T τ b, 0)
  else if isDg (T b) = true then (if 1023 < nvU T b (run isDg T τ b - b) then 4 else 2, b, run isDg T τ b, nvU T b (run isDg T τ b - b))
  else (if T b = 59 then 3 else 4, b, b + 1, 0)
def tok (T : Nat → Int32) (τ p : Nat) : Tk := tokB T τ (run isSp T τ p)
theorem tok_ok {T : Nat → Int32} {τ p : Nat} (hp : p ≤ τ) : p ≤ (tok T τ p).2.1 ∧ (tok T τ p).2.1 ≤ (tok T τ p).2.2.1 ∧ (tok T τ p).2.2.1 ≤ τ ∧ (tok T τ p).2.2.2 ≤ 1024 ∧ (tok T τ p).1 ≤ 4 ∧ ((tok T τ p).1 = 3 → (tok T τ p).2.1 < (tok T τ p).2.2.1) ∧ ((tok T τ p).1 = 2 → (tok T τ p).2.2.2 ≤ 1023) := by
  have h1 := run_le (P := isSp) (T := T) (τ := τ) (p := p)
  have h2 := run_le2 (P := isSp) (T := T) hp
  unfold tok tokB
  generalize run isSp T τ p = b at *
  have h3 := run_le (P := isLt) (T := T) (τ := τ) (p := b)
  have h4 := run_le2 (P := isLt) (T := T) h2
  have h5 := run_le (P := isDg) (T := T) (τ := τ) (p := b)
  have h6 := run_le2 (P := isDg) (T := T) h2
  have h7 := nvU_le T b (run isDg T τ b - b)
  by_cases c0 : τ ≤ b
  · rw [if_pos c0]
    dsimp only
    refine ⟨h1, Nat.le_refl _, h2, Nat.zero_le _, Nat.zero_le _, fun z => absurd z (by decide), fun z => absurd z (by decide)⟩
  rw [if_neg c0]
  by_cases c1 : isLt (T b) = true
  · rw [if_pos c1]
    dsimp only
    refine ⟨h1, h3, h4, Nat.zero_le _, by decide, fun z => absurd z (by decide), fun z => absurd z (by decide)⟩
  rw [if_neg c1]
  by_cases c2 : isDg (T b) = true
  · rw [if_pos c2]
    by_cases c3 : 1023 < nvU T b (run isDg T τ b - b)
    · rw [if_pos c3]
      dsimp only
      exact ⟨h1, h5, h6, h7, Nat.le_refl _, fun z => absurd z (by decide), fun z => absurd z (by decide)⟩
    · rw [if_neg c3]
      dsimp only
      exact ⟨h1, h5, h6, h7, by decide, fun z => absurd z (by decide), fun _ => by show nvU T b (run isDg T τ b - b) ≤ 1023; omega⟩
  rw [if_neg c2]
  by_cases c4 : T b = 59
  · rw [if_pos c4]
    dsimp only
    exact ⟨h1, Nat.le_succ _, by show b + 1 ≤ τ; omega, Nat.zero_le _, by decide, fun _ => Nat.lt_succ_self _, fun z => absurd z (by decide)⟩
  · rw [if_neg c4]
    dsimp only
    exact ⟨h1, Nat.le_succ _, by show b + 1 ≤ τ; omega, Nat.zero_le _, Nat.le_refl _, fun z => absurd z (by decide), fun z => absurd z (by decide)⟩
/-- does this word stand from b to e? -/
def isW (T : Nat → Int32) (b e : Nat) (l : List Nat) : Prop := e = b + l.length ∧ ∀ i, i < l.length → T (b + i) = nI (l.getD i 0)
def wK (w : Nat) : List Nat := if w = 0 then [108, 111, 99, 107] else if w = 1 then [114, 111, 112, 101] else if w = 2 then [99, 104, 97, 105, 110] else if w = 3 then [111, 108, 100] else if w = 4 then [114, 117, 115, 116, 101, 100] else if w = 5 then [110, 97, 105, 108] else [98, 111, 108, 116]
def wO (w : Nat) : List Nat := if w = 0 then [116, 105, 109, 101] else if w = 1 then [103, 105, 118, 101, 115] else if w = 2 then [119, 97, 110, 116, 115] else if w = 3 then [98, 105, 110, 100, 115] else if w = 4 then [104, 97, 110, 100, 115] else [97, 102, 116, 101, 114]
def wR (w : Nat) : List Nat := if w = 0 then [116, 111, 111, 108, 115] else if w = 1 then [115, 112, 97, 114, 101] else [103, 111, 97, 108]
def fldO (w : Nat) : Nat := if w = 0 then 1 else if w = 1 then 2 else if w = 2 then 3 else if w = 3 then 4 else if w = 4 then 5 else 8
/-- which of the first n words stands here: the last that does -/
noncomputable def whW (wd : Nat → List Nat) (T : Nat → Int32) (tk : Tk) : Nat → Option Nat
  | 0 => none
  | w + 1 => cif (tk.1 = 1 ∧ isW T tk.2.1 tk.2.2.1 (wd w)) (some w) (whW wd T tk w)
theorem isW_u {T : Nat → Int32} {b e : Nat} {l l' : List Nat} (hl : ∀ x ∈ l, x < 256) (hl' : ∀ x ∈ l', x < 256) (h : isW T b e l) (h' : isW T b e l') : l = l' := by
  have e1 : l.length = l'.length := by have := h.1; have := h'.1; omega
  apply List.ext_getElem e1
  intro i h1 h2
  have a := h.2 i h1
  have c := h'.2 i h2
  rw [a] at c
  have x1 : l.getD i 0 = l[i] := by simp [List.getD, h1]
  have x2 : l'.getD i 0 = l'[i] := by simp [List.getD, h2]
  rw [x1, x2] at c
  have y1 := hl l[i] (List.getElem_mem h1)
  have y2 := hl' l'[i] (List.getElem_mem h2)
  exact (nI_eq_iff (by omega) (by omega)).mp c
theorem whW_y {wd : Nat → List Nat} {T : Nat → Int32} {tk : Tk} {w : Nat} : ∀ n, w < n → (∀ v, v < n → ∀ x ∈ wd v, x < 256) → (∀ v v', v < n → v' < n → wd v = wd v' → v = v') → tk.1 = 1 → isW T tk.2.1 tk.2.2.1 (wd w) → whW wd T tk n = some w
  | 0, h, _, _, _, _ => by omega
  | n + 1, h, h1, h2, h3, h4 => by
    unfold whW
    by_cases c : isW T tk.2.1 tk.2.2.1 (wd n)
    · rw [cif_y ⟨h3, c⟩]
      rw [h2 w n h (Nat.lt_succ_self n) (isW_u (h1 w h) (h1 n (Nat.lt_succ_self n)) h4 c)]
    · rw [cif_n (fun z => c z.2)]
      have e : w ≠ n := fun e => c (e ▸ h4)
      exact whW_y n (by omega) (fun v hv => h1 v (by omega)) (fun v v' a b => h2 v v' (by omega) (by omega)) h3 h4
theorem whW_n {wd : Nat → List Nat} {T : Nat → Int32} {tk : Tk} : ∀ n, (∀ w, w < n → ¬ (tk.1 = 1 ∧ isW T tk.2.1 tk.2.2.1 (wd w))) → whW wd T tk n = none
  | 0, _ => rfl
  | n + 1, h => by
    unfold whW
    rw [cif_n (h n (Nat.lt_succ_self n))]
    exact whW_n n (fun w hw => h w (by omega))
theorem whW_b {wd : Nat → List Nat} {T : Nat → Int32} {tk : Tk} {w : Nat} : ∀ n, whW wd T tk n = some w → w < n ∧ tk.1 = 1 ∧ isW T tk.2.1 tk.2.2.1 (wd w)
  | 0, h => by cases h
  | n + 1, h => by
    unfold whW at h
    by_cases c : tk.1 = 1 ∧ isW T tk.2.1 tk.2.2.1 (wd n)
    · rw [cif_y c] at h
      cases h
      exact ⟨Nat.lt_succ_self _, c⟩
    · rw [cif_n c] at h
      have := whW_b n h
      exact ⟨by omega, this.2⟩
abbrev RR : Type := Bool × (Nat → Int32) × Tk
def mostO (S : Nat → Int32) (o1 f : Nat) : Nat := if f = 8 then o1 else mostN S f
noncomputable def rdO (T : Nat → Int32) (τ k o1 : Nat) : Nat → Nat → (Nat → Int32) → Tk → RR
  | 0, _, S, tk => (true, S, tk)
  | f + 1, i, S, tk => cif (tk.1 = 1 ∧ isW T tk.2.1 tk.2.2.1 (wO i))
      (cif ((tok T τ tk.2.2.1).1 = 2 ∧ leastN (fldO i) ≤ (tok T τ tk.2.2.1).2.2.2 ∧ (tok T τ tk.2.2.1).2.2.2 ≤ mostO S o1 (fldO i))
        (rdO T τ k o1 f (i + 1) (upd S (tr k (fldO i)) (nI (tok T τ tk.2.2.1).2.2.2)) (tok T τ (tok T τ tk.2.2.1).2.2.1))
        (false, S, tok T τ tk.2.2.1))
      (rdO T τ k o1 f (i + 1) S tk)
noncomputable def rdL (T : Nat → Int32) (τ : Nat) (S : Nat → Int32) (tk : Tk) (kd : Nat) : RR :=
  if nv S 3 = 10 then (false, S, tk) else rdO T τ (nv S 3) (2 ^ nv S 3 - 1) 6 0 (cmS S (nI kd)) (tok T τ tk.2.2.1)
noncomputable def rdI (T : Nat → Int32) (τ : Nat) (S : Nat → Int32) (tk : Tk) : RR := match whW wK T tk 7 with
  | some kd => rdL T τ S tk kd
  | none => match whW wR T tk 3 with
    | none => (false, S, tk)
    | some w => cif ((tok T τ tk.2.2.1).1 = 2 ∧ (tok T τ tk.2.2.1).2.2.2 ≤ mostR S w)
        (true, upd S (4 + w) (nI (tok T τ tk.2.2.1).2.2.2), tok T τ (tok T τ tk.2.2.1).2.2.1)
        (false, S, tok T τ tk.2.2.1)
/-- a whole text: n items were read ahead of this one; the answer, below 0: a fault -/
noncomputable def rdT (T : Nat → Int32) (τ : Nat) : Nat → Nat → (Nat → Int32) → Tk → Int32 × (Nat → Int32)
  | 0, _, S, _ => (0, S)
  | f + 1, n, S, tk => let r := rdI T τ S tk
    if r.1 = true ∧ r.2.2.1 = 3 then rdT T τ f (n + 1) r.2.1 (tok T τ r.2.2.2.2.1)
    else if r.1 = true ∧ r.2.2.1 = 0 then (nI (n + 1), r.2.1) else (-1 - nI r.2.2.2.1, r.2.1)
end
