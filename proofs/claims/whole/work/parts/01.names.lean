/-- a private method of a class that the tables say can be made, by its rows of tables_1 -/
def lw_okq (q : MethodName × Nat) : Prop := (q.1.cls ≠ "java/lang/invoke/MethodHandle" ∧ q.1.cls ≠ "java/lang/invoke/VarHandle") ∧ Cond.instantiable q.1.cls q.2 ∈ tables_1 ∧ Cond.privateMethod q.1 ∈ tables_1 ∧ Cond.instanceMethod q.1 ∈ tables_1
theorem lw_p0 : lw_okq (⟨"DragonTithe", "tally", "(I)I"⟩, 15) := ⟨⟨by decide +kernel, by decide +kernel⟩, List.mem_of_getElem? (i := 21) (by decide +kernel), List.mem_of_getElem? (i := 365) (by decide +kernel), List.mem_of_getElem? (i := 366) (by decide +kernel)⟩
theorem lw_p1 : lw_okq (⟨"DragonTithe$Scroll", "step", "()V"⟩, 9) := ⟨⟨by decide +kernel, by decide +kernel⟩, List.mem_of_getElem? (i := 155) (by decide +kernel), List.mem_of_getElem? (i := 481) (by decide +kernel), List.mem_of_getElem? (i := 482) (by decide +kernel)⟩
theorem lw_p2 : lw_okq (⟨"DragonTithe$Scroll", "isLetter", "(I)Z"⟩, 9) := ⟨⟨by decide +kernel, by decide +kernel⟩, List.mem_of_getElem? (i := 155) (by decide +kernel), List.mem_of_getElem? (i := 485) (by decide +kernel), List.mem_of_getElem? (i := 486) (by decide +kernel)⟩
theorem lw_p3 : lw_okq (⟨"DragonTithe$Scroll", "stepOverWord", "()V"⟩, 9) := ⟨⟨by decide +kernel, by decide +kernel⟩, List.mem_of_getElem? (i := 155) (by decide +kernel), List.mem_of_getElem? (i := 489) (by decide +kernel), List.mem_of_getElem? (i := 490) (by decide +kernel)⟩
theorem lw_p4 : lw_okq (⟨"DragonTithe$Scroll", "tokenIs", "(Ljava/lang/String;)Z"⟩, 9) := ⟨⟨by decide +kernel, by decide +kernel⟩, List.mem_of_getElem? (i := 155) (by decide +kernel), List.mem_of_getElem? (i := 502) (by decide +kernel), List.mem_of_getElem? (i := 503) (by decide +kernel)⟩
theorem lw_p5 : lw_okq (⟨"DragonTithe$Scroll", "isFigure", "(I)Z"⟩, 9) := ⟨⟨by decide +kernel, by decide +kernel⟩, List.mem_of_getElem? (i := 155) (by decide +kernel), List.mem_of_getElem? (i := 554) (by decide +kernel), List.mem_of_getElem? (i := 555) (by decide +kernel)⟩
theorem lw_p6 : lw_okq (⟨"DragonTithe$Scroll", "stepOverNumber", "()V"⟩, 9) := ⟨⟨by decide +kernel, by decide +kernel⟩, List.mem_of_getElem? (i := 155) (by decide +kernel), List.mem_of_getElem? (i := 558) (by decide +kernel), List.mem_of_getElem? (i := 559) (by decide +kernel)⟩
theorem lw_p7 : lw_okq (⟨"DragonTithe$Scroll", "parseItem", "(I)Z"⟩, 9) := ⟨⟨by decide +kernel, by decide +kernel⟩, List.mem_of_getElem? (i := 155) (by decide +kernel), List.mem_of_getElem? (i := 562) (by decide +kernel), List.mem_of_getElem? (i := 563) (by decide +kernel)⟩
theorem lw_p8 : lw_okq (⟨"DragonTithe", "tellItem", "(I)I"⟩, 15) := ⟨⟨by decide +kernel, by decide +kernel⟩, List.mem_of_getElem? (i := 21) (by decide +kernel), List.mem_of_getElem? (i := 568) (by decide +kernel), List.mem_of_getElem? (i := 569) (by decide +kernel)⟩
theorem lw_p9 : lw_okq (⟨"DragonTithe$Herd", "takeFrom", "(I)I"⟩, 8) := ⟨⟨by decide +kernel, by decide +kernel⟩, List.mem_of_getElem? (i := 35) (by decide +kernel), List.mem_of_getElem? (i := 630) (by decide +kernel), List.mem_of_getElem? (i := 631) (by decide +kernel)⟩
theorem lw_p10 : lw_okq (⟨"DragonTithe$Herd", "growAll", "()V"⟩, 8) := ⟨⟨by decide +kernel, by decide +kernel⟩, List.mem_of_getElem? (i := 35) (by decide +kernel), List.mem_of_getElem? (i := 644) (by decide +kernel), List.mem_of_getElem? (i := 645) (by decide +kernel)⟩
theorem lw_p11 : lw_okq (⟨"DragonTithe", "refuseAsBad", "(I)I"⟩, 15) := ⟨⟨by decide +kernel, by decide +kernel⟩, List.mem_of_getElem? (i := 21) (by decide +kernel), List.mem_of_getElem? (i := 689) (by decide +kernel), List.mem_of_getElem? (i := 690) (by decide +kernel)⟩
theorem lw_p12 : lw_okq (⟨"DragonTithe$Moves", "takenNow", "()I"⟩, 7) := ⟨⟨by decide +kernel, by decide +kernel⟩, List.mem_of_getElem? (i := 221) (by decide +kernel), List.mem_of_getElem? (i := 709) (by decide +kernel), List.mem_of_getElem? (i := 710) (by decide +kernel)⟩
theorem lw_p13 : lw_okq (⟨"DragonTithe$Moves", "tryLastMove", "(II)V"⟩, 7) := ⟨⟨by decide +kernel, by decide +kernel⟩, List.mem_of_getElem? (i := 221) (by decide +kernel), List.mem_of_getElem? (i := 714) (by decide +kernel), List.mem_of_getElem? (i := 715) (by decide +kernel)⟩
theorem lw_p14 : lw_okq (⟨"DragonTithe$Moves", "shift", "(III)V"⟩, 7) := ⟨⟨by decide +kernel, by decide +kernel⟩, List.mem_of_getElem? (i := 221) (by decide +kernel), List.mem_of_getElem? (i := 718) (by decide +kernel), List.mem_of_getElem? (i := 719) (by decide +kernel)⟩
theorem lw_p15 : lw_okq (⟨"DragonTithe$Moves", "weigh", "(II)V"⟩, 7) := ⟨⟨by decide +kernel, by decide +kernel⟩, List.mem_of_getElem? (i := 221) (by decide +kernel), List.mem_of_getElem? (i := 724) (by decide +kernel), List.mem_of_getElem? (i := 725) (by decide +kernel)⟩
def lw_privs_1 : List (MethodName × Nat) := [(⟨"DragonTithe", "tally", "(I)I"⟩, 15), (⟨"DragonTithe$Scroll", "step", "()V"⟩, 9), (⟨"DragonTithe$Scroll", "isLetter", "(I)Z"⟩, 9), (⟨"DragonTithe$Scroll", "stepOverWord", "()V"⟩, 9), (⟨"DragonTithe$Scroll", "tokenIs", "(Ljava/lang/String;)Z"⟩, 9), (⟨"DragonTithe$Scroll", "isFigure", "(I)Z"⟩, 9), (⟨"DragonTithe$Scroll", "stepOverNumber", "()V"⟩, 9), (⟨"DragonTithe$Scroll", "parseItem", "(I)Z"⟩, 9), (⟨"DragonTithe", "tellItem", "(I)I"⟩, 15), (⟨"DragonTithe$Herd", "takeFrom", "(I)I"⟩, 8), (⟨"DragonTithe$Herd", "growAll", "()V"⟩, 8), (⟨"DragonTithe", "refuseAsBad", "(I)I"⟩, 15), (⟨"DragonTithe$Moves", "takenNow", "()I"⟩, 7), (⟨"DragonTithe$Moves", "tryLastMove", "(II)V"⟩, 7), (⟨"DragonTithe$Moves", "shift", "(III)V"⟩, 7), (⟨"DragonTithe$Moves", "weigh", "(II)V"⟩, 7)]
theorem lw_r1 : ∀ q ∈ lw_privs_1, lw_okq q := List.forall_mem_cons.mpr ⟨lw_p0, List.forall_mem_cons.mpr ⟨lw_p1, List.forall_mem_cons.mpr ⟨lw_p2, List.forall_mem_cons.mpr ⟨lw_p3, List.forall_mem_cons.mpr ⟨lw_p4, List.forall_mem_cons.mpr ⟨lw_p5, List.forall_mem_cons.mpr ⟨lw_p6, List.forall_mem_cons.mpr ⟨lw_p7, List.forall_mem_cons.mpr ⟨lw_p8, List.forall_mem_cons.mpr ⟨lw_p9, List.forall_mem_cons.mpr ⟨lw_p10, List.forall_mem_cons.mpr ⟨lw_p11, List.forall_mem_cons.mpr ⟨lw_p12, List.forall_mem_cons.mpr ⟨lw_p13, List.forall_mem_cons.mpr ⟨lw_p14, List.forall_mem_cons.mpr ⟨lw_p15, fun _ h => absurd h List.not_mem_nil⟩⟩⟩⟩⟩⟩⟩⟩⟩⟩⟩⟩⟩⟩⟩⟩
theorem lw_p16 : lw_okq (⟨"DragonTithe$Moves", "tryTwoMoves", "()V"⟩, 7) := ⟨⟨by decide +kernel, by decide +kernel⟩, List.mem_of_getElem? (i := 221) (by decide +kernel), List.mem_of_getElem? (i := 728) (by decide +kernel), List.mem_of_getElem? (i := 729) (by decide +kernel)⟩
theorem lw_p17 : lw_okq (⟨"DragonTithe$Weather", "casesOf", "(I[I)J"⟩, 5) := ⟨⟨by decide +kernel, by decide +kernel⟩, List.mem_of_getElem? (i := 196) (by decide +kernel), List.mem_of_getElem? (i := 744) (by decide +kernel), List.mem_of_getElem? (i := 745) (by decide +kernel)⟩
theorem lw_p18 : lw_okq (⟨"DragonTithe", "setFraction", "(JJ)V"⟩, 15) := ⟨⟨by decide +kernel, by decide +kernel⟩, List.mem_of_getElem? (i := 21) (by decide +kernel), List.mem_of_getElem? (i := 748) (by decide +kernel), List.mem_of_getElem? (i := 749) (by decide +kernel)⟩
theorem lw_p19 : lw_okq (⟨"DragonTithe$Roads", "spread", "(II)I"⟩, 4) := ⟨⟨by decide +kernel, by decide +kernel⟩, List.mem_of_getElem? (i := 87) (by decide +kernel), List.mem_of_getElem? (i := 790) (by decide +kernel), List.mem_of_getElem? (i := 791) (by decide +kernel)⟩
theorem lw_p20 : lw_okq (⟨"DragonTithe$Game", "rests", "(II)Z"⟩, 5) := ⟨⟨by decide +kernel, by decide +kernel⟩, List.mem_of_getElem? (i := 254) (by decide +kernel), List.mem_of_getElem? (i := 823) (by decide +kernel), List.mem_of_getElem? (i := 824) (by decide +kernel)⟩
theorem lw_p21 : lw_okq (⟨"DragonTithe$Game", "lossOfOne", "(II)I"⟩, 5) := ⟨⟨by decide +kernel, by decide +kernel⟩, List.mem_of_getElem? (i := 254) (by decide +kernel), List.mem_of_getElem? (i := 827) (by decide +kernel), List.mem_of_getElem? (i := 828) (by decide +kernel)⟩
theorem lw_p22 : lw_okq (⟨"DragonTithe$Game", "takesFromOne", "(II)Z"⟩, 5) := ⟨⟨by decide +kernel, by decide +kernel⟩, List.mem_of_getElem? (i := 254) (by decide +kernel), List.mem_of_getElem? (i := 831) (by decide +kernel), List.mem_of_getElem? (i := 832) (by decide +kernel)⟩
theorem lw_p23 : lw_okq (⟨"DragonTithe$Game", "lossOfOther", "(II)I"⟩, 5) := ⟨⟨by decide +kernel, by decide +kernel⟩, List.mem_of_getElem? (i := 254) (by decide +kernel), List.mem_of_getElem? (i := 835) (by decide +kernel), List.mem_of_getElem? (i := 836) (by decide +kernel)⟩
theorem lw_p24 : lw_okq (⟨"DragonTithe$Fit", "rowsFrom", "(II[I)I"⟩, 4) := ⟨⟨by decide +kernel, by decide +kernel⟩, List.mem_of_getElem? (i := 278) (by decide +kernel), List.mem_of_getElem? (i := 880) (by decide +kernel), List.mem_of_getElem? (i := 881) (by decide +kernel)⟩
theorem lw_p25 : lw_okq (⟨"DragonTithe$Fit", "sortClouds", "(I)V"⟩, 4) := ⟨⟨by decide +kernel, by decide +kernel⟩, List.mem_of_getElem? (i := 278) (by decide +kernel), List.mem_of_getElem? (i := 884) (by decide +kernel), List.mem_of_getElem? (i := 885) (by decide +kernel)⟩
theorem lw_p26 : lw_okq (⟨"DragonTithe", "howMany", "(I)I"⟩, 15) := ⟨⟨by decide +kernel, by decide +kernel⟩, List.mem_of_getElem? (i := 21) (by decide +kernel), List.mem_of_getElem? (i := 923) (by decide +kernel), List.mem_of_getElem? (i := 924) (by decide +kernel)⟩
theorem lw_p27 : lw_okq (⟨"DragonTitheModel", "begins", "(I)V"⟩, 20) := ⟨⟨by decide +kernel, by decide +kernel⟩, List.mem_of_getElem? (i := 938) (by decide +kernel), List.mem_of_getElem? (i := 944) (by decide +kernel), List.mem_of_getElem? (i := 945) (by decide +kernel)⟩
theorem lw_p28 : lw_okq (⟨"DragonTitheModel", "bad", "()I"⟩, 20) := ⟨⟨by decide +kernel, by decide +kernel⟩, List.mem_of_getElem? (i := 938) (by decide +kernel), List.mem_of_getElem? (i := 1017) (by decide +kernel), List.mem_of_getElem? (i := 1018) (by decide +kernel)⟩
theorem lw_p29 : lw_okq (⟨"DragonTitheModel", "refuses", "(II)I"⟩, 20) := ⟨⟨by decide +kernel, by decide +kernel⟩, List.mem_of_getElem? (i := 938) (by decide +kernel), List.mem_of_getElem? (i := 1021) (by decide +kernel), List.mem_of_getElem? (i := 1022) (by decide +kernel)⟩
theorem lw_p30 : lw_okq (⟨"DragonTitheModel", "isVillage", "(I)Z"⟩, 20) := ⟨⟨by decide +kernel, by decide +kernel⟩, List.mem_of_getElem? (i := 938) (by decide +kernel), List.mem_of_getElem? (i := 1029) (by decide +kernel), List.mem_of_getElem? (i := 1030) (by decide +kernel)⟩
theorem lw_p31 : lw_okq (⟨"DragonTitheModel", "full", "()I"⟩, 20) := ⟨⟨by decide +kernel, by decide +kernel⟩, List.mem_of_getElem? (i := 938) (by decide +kernel), List.mem_of_getElem? (i := 1034) (by decide +kernel), List.mem_of_getElem? (i := 1035) (by decide +kernel)⟩
def lw_privs_2 : List (MethodName × Nat) := [(⟨"DragonTithe$Moves", "tryTwoMoves", "()V"⟩, 7), (⟨"DragonTithe$Weather", "casesOf", "(I[I)J"⟩, 5), (⟨"DragonTithe", "setFraction", "(JJ)V"⟩, 15), (⟨"DragonTithe$Roads", "spread", "(II)I"⟩, 4), (⟨"DragonTithe$Game", "rests", "(II)Z"⟩, 5), (⟨"DragonTithe$Game", "lossOfOne", "(II)I"⟩, 5), (⟨"DragonTithe$Game", "takesFromOne", "(II)Z"⟩, 5), (⟨"DragonTithe$Game", "lossOfOther", "(II)I"⟩, 5), (⟨"DragonTithe$Fit", "rowsFrom", "(II[I)I"⟩, 4), (⟨"DragonTithe$Fit", "sortClouds", "(I)V"⟩, 4), (⟨"DragonTithe", "howMany", "(I)I"⟩, 15), (⟨"DragonTitheModel", "begins", "(I)V"⟩, 20), (⟨"DragonTitheModel", "bad", "()I"⟩, 20), (⟨"DragonTitheModel", "refuses", "(II)I"⟩, 20), (⟨"DragonTitheModel", "isVillage", "(I)Z"⟩, 20), (⟨"DragonTitheModel", "full", "()I"⟩, 20)]
theorem lw_r2 : ∀ q ∈ lw_privs_2, lw_okq q := List.forall_mem_cons.mpr ⟨lw_p16, List.forall_mem_cons.mpr ⟨lw_p17, List.forall_mem_cons.mpr ⟨lw_p18, List.forall_mem_cons.mpr ⟨lw_p19, List.forall_mem_cons.mpr ⟨lw_p20, List.forall_mem_cons.mpr ⟨lw_p21, List.forall_mem_cons.mpr ⟨lw_p22, List.forall_mem_cons.mpr ⟨lw_p23, List.forall_mem_cons.mpr ⟨lw_p24, List.forall_mem_cons.mpr ⟨lw_p25, List.forall_mem_cons.mpr ⟨lw_p26, List.forall_mem_cons.mpr ⟨lw_p27, List.forall_mem_cons.mpr ⟨lw_p28, List.forall_mem_cons.mpr ⟨lw_p29, List.forall_mem_cons.mpr ⟨lw_p30, List.forall_mem_cons.mpr ⟨lw_p31, fun _ h => absurd h List.not_mem_nil⟩⟩⟩⟩⟩⟩⟩⟩⟩⟩⟩⟩⟩⟩⟩⟩
theorem lw_p32 : lw_okq (⟨"DragonTitheModel", "isLot", "(I)Z"⟩, 20) := ⟨⟨by decide +kernel, by decide +kernel⟩, List.mem_of_getElem? (i := 938) (by decide +kernel), List.mem_of_getElem? (i := 1042) (by decide +kernel), List.mem_of_getElem? (i := 1043) (by decide +kernel)⟩
theorem lw_p33 : lw_okq (⟨"DragonTitheModel", "puts", "(II)I"⟩, 20) := ⟨⟨by decide +kernel, by decide +kernel⟩, List.mem_of_getElem? (i := 938) (by decide +kernel), List.mem_of_getElem? (i := 1046) (by decide +kernel), List.mem_of_getElem? (i := 1047) (by decide +kernel)⟩
theorem lw_p34 : lw_okq (⟨"DragonTitheModel", "no", "()I"⟩, 20) := ⟨⟨by decide +kernel, by decide +kernel⟩, List.mem_of_getElem? (i := 938) (by decide +kernel), List.mem_of_getElem? (i := 1054) (by decide +kernel), List.mem_of_getElem? (i := 1055) (by decide +kernel)⟩
theorem lw_p35 : lw_okq (⟨"DragonTitheModel", "remembers", "()V"⟩, 20) := ⟨⟨by decide +kernel, by decide +kernel⟩, List.mem_of_getElem? (i := 938) (by decide +kernel), List.mem_of_getElem? (i := 1058) (by decide +kernel), List.mem_of_getElem? (i := 1059) (by decide +kernel)⟩
theorem lw_p36 : lw_okq (⟨"DragonTitheModel", "areTwo", "(II)Z"⟩, 20) := ⟨⟨by decide +kernel, by decide +kernel⟩, List.mem_of_getElem? (i := 938) (by decide +kernel), List.mem_of_getElem? (i := 1080) (by decide +kernel), List.mem_of_getElem? (i := 1081) (by decide +kernel)⟩
theorem lw_p37 : lw_okq (⟨"DragonTitheModel", "reads", "()Z"⟩, 20) := ⟨⟨by decide +kernel, by decide +kernel⟩, List.mem_of_getElem? (i := 938) (by decide +kernel), List.mem_of_getElem? (i := 1101) (by decide +kernel), List.mem_of_getElem? (i := 1102) (by decide +kernel)⟩
theorem lw_p38 : lw_okq (⟨"DragonTitheModel", "scans", "()V"⟩, 20) := ⟨⟨by decide +kernel, by decide +kernel⟩, List.mem_of_getElem? (i := 938) (by decide +kernel), List.mem_of_getElem? (i := 1105) (by decide +kernel), List.mem_of_getElem? (i := 1106) (by decide +kernel)⟩
theorem lw_p39 : lw_okq (⟨"DragonTitheModel", "isAt", "(II)Z"⟩, 20) := ⟨⟨by decide +kernel, by decide +kernel⟩, List.mem_of_getElem? (i := 938) (by decide +kernel), List.mem_of_getElem? (i := 1109) (by decide +kernel), List.mem_of_getElem? (i := 1110) (by decide +kernel)⟩
theorem lw_p40 : lw_okq (⟨"DragonTitheModel", "tellsItem", "(I)Z"⟩, 20) := ⟨⟨by decide +kernel, by decide +kernel⟩, List.mem_of_getElem? (i := 938) (by decide +kernel), List.mem_of_getElem? (i := 1127) (by decide +kernel), List.mem_of_getElem? (i := 1128) (by decide +kernel)⟩
theorem lw_p41 : lw_okq (⟨"DragonTitheModel", "isSet", "(I)Z"⟩, 20) := ⟨⟨by decide +kernel, by decide +kernel⟩, List.mem_of_getElem? (i := 938) (by decide +kernel), List.mem_of_getElem? (i := 1141) (by decide +kernel), List.mem_of_getElem? (i := 1142) (by decide +kernel)⟩
theorem lw_p42 : lw_okq (⟨"DragonTitheModel", "asNow", "()V"⟩, 20) := ⟨⟨by decide +kernel, by decide +kernel⟩, List.mem_of_getElem? (i := 938) (by decide +kernel), List.mem_of_getElem? (i := 1145) (by decide +kernel), List.mem_of_getElem? (i := 1146) (by decide +kernel)⟩
theorem lw_p43 : lw_okq (⟨"DragonTitheModel", "goes", "(IZII)I"⟩, 20) := ⟨⟨by decide +kernel, by decide +kernel⟩, List.mem_of_getElem? (i := 938) (by decide +kernel), List.mem_of_getElem? (i := 1149) (by decide +kernel), List.mem_of_getElem? (i := 1150) (by decide +kernel)⟩
theorem lw_p44 : lw_okq (⟨"DragonTitheModel", "all", "()I"⟩, 20) := ⟨⟨by decide +kernel, by decide +kernel⟩, List.mem_of_getElem? (i := 938) (by decide +kernel), List.mem_of_getElem? (i := 1153) (by decide +kernel), List.mem_of_getElem? (i := 1154) (by decide +kernel)⟩
theorem lw_p45 : lw_okq (⟨"DragonTitheModel", "greatestOf", "(IIII)I"⟩, 20) := ⟨⟨by decide +kernel, by decide +kernel⟩, List.mem_of_getElem? (i := 938) (by decide +kernel), List.mem_of_getElem? (i := 1157) (by decide +kernel), List.mem_of_getElem? (i := 1158) (by decide +kernel)⟩
theorem lw_p46 : lw_okq (⟨"DragonTitheModel", "sightOf", "(II)I"⟩, 20) := ⟨⟨by decide +kernel, by decide +kernel⟩, List.mem_of_getElem? (i := 938) (by decide +kernel), List.mem_of_getElem? (i := 1161) (by decide +kernel), List.mem_of_getElem? (i := 1162) (by decide +kernel)⟩
theorem lw_p47 : lw_okq (⟨"DragonTitheModel", "headsOf", "(I)I"⟩, 20) := ⟨⟨by decide +kernel, by decide +kernel⟩, List.mem_of_getElem? (i := 938) (by decide +kernel), List.mem_of_getElem? (i := 1184) (by decide +kernel), List.mem_of_getElem? (i := 1185) (by decide +kernel)⟩
def lw_privs_3 : List (MethodName × Nat) := [(⟨"DragonTitheModel", "isLot", "(I)Z"⟩, 20), (⟨"DragonTitheModel", "puts", "(II)I"⟩, 20), (⟨"DragonTitheModel", "no", "()I"⟩, 20), (⟨"DragonTitheModel", "remembers", "()V"⟩, 20), (⟨"DragonTitheModel", "areTwo", "(II)Z"⟩, 20), (⟨"DragonTitheModel", "reads", "()Z"⟩, 20), (⟨"DragonTitheModel", "scans", "()V"⟩, 20), (⟨"DragonTitheModel", "isAt", "(II)Z"⟩, 20), (⟨"DragonTitheModel", "tellsItem", "(I)Z"⟩, 20), (⟨"DragonTitheModel", "isSet", "(I)Z"⟩, 20), (⟨"DragonTitheModel", "asNow", "()V"⟩, 20), (⟨"DragonTitheModel", "goes", "(IZII)I"⟩, 20), (⟨"DragonTitheModel", "all", "()I"⟩, 20), (⟨"DragonTitheModel", "greatestOf", "(IIII)I"⟩, 20), (⟨"DragonTitheModel", "sightOf", "(II)I"⟩, 20), (⟨"DragonTitheModel", "headsOf", "(I)I"⟩, 20)]
theorem lw_r3 : ∀ q ∈ lw_privs_3, lw_okq q := List.forall_mem_cons.mpr ⟨lw_p32, List.forall_mem_cons.mpr ⟨lw_p33, List.forall_mem_cons.mpr ⟨lw_p34, List.forall_mem_cons.mpr ⟨lw_p35, List.forall_mem_cons.mpr ⟨lw_p36, List.forall_mem_cons.mpr ⟨lw_p37, List.forall_mem_cons.mpr ⟨lw_p38, List.forall_mem_cons.mpr ⟨lw_p39, List.forall_mem_cons.mpr ⟨lw_p40, List.forall_mem_cons.mpr ⟨lw_p41, List.forall_mem_cons.mpr ⟨lw_p42, List.forall_mem_cons.mpr ⟨lw_p43, List.forall_mem_cons.mpr ⟨lw_p44, List.forall_mem_cons.mpr ⟨lw_p45, List.forall_mem_cons.mpr ⟨lw_p46, List.forall_mem_cons.mpr ⟨lw_p47, fun _ h => absurd h List.not_mem_nil⟩⟩⟩⟩⟩⟩⟩⟩⟩⟩⟩⟩⟩⟩⟩⟩
theorem lw_p48 : lw_okq (⟨"DragonTitheModel", "tries", "(III)V"⟩, 20) := ⟨⟨by decide +kernel, by decide +kernel⟩, List.mem_of_getElem? (i := 938) (by decide +kernel), List.mem_of_getElem? (i := 1198) (by decide +kernel), List.mem_of_getElem? (i := 1199) (by decide +kernel)⟩
theorem lw_p49 : lw_okq (⟨"DragonTitheModel", "takenNow", "(I)I"⟩, 20) := ⟨⟨by decide +kernel, by decide +kernel⟩, List.mem_of_getElem? (i := 938) (by decide +kernel), List.mem_of_getElem? (i := 1202) (by decide +kernel), List.mem_of_getElem? (i := 1203) (by decide +kernel)⟩
theorem lw_p50 : lw_okq (⟨"DragonTitheModel", "tithe", "(I)I"⟩, 20) := ⟨⟨by decide +kernel, by decide +kernel⟩, List.mem_of_getElem? (i := 938) (by decide +kernel), List.mem_of_getElem? (i := 1206) (by decide +kernel), List.mem_of_getElem? (i := 1207) (by decide +kernel)⟩
theorem lw_p51 : lw_okq (⟨"DragonTitheModel", "waysOf", "(I)J"⟩, 20) := ⟨⟨by decide +kernel, by decide +kernel⟩, List.mem_of_getElem? (i := 938) (by decide +kernel), List.mem_of_getElem? (i := 1214) (by decide +kernel), List.mem_of_getElem? (i := 1215) (by decide +kernel)⟩
theorem lw_p52 : lw_okq (⟨"DragonTitheModel", "whole", "()J"⟩, 20) := ⟨⟨by decide +kernel, by decide +kernel⟩, List.mem_of_getElem? (i := 938) (by decide +kernel), List.mem_of_getElem? (i := 1218) (by decide +kernel), List.mem_of_getElem? (i := 1219) (by decide +kernel)⟩
theorem lw_p53 : lw_okq (⟨"DragonTitheModel", "keeps", "(JJ)I"⟩, 20) := ⟨⟨by decide +kernel, by decide +kernel⟩, List.mem_of_getElem? (i := 938) (by decide +kernel), List.mem_of_getElem? (i := 1222) (by decide +kernel), List.mem_of_getElem? (i := 1223) (by decide +kernel)⟩
theorem lw_p54 : lw_okq (⟨"DragonTitheModel", "meanOf", "(III)J"⟩, 20) := ⟨⟨by decide +kernel, by decide +kernel⟩, List.mem_of_getElem? (i := 938) (by decide +kernel), List.mem_of_getElem? (i := 1233) (by decide +kernel), List.mem_of_getElem? (i := 1234) (by decide +kernel)⟩
theorem lw_p55 : lw_okq (⟨"DragonTitheModel", "openRoads", "()I"⟩, 20) := ⟨⟨by decide +kernel, by decide +kernel⟩, List.mem_of_getElem? (i := 938) (by decide +kernel), List.mem_of_getElem? (i := 1245) (by decide +kernel), List.mem_of_getElem? (i := 1246) (by decide +kernel)⟩
theorem lw_p56 : lw_okq (⟨"DragonTitheModel", "steps", "(II)I"⟩, 20) := ⟨⟨by decide +kernel, by decide +kernel⟩, List.mem_of_getElem? (i := 938) (by decide +kernel), List.mem_of_getElem? (i := 1249) (by decide +kernel), List.mem_of_getElem? (i := 1250) (by decide +kernel)⟩
theorem lw_p57 : lw_okq (⟨"DragonTitheModel", "reaches", "(II)I"⟩, 20) := ⟨⟨by decide +kernel, by decide +kernel⟩, List.mem_of_getElem? (i := 938) (by decide +kernel), List.mem_of_getElem? (i := 1260) (by decide +kernel), List.mem_of_getElem? (i := 1261) (by decide +kernel)⟩
theorem lw_p58 : lw_okq (⟨"DragonTitheModel", "countOf", "(I)I"⟩, 20) := ⟨⟨by decide +kernel, by decide +kernel⟩, List.mem_of_getElem? (i := 938) (by decide +kernel), List.mem_of_getElem? (i := 1329) (by decide +kernel), List.mem_of_getElem? (i := 1330) (by decide +kernel)⟩
theorem lw_p59 : lw_okq (⟨"DragonTitheModel", "mixed", "(JII)J"⟩, 20) := ⟨⟨by decide +kernel, by decide +kernel⟩, List.mem_of_getElem? (i := 938) (by decide +kernel), List.mem_of_getElem? (i := 1339) (by decide +kernel), List.mem_of_getElem? (i := 1340) (by decide +kernel)⟩
def lw_privs_4 : List (MethodName × Nat) := [(⟨"DragonTitheModel", "tries", "(III)V"⟩, 20), (⟨"DragonTitheModel", "takenNow", "(I)I"⟩, 20), (⟨"DragonTitheModel", "tithe", "(I)I"⟩, 20), (⟨"DragonTitheModel", "waysOf", "(I)J"⟩, 20), (⟨"DragonTitheModel", "whole", "()J"⟩, 20), (⟨"DragonTitheModel", "keeps", "(JJ)I"⟩, 20), (⟨"DragonTitheModel", "meanOf", "(III)J"⟩, 20), (⟨"DragonTitheModel", "openRoads", "()I"⟩, 20), (⟨"DragonTitheModel", "steps", "(II)I"⟩, 20), (⟨"DragonTitheModel", "reaches", "(II)I"⟩, 20), (⟨"DragonTitheModel", "countOf", "(I)I"⟩, 20), (⟨"DragonTitheModel", "mixed", "(JII)J"⟩, 20)]
theorem lw_r4 : ∀ q ∈ lw_privs_4, lw_okq q := List.forall_mem_cons.mpr ⟨lw_p48, List.forall_mem_cons.mpr ⟨lw_p49, List.forall_mem_cons.mpr ⟨lw_p50, List.forall_mem_cons.mpr ⟨lw_p51, List.forall_mem_cons.mpr ⟨lw_p52, List.forall_mem_cons.mpr ⟨lw_p53, List.forall_mem_cons.mpr ⟨lw_p54, List.forall_mem_cons.mpr ⟨lw_p55, List.forall_mem_cons.mpr ⟨lw_p56, List.forall_mem_cons.mpr ⟨lw_p57, List.forall_mem_cons.mpr ⟨lw_p58, List.forall_mem_cons.mpr ⟨lw_p59, fun _ h => absurd h List.not_mem_nil⟩⟩⟩⟩⟩⟩⟩⟩⟩⟩⟩⟩
def lw_privs : List (MethodName × Nat) := lw_privs_1 ++ (lw_privs_2 ++ (lw_privs_3 ++ (lw_privs_4)))
def lw_tbl : List Cond := k2_sels lw_privs ++ tables_1
theorem lw_privs_ok : ∀ q ∈ lw_privs, lw_okq q := by
  show ∀ q ∈ lw_privs_1 ++ (lw_privs_2 ++ (lw_privs_3 ++ (lw_privs_4))), lw_okq q
  exact List.forall_mem_append.mpr ⟨lw_r1, List.forall_mem_append.mpr ⟨lw_r2, List.forall_mem_append.mpr ⟨lw_r3, lw_r4⟩⟩⟩
def RX0 : String := "DragonTithe$County"
def TX0 : u_T := fun k => match k with
  | 0 => ("DragonTithe$County", "herd", "LDragonTithe$Herd;", true)
  | 1 => ("DragonTithe$County", "roads", "LDragonTithe$Roads;", true)
  | 2 => ("DragonTithe$County", "past", "LDragonTithe$Past;", true)
  | 3 => ("DragonTithe$County", "odds", "[I", true)
  | _ => ("DragonTithe$County", "toldTaken", "[I", true)
def tyX0 : Nat → FieldType := fun k => match k with
  | 0 => .object "DragonTithe$Herd"
  | 1 => .object "DragonTithe$Roads"
  | 2 => .object "DragonTithe$Past"
  | 3 => .array .int
  | _ => .array .int
abbrev wsX00 : List Cond := u_ws RX0 TX0 5
theorem nmX0 : ∀ a, a < 5 → ∀ b, b < 5 → a ≠ b → (TX0 a).2.1 ≠ (TX0 b).2.1 := by decide +kernel
theorem tyX0_ok : ∀ k, k < 5 → parseFieldDescriptor (TX0 k).2.2.1 = some (tyX0 k) := by decide +kernel
abbrev cX0_init : ByteArray := prog_2_method_1_code
def yX0_init : MethodName := ⟨RX0, "<init>", "()V"⟩
abbrev cX0_become : ByteArray := prog_2_method_2_code
def yX0_become : MethodName := ⟨RX0, "become", "(LDragonTithe$County;)V"⟩
abbrev cX0_startAnew : ByteArray := prog_2_method_3_code
def yX0_startAnew : MethodName := ⟨RX0, "startAnew", "(I)I"⟩
abbrev cX0_addLot : ByteArray := prog_2_method_4_code
def yX0_addLot : MethodName := ⟨RX0, "addLot", "(III)I"⟩
abbrev cX0_moveLot : ByteArray := prog_2_method_5_code
def yX0_moveLot : MethodName := ⟨RX0, "moveLot", "(II)I"⟩
abbrev cX0_driveHeads : ByteArray := prog_2_method_6_code
def yX0_driveHeads : MethodName := ⟨RX0, "driveHeads", "(III)I"⟩
abbrev cX0_dropLot : ByteArray := prog_2_method_7_code
def yX0_dropLot : MethodName := ⟨RX0, "dropLot", "()I"⟩
abbrev cX0_setGrowth : ByteArray := prog_2_method_8_code
def yX0_setGrowth : MethodName := ⟨RX0, "setGrowth", "(I)I"⟩
abbrev cX0_setOdds : ByteArray := prog_2_method_9_code
def yX0_setOdds : MethodName := ⟨RX0, "setOdds", "(II)I"⟩
abbrev cX0_addRoad : ByteArray := prog_2_method_10_code
def yX0_addRoad : MethodName := ⟨RX0, "addRoad", "(II)I"⟩
abbrev cX0_setGuard : ByteArray := prog_2_method_11_code
def yX0_setGuard : MethodName := ⟨RX0, "setGuard", "(IZ)I"⟩
abbrev cX0_setTold : ByteArray := prog_2_method_12_code
def yX0_setTold : MethodName := ⟨RX0, "setTold", "(II)I"⟩
abbrev cX0_passMoon : ByteArray := prog_2_method_13_code
def yX0_passMoon : MethodName := ⟨RX0, "passMoon", "(IZ)I"⟩
abbrev cX0_undoLast : ByteArray := prog_2_method_14_code
def yX0_undoLast : MethodName := ⟨RX0, "undoLast", "()I"⟩
abbrev cX0_digestOn : ByteArray := prog_2_method_15_code
def yX0_digestOn : MethodName := ⟨RX0, "digestOn", "(J)J"⟩
def RX1 : String := "DragonTithe$Fit"
def TX1 : u_T := fun k => match k with
  | 0 => ("DragonTithe$Fit", "ahead", "[LDragonTithe$Herd;", true)
  | 1 => ("DragonTithe$Fit", "ways", "[[I", true)
  | 2 => ("DragonTithe$Fit", "leastClouds", "[[I", true)
  | _ => ("DragonTithe$Fit", "first", "[I", true)
def tyX1 : Nat → FieldType := fun k => match k with
  | 0 => .array (.object "DragonTithe$Herd")
  | 1 => .array (.array .int)
  | 2 => .array (.array .int)
  | _ => .array .int
abbrev wsX10 : List Cond := u_ws RX1 TX1 4
theorem nmX1 : ∀ a, a < 4 → ∀ b, b < 4 → a ≠ b → (TX1 a).2.1 ≠ (TX1 b).2.1 := by decide +kernel
theorem tyX1_ok : ∀ k, k < 4 → parseFieldDescriptor (TX1 k).2.2.1 = some (tyX1 k) := by decide +kernel
abbrev cX1_init : ByteArray := prog_3_method_1_code
def yX1_init : MethodName := ⟨RX1, "<init>", "()V"⟩
abbrev cX1_search : ByteArray := prog_3_method_2_code
def yX1_search : MethodName := ⟨RX1, "search", "(LDragonTithe$County;I)I"⟩
abbrev cX1_rowsFrom : ByteArray := prog_3_method_3_code
def yX1_rowsFrom : MethodName := ⟨RX1, "rowsFrom", "(II[I)I"⟩
abbrev cX1_sortClouds : ByteArray := prog_3_method_4_code
def yX1_sortClouds : MethodName := ⟨RX1, "sortClouds", "(I)V"⟩
def RX2 : String := "DragonTithe$Game"
def TX2 : u_T := fun k => match k with
  | 0 => ("DragonTithe$Game", "oneSight", "I", false)
  | 1 => ("DragonTithe$Game", "otherSight", "I", false)
  | 2 => ("DragonTithe$Game", "oneIsLesser", "Z", false)
  | 3 => ("DragonTithe$Game", "resting", "I", false)
  | _ => ("DragonTithe$Game", "first", "I", false)
def tyX2 : Nat → FieldType := fun k => match k with
  | 0 => .int
  | 1 => .int
  | 2 => .boolean
  | 3 => .int
  | _ => .int
abbrev wsX20 : List Cond := u_ws RX2 TX2 5
theorem nmX2 : ∀ a, a < 5 → ∀ b, b < 5 → a ≠ b → (TX2 a).2.1 ≠ (TX2 b).2.1 := by decide +kernel
theorem tyX2_ok : ∀ k, k < 5 → parseFieldDescriptor (TX2 k).2.2.1 = some (tyX2 k) := by decide +kernel
abbrev cX2_init : ByteArray := prog_4_method_1_code
def yX2_init : MethodName := ⟨RX2, "<init>", "()V"⟩
abbrev cX2_search : ByteArray := prog_4_method_2_code
def yX2_search : MethodName := ⟨RX2, "search", "(LDragonTithe$Herd;II)V"⟩
abbrev cX2_rests : ByteArray := prog_4_method_3_code
def yX2_rests : MethodName := ⟨RX2, "rests", "(II)Z"⟩
abbrev cX2_lossOfOne : ByteArray := prog_4_method_4_code
def yX2_lossOfOne : MethodName := ⟨RX2, "lossOfOne", "(II)I"⟩
abbrev cX2_lossOfOther : ByteArray := prog_4_method_5_code
def yX2_lossOfOther : MethodName := ⟨RX2, "lossOfOther", "(II)I"⟩
abbrev cX2_takesFromOne : ByteArray := prog_4_method_6_code
def yX2_takesFromOne : MethodName := ⟨RX2, "takesFromOne", "(II)Z"⟩
def RX3 : String := "DragonTithe$Herd"
def TX3 : u_T := fun k => match k with
  | 0 => ("DragonTithe$Herd", "villages", "I", false)
  | 1 => ("DragonTithe$Herd", "lots", "I", false)
  | 2 => ("DragonTithe$Herd", "moon", "I", false)
  | 3 => ("DragonTithe$Herd", "growth", "I", false)
  | 4 => ("DragonTithe$Herd", "kind", "[I", true)
  | 5 => ("DragonTithe$Herd", "place", "[I", true)
  | 6 => ("DragonTithe$Herd", "heads", "[I", true)
  | _ => ("DragonTithe$Herd", "sight", "[I", true)
def tyX3 : Nat → FieldType := fun k => match k with
  | 0 => .int
  | 1 => .int
  | 2 => .int
  | 3 => .int
  | 4 => .array .int
  | 5 => .array .int
  | 6 => .array .int
  | _ => .array .int
abbrev wsX30 : List Cond := u_ws RX3 TX3 8
theorem nmX3 : ∀ a, a < 8 → ∀ b, b < 8 → a ≠ b → (TX3 a).2.1 ≠ (TX3 b).2.1 := by decide +kernel
theorem tyX3_ok : ∀ k, k < 8 → parseFieldDescriptor (TX3 k).2.2.1 = some (tyX3 k) := by decide +kernel
abbrev cX3_init : ByteArray := prog_5_method_1_code
def yX3_init : MethodName := ⟨RX3, "<init>", "()V"⟩
abbrev cX3_startAnew : ByteArray := prog_5_method_2_code
def yX3_startAnew : MethodName := ⟨RX3, "startAnew", "(I)V"⟩
abbrev cX3_become : ByteArray := prog_5_method_3_code
def yX3_become : MethodName := ⟨RX3, "become", "(LDragonTithe$Herd;)V"⟩
abbrev cX3_hasVillage : ByteArray := prog_5_method_4_code
def yX3_hasVillage : MethodName := ⟨RX3, "hasVillage", "(I)Z"⟩
abbrev cX3_hasPair : ByteArray := prog_5_method_5_code
def yX3_hasPair : MethodName := ⟨RX3, "hasPair", "(II)Z"⟩
abbrev cX3_hasLot : ByteArray := prog_5_method_6_code
def yX3_hasLot : MethodName := ⟨RX3, "hasLot", "(I)Z"⟩
abbrev cX3_hasClouds : ByteArray := prog_5_method_7_code
def yX3_hasClouds : MethodName := ⟨RX3, "hasClouds", "(I)Z"⟩
abbrev cX3_seenOf : ByteArray := prog_5_method_8_code
def yX3_seenOf : MethodName := ⟨RX3, "seenOf", "(I)I"⟩
abbrev cX3_takenOf : ByteArray := prog_5_method_9_code
def yX3_takenOf : MethodName := ⟨RX3, "takenOf", "(I)I"⟩
abbrev cX3_headsIn : ByteArray := prog_5_method_10_code
def yX3_headsIn : MethodName := ⟨RX3, "headsIn", "(I)I"⟩
abbrev cX3_sightOf : ByteArray := prog_5_method_11_code
def yX3_sightOf : MethodName := ⟨RX3, "sightOf", "(I)I"⟩
abbrev cX3_tollOf : ByteArray := prog_5_method_12_code
def yX3_tollOf : MethodName := ⟨RX3, "tollOf", "(I)I"⟩
abbrev cX3_look : ByteArray := prog_5_method_13_code
def yX3_look : MethodName := ⟨RX3, "look", "()V"⟩
abbrev cX3_greatestBut : ByteArray := prog_5_method_14_code
def yX3_greatestBut : MethodName := ⟨RX3, "greatestBut", "(I)I"⟩
abbrev cX3_greatestIn : ByteArray := prog_5_method_15_code
def yX3_greatestIn : MethodName := ⟨RX3, "greatestIn", "([III)I"⟩
abbrev cX3_takenFromLeague : ByteArray := prog_5_method_16_code
def yX3_takenFromLeague : MethodName := ⟨RX3, "takenFromLeague", "(I)I"⟩
abbrev cX3_fullMoon : ByteArray := prog_5_method_17_code
def yX3_fullMoon : MethodName := ⟨RX3, "fullMoon", "(IZ)I"⟩
abbrev cX3_takeFrom : ByteArray := prog_5_method_18_code
def yX3_takeFrom : MethodName := ⟨RX3, "takeFrom", "(I)I"⟩
abbrev cX3_growAll : ByteArray := prog_5_method_19_code
def yX3_growAll : MethodName := ⟨RX3, "growAll", "()V"⟩
def RX4 : String := "DragonTithe$Kind"
def TX4 : u_T := fun k => match k with
  | _ => ("", "", "", false)
def tyX4 : Nat → FieldType := fun k => match k with
  | _ => .int
abbrev wsX40 : List Cond := u_ws RX4 TX4 0
theorem nmX4 : ∀ a, a < 0 → ∀ b, b < 0 → a ≠ b → (TX4 a).2.1 ≠ (TX4 b).2.1 := by decide +kernel
theorem tyX4_ok : ∀ k, k < 0 → parseFieldDescriptor (TX4 k).2.2.1 = some (tyX4 k) := by decide +kernel
abbrev cX4_seen : ByteArray := prog_6_method_2_code
def yX4_seen : MethodName := ⟨RX4, "seen", "(III)I"⟩
abbrev cX4_taken : ByteArray := prog_6_method_3_code
def yX4_taken : MethodName := ⟨RX4, "taken", "(II)I"⟩
abbrev cX4_grows : ByteArray := prog_6_method_4_code
def yX4_grows : MethodName := ⟨RX4, "grows", "(I)Z"⟩
def RX5 : String := "DragonTithe$Moves"
def TX5 : u_T := fun k => match k with
  | 0 => ("DragonTithe$Moves", "herd", "LDragonTithe$Herd;", true)
  | 1 => ("DragonTithe$Moves", "clouds", "I", false)
  | 2 => ("DragonTithe$Moves", "sight", "[I", true)
  | 3 => ("DragonTithe$Moves", "toll", "[I", true)
  | 4 => ("DragonTithe$Moves", "best", "I", false)
  | 5 => ("DragonTithe$Moves", "first", "I", false)
  | _ => ("DragonTithe$Moves", "second", "I", false)
def tyX5 : Nat → FieldType := fun k => match k with
  | 0 => .object "DragonTithe$Herd"
  | 1 => .int
  | 2 => .array .int
  | 3 => .array .int
  | 4 => .int
  | 5 => .int
  | _ => .int
abbrev wsX50 : List Cond := u_ws RX5 TX5 7
theorem nmX5 : ∀ a, a < 7 → ∀ b, b < 7 → a ≠ b → (TX5 a).2.1 ≠ (TX5 b).2.1 := by decide +kernel
theorem tyX5_ok : ∀ k, k < 7 → parseFieldDescriptor (TX5 k).2.2.1 = some (tyX5 k) := by decide +kernel
abbrev cX5_init : ByteArray := prog_7_method_1_code
def yX5_init : MethodName := ⟨RX5, "<init>", "()V"⟩
abbrev cX5_search : ByteArray := prog_7_method_2_code
def yX5_search : MethodName := ⟨RX5, "search", "(LDragonTithe$Herd;II)V"⟩
abbrev cX5_tryTwoMoves : ByteArray := prog_7_method_3_code
def yX5_tryTwoMoves : MethodName := ⟨RX5, "tryTwoMoves", "()V"⟩
abbrev cX5_tryLastMove : ByteArray := prog_7_method_4_code
def yX5_tryLastMove : MethodName := ⟨RX5, "tryLastMove", "(II)V"⟩
abbrev cX5_weigh : ByteArray := prog_7_method_5_code
def yX5_weigh : MethodName := ⟨RX5, "weigh", "(II)V"⟩
abbrev cX5_shift : ByteArray := prog_7_method_6_code
def yX5_shift : MethodName := ⟨RX5, "shift", "(III)V"⟩
abbrev cX5_takenNow : ByteArray := prog_7_method_7_code
def yX5_takenNow : MethodName := ⟨RX5, "takenNow", "()I"⟩
def RX6 : String := "DragonTithe$Past"
def TX6 : u_T := fun k => match k with
  | 0 => ("DragonTithe$Past", "size", "I", false)
  | 1 => ("DragonTithe$Past", "moons", "[I", true)
  | _ => ("DragonTithe$Past", "heads", "[I", true)
def tyX6 : Nat → FieldType := fun k => match k with
  | 0 => .int
  | 1 => .array .int
  | _ => .array .int
abbrev wsX60 : List Cond := u_ws RX6 TX6 3
theorem nmX6 : ∀ a, a < 3 → ∀ b, b < 3 → a ≠ b → (TX6 a).2.1 ≠ (TX6 b).2.1 := by decide +kernel
theorem tyX6_ok : ∀ k, k < 3 → parseFieldDescriptor (TX6 k).2.2.1 = some (tyX6 k) := by decide +kernel
abbrev cX6_init : ByteArray := prog_8_method_1_code
def yX6_init : MethodName := ⟨RX6, "<init>", "()V"⟩
abbrev cX6_become : ByteArray := prog_8_method_2_code
def yX6_become : MethodName := ⟨RX6, "become", "(LDragonTithe$Past;)V"⟩
abbrev cX6_keep : ByteArray := prog_8_method_3_code
def yX6_keep : MethodName := ⟨RX6, "keep", "(LDragonTithe$Herd;)V"⟩
abbrev cX6_putBack : ByteArray := prog_8_method_4_code
def yX6_putBack : MethodName := ⟨RX6, "putBack", "(LDragonTithe$Herd;)I"⟩
def RX7 : String := "DragonTithe$Roads"
def TX7 : u_T := fun k => match k with
  | 0 => ("DragonTithe$Roads", "size", "I", false)
  | 1 => ("DragonTithe$Roads", "one", "[I", true)
  | 2 => ("DragonTithe$Roads", "other", "[I", true)
  | _ => ("DragonTithe$Roads", "guarded", "I", false)
def tyX7 : Nat → FieldType := fun k => match k with
  | 0 => .int
  | 1 => .array .int
  | 2 => .array .int
  | _ => .int
abbrev wsX70 : List Cond := u_ws RX7 TX7 4
theorem nmX7 : ∀ a, a < 4 → ∀ b, b < 4 → a ≠ b → (TX7 a).2.1 ≠ (TX7 b).2.1 := by decide +kernel
theorem tyX7_ok : ∀ k, k < 4 → parseFieldDescriptor (TX7 k).2.2.1 = some (tyX7 k) := by decide +kernel
abbrev cX7_init : ByteArray := prog_9_method_1_code
def yX7_init : MethodName := ⟨RX7, "<init>", "()V"⟩
abbrev cX7_startAnew : ByteArray := prog_9_method_2_code
def yX7_startAnew : MethodName := ⟨RX7, "startAnew", "()V"⟩
abbrev cX7_become : ByteArray := prog_9_method_3_code
def yX7_become : MethodName := ⟨RX7, "become", "(LDragonTithe$Roads;)V"⟩
abbrev cX7_add : ByteArray := prog_9_method_4_code
def yX7_add : MethodName := ⟨RX7, "add", "(II)I"⟩
abbrev cX7_isGuarded : ByteArray := prog_9_method_5_code
def yX7_isGuarded : MethodName := ⟨RX7, "isGuarded", "(I)Z"⟩
abbrev cX7_shortestWay : ByteArray := prog_9_method_6_code
def yX7_shortestWay : MethodName := ⟨RX7, "shortestWay", "(II)I"⟩
abbrev cX7_sideOf : ByteArray := prog_9_method_7_code
def yX7_sideOf : MethodName := ⟨RX7, "sideOf", "(II)I"⟩
abbrev cX7_fewestGuards : ByteArray := prog_9_method_8_code
def yX7_fewestGuards : MethodName := ⟨RX7, "fewestGuards", "(II)I"⟩
abbrev cX7_spread : ByteArray := prog_9_method_9_code
def yX7_spread : MethodName := ⟨RX7, "spread", "(II)I"⟩
def RX8 : String := "DragonTithe$Scroll"
def TX8 : u_T := fun k => match k with
  | 0 => ("DragonTithe$Scroll", "text", "[C", true)
  | 1 => ("DragonTithe$Scroll", "length", "I", false)
  | 2 => ("DragonTithe$Scroll", "items", "I", false)
  | 3 => ("DragonTithe$Scroll", "word", "[I", true)
  | 4 => ("DragonTithe$Scroll", "numbers", "[I", true)
  | 5 => ("DragonTithe$Scroll", "place", "I", false)
  | 6 => ("DragonTithe$Scroll", "behind", "I", false)
  | 7 => ("DragonTithe$Scroll", "sort", "I", false)
  | _ => ("DragonTithe$Scroll", "value", "I", false)
def tyX8 : Nat → FieldType := fun k => match k with
  | 0 => .array .char
  | 1 => .int
  | 2 => .int
  | 3 => .array .int
  | 4 => .array .int
  | 5 => .int
  | 6 => .int
  | 7 => .int
  | _ => .int
abbrev wsX80 : List Cond := u_ws RX8 TX8 9
theorem nmX8 : ∀ a, a < 9 → ∀ b, b < 9 → a ≠ b → (TX8 a).2.1 ≠ (TX8 b).2.1 := by decide +kernel
theorem tyX8_ok : ∀ k, k < 9 → parseFieldDescriptor (TX8 k).2.2.1 = some (tyX8 k) := by decide +kernel
abbrev cX8_init : ByteArray := prog_10_method_1_code
def yX8_init : MethodName := ⟨RX8, "<init>", "()V"⟩
abbrev cX8_append : ByteArray := prog_10_method_2_code
def yX8_append : MethodName := ⟨RX8, "append", "(I)I"⟩
abbrev cX8_numberOf : ByteArray := prog_10_method_3_code
def yX8_numberOf : MethodName := ⟨RX8, "numberOf", "(II)I"⟩
abbrev cX8_parse : ByteArray := prog_10_method_4_code
def yX8_parse : MethodName := ⟨RX8, "parse", "()I"⟩
abbrev cX8_parseItem : ByteArray := prog_10_method_5_code
def yX8_parseItem : MethodName := ⟨RX8, "parseItem", "(I)Z"⟩
abbrev cX8_step : ByteArray := prog_10_method_6_code
def yX8_step : MethodName := ⟨RX8, "step", "()V"⟩
abbrev cX8_stepOverWord : ByteArray := prog_10_method_7_code
def yX8_stepOverWord : MethodName := ⟨RX8, "stepOverWord", "()V"⟩
abbrev cX8_stepOverNumber : ByteArray := prog_10_method_8_code
def yX8_stepOverNumber : MethodName := ⟨RX8, "stepOverNumber", "()V"⟩
abbrev cX8_tokenIs : ByteArray := prog_10_method_9_code
def yX8_tokenIs : MethodName := ⟨RX8, "tokenIs", "(Ljava/lang/String;)Z"⟩
abbrev cX8_isLetter : ByteArray := prog_10_method_10_code
def yX8_isLetter : MethodName := ⟨RX8, "isLetter", "(I)Z"⟩
abbrev cX8_isFigure : ByteArray := prog_10_method_11_code
def yX8_isFigure : MethodName := ⟨RX8, "isFigure", "(I)Z"⟩
abbrev cX8_nameOf : ByteArray := prog_10_method_12_code
def yX8_nameOf : MethodName := ⟨RX8, "nameOf", "(I)Ljava/lang/String;"⟩
def RX9 : String := "DragonTithe$Weather"
def TX9 : u_T := fun k => match k with
  | 0 => ("DragonTithe$Weather", "sight", "[I", true)
  | 1 => ("DragonTithe$Weather", "toll", "[I", true)
  | 2 => ("DragonTithe$Weather", "weight", "[J", true)
  | 3 => ("DragonTithe$Weather", "whole", "J", false)
  | _ => ("DragonTithe$Weather", "villages", "I", false)
def tyX9 : Nat → FieldType := fun k => match k with
  | 0 => .array .int
  | 1 => .array .int
  | 2 => .array .long
  | 3 => .long
  | _ => .int
abbrev wsX90 : List Cond := u_ws RX9 TX9 5
theorem nmX9 : ∀ a, a < 5 → ∀ b, b < 5 → a ≠ b → (TX9 a).2.1 ≠ (TX9 b).2.1 := by decide +kernel
theorem tyX9_ok : ∀ k, k < 5 → parseFieldDescriptor (TX9 k).2.2.1 = some (tyX9 k) := by decide +kernel
abbrev cX9_init : ByteArray := prog_11_method_1_code
def yX9_init : MethodName := ⟨RX9, "<init>", "()V"⟩
abbrev cX9_foresee : ByteArray := prog_11_method_2_code
def yX9_foresee : MethodName := ⟨RX9, "foresee", "(LDragonTithe$County;II)V"⟩
abbrev cX9_casesOf : ByteArray := prog_11_method_3_code
def yX9_casesOf : MethodName := ⟨RX9, "casesOf", "(I[I)J"⟩
abbrev cX9_lossOf : ByteArray := prog_11_method_4_code
def yX9_lossOf : MethodName := ⟨RX9, "lossOf", "(I)J"⟩
abbrev cX9_lossOfAll : ByteArray := prog_11_method_5_code
def yX9_lossOfAll : MethodName := ⟨RX9, "lossOfAll", "()J"⟩
abbrev cX9_bestPainting : ByteArray := prog_11_method_6_code
def yX9_bestPainting : MethodName := ⟨RX9, "bestPainting", "(LDragonTithe$County;II)I"⟩
def RX10 : String := "DragonTithe"
def TX10 : u_T := fun k => match k with
  | 0 => ("DragonTithe", "now", "LDragonTithe$County;", true)
  | 1 => ("DragonTithe", "images", "[LDragonTithe$County;", true)
  | 2 => ("DragonTithe", "kept", "[Z", true)
  | 3 => ("DragonTithe", "scroll", "LDragonTithe$Scroll;", true)
  | 4 => ("DragonTithe", "trial", "LDragonTithe$County;", true)
  | 5 => ("DragonTithe", "trialHerd", "LDragonTithe$Herd;", true)
  | 6 => ("DragonTithe", "weather", "LDragonTithe$Weather;", true)
  | 7 => ("DragonTithe", "moves", "LDragonTithe$Moves;", true)
  | 8 => ("DragonTithe", "play", "LDragonTithe$Game;", true)
  | 9 => ("DragonTithe", "fits", "LDragonTithe$Fit;", true)
  | 10 => ("DragonTithe", "above", "J", false)
  | 11 => ("DragonTithe", "below", "J", false)
  | 12 => ("DragonTithe", "refusedBad", "I", false)
  | 13 => ("DragonTithe", "refusedNo", "I", false)
  | _ => ("DragonTithe", "refusedFull", "I", false)
def tyX10 : Nat → FieldType := fun k => match k with
  | 0 => .object "DragonTithe$County"
  | 1 => .array (.object "DragonTithe$County")
  | 2 => .array .boolean
  | 3 => .object "DragonTithe$Scroll"
  | 4 => .object "DragonTithe$County"
  | 5 => .object "DragonTithe$Herd"
  | 6 => .object "DragonTithe$Weather"
  | 7 => .object "DragonTithe$Moves"
  | 8 => .object "DragonTithe$Game"
  | 9 => .object "DragonTithe$Fit"
  | 10 => .long
  | 11 => .long
  | 12 => .int
  | 13 => .int
  | _ => .int
abbrev wsX100 : List Cond := u_ws RX10 TX10 15
theorem nmX10 : ∀ a, a < 15 → ∀ b, b < 15 → a ≠ b → (TX10 a).2.1 ≠ (TX10 b).2.1 := by decide +kernel
theorem tyX10_ok : ∀ k, k < 15 → parseFieldDescriptor (TX10 k).2.2.1 = some (tyX10 k) := by decide +kernel
abbrev cX10_init : ByteArray := prog_1_method_1_code
def yX10_init : MethodName := ⟨RX10, "<init>", "()V"⟩
abbrev cX10_county : ByteArray := prog_1_method_2_code
def yX10_county : MethodName := ⟨RX10, "county", "(I)I"⟩
abbrev cX10_lot : ByteArray := prog_1_method_3_code
def yX10_lot : MethodName := ⟨RX10, "lot", "(III)I"⟩
abbrev cX10_move : ByteArray := prog_1_method_4_code
def yX10_move : MethodName := ⟨RX10, "move", "(II)I"⟩
abbrev cX10_drive : ByteArray := prog_1_method_5_code
def yX10_drive : MethodName := ⟨RX10, "drive", "(III)I"⟩
abbrev cX10_drop : ByteArray := prog_1_method_6_code
def yX10_drop : MethodName := ⟨RX10, "drop", "()I"⟩
abbrev cX10_growth : ByteArray := prog_1_method_7_code
def yX10_growth : MethodName := ⟨RX10, "growth", "(I)I"⟩
abbrev cX10_cloud : ByteArray := prog_1_method_8_code
def yX10_cloud : MethodName := ⟨RX10, "cloud", "(II)I"⟩
abbrev cX10_road : ByteArray := prog_1_method_9_code
def yX10_road : MethodName := ⟨RX10, "road", "(II)I"⟩
abbrev cX10_guard : ByteArray := prog_1_method_10_code
def yX10_guard : MethodName := ⟨RX10, "guard", "(IZ)I"⟩
abbrev cX10_type : ByteArray := prog_1_method_11_code
def yX10_type : MethodName := ⟨RX10, "type", "(I)I"⟩
abbrev cX10_clear : ByteArray := prog_1_method_12_code
def yX10_clear : MethodName := ⟨RX10, "clear", "()I"⟩
abbrev cX10_read : ByteArray := prog_1_method_13_code
def yX10_read : MethodName := ⟨RX10, "read", "()I"⟩
abbrev cX10_moon : ByteArray := prog_1_method_14_code
def yX10_moon : MethodName := ⟨RX10, "moon", "(IZ)I"⟩
abbrev cX10_undo : ByteArray := prog_1_method_15_code
def yX10_undo : MethodName := ⟨RX10, "undo", "()I"⟩
abbrev cX10_of : ByteArray := prog_1_method_16_code
def yX10_of : MethodName := ⟨RX10, "of", "(II)I"⟩
abbrev cX10_village : ByteArray := prog_1_method_17_code
def yX10_village : MethodName := ⟨RX10, "village", "(II)I"⟩
abbrev cX10_greatest : ByteArray := prog_1_method_18_code
def yX10_greatest : MethodName := ⟨RX10, "greatest", "(I)I"⟩
abbrev cX10_least : ByteArray := prog_1_method_19_code
def yX10_least : MethodName := ⟨RX10, "least", "(III)I"⟩
abbrev cX10_chance : ByteArray := prog_1_method_20_code
def yX10_chance : MethodName := ⟨RX10, "chance", "(I)I"⟩
abbrev cX10_mean : ByteArray := prog_1_method_21_code
def yX10_mean : MethodName := ⟨RX10, "mean", "(I)I"⟩
abbrev cX10_painting : ByteArray := prog_1_method_22_code
def yX10_painting : MethodName := ⟨RX10, "painting", "(II)I"⟩
abbrev cX10_unseen : ByteArray := prog_1_method_23_code
def yX10_unseen : MethodName := ⟨RX10, "unseen", "(II)I"⟩
abbrev cX10_cut : ByteArray := prog_1_method_24_code
def yX10_cut : MethodName := ⟨RX10, "cut", "(III)I"⟩
abbrev cX10_game : ByteArray := prog_1_method_25_code
def yX10_game : MethodName := ⟨RX10, "game", "(III)I"⟩
abbrev cX10_league : ByteArray := prog_1_method_26_code
def yX10_league : MethodName := ⟨RX10, "league", "(I)I"⟩
abbrev cX10_share : ByteArray := prog_1_method_27_code
def yX10_share : MethodName := ⟨RX10, "share", "(I)I"⟩
abbrev cX10_pays : ByteArray := prog_1_method_28_code
def yX10_pays : MethodName := ⟨RX10, "pays", "(II)I"⟩
abbrev cX10_told : ByteArray := prog_1_method_29_code
def yX10_told : MethodName := ⟨RX10, "told", "(II)I"⟩
abbrev cX10_fit : ByteArray := prog_1_method_30_code
def yX10_fit : MethodName := ⟨RX10, "fit", "(II)I"⟩
abbrev cX10_drawn : ByteArray := prog_1_method_31_code
def yX10_drawn : MethodName := ⟨RX10, "drawn", "(II)I"⟩
abbrev cX10_part : ByteArray := prog_1_method_32_code
def yX10_part : MethodName := ⟨RX10, "part", "(I)J"⟩
abbrev cX10_image : ByteArray := prog_1_method_33_code
def yX10_image : MethodName := ⟨RX10, "image", "(I)I"⟩
abbrev cX10_from : ByteArray := prog_1_method_34_code
def yX10_from : MethodName := ⟨RX10, "from", "(I)I"⟩
abbrev cX10_status : ByteArray := prog_1_method_35_code
def yX10_status : MethodName := ⟨RX10, "status", "(I)I"⟩
abbrev cX10_count : ByteArray := prog_1_method_36_code
def yX10_count : MethodName := ⟨RX10, "count", "(I)I"⟩
abbrev cX10_digest : ByteArray := prog_1_method_37_code
def yX10_digest : MethodName := ⟨RX10, "digest", "()J"⟩
abbrev cX10_tally : ByteArray := prog_1_method_38_code
def yX10_tally : MethodName := ⟨RX10, "tally", "(I)I"⟩
abbrev cX10_refuseAsBad : ByteArray := prog_1_method_39_code
def yX10_refuseAsBad : MethodName := ⟨RX10, "refuseAsBad", "(I)I"⟩
abbrev cX10_howMany : ByteArray := prog_1_method_40_code
def yX10_howMany : MethodName := ⟨RX10, "howMany", "(I)I"⟩
abbrev cX10_tellItem : ByteArray := prog_1_method_41_code
def yX10_tellItem : MethodName := ⟨RX10, "tellItem", "(I)I"⟩
abbrev cX10_ordersWith : ByteArray := prog_1_method_42_code
def yX10_ordersWith : MethodName := ⟨RX10, "ordersWith", "(II)J"⟩
abbrev cX10_setFraction : ByteArray := prog_1_method_43_code
def yX10_setFraction : MethodName := ⟨RX10, "setFraction", "(JJ)V"⟩
abbrev cX10_commonDivisor : ByteArray := prog_1_method_44_code
def yX10_commonDivisor : MethodName := ⟨RX10, "commonDivisor", "(JJ)J"⟩
def RX11 : String := "DragonTitheModel"
def TX11 : u_T := fun k => match k with
  | 0 => ("DragonTitheModel", "book", "[I", true)
  | 1 => ("DragonTitheModel", "images", "[I", true)
  | 2 => ("DragonTitheModel", "kept", "[Z", true)
  | 3 => ("DragonTitheModel", "aside", "[I", true)
  | 4 => ("DragonTitheModel", "refused", "[I", true)
  | 5 => ("DragonTitheModel", "quiet", "Z", false)
  | 6 => ("DragonTitheModel", "above", "J", false)
  | 7 => ("DragonTitheModel", "below", "J", false)
  | 8 => ("DragonTitheModel", "text", "[I", true)
  | 9 => ("DragonTitheModel", "typed", "I", false)
  | 10 => ("DragonTitheModel", "at", "I", false)
  | 11 => ("DragonTitheModel", "start", "I", false)
  | 12 => ("DragonTitheModel", "token", "I", false)
  | 13 => ("DragonTitheModel", "value", "I", false)
  | 14 => ("DragonTitheModel", "items", "[I", true)
  | 15 => ("DragonTitheModel", "many", "I", false)
  | 16 => ("DragonTitheModel", "so", "[I", true)
  | 17 => ("DragonTitheModel", "leastTaken", "I", false)
  | 18 => ("DragonTitheModel", "firstMove", "I", false)
  | _ => ("DragonTitheModel", "secondMove", "I", false)
def tyX11 : Nat → FieldType := fun k => match k with
  | 0 => .array .int
  | 1 => .array .int
  | 2 => .array .boolean
  | 3 => .array .int
  | 4 => .array .int
  | 5 => .boolean
  | 6 => .long
  | 7 => .long
  | 8 => .array .int
  | 9 => .int
  | 10 => .int
  | 11 => .int
  | 12 => .int
  | 13 => .int
  | 14 => .array .int
  | 15 => .int
  | 16 => .array .int
  | 17 => .int
  | 18 => .int
  | _ => .int
abbrev wsX110 : List Cond := u_ws RX11 TX11 20
theorem nmX11 : ∀ a, a < 20 → ∀ b, b < 20 → a ≠ b → (TX11 a).2.1 ≠ (TX11 b).2.1 := by decide +kernel
theorem tyX11_ok : ∀ k, k < 20 → parseFieldDescriptor (TX11 k).2.2.1 = some (tyX11 k) := by decide +kernel
abbrev cX11_in : ByteArray := prog_13_method_2_code
def yX11_in : MethodName := ⟨RX11, "in", "(JJJ)Z"⟩
abbrev cX11_init : ByteArray := prog_13_method_3_code
def yX11_init : MethodName := ⟨RX11, "<init>", "()V"⟩
abbrev cX11_begins : ByteArray := prog_13_method_4_code
def yX11_begins : MethodName := ⟨RX11, "begins", "(I)V"⟩
abbrev cX11_refuses : ByteArray := prog_13_method_5_code
def yX11_refuses : MethodName := ⟨RX11, "refuses", "(II)I"⟩
abbrev cX11_bad : ByteArray := prog_13_method_6_code
def yX11_bad : MethodName := ⟨RX11, "bad", "()I"⟩
abbrev cX11_no : ByteArray := prog_13_method_7_code
def yX11_no : MethodName := ⟨RX11, "no", "()I"⟩
abbrev cX11_full : ByteArray := prog_13_method_8_code
def yX11_full : MethodName := ⟨RX11, "full", "()I"⟩
abbrev cX11_isVillage : ByteArray := prog_13_method_9_code
def yX11_isVillage : MethodName := ⟨RX11, "isVillage", "(I)Z"⟩
abbrev cX11_isLot : ByteArray := prog_13_method_10_code
def yX11_isLot : MethodName := ⟨RX11, "isLot", "(I)Z"⟩
abbrev cX11_areTwo : ByteArray := prog_13_method_11_code
def yX11_areTwo : MethodName := ⟨RX11, "areTwo", "(II)Z"⟩
abbrev cX11_isSet : ByteArray := prog_13_method_12_code
def yX11_isSet : MethodName := ⟨RX11, "isSet", "(I)Z"⟩
abbrev cX11_puts : ByteArray := prog_13_method_13_code
def yX11_puts : MethodName := ⟨RX11, "puts", "(II)I"⟩
abbrev cX11_county : ByteArray := prog_13_method_14_code
def yX11_county : MethodName := ⟨RX11, "county", "(I)I"⟩
abbrev cX11_lot : ByteArray := prog_13_method_15_code
def yX11_lot : MethodName := ⟨RX11, "lot", "(III)I"⟩
abbrev cX11_move : ByteArray := prog_13_method_16_code
def yX11_move : MethodName := ⟨RX11, "move", "(II)I"⟩
abbrev cX11_remembers : ByteArray := prog_13_method_17_code
def yX11_remembers : MethodName := ⟨RX11, "remembers", "()V"⟩
abbrev cX11_drive : ByteArray := prog_13_method_18_code
def yX11_drive : MethodName := ⟨RX11, "drive", "(III)I"⟩
abbrev cX11_drop : ByteArray := prog_13_method_19_code
def yX11_drop : MethodName := ⟨RX11, "drop", "()I"⟩
abbrev cX11_growth : ByteArray := prog_13_method_20_code
def yX11_growth : MethodName := ⟨RX11, "growth", "(I)I"⟩
abbrev cX11_cloud : ByteArray := prog_13_method_21_code
def yX11_cloud : MethodName := ⟨RX11, "cloud", "(II)I"⟩
abbrev cX11_road : ByteArray := prog_13_method_22_code
def yX11_road : MethodName := ⟨RX11, "road", "(II)I"⟩
abbrev cX11_guard : ByteArray := prog_13_method_23_code
def yX11_guard : MethodName := ⟨RX11, "guard", "(IZ)I"⟩
abbrev cX11_type : ByteArray := prog_13_method_24_code
def yX11_type : MethodName := ⟨RX11, "type", "(I)I"⟩
abbrev cX11_clear : ByteArray := prog_13_method_25_code
def yX11_clear : MethodName := ⟨RX11, "clear", "()I"⟩
abbrev cX11_isAt : ByteArray := prog_13_method_26_code
def yX11_isAt : MethodName := ⟨RX11, "isAt", "(II)Z"⟩
abbrev cX11_verbOf : ByteArray := prog_13_method_27_code
def yX11_verbOf : MethodName := ⟨RX11, "verbOf", "(J)I"⟩
abbrev cX11_scans : ByteArray := prog_13_method_28_code
def yX11_scans : MethodName := ⟨RX11, "scans", "()V"⟩
abbrev cX11_numbers : ByteArray := prog_13_method_29_code
def yX11_numbers : MethodName := ⟨RX11, "numbers", "(I)I"⟩
abbrev cX11_reads : ByteArray := prog_13_method_30_code
def yX11_reads : MethodName := ⟨RX11, "reads", "()Z"⟩
abbrev cX11_tellsItem : ByteArray := prog_13_method_31_code
def yX11_tellsItem : MethodName := ⟨RX11, "tellsItem", "(I)Z"⟩
abbrev cX11_read : ByteArray := prog_13_method_32_code
def yX11_read : MethodName := ⟨RX11, "read", "()I"⟩
abbrev cX11_asNow : ByteArray := prog_13_method_33_code
def yX11_asNow : MethodName := ⟨RX11, "asNow", "()V"⟩
abbrev cX11_seenOf : ByteArray := prog_13_method_34_code
def yX11_seenOf : MethodName := ⟨RX11, "seenOf", "(III)I"⟩
abbrev cX11_takenOf : ByteArray := prog_13_method_35_code
def yX11_takenOf : MethodName := ⟨RX11, "takenOf", "(II)I"⟩
abbrev cX11_sightOf : ByteArray := prog_13_method_36_code
def yX11_sightOf : MethodName := ⟨RX11, "sightOf", "(II)I"⟩
abbrev cX11_greatestOf : ByteArray := prog_13_method_37_code
def yX11_greatestOf : MethodName := ⟨RX11, "greatestOf", "(IIII)I"⟩
abbrev cX11_all : ByteArray := prog_13_method_38_code
def yX11_all : MethodName := ⟨RX11, "all", "()I"⟩
abbrev cX11_tithe : ByteArray := prog_13_method_39_code
def yX11_tithe : MethodName := ⟨RX11, "tithe", "(I)I"⟩
abbrev cX11_goes : ByteArray := prog_13_method_40_code
def yX11_goes : MethodName := ⟨RX11, "goes", "(IZII)I"⟩
abbrev cX11_moon : ByteArray := prog_13_method_41_code
def yX11_moon : MethodName := ⟨RX11, "moon", "(IZ)I"⟩
abbrev cX11_undo : ByteArray := prog_13_method_42_code
def yX11_undo : MethodName := ⟨RX11, "undo", "()I"⟩
abbrev cX11_of : ByteArray := prog_13_method_43_code
def yX11_of : MethodName := ⟨RX11, "of", "(II)I"⟩
abbrev cX11_headsOf : ByteArray := prog_13_method_44_code
def yX11_headsOf : MethodName := ⟨RX11, "headsOf", "(I)I"⟩
abbrev cX11_village : ByteArray := prog_13_method_45_code
def yX11_village : MethodName := ⟨RX11, "village", "(II)I"⟩
abbrev cX11_greatest : ByteArray := prog_13_method_46_code
def yX11_greatest : MethodName := ⟨RX11, "greatest", "(I)I"⟩
abbrev cX11_takenNow : ByteArray := prog_13_method_47_code
def yX11_takenNow : MethodName := ⟨RX11, "takenNow", "(I)I"⟩
abbrev cX11_tries : ByteArray := prog_13_method_48_code
def yX11_tries : MethodName := ⟨RX11, "tries", "(III)V"⟩
abbrev cX11_least : ByteArray := prog_13_method_49_code
def yX11_least : MethodName := ⟨RX11, "least", "(III)I"⟩
abbrev cX11_divisor : ByteArray := prog_13_method_50_code
def yX11_divisor : MethodName := ⟨RX11, "divisor", "(JJ)J"⟩
abbrev cX11_keeps : ByteArray := prog_13_method_51_code
def yX11_keeps : MethodName := ⟨RX11, "keeps", "(JJ)I"⟩
abbrev cX11_whole : ByteArray := prog_13_method_52_code
def yX11_whole : MethodName := ⟨RX11, "whole", "()J"⟩
abbrev cX11_waysOf : ByteArray := prog_13_method_53_code
def yX11_waysOf : MethodName := ⟨RX11, "waysOf", "(I)J"⟩
abbrev cX11_chance : ByteArray := prog_13_method_54_code
def yX11_chance : MethodName := ⟨RX11, "chance", "(I)I"⟩
abbrev cX11_meanOf : ByteArray := prog_13_method_55_code
def yX11_meanOf : MethodName := ⟨RX11, "meanOf", "(III)J"⟩
abbrev cX11_mean : ByteArray := prog_13_method_56_code
def yX11_mean : MethodName := ⟨RX11, "mean", "(I)I"⟩
abbrev cX11_painting : ByteArray := prog_13_method_57_code
def yX11_painting : MethodName := ⟨RX11, "painting", "(II)I"⟩
abbrev cX11_steps : ByteArray := prog_13_method_58_code
def yX11_steps : MethodName := ⟨RX11, "steps", "(II)I"⟩
abbrev cX11_openRoads : ByteArray := prog_13_method_59_code
def yX11_openRoads : MethodName := ⟨RX11, "openRoads", "()I"⟩
abbrev cX11_unseen : ByteArray := prog_13_method_60_code
def yX11_unseen : MethodName := ⟨RX11, "unseen", "(II)I"⟩
abbrev cX11_reaches : ByteArray := prog_13_method_61_code
def yX11_reaches : MethodName := ⟨RX11, "reaches", "(II)I"⟩
abbrev cX11_bits : ByteArray := prog_13_method_62_code
def yX11_bits : MethodName := ⟨RX11, "bits", "(I)I"⟩
abbrev cX11_cut : ByteArray := prog_13_method_63_code
def yX11_cut : MethodName := ⟨RX11, "cut", "(III)I"⟩
abbrev cX11_loss : ByteArray := prog_13_method_64_code
def yX11_loss : MethodName := ⟨RX11, "loss", "(IIIIZ)I"⟩
abbrev cX11_game : ByteArray := prog_13_method_65_code
def yX11_game : MethodName := ⟨RX11, "game", "(III)I"⟩
abbrev cX11_league : ByteArray := prog_13_method_66_code
def yX11_league : MethodName := ⟨RX11, "league", "(I)I"⟩
abbrev cX11_orders : ByteArray := prog_13_method_67_code
def yX11_orders : MethodName := ⟨RX11, "orders", "(I)I"⟩
abbrev cX11_share : ByteArray := prog_13_method_68_code
def yX11_share : MethodName := ⟨RX11, "share", "(I)I"⟩
abbrev cX11_pays : ByteArray := prog_13_method_69_code
def yX11_pays : MethodName := ⟨RX11, "pays", "(II)I"⟩
abbrev cX11_told : ByteArray := prog_13_method_70_code
def yX11_told : MethodName := ⟨RX11, "told", "(II)I"⟩
abbrev cX11_fit : ByteArray := prog_13_method_71_code
def yX11_fit : MethodName := ⟨RX11, "fit", "(II)I"⟩
abbrev cX11_drawn : ByteArray := prog_13_method_72_code
def yX11_drawn : MethodName := ⟨RX11, "drawn", "(II)I"⟩
abbrev cX11_part : ByteArray := prog_13_method_73_code
def yX11_part : MethodName := ⟨RX11, "part", "(I)J"⟩
abbrev cX11_image : ByteArray := prog_13_method_74_code
def yX11_image : MethodName := ⟨RX11, "image", "(I)I"⟩
abbrev cX11_from : ByteArray := prog_13_method_75_code
def yX11_from : MethodName := ⟨RX11, "from", "(I)I"⟩
abbrev cX11_status : ByteArray := prog_13_method_76_code
def yX11_status : MethodName := ⟨RX11, "status", "(I)I"⟩
abbrev cX11_countOf : ByteArray := prog_13_method_77_code
def yX11_countOf : MethodName := ⟨RX11, "countOf", "(I)I"⟩
abbrev cX11_count : ByteArray := prog_13_method_78_code
def yX11_count : MethodName := ⟨RX11, "count", "(I)I"⟩
abbrev cX11_mixed : ByteArray := prog_13_method_79_code
def yX11_mixed : MethodName := ⟨RX11, "mixed", "(JII)J"⟩
abbrev cX11_digest : ByteArray := prog_13_method_80_code
def yX11_digest : MethodName := ⟨RX11, "digest", "()J"⟩
def RJ6 : String := "java/lang/Integer"
def TJ6 : u_T := fun k => match k with
  | _ => ("", "", "", false)
def tyJ6 : Nat → FieldType := fun k => match k with
  | _ => .int
abbrev wsJ60 : List Cond := u_ws RJ6 TJ6 0
theorem nmJ6 : ∀ a, a < 0 → ∀ b, b < 0 → a ≠ b → (TJ6 a).2.1 ≠ (TJ6 b).2.1 := by decide +kernel
theorem tyJ6_ok : ∀ k, k < 0 → parseFieldDescriptor (TJ6 k).2.2.1 = some (tyJ6 k) := by decide +kernel
abbrev cJ6_bitCount_0f7a4 : ByteArray := prog_14_method_49_code
def yJ6_bitCount_0f7a4 : MethodName := ⟨RJ6, "bitCount", "(I)I"⟩
def RJ9 : String := "java/lang/Math"
def TJ9 : u_T := fun k => match k with
  | _ => ("", "", "", false)
def tyJ9 : Nat → FieldType := fun k => match k with
  | _ => .int
abbrev wsJ90 : List Cond := u_ws RJ9 TJ9 0
theorem nmJ9 : ∀ a, a < 0 → ∀ b, b < 0 → a ≠ b → (TJ9 a).2.1 ≠ (TJ9 b).2.1 := by decide +kernel
theorem tyJ9_ok : ∀ k, k < 0 → parseFieldDescriptor (TJ9 k).2.2.1 = some (tyJ9 k) := by decide +kernel
abbrev cJ9_abs_067f4 : ByteArray := prog_15_method_61_code
def yJ9_abs_067f4 : MethodName := ⟨RJ9, "abs", "(J)J"⟩
abbrev cJ9_min_7cf53 : ByteArray := prog_15_method_69_code
def yJ9_min_7cf53 : MethodName := ⟨RJ9, "min", "(II)I"⟩
def RJ0 : String := "java/lang/String"
def TJ0 : u_T := fun k => match k with
  | _ => ("", "", "", false)
def tyJ0 : Nat → FieldType := fun k => match k with
  | _ => .int
abbrev wsJ00 : List Cond := u_ws RJ0 TJ0 0
theorem nmJ0 : ∀ a, a < 0 → ∀ b, b < 0 → a ≠ b → (TJ0 a).2.1 ≠ (TJ0 b).2.1 := by decide +kernel
theorem tyJ0_ok : ∀ k, k < 0 → parseFieldDescriptor (TJ0 k).2.2.1 = some (tyJ0 k) := by decide +kernel
abbrev cJ0_length_8abf5 : ByteArray := prog_16_method_54_code
def yJ0_length_8abf5 : MethodName := ⟨RJ0, "length", "()I"⟩
abbrev cJ0_charAt_5068e : ByteArray := prog_16_method_56_code
def yJ0_charAt_5068e : MethodName := ⟨RJ0, "charAt", "(I)C"⟩
abbrev cJ0_coder_7d493 : ByteArray := prog_16_method_152_code
def yJ0_coder_7d493 : MethodName := ⟨RJ0, "coder", "()B"⟩
abbrev cJ0_isLatin1_aae02 : ByteArray := prog_16_method_154_code
def yJ0_isLatin1_aae02 : MethodName := ⟨RJ0, "isLatin1", "()Z"⟩
abbrev cJ0_checkIndex_df160 : ByteArray := prog_16_method_155_code
def yJ0_checkIndex_df160 : MethodName := ⟨RJ0, "checkIndex", "(II)V"⟩
def RJ1 : String := "java/lang/StringLatin1"
def TJ1 : u_T := fun k => match k with
  | _ => ("", "", "", false)
def tyJ1 : Nat → FieldType := fun k => match k with
  | _ => .int
abbrev wsJ10 : List Cond := u_ws RJ1 TJ1 0
theorem nmJ1 : ∀ a, a < 0 → ∀ b, b < 0 → a ≠ b → (TJ1 a).2.1 ≠ (TJ1 b).2.1 := by decide +kernel
theorem tyJ1_ok : ∀ k, k < 0 → parseFieldDescriptor (TJ1 k).2.2.1 = some (tyJ1 k) := by decide +kernel
abbrev cJ1_charAt_3b067 : ByteArray := prog_17_method_2_code
def yJ1_charAt_3b067 : MethodName := ⟨RJ1, "charAt", "([BI)C"⟩
def RJ2 : String := "java/lang/StringUTF16"
def TJ2 : u_T := fun k => match k with
  | _ => ("", "", "", false)
def tyJ2 : Nat → FieldType := fun k => match k with
  | _ => .int
abbrev wsJ20 : List Cond := u_ws RJ2 TJ2 0
theorem nmJ2 : ∀ a, a < 0 → ∀ b, b < 0 → a ≠ b → (TJ2 a).2.1 ≠ (TJ2 b).2.1 := by decide +kernel
theorem tyJ2_ok : ∀ k, k < 0 → parseFieldDescriptor (TJ2 k).2.2.1 = some (tyJ2 k) := by decide +kernel
abbrev cJ2_getChar_3b067 : ByteArray := prog_18_method_5_code
def yJ2_getChar_3b067 : MethodName := ⟨RJ2, "getChar", "([BI)C"⟩
abbrev cJ2_length_9d52b : ByteArray := prog_18_method_6_code
def yJ2_length_9d52b : MethodName := ⟨RJ2, "length", "([B)I"⟩
abbrev cJ2_charAt_3b067 : ByteArray := prog_18_method_83_code
def yJ2_charAt_3b067 : MethodName := ⟨RJ2, "charAt", "([BI)C"⟩
abbrev cJ2_checkIndex_2214a : ByteArray := prog_18_method_91_code
def yJ2_checkIndex_2214a : MethodName := ⟨RJ2, "checkIndex", "(I[B)V"⟩
def RJ10 : String := "java/lang/System"
def TJ10 : u_T := fun k => match k with
  | _ => ("", "", "", false)
def tyJ10 : Nat → FieldType := fun k => match k with
  | _ => .int
abbrev wsJ100 : List Cond := u_ws RJ10 TJ10 0
theorem nmJ10 : ∀ a, a < 0 → ∀ b, b < 0 → a ≠ b → (TJ10 a).2.1 ≠ (TJ10 b).2.1 := by decide +kernel
theorem tyJ10_ok : ∀ k, k < 0 → parseFieldDescriptor (TJ10 k).2.2.1 = some (tyJ10 k) := by decide +kernel
def RJ3 : String := "jdk/internal/util/Preconditions"
def TJ3 : u_T := fun k => match k with
  | _ => ("", "", "", false)
def tyJ3 : Nat → FieldType := fun k => match k with
  | _ => .int
abbrev wsJ30 : List Cond := u_ws RJ3 TJ3 0
theorem nmJ3 : ∀ a, a < 0 → ∀ b, b < 0 → a ≠ b → (TJ3 a).2.1 ≠ (TJ3 b).2.1 := by decide +kernel
theorem tyJ3_ok : ∀ k, k < 0 → parseFieldDescriptor (TJ3 k).2.2.1 = some (tyJ3 k) := by decide +kernel
abbrev cJ3_checkIndex_8e157 : ByteArray := prog_20_method_11_code
def yJ3_checkIndex_8e157 : MethodName := ⟨RJ3, "checkIndex", "(IILjava/util/function/BiFunction;)I"⟩
def RL : String := "DragonTitheLaw"
abbrev cL_law : ByteArray := code
def yL_law : MethodName := ⟨RL, "law", "([I)Z"⟩
